/-! the reference's constructor -/
theorem dX12_init_0 : decode cX12_init 0 = .ok (.aload_n 0, 1) := by decide +kernel
theorem dX12_init_1 : decode cX12_init 1 = .ok (.invokespecial 1, 3) := by decide +kernel
theorem dX12_init_4 : decode cX12_init 4 = .ok (.aload_n 0, 1) := by decide +kernel
theorem dX12_init_5 : decode cX12_init 5 = .ok (.sipush 900, 3) := by decide +kernel
theorem dX12_init_8 : decode cX12_init 8 = .ok (.newarray .int, 2) := by decide +kernel
theorem dX12_init_10 : decode cX12_init 10 = .ok (.putfield 7, 3) := by decide +kernel
theorem dX12_init_13 : decode cX12_init 13 = .ok (.aload_n 0, 1) := by decide +kernel
theorem dX12_init_14 : decode cX12_init 14 = .ok (.iconst (-1), 1) := by decide +kernel
theorem dX12_init_15 : decode cX12_init 15 = .ok (.putfield 13, 3) := by decide +kernel
theorem dX12_init_18 : decode cX12_init 18 = .ok (.aload_n 0, 1) := by decide +kernel
theorem dX12_init_19 : decode cX12_init 19 = .ok (.iconst 5, 1) := by decide +kernel
theorem dX12_init_20 : decode cX12_init 20 = .ok (.newarray .char, 2) := by decide +kernel
theorem dX12_init_22 : decode cX12_init 22 = .ok (.dup, 1) := by decide +kernel
theorem dX12_init_23 : decode cX12_init 23 = .ok (.iconst 0, 1) := by decide +kernel
theorem dX12_init_24 : decode cX12_init 24 = .ok (.bipush 115, 2) := by decide +kernel
theorem dX12_init_26 : decode cX12_init 26 = .ok (.castore, 1) := by decide +kernel
theorem dX12_init_27 : decode cX12_init 27 = .ok (.dup, 1) := by decide +kernel
theorem dX12_init_28 : decode cX12_init 28 = .ok (.iconst 1, 1) := by decide +kernel
theorem dX12_init_29 : decode cX12_init 29 = .ok (.bipush 105, 2) := by decide +kernel
theorem dX12_init_31 : decode cX12_init 31 = .ok (.castore, 1) := by decide +kernel
theorem dX12_init_32 : decode cX12_init 32 = .ok (.dup, 1) := by decide +kernel
theorem dX12_init_33 : decode cX12_init 33 = .ok (.iconst 2, 1) := by decide +kernel
theorem dX12_init_34 : decode cX12_init 34 = .ok (.bipush 103, 2) := by decide +kernel
theorem dX12_init_36 : decode cX12_init 36 = .ok (.castore, 1) := by decide +kernel
theorem dX12_init_37 : decode cX12_init 37 = .ok (.dup, 1) := by decide +kernel
theorem dX12_init_38 : decode cX12_init 38 = .ok (.iconst 3, 1) := by decide +kernel
theorem dX12_init_39 : decode cX12_init 39 = .ok (.bipush 104, 2) := by decide +kernel
theorem dX12_init_41 : decode cX12_init 41 = .ok (.castore, 1) := by decide +kernel
theorem dX12_init_42 : decode cX12_init 42 = .ok (.dup, 1) := by decide +kernel
theorem dX12_init_43 : decode cX12_init 43 = .ok (.iconst 4, 1) := by decide +kernel
theorem dX12_init_44 : decode cX12_init 44 = .ok (.bipush 116, 2) := by decide +kernel
theorem dX12_init_46 : decode cX12_init 46 = .ok (.castore, 1) := by decide +kernel
theorem dX12_init_47 : decode cX12_init 47 = .ok (.putfield 17, 3) := by decide +kernel
theorem dX12_init_50 : decode cX12_init 50 = .ok (.aload_n 0, 1) := by decide +kernel
theorem dX12_init_51 : decode cX12_init 51 = .ok (.iconst 4, 1) := by decide +kernel
theorem dX12_init_52 : decode cX12_init 52 = .ok (.newarray .char, 2) := by decide +kernel
theorem dX12_init_54 : decode cX12_init 54 = .ok (.dup, 1) := by decide +kernel
theorem dX12_init_55 : decode cX12_init 55 = .ok (.iconst 0, 1) := by decide +kernel
theorem dX12_init_56 : decode cX12_init 56 = .ok (.bipush 100, 2) := by decide +kernel
theorem dX12_init_58 : decode cX12_init 58 = .ok (.castore, 1) := by decide +kernel
theorem dX12_init_59 : decode cX12_init 59 = .ok (.dup, 1) := by decide +kernel
theorem dX12_init_60 : decode cX12_init 60 = .ok (.iconst 1, 1) := by decide +kernel
theorem dX12_init_61 : decode cX12_init 61 = .ok (.bipush 105, 2) := by decide +kernel
theorem dX12_init_63 : decode cX12_init 63 = .ok (.castore, 1) := by decide +kernel
theorem dX12_init_64 : decode cX12_init 64 = .ok (.dup, 1) := by decide +kernel
theorem dX12_init_65 : decode cX12_init 65 = .ok (.iconst 2, 1) := by decide +kernel
theorem dX12_init_66 : decode cX12_init 66 = .ok (.bipush 115, 2) := by decide +kernel
theorem dX12_init_68 : decode cX12_init 68 = .ok (.castore, 1) := by decide +kernel
theorem dX12_init_69 : decode cX12_init 69 = .ok (.dup, 1) := by decide +kernel
theorem dX12_init_70 : decode cX12_init 70 = .ok (.iconst 3, 1) := by decide +kernel
theorem dX12_init_71 : decode cX12_init 71 = .ok (.bipush 99, 2) := by decide +kernel
theorem dX12_init_73 : decode cX12_init 73 = .ok (.castore, 1) := by decide +kernel
theorem dX12_init_74 : decode cX12_init 74 = .ok (.putfield 21, 3) := by decide +kernel
theorem dX12_init_77 : decode cX12_init 77 = .ok (.aload_n 0, 1) := by decide +kernel
theorem dX12_init_78 : decode cX12_init 78 = .ok (.iconst 5, 1) := by decide +kernel
theorem dX12_init_79 : decode cX12_init 79 = .ok (.newarray .char, 2) := by decide +kernel
theorem dX12_init_81 : decode cX12_init 81 = .ok (.dup, 1) := by decide +kernel
theorem dX12_init_82 : decode cX12_init 82 = .ok (.iconst 0, 1) := by decide +kernel
theorem dX12_init_83 : decode cX12_init 83 = .ok (.bipush 116, 2) := by decide +kernel
theorem dX12_init_85 : decode cX12_init 85 = .ok (.castore, 1) := by decide +kernel
theorem dX12_init_86 : decode cX12_init 86 = .ok (.dup, 1) := by decide +kernel
theorem dX12_init_87 : decode cX12_init 87 = .ok (.iconst 1, 1) := by decide +kernel
theorem dX12_init_88 : decode cX12_init 88 = .ok (.bipush 104, 2) := by decide +kernel
theorem dX12_init_90 : decode cX12_init 90 = .ok (.castore, 1) := by decide +kernel
theorem dX12_init_91 : decode cX12_init 91 = .ok (.dup, 1) := by decide +kernel
theorem dX12_init_92 : decode cX12_init 92 = .ok (.iconst 2, 1) := by decide +kernel
theorem dX12_init_93 : decode cX12_init 93 = .ok (.bipush 105, 2) := by decide +kernel
theorem dX12_init_95 : decode cX12_init 95 = .ok (.castore, 1) := by decide +kernel
theorem dX12_init_96 : decode cX12_init 96 = .ok (.dup, 1) := by decide +kernel
theorem dX12_init_97 : decode cX12_init 97 = .ok (.iconst 3, 1) := by decide +kernel
theorem dX12_init_98 : decode cX12_init 98 = .ok (.bipush 110, 2) := by decide +kernel
theorem dX12_init_100 : decode cX12_init 100 = .ok (.castore, 1) := by decide +kernel
theorem dX12_init_101 : decode cX12_init 101 = .ok (.dup, 1) := by decide +kernel
theorem dX12_init_102 : decode cX12_init 102 = .ok (.iconst 4, 1) := by decide +kernel
theorem dX12_init_103 : decode cX12_init 103 = .ok (.bipush 103, 2) := by decide +kernel
theorem dX12_init_105 : decode cX12_init 105 = .ok (.castore, 1) := by decide +kernel
theorem dX12_init_106 : decode cX12_init 106 = .ok (.putfield 24, 3) := by decide +kernel
theorem dX12_init_109 : decode cX12_init 109 = .ok (.aload_n 0, 1) := by decide +kernel
theorem dX12_init_110 : decode cX12_init 110 = .ok (.iconst 3, 1) := by decide +kernel
theorem dX12_init_111 : decode cX12_init 111 = .ok (.newarray .char, 2) := by decide +kernel
theorem dX12_init_113 : decode cX12_init 113 = .ok (.dup, 1) := by decide +kernel
theorem dX12_init_114 : decode cX12_init 114 = .ok (.iconst 0, 1) := by decide +kernel
theorem dX12_init_115 : decode cX12_init 115 = .ok (.bipush 119, 2) := by decide +kernel
theorem dX12_init_117 : decode cX12_init 117 = .ok (.castore, 1) := by decide +kernel
theorem dX12_init_118 : decode cX12_init 118 = .ok (.dup, 1) := by decide +kernel
theorem dX12_init_119 : decode cX12_init 119 = .ok (.iconst 1, 1) := by decide +kernel
theorem dX12_init_120 : decode cX12_init 120 = .ok (.bipush 97, 2) := by decide +kernel
theorem dX12_init_122 : decode cX12_init 122 = .ok (.castore, 1) := by decide +kernel
theorem dX12_init_123 : decode cX12_init 123 = .ok (.dup, 1) := by decide +kernel
theorem dX12_init_124 : decode cX12_init 124 = .ok (.iconst 2, 1) := by decide +kernel
theorem dX12_init_125 : decode cX12_init 125 = .ok (.bipush 121, 2) := by decide +kernel
theorem dX12_init_127 : decode cX12_init 127 = .ok (.castore, 1) := by decide +kernel
theorem dX12_init_128 : decode cX12_init 128 = .ok (.putfield 27, 3) := by decide +kernel
theorem dX12_init_131 : decode cX12_init 131 = .ok (.aload_n 0, 1) := by decide +kernel
theorem dX12_init_132 : decode cX12_init 132 = .ok (.iconst 5, 1) := by decide +kernel
theorem dX12_init_133 : decode cX12_init 133 = .ok (.newarray .char, 2) := by decide +kernel
theorem dX12_init_135 : decode cX12_init 135 = .ok (.dup, 1) := by decide +kernel
theorem dX12_init_136 : decode cX12_init 136 = .ok (.iconst 0, 1) := by decide +kernel
theorem dX12_init_137 : decode cX12_init 137 = .ok (.bipush 107, 2) := by decide +kernel
theorem dX12_init_139 : decode cX12_init 139 = .ok (.castore, 1) := by decide +kernel
theorem dX12_init_140 : decode cX12_init 140 = .ok (.dup, 1) := by decide +kernel
theorem dX12_init_141 : decode cX12_init 141 = .ok (.iconst 1, 1) := by decide +kernel
theorem dX12_init_142 : decode cX12_init 142 = .ok (.bipush 110, 2) := by decide +kernel
theorem dX12_init_144 : decode cX12_init 144 = .ok (.castore, 1) := by decide +kernel
theorem dX12_init_145 : decode cX12_init 145 = .ok (.dup, 1) := by decide +kernel
theorem dX12_init_146 : decode cX12_init 146 = .ok (.iconst 2, 1) := by decide +kernel
theorem dX12_init_147 : decode cX12_init 147 = .ok (.bipush 111, 2) := by decide +kernel
theorem dX12_init_149 : decode cX12_init 149 = .ok (.castore, 1) := by decide +kernel
theorem dX12_init_150 : decode cX12_init 150 = .ok (.dup, 1) := by decide +kernel
theorem dX12_init_151 : decode cX12_init 151 = .ok (.iconst 3, 1) := by decide +kernel
theorem dX12_init_152 : decode cX12_init 152 = .ok (.bipush 119, 2) := by decide +kernel
theorem dX12_init_154 : decode cX12_init 154 = .ok (.castore, 1) := by decide +kernel
theorem dX12_init_155 : decode cX12_init 155 = .ok (.dup, 1) := by decide +kernel
theorem dX12_init_156 : decode cX12_init 156 = .ok (.iconst 4, 1) := by decide +kernel
theorem dX12_init_157 : decode cX12_init 157 = .ok (.bipush 115, 2) := by decide +kernel
theorem dX12_init_159 : decode cX12_init 159 = .ok (.castore, 1) := by decide +kernel
theorem dX12_init_160 : decode cX12_init 160 = .ok (.putfield 30, 3) := by decide +kernel
theorem dX12_init_163 : decode cX12_init 163 = .ok (.aload_n 0, 1) := by decide +kernel
theorem dX12_init_164 : decode cX12_init 164 = .ok (.iconst 5, 1) := by decide +kernel
theorem dX12_init_165 : decode cX12_init 165 = .ok (.newarray .char, 2) := by decide +kernel
theorem dX12_init_167 : decode cX12_init 167 = .ok (.dup, 1) := by decide +kernel
theorem dX12_init_168 : decode cX12_init 168 = .ok (.iconst 0, 1) := by decide +kernel
theorem dX12_init_169 : decode cX12_init 169 = .ok (.bipush 98, 2) := by decide +kernel
theorem dX12_init_171 : decode cX12_init 171 = .ok (.castore, 1) := by decide +kernel
theorem dX12_init_172 : decode cX12_init 172 = .ok (.dup, 1) := by decide +kernel
theorem dX12_init_173 : decode cX12_init 173 = .ok (.iconst 1, 1) := by decide +kernel
theorem dX12_init_174 : decode cX12_init 174 = .ok (.bipush 108, 2) := by decide +kernel
theorem dX12_init_176 : decode cX12_init 176 = .ok (.castore, 1) := by decide +kernel
theorem dX12_init_177 : decode cX12_init 177 = .ok (.dup, 1) := by decide +kernel
theorem dX12_init_178 : decode cX12_init 178 = .ok (.iconst 2, 1) := by decide +kernel
theorem dX12_init_179 : decode cX12_init 179 = .ok (.bipush 105, 2) := by decide +kernel
theorem dX12_init_181 : decode cX12_init 181 = .ok (.castore, 1) := by decide +kernel
theorem dX12_init_182 : decode cX12_init 182 = .ok (.dup, 1) := by decide +kernel
theorem dX12_init_183 : decode cX12_init 183 = .ok (.iconst 3, 1) := by decide +kernel
theorem dX12_init_184 : decode cX12_init 184 = .ok (.bipush 110, 2) := by decide +kernel
theorem dX12_init_186 : decode cX12_init 186 = .ok (.castore, 1) := by decide +kernel
theorem dX12_init_187 : decode cX12_init 187 = .ok (.dup, 1) := by decide +kernel
theorem dX12_init_188 : decode cX12_init 188 = .ok (.iconst 4, 1) := by decide +kernel
theorem dX12_init_189 : decode cX12_init 189 = .ok (.bipush 100, 2) := by decide +kernel
theorem dX12_init_191 : decode cX12_init 191 = .ok (.castore, 1) := by decide +kernel
theorem dX12_init_192 : decode cX12_init 192 = .ok (.putfield 33, 3) := by decide +kernel
theorem dX12_init_195 : decode cX12_init 195 = .ok (.aload_n 0, 1) := by decide +kernel
theorem dX12_init_196 : decode cX12_init 196 = .ok (.iconst 4, 1) := by decide +kernel
theorem dX12_init_197 : decode cX12_init 197 = .ok (.newarray .char, 2) := by decide +kernel
theorem dX12_init_199 : decode cX12_init 199 = .ok (.dup, 1) := by decide +kernel
theorem dX12_init_200 : decode cX12_init 200 = .ok (.iconst 0, 1) := by decide +kernel
theorem dX12_init_201 : decode cX12_init 201 = .ok (.bipush 108, 2) := by decide +kernel
theorem dX12_init_203 : decode cX12_init 203 = .ok (.castore, 1) := by decide +kernel
theorem dX12_init_204 : decode cX12_init 204 = .ok (.dup, 1) := by decide +kernel
theorem dX12_init_205 : decode cX12_init 205 = .ok (.iconst 1, 1) := by decide +kernel
theorem dX12_init_206 : decode cX12_init 206 = .ok (.bipush 105, 2) := by decide +kernel
theorem dX12_init_208 : decode cX12_init 208 = .ok (.castore, 1) := by decide +kernel
theorem dX12_init_209 : decode cX12_init 209 = .ok (.dup, 1) := by decide +kernel
theorem dX12_init_210 : decode cX12_init 210 = .ok (.iconst 2, 1) := by decide +kernel
theorem dX12_init_211 : decode cX12_init 211 = .ok (.bipush 110, 2) := by decide +kernel
theorem dX12_init_213 : decode cX12_init 213 = .ok (.castore, 1) := by decide +kernel
theorem dX12_init_214 : decode cX12_init 214 = .ok (.dup, 1) := by decide +kernel
theorem dX12_init_215 : decode cX12_init 215 = .ok (.iconst 3, 1) := by decide +kernel
theorem dX12_init_216 : decode cX12_init 216 = .ok (.bipush 101, 2) := by decide +kernel
theorem dX12_init_218 : decode cX12_init 218 = .ok (.castore, 1) := by decide +kernel
theorem dX12_init_219 : decode cX12_init 219 = .ok (.putfield 36, 3) := by decide +kernel
theorem dX12_init_222 : decode cX12_init 222 = .ok (.aload_n 0, 1) := by decide +kernel
theorem dX12_init_223 : decode cX12_init 223 = .ok (.iconst 4, 1) := by decide +kernel
theorem dX12_init_224 : decode cX12_init 224 = .ok (.newarray .char, 2) := by decide +kernel
theorem dX12_init_226 : decode cX12_init 226 = .ok (.dup, 1) := by decide +kernel
theorem dX12_init_227 : decode cX12_init 227 = .ok (.iconst 0, 1) := by decide +kernel
theorem dX12_init_228 : decode cX12_init 228 = .ok (.bipush 115, 2) := by decide +kernel
theorem dX12_init_230 : decode cX12_init 230 = .ok (.castore, 1) := by decide +kernel
theorem dX12_init_231 : decode cX12_init 231 = .ok (.dup, 1) := by decide +kernel
theorem dX12_init_232 : decode cX12_init 232 = .ok (.iconst 1, 1) := by decide +kernel
theorem dX12_init_233 : decode cX12_init 233 = .ok (.bipush 104, 2) := by decide +kernel
theorem dX12_init_235 : decode cX12_init 235 = .ok (.castore, 1) := by decide +kernel
theorem dX12_init_236 : decode cX12_init 236 = .ok (.dup, 1) := by decide +kernel
theorem dX12_init_237 : decode cX12_init 237 = .ok (.iconst 2, 1) := by decide +kernel
theorem dX12_init_238 : decode cX12_init 238 = .ok (.bipush 111, 2) := by decide +kernel
theorem dX12_init_240 : decode cX12_init 240 = .ok (.castore, 1) := by decide +kernel
theorem dX12_init_241 : decode cX12_init 241 = .ok (.dup, 1) := by decide +kernel
theorem dX12_init_242 : decode cX12_init 242 = .ok (.iconst 3, 1) := by decide +kernel
theorem dX12_init_243 : decode cX12_init 243 = .ok (.bipush 119, 2) := by decide +kernel
theorem dX12_init_245 : decode cX12_init 245 = .ok (.castore, 1) := by decide +kernel
theorem dX12_init_246 : decode cX12_init 246 = .ok (.putfield 39, 3) := by decide +kernel
theorem dX12_init_249 : decode cX12_init 249 = .ok (.aload_n 0, 1) := by decide +kernel
theorem dX12_init_250 : decode cX12_init 250 = .ok (.iconst 5, 1) := by decide +kernel
theorem dX12_init_251 : decode cX12_init 251 = .ok (.newarray .char, 2) := by decide +kernel
theorem dX12_init_253 : decode cX12_init 253 = .ok (.dup, 1) := by decide +kernel
theorem dX12_init_254 : decode cX12_init 254 = .ok (.iconst 0, 1) := by decide +kernel
theorem dX12_init_255 : decode cX12_init 255 = .ok (.bipush 116, 2) := by decide +kernel
theorem dX12_init_257 : decode cX12_init 257 = .ok (.castore, 1) := by decide +kernel
theorem dX12_init_258 : decode cX12_init 258 = .ok (.dup, 1) := by decide +kernel
theorem dX12_init_259 : decode cX12_init 259 = .ok (.iconst 1, 1) := by decide +kernel
theorem dX12_init_260 : decode cX12_init 260 = .ok (.bipush 105, 2) := by decide +kernel
theorem dX12_init_262 : decode cX12_init 262 = .ok (.castore, 1) := by decide +kernel
theorem dX12_init_263 : decode cX12_init 263 = .ok (.dup, 1) := by decide +kernel
theorem dX12_init_264 : decode cX12_init 264 = .ok (.iconst 2, 1) := by decide +kernel
theorem dX12_init_265 : decode cX12_init 265 = .ok (.bipush 109, 2) := by decide +kernel
theorem dX12_init_267 : decode cX12_init 267 = .ok (.castore, 1) := by decide +kernel
theorem dX12_init_268 : decode cX12_init 268 = .ok (.dup, 1) := by decide +kernel
theorem dX12_init_269 : decode cX12_init 269 = .ok (.iconst 3, 1) := by decide +kernel
theorem dX12_init_270 : decode cX12_init 270 = .ok (.bipush 101, 2) := by decide +kernel
theorem dX12_init_272 : decode cX12_init 272 = .ok (.castore, 1) := by decide +kernel
theorem dX12_init_273 : decode cX12_init 273 = .ok (.dup, 1) := by decide +kernel
theorem dX12_init_274 : decode cX12_init 274 = .ok (.iconst 4, 1) := by decide +kernel
theorem dX12_init_275 : decode cX12_init 275 = .ok (.bipush 115, 2) := by decide +kernel
theorem dX12_init_277 : decode cX12_init 277 = .ok (.castore, 1) := by decide +kernel
theorem dX12_init_278 : decode cX12_init 278 = .ok (.putfield 42, 3) := by decide +kernel
theorem dX12_init_281 : decode cX12_init 281 = .ok (.aload_n 0, 1) := by decide +kernel
theorem dX12_init_282 : decode cX12_init 282 = .ok (.iconst 4, 1) := by decide +kernel
theorem dX12_init_283 : decode cX12_init 283 = .ok (.newarray .char, 2) := by decide +kernel
theorem dX12_init_285 : decode cX12_init 285 = .ok (.dup, 1) := by decide +kernel
theorem dX12_init_286 : decode cX12_init 286 = .ok (.iconst 0, 1) := by decide +kernel
theorem dX12_init_287 : decode cX12_init 287 = .ok (.bipush 119, 2) := by decide +kernel
theorem dX12_init_289 : decode cX12_init 289 = .ok (.castore, 1) := by decide +kernel
theorem dX12_init_290 : decode cX12_init 290 = .ok (.dup, 1) := by decide +kernel
theorem dX12_init_291 : decode cX12_init 291 = .ok (.iconst 1, 1) := by decide +kernel
theorem dX12_init_292 : decode cX12_init 292 = .ok (.bipush 104, 2) := by decide +kernel
theorem dX12_init_294 : decode cX12_init 294 = .ok (.castore, 1) := by decide +kernel
theorem dX12_init_295 : decode cX12_init 295 = .ok (.dup, 1) := by decide +kernel
theorem dX12_init_296 : decode cX12_init 296 = .ok (.iconst 2, 1) := by decide +kernel
theorem dX12_init_297 : decode cX12_init 297 = .ok (.bipush 101, 2) := by decide +kernel
theorem dX12_init_299 : decode cX12_init 299 = .ok (.castore, 1) := by decide +kernel
theorem dX12_init_300 : decode cX12_init 300 = .ok (.dup, 1) := by decide +kernel
theorem dX12_init_301 : decode cX12_init 301 = .ok (.iconst 3, 1) := by decide +kernel
theorem dX12_init_302 : decode cX12_init 302 = .ok (.bipush 110, 2) := by decide +kernel
theorem dX12_init_304 : decode cX12_init 304 = .ok (.castore, 1) := by decide +kernel
theorem dX12_init_305 : decode cX12_init 305 = .ok (.putfield 45, 3) := by decide +kernel
theorem dX12_init_308 : decode cX12_init 308 = .ok (.aload_n 0, 1) := by decide +kernel
theorem dX12_init_309 : decode cX12_init 309 = .ok (.iconst 2, 1) := by decide +kernel
theorem dX12_init_310 : decode cX12_init 310 = .ok (.newarray .char, 2) := by decide +kernel
theorem dX12_init_312 : decode cX12_init 312 = .ok (.dup, 1) := by decide +kernel
theorem dX12_init_313 : decode cX12_init 313 = .ok (.iconst 0, 1) := by decide +kernel
theorem dX12_init_314 : decode cX12_init 314 = .ok (.bipush 111, 2) := by decide +kernel
theorem dX12_init_316 : decode cX12_init 316 = .ok (.castore, 1) := by decide +kernel
theorem dX12_init_317 : decode cX12_init 317 = .ok (.dup, 1) := by decide +kernel
theorem dX12_init_318 : decode cX12_init 318 = .ok (.iconst 1, 1) := by decide +kernel
theorem dX12_init_319 : decode cX12_init 319 = .ok (.bipush 114, 2) := by decide +kernel
theorem dX12_init_321 : decode cX12_init 321 = .ok (.castore, 1) := by decide +kernel
theorem dX12_init_322 : decode cX12_init 322 = .ok (.putfield 48, 3) := by decide +kernel
theorem dX12_init_325 : decode cX12_init 325 = .ok (.aload_n 0, 1) := by decide +kernel
theorem dX12_init_326 : decode cX12_init 326 = .ok (.iconst 3, 1) := by decide +kernel
theorem dX12_init_327 : decode cX12_init 327 = .ok (.newarray .char, 2) := by decide +kernel
theorem dX12_init_329 : decode cX12_init 329 = .ok (.dup, 1) := by decide +kernel
theorem dX12_init_330 : decode cX12_init 330 = .ok (.iconst 0, 1) := by decide +kernel
theorem dX12_init_331 : decode cX12_init 331 = .ok (.bipush 97, 2) := by decide +kernel
theorem dX12_init_333 : decode cX12_init 333 = .ok (.castore, 1) := by decide +kernel
theorem dX12_init_334 : decode cX12_init 334 = .ok (.dup, 1) := by decide +kernel
theorem dX12_init_335 : decode cX12_init 335 = .ok (.iconst 1, 1) := by decide +kernel
theorem dX12_init_336 : decode cX12_init 336 = .ok (.bipush 110, 2) := by decide +kernel
theorem dX12_init_338 : decode cX12_init 338 = .ok (.castore, 1) := by decide +kernel
theorem dX12_init_339 : decode cX12_init 339 = .ok (.dup, 1) := by decide +kernel
theorem dX12_init_340 : decode cX12_init 340 = .ok (.iconst 2, 1) := by decide +kernel
theorem dX12_init_341 : decode cX12_init 341 = .ok (.bipush 100, 2) := by decide +kernel
theorem dX12_init_343 : decode cX12_init 343 = .ok (.castore, 1) := by decide +kernel
theorem dX12_init_344 : decode cX12_init 344 = .ok (.putfield 51, 3) := by decide +kernel
theorem dX12_init_347 : decode cX12_init 347 = .ok (.aload_n 0, 1) := by decide +kernel
theorem dX12_init_348 : decode cX12_init 348 = .ok (.iconst 3, 1) := by decide +kernel
theorem dX12_init_349 : decode cX12_init 349 = .ok (.newarray .char, 2) := by decide +kernel
theorem dX12_init_351 : decode cX12_init 351 = .ok (.dup, 1) := by decide +kernel
theorem dX12_init_352 : decode cX12_init 352 = .ok (.iconst 0, 1) := by decide +kernel
theorem dX12_init_353 : decode cX12_init 353 = .ok (.bipush 110, 2) := by decide +kernel
theorem dX12_init_355 : decode cX12_init 355 = .ok (.castore, 1) := by decide +kernel
theorem dX12_init_356 : decode cX12_init 356 = .ok (.dup, 1) := by decide +kernel
theorem dX12_init_357 : decode cX12_init 357 = .ok (.iconst 1, 1) := by decide +kernel
theorem dX12_init_358 : decode cX12_init 358 = .ok (.bipush 111, 2) := by decide +kernel
theorem dX12_init_360 : decode cX12_init 360 = .ok (.castore, 1) := by decide +kernel
theorem dX12_init_361 : decode cX12_init 361 = .ok (.dup, 1) := by decide +kernel
theorem dX12_init_362 : decode cX12_init 362 = .ok (.iconst 2, 1) := by decide +kernel
theorem dX12_init_363 : decode cX12_init 363 = .ok (.bipush 116, 2) := by decide +kernel
theorem dX12_init_365 : decode cX12_init 365 = .ok (.castore, 1) := by decide +kernel
theorem dX12_init_366 : decode cX12_init 366 = .ok (.putfield 54, 3) := by decide +kernel
theorem dX12_init_369 : decode cX12_init 369 = .ok (.aload_n 0, 1) := by decide +kernel
theorem dX12_init_370 : decode cX12_init 370 = .ok (.iconst 3, 1) := by decide +kernel
theorem dX12_init_371 : decode cX12_init 371 = .ok (.newarray .char, 2) := by decide +kernel
theorem dX12_init_373 : decode cX12_init 373 = .ok (.dup, 1) := by decide +kernel
theorem dX12_init_374 : decode cX12_init 374 = .ok (.iconst 0, 1) := by decide +kernel
theorem dX12_init_375 : decode cX12_init 375 = .ok (.bipush 97, 2) := by decide +kernel
theorem dX12_init_377 : decode cX12_init 377 = .ok (.castore, 1) := by decide +kernel
theorem dX12_init_378 : decode cX12_init 378 = .ok (.dup, 1) := by decide +kernel
theorem dX12_init_379 : decode cX12_init 379 = .ok (.iconst 1, 1) := by decide +kernel
theorem dX12_init_380 : decode cX12_init 380 = .ok (.bipush 108, 2) := by decide +kernel
theorem dX12_init_382 : decode cX12_init 382 = .ok (.castore, 1) := by decide +kernel
theorem dX12_init_383 : decode cX12_init 383 = .ok (.dup, 1) := by decide +kernel
theorem dX12_init_384 : decode cX12_init 384 = .ok (.iconst 2, 1) := by decide +kernel
theorem dX12_init_385 : decode cX12_init 385 = .ok (.bipush 108, 2) := by decide +kernel
theorem dX12_init_387 : decode cX12_init 387 = .ok (.castore, 1) := by decide +kernel
theorem dX12_init_388 : decode cX12_init 388 = .ok (.putfield 57, 3) := by decide +kernel
theorem dX12_init_391 : decode cX12_init 391 = .ok (.aload_n 0, 1) := by decide +kernel
theorem dX12_init_392 : decode cX12_init 392 = .ok (.bipush 6, 2) := by decide +kernel
theorem dX12_init_394 : decode cX12_init 394 = .ok (.newarray .char, 2) := by decide +kernel
theorem dX12_init_396 : decode cX12_init 396 = .ok (.dup, 1) := by decide +kernel
theorem dX12_init_397 : decode cX12_init 397 = .ok (.iconst 0, 1) := by decide +kernel
theorem dX12_init_398 : decode cX12_init 398 = .ok (.bipush 99, 2) := by decide +kernel
theorem dX12_init_400 : decode cX12_init 400 = .ok (.castore, 1) := by decide +kernel
theorem dX12_init_401 : decode cX12_init 401 = .ok (.dup, 1) := by decide +kernel
theorem dX12_init_402 : decode cX12_init 402 = .ok (.iconst 1, 1) := by decide +kernel
theorem dX12_init_403 : decode cX12_init 403 = .ok (.bipush 111, 2) := by decide +kernel
theorem dX12_init_405 : decode cX12_init 405 = .ok (.castore, 1) := by decide +kernel
theorem dX12_init_406 : decode cX12_init 406 = .ok (.dup, 1) := by decide +kernel
theorem dX12_init_407 : decode cX12_init 407 = .ok (.iconst 2, 1) := by decide +kernel
theorem dX12_init_408 : decode cX12_init 408 = .ok (.bipush 108, 2) := by decide +kernel
theorem dX12_init_410 : decode cX12_init 410 = .ok (.castore, 1) := by decide +kernel
theorem dX12_init_411 : decode cX12_init 411 = .ok (.dup, 1) := by decide +kernel
theorem dX12_init_412 : decode cX12_init 412 = .ok (.iconst 3, 1) := by decide +kernel
theorem dX12_init_413 : decode cX12_init 413 = .ok (.bipush 117, 2) := by decide +kernel
theorem dX12_init_415 : decode cX12_init 415 = .ok (.castore, 1) := by decide +kernel
theorem dX12_init_416 : decode cX12_init 416 = .ok (.dup, 1) := by decide +kernel
theorem dX12_init_417 : decode cX12_init 417 = .ok (.iconst 4, 1) := by decide +kernel
theorem dX12_init_418 : decode cX12_init 418 = .ok (.bipush 109, 2) := by decide +kernel
theorem dX12_init_420 : decode cX12_init 420 = .ok (.castore, 1) := by decide +kernel
theorem dX12_init_421 : decode cX12_init 421 = .ok (.dup, 1) := by decide +kernel
theorem dX12_init_422 : decode cX12_init 422 = .ok (.iconst 5, 1) := by decide +kernel
theorem dX12_init_423 : decode cX12_init 423 = .ok (.bipush 110, 2) := by decide +kernel
theorem dX12_init_425 : decode cX12_init 425 = .ok (.castore, 1) := by decide +kernel
theorem dX12_init_426 : decode cX12_init 426 = .ok (.putfield 60, 3) := by decide +kernel
theorem dX12_init_429 : decode cX12_init 429 = .ok (.aload_n 0, 1) := by decide +kernel
theorem dX12_init_430 : decode cX12_init 430 = .ok (.iconst 3, 1) := by decide +kernel
theorem dX12_init_431 : decode cX12_init 431 = .ok (.newarray .char, 2) := by decide +kernel
theorem dX12_init_433 : decode cX12_init 433 = .ok (.dup, 1) := by decide +kernel
theorem dX12_init_434 : decode cX12_init 434 = .ok (.iconst 0, 1) := by decide +kernel
theorem dX12_init_435 : decode cX12_init 435 = .ok (.bipush 114, 2) := by decide +kernel
theorem dX12_init_437 : decode cX12_init 437 = .ok (.castore, 1) := by decide +kernel
theorem dX12_init_438 : decode cX12_init 438 = .ok (.dup, 1) := by decide +kernel
theorem dX12_init_439 : decode cX12_init 439 = .ok (.iconst 1, 1) := by decide +kernel
theorem dX12_init_440 : decode cX12_init 440 = .ok (.bipush 111, 2) := by decide +kernel
theorem dX12_init_442 : decode cX12_init 442 = .ok (.castore, 1) := by decide +kernel
theorem dX12_init_443 : decode cX12_init 443 = .ok (.dup, 1) := by decide +kernel
theorem dX12_init_444 : decode cX12_init 444 = .ok (.iconst 2, 1) := by decide +kernel
theorem dX12_init_445 : decode cX12_init 445 = .ok (.bipush 119, 2) := by decide +kernel
theorem dX12_init_447 : decode cX12_init 447 = .ok (.castore, 1) := by decide +kernel
theorem dX12_init_448 : decode cX12_init 448 = .ok (.putfield 63, 3) := by decide +kernel
theorem dX12_init_451 : decode cX12_init 451 = .ok (.aload_n 0, 1) := by decide +kernel
theorem dX12_init_452 : decode cX12_init 452 = .ok (.bipush 6, 2) := by decide +kernel
theorem dX12_init_454 : decode cX12_init 454 = .ok (.newarray .char, 2) := by decide +kernel
theorem dX12_init_456 : decode cX12_init 456 = .ok (.dup, 1) := by decide +kernel
theorem dX12_init_457 : decode cX12_init 457 = .ok (.iconst 0, 1) := by decide +kernel
theorem dX12_init_458 : decode cX12_init 458 = .ok (.bipush 98, 2) := by decide +kernel
theorem dX12_init_460 : decode cX12_init 460 = .ok (.castore, 1) := by decide +kernel
theorem dX12_init_461 : decode cX12_init 461 = .ok (.dup, 1) := by decide +kernel
theorem dX12_init_462 : decode cX12_init 462 = .ok (.iconst 1, 1) := by decide +kernel
theorem dX12_init_463 : decode cX12_init 463 = .ok (.bipush 114, 2) := by decide +kernel
theorem dX12_init_465 : decode cX12_init 465 = .ok (.castore, 1) := by decide +kernel
theorem dX12_init_466 : decode cX12_init 466 = .ok (.dup, 1) := by decide +kernel
theorem dX12_init_467 : decode cX12_init 467 = .ok (.iconst 2, 1) := by decide +kernel
theorem dX12_init_468 : decode cX12_init 468 = .ok (.bipush 105, 2) := by decide +kernel
theorem dX12_init_470 : decode cX12_init 470 = .ok (.castore, 1) := by decide +kernel
theorem dX12_init_471 : decode cX12_init 471 = .ok (.dup, 1) := by decide +kernel
theorem dX12_init_472 : decode cX12_init 472 = .ok (.iconst 3, 1) := by decide +kernel
theorem dX12_init_473 : decode cX12_init 473 = .ok (.bipush 103, 2) := by decide +kernel
theorem dX12_init_475 : decode cX12_init 475 = .ok (.castore, 1) := by decide +kernel
theorem dX12_init_476 : decode cX12_init 476 = .ok (.dup, 1) := by decide +kernel
theorem dX12_init_477 : decode cX12_init 477 = .ok (.iconst 4, 1) := by decide +kernel
theorem dX12_init_478 : decode cX12_init 478 = .ok (.bipush 104, 2) := by decide +kernel
theorem dX12_init_480 : decode cX12_init 480 = .ok (.castore, 1) := by decide +kernel
theorem dX12_init_481 : decode cX12_init 481 = .ok (.dup, 1) := by decide +kernel
theorem dX12_init_482 : decode cX12_init 482 = .ok (.iconst 5, 1) := by decide +kernel
theorem dX12_init_483 : decode cX12_init 483 = .ok (.bipush 116, 2) := by decide +kernel
theorem dX12_init_485 : decode cX12_init 485 = .ok (.castore, 1) := by decide +kernel
theorem dX12_init_486 : decode cX12_init 486 = .ok (.putfield 66, 3) := by decide +kernel
theorem dX12_init_489 : decode cX12_init 489 = .ok (.aload_n 0, 1) := by decide +kernel
theorem dX12_init_490 : decode cX12_init 490 = .ok (.iconst 5, 1) := by decide +kernel
theorem dX12_init_491 : decode cX12_init 491 = .ok (.newarray .char, 2) := by decide +kernel
theorem dX12_init_493 : decode cX12_init 493 = .ok (.dup, 1) := by decide +kernel
theorem dX12_init_494 : decode cX12_init 494 = .ok (.iconst 0, 1) := by decide +kernel
theorem dX12_init_495 : decode cX12_init 495 = .ok (.bipush 108, 2) := by decide +kernel
theorem dX12_init_497 : decode cX12_init 497 = .ok (.castore, 1) := by decide +kernel
theorem dX12_init_498 : decode cX12_init 498 = .ok (.dup, 1) := by decide +kernel
theorem dX12_init_499 : decode cX12_init 499 = .ok (.iconst 1, 1) := by decide +kernel
theorem dX12_init_500 : decode cX12_init 500 = .ok (.bipush 105, 2) := by decide +kernel
theorem dX12_init_502 : decode cX12_init 502 = .ok (.castore, 1) := by decide +kernel
theorem dX12_init_503 : decode cX12_init 503 = .ok (.dup, 1) := by decide +kernel
theorem dX12_init_504 : decode cX12_init 504 = .ok (.iconst 2, 1) := by decide +kernel
theorem dX12_init_505 : decode cX12_init 505 = .ok (.bipush 103, 2) := by decide +kernel
theorem dX12_init_507 : decode cX12_init 507 = .ok (.castore, 1) := by decide +kernel
theorem dX12_init_508 : decode cX12_init 508 = .ok (.dup, 1) := by decide +kernel
theorem dX12_init_509 : decode cX12_init 509 = .ok (.iconst 3, 1) := by decide +kernel
theorem dX12_init_510 : decode cX12_init 510 = .ok (.bipush 104, 2) := by decide +kernel
theorem dX12_init_512 : decode cX12_init 512 = .ok (.castore, 1) := by decide +kernel
theorem dX12_init_513 : decode cX12_init 513 = .ok (.dup, 1) := by decide +kernel
theorem dX12_init_514 : decode cX12_init 514 = .ok (.iconst 4, 1) := by decide +kernel
theorem dX12_init_515 : decode cX12_init 515 = .ok (.bipush 116, 2) := by decide +kernel
theorem dX12_init_517 : decode cX12_init 517 = .ok (.castore, 1) := by decide +kernel
theorem dX12_init_518 : decode cX12_init 518 = .ok (.putfield 69, 3) := by decide +kernel
theorem dX12_init_521 : decode cX12_init 521 = .ok (.aload_n 0, 1) := by decide +kernel
theorem dX12_init_522 : decode cX12_init 522 = .ok (.iconst 4, 1) := by decide +kernel
theorem dX12_init_523 : decode cX12_init 523 = .ok (.newarray .char, 2) := by decide +kernel
theorem dX12_init_525 : decode cX12_init 525 = .ok (.dup, 1) := by decide +kernel
theorem dX12_init_526 : decode cX12_init 526 = .ok (.iconst 0, 1) := by decide +kernel
theorem dX12_init_527 : decode cX12_init 527 = .ok (.bipush 107, 2) := by decide +kernel
theorem dX12_init_529 : decode cX12_init 529 = .ok (.castore, 1) := by decide +kernel
theorem dX12_init_530 : decode cX12_init 530 = .ok (.dup, 1) := by decide +kernel
theorem dX12_init_531 : decode cX12_init 531 = .ok (.iconst 1, 1) := by decide +kernel
theorem dX12_init_532 : decode cX12_init 532 = .ok (.bipush 105, 2) := by decide +kernel
theorem dX12_init_534 : decode cX12_init 534 = .ok (.castore, 1) := by decide +kernel
theorem dX12_init_535 : decode cX12_init 535 = .ok (.dup, 1) := by decide +kernel
theorem dX12_init_536 : decode cX12_init 536 = .ok (.iconst 2, 1) := by decide +kernel
theorem dX12_init_537 : decode cX12_init 537 = .ok (.bipush 110, 2) := by decide +kernel
theorem dX12_init_539 : decode cX12_init 539 = .ok (.castore, 1) := by decide +kernel
theorem dX12_init_540 : decode cX12_init 540 = .ok (.dup, 1) := by decide +kernel
theorem dX12_init_541 : decode cX12_init 541 = .ok (.iconst 3, 1) := by decide +kernel
theorem dX12_init_542 : decode cX12_init 542 = .ok (.bipush 100, 2) := by decide +kernel
theorem dX12_init_544 : decode cX12_init 544 = .ok (.castore, 1) := by decide +kernel
theorem dX12_init_545 : decode cX12_init 545 = .ok (.putfield 72, 3) := by decide +kernel
theorem dX12_init_548 : decode cX12_init 548 = .ok (.aload_n 0, 1) := by decide +kernel
theorem dX12_init_549 : decode cX12_init 549 = .ok (.iconst 3, 1) := by decide +kernel
theorem dX12_init_550 : decode cX12_init 550 = .ok (.newarray .char, 2) := by decide +kernel
theorem dX12_init_552 : decode cX12_init 552 = .ok (.dup, 1) := by decide +kernel
theorem dX12_init_553 : decode cX12_init 553 = .ok (.iconst 0, 1) := by decide +kernel
theorem dX12_init_554 : decode cX12_init 554 = .ok (.bipush 109, 2) := by decide +kernel
theorem dX12_init_556 : decode cX12_init 556 = .ok (.castore, 1) := by decide +kernel
theorem dX12_init_557 : decode cX12_init 557 = .ok (.dup, 1) := by decide +kernel
theorem dX12_init_558 : decode cX12_init 558 = .ok (.iconst 1, 1) := by decide +kernel
theorem dX12_init_559 : decode cX12_init 559 = .ok (.bipush 105, 2) := by decide +kernel
theorem dX12_init_561 : decode cX12_init 561 = .ok (.castore, 1) := by decide +kernel
theorem dX12_init_562 : decode cX12_init 562 = .ok (.dup, 1) := by decide +kernel
theorem dX12_init_563 : decode cX12_init 563 = .ok (.iconst 2, 1) := by decide +kernel
theorem dX12_init_564 : decode cX12_init 564 = .ok (.bipush 110, 2) := by decide +kernel
theorem dX12_init_566 : decode cX12_init 566 = .ok (.castore, 1) := by decide +kernel
theorem dX12_init_567 : decode cX12_init 567 = .ok (.putfield 75, 3) := by decide +kernel
theorem dX12_init_570 : decode cX12_init 570 = .ok (.aload_n 0, 1) := by decide +kernel
theorem dX12_init_571 : decode cX12_init 571 = .ok (.iconst 3, 1) := by decide +kernel
theorem dX12_init_572 : decode cX12_init 572 = .ok (.newarray .char, 2) := by decide +kernel
theorem dX12_init_574 : decode cX12_init 574 = .ok (.dup, 1) := by decide +kernel
theorem dX12_init_575 : decode cX12_init 575 = .ok (.iconst 0, 1) := by decide +kernel
theorem dX12_init_576 : decode cX12_init 576 = .ok (.bipush 109, 2) := by decide +kernel
theorem dX12_init_578 : decode cX12_init 578 = .ok (.castore, 1) := by decide +kernel
theorem dX12_init_579 : decode cX12_init 579 = .ok (.dup, 1) := by decide +kernel
theorem dX12_init_580 : decode cX12_init 580 = .ok (.iconst 1, 1) := by decide +kernel
theorem dX12_init_581 : decode cX12_init 581 = .ok (.bipush 97, 2) := by decide +kernel
theorem dX12_init_583 : decode cX12_init 583 = .ok (.castore, 1) := by decide +kernel
theorem dX12_init_584 : decode cX12_init 584 = .ok (.dup, 1) := by decide +kernel
theorem dX12_init_585 : decode cX12_init 585 = .ok (.iconst 2, 1) := by decide +kernel
theorem dX12_init_586 : decode cX12_init 586 = .ok (.bipush 120, 2) := by decide +kernel
theorem dX12_init_588 : decode cX12_init 588 = .ok (.castore, 1) := by decide +kernel
theorem dX12_init_589 : decode cX12_init 589 = .ok (.putfield 78, 3) := by decide +kernel
theorem dX12_init_592 : decode cX12_init 592 = .ok (.aload_n 0, 1) := by decide +kernel
theorem dX12_init_593 : decode cX12_init 593 = .ok (.sipush 5400, 3) := by decide +kernel
theorem dX12_init_596 : decode cX12_init 596 = .ok (.newarray .int, 2) := by decide +kernel
theorem dX12_init_598 : decode cX12_init 598 = .ok (.putfield 81, 3) := by decide +kernel
theorem dX12_init_601 : decode cX12_init 601 = .ok (.aload_n 0, 1) := by decide +kernel
theorem dX12_init_602 : decode cX12_init 602 = .ok (.sipush 1000, 3) := by decide +kernel
theorem dX12_init_605 : decode cX12_init 605 = .ok (.newarray .int, 2) := by decide +kernel
theorem dX12_init_607 : decode cX12_init 607 = .ok (.putfield 84, 3) := by decide +kernel
theorem dX12_init_610 : decode cX12_init 610 = .ok (.aload_n 0, 1) := by decide +kernel
theorem dX12_init_611 : decode cX12_init 611 = .ok (.iconst 5, 1) := by decide +kernel
theorem dX12_init_612 : decode cX12_init 612 = .ok (.newarray .int, 2) := by decide +kernel
theorem dX12_init_614 : decode cX12_init 614 = .ok (.putfield 87, 3) := by decide +kernel
theorem dX12_init_617 : decode cX12_init 617 = .ok (.aload_n 0, 1) := by decide +kernel
theorem dX12_init_618 : decode cX12_init 618 = .ok (.sipush 200, 3) := by decide +kernel
theorem dX12_init_621 : decode cX12_init 621 = .ok (.newarray .int, 2) := by decide +kernel
theorem dX12_init_623 : decode cX12_init 623 = .ok (.putfield 90, 3) := by decide +kernel
theorem dX12_init_626 : decode cX12_init 626 = .ok (.aload_n 0, 1) := by decide +kernel
theorem dX12_init_627 : decode cX12_init 627 = .ok (.sipush 200, 3) := by decide +kernel
theorem dX12_init_630 : decode cX12_init 630 = .ok (.newarray .int, 2) := by decide +kernel
theorem dX12_init_632 : decode cX12_init 632 = .ok (.putfield 93, 3) := by decide +kernel
theorem dX12_init_635 : decode cX12_init 635 = .ok (.aload_n 0, 1) := by decide +kernel
theorem dX12_init_636 : decode cX12_init 636 = .ok (.sipush 200, 3) := by decide +kernel
theorem dX12_init_639 : decode cX12_init 639 = .ok (.newarray .int, 2) := by decide +kernel
theorem dX12_init_641 : decode cX12_init 641 = .ok (.putfield 96, 3) := by decide +kernel
theorem dX12_init_644 : decode cX12_init 644 = .ok (.aload_n 0, 1) := by decide +kernel
theorem dX12_init_645 : decode cX12_init 645 = .ok (.iconst 5, 1) := by decide +kernel
theorem dX12_init_646 : decode cX12_init 646 = .ok (.newarray .int, 2) := by decide +kernel
theorem dX12_init_648 : decode cX12_init 648 = .ok (.putfield 99, 3) := by decide +kernel
theorem dX12_init_651 : decode cX12_init 651 = .ok (.aload_n 0, 1) := by decide +kernel
theorem dX12_init_652 : decode cX12_init 652 = .ok (.bipush 25, 2) := by decide +kernel
theorem dX12_init_654 : decode cX12_init 654 = .ok (.newarray .long, 2) := by decide +kernel
theorem dX12_init_656 : decode cX12_init 656 = .ok (.putfield 102, 3) := by decide +kernel
theorem dX12_init_659 : decode cX12_init 659 = .ok (.aload_n 0, 1) := by decide +kernel
theorem dX12_init_660 : decode cX12_init 660 = .ok (.bipush 25, 2) := by decide +kernel
theorem dX12_init_662 : decode cX12_init 662 = .ok (.newarray .boolean, 2) := by decide +kernel
theorem dX12_init_664 : decode cX12_init 664 = .ok (.putfield 106, 3) := by decide +kernel
theorem dX12_init_667 : decode cX12_init 667 = .ok (.aload_n 0, 1) := by decide +kernel
theorem dX12_init_668 : decode cX12_init 668 = .ok (.bipush 25, 2) := by decide +kernel
theorem dX12_init_670 : decode cX12_init 670 = .ok (.newarray .int, 2) := by decide +kernel
theorem dX12_init_672 : decode cX12_init 672 = .ok (.putfield 110, 3) := by decide +kernel
theorem dX12_init_675 : decode cX12_init 675 = .ok (.aload_n 0, 1) := by decide +kernel
theorem dX12_init_676 : decode cX12_init 676 = .ok (.bipush 25, 2) := by decide +kernel
theorem dX12_init_678 : decode cX12_init 678 = .ok (.newarray .int, 2) := by decide +kernel
theorem dX12_init_680 : decode cX12_init 680 = .ok (.putfield 113, 3) := by decide +kernel
theorem dX12_init_683 : decode cX12_init 683 = .ok (.aload_n 0, 1) := by decide +kernel
theorem dX12_init_684 : decode cX12_init 684 = .ok (.bipush 25, 2) := by decide +kernel
theorem dX12_init_686 : decode cX12_init 686 = .ok (.newarray .int, 2) := by decide +kernel
theorem dX12_init_688 : decode cX12_init 688 = .ok (.putfield 116, 3) := by decide +kernel
theorem dX12_init_691 : decode cX12_init 691 = .ok (.aload_n 0, 1) := by decide +kernel
theorem dX12_init_692 : decode cX12_init 692 = .ok (.iconst 2, 1) := by decide +kernel
theorem dX12_init_693 : decode cX12_init 693 = .ok (.newarray .int, 2) := by decide +kernel
theorem dX12_init_695 : decode cX12_init 695 = .ok (.putfield 119, 3) := by decide +kernel
theorem dX12_init_698 : decode cX12_init 698 = .ok (.aload_n 0, 1) := by decide +kernel
theorem dX12_init_699 : decode cX12_init 699 = .ok (.bipush 10, 2) := by decide +kernel
theorem dX12_init_701 : decode cX12_init 701 = .ok (.newarray .long, 2) := by decide +kernel
theorem dX12_init_703 : decode cX12_init 703 = .ok (.putfield 122, 3) := by decide +kernel
theorem dX12_init_706 : decode cX12_init 706 = .ok (.aload_n 0, 1) := by decide +kernel
theorem dX12_init_707 : decode cX12_init 707 = .ok (.bipush 10, 2) := by decide +kernel
theorem dX12_init_709 : decode cX12_init 709 = .ok (.newarray .int, 2) := by decide +kernel
theorem dX12_init_711 : decode cX12_init 711 = .ok (.putfield 125, 3) := by decide +kernel
theorem dX12_init_714 : decode cX12_init 714 = .ok (.aload_n 0, 1) := by decide +kernel
theorem dX12_init_715 : decode cX12_init 715 = .ok (.iconst 2, 1) := by decide +kernel
theorem dX12_init_716 : decode cX12_init 716 = .ok (.newarray .int, 2) := by decide +kernel
theorem dX12_init_718 : decode cX12_init 718 = .ok (.dup, 1) := by decide +kernel
theorem dX12_init_719 : decode cX12_init 719 = .ok (.iconst 0, 1) := by decide +kernel
theorem dX12_init_720 : decode cX12_init 720 = .ok (.bipush 95, 2) := by decide +kernel
theorem dX12_init_722 : decode cX12_init 722 = .ok (.iastore, 1) := by decide +kernel
theorem dX12_init_723 : decode cX12_init 723 = .ok (.dup, 1) := by decide +kernel
theorem dX12_init_724 : decode cX12_init 724 = .ok (.iconst 1, 1) := by decide +kernel
theorem dX12_init_725 : decode cX12_init 725 = .ok (.bipush 95, 2) := by decide +kernel
theorem dX12_init_727 : decode cX12_init 727 = .ok (.iastore, 1) := by decide +kernel
theorem dX12_init_728 : decode cX12_init 728 = .ok (.putfield 128, 3) := by decide +kernel
theorem dX12_init_731 : decode cX12_init 731 = .ok (.aload_n 0, 1) := by decide +kernel
theorem dX12_init_732 : decode cX12_init 732 = .ok (.iconst 2, 1) := by decide +kernel
theorem dX12_init_733 : decode cX12_init 733 = .ok (.newarray .int, 2) := by decide +kernel
theorem dX12_init_735 : decode cX12_init 735 = .ok (.putfield 131, 3) := by decide +kernel
theorem dX12_init_738 : decode cX12_init 738 = .ok (.aload_n 0, 1) := by decide +kernel
theorem dX12_init_739 : decode cX12_init 739 = .ok (.sipush 160, 3) := by decide +kernel
theorem dX12_init_742 : decode cX12_init 742 = .ok (.newarray .int, 2) := by decide +kernel
theorem dX12_init_744 : decode cX12_init 744 = .ok (.putfield 134, 3) := by decide +kernel
theorem dX12_init_747 : decode cX12_init 747 = .ok (.aload_n 0, 1) := by decide +kernel
theorem dX12_init_748 : decode cX12_init 748 = .ok (.sipush 160, 3) := by decide +kernel
theorem dX12_init_751 : decode cX12_init 751 = .ok (.newarray .int, 2) := by decide +kernel
theorem dX12_init_753 : decode cX12_init 753 = .ok (.putfield 137, 3) := by decide +kernel
theorem dX12_init_756 : decode cX12_init 756 = .ok (.aload_n 0, 1) := by decide +kernel
theorem dX12_init_757 : decode cX12_init 757 = .ok (.sipush 160, 3) := by decide +kernel
theorem dX12_init_760 : decode cX12_init 760 = .ok (.newarray .int, 2) := by decide +kernel
theorem dX12_init_762 : decode cX12_init 762 = .ok (.putfield 140, 3) := by decide +kernel
theorem dX12_init_765 : decode cX12_init 765 = .ok (.aload_n 0, 1) := by decide +kernel
theorem dX12_init_766 : decode cX12_init 766 = .ok (.sipush 160, 3) := by decide +kernel
theorem dX12_init_769 : decode cX12_init 769 = .ok (.newarray .int, 2) := by decide +kernel
theorem dX12_init_771 : decode cX12_init 771 = .ok (.putfield 143, 3) := by decide +kernel
theorem dX12_init_774 : decode cX12_init 774 = .ok (.aload_n 0, 1) := by decide +kernel
theorem dX12_init_775 : decode cX12_init 775 = .ok (.sipush 160, 3) := by decide +kernel
theorem dX12_init_778 : decode cX12_init 778 = .ok (.newarray .int, 2) := by decide +kernel
theorem dX12_init_780 : decode cX12_init 780 = .ok (.putfield 146, 3) := by decide +kernel
theorem dX12_init_783 : decode cX12_init 783 = .ok (.aload_n 0, 1) := by decide +kernel
theorem dX12_init_784 : decode cX12_init 784 = .ok (.sipush 160, 3) := by decide +kernel
theorem dX12_init_787 : decode cX12_init 787 = .ok (.newarray .int, 2) := by decide +kernel
theorem dX12_init_789 : decode cX12_init 789 = .ok (.putfield 149, 3) := by decide +kernel
theorem dX12_init_792 : decode cX12_init 792 = .ok (.aload_n 0, 1) := by decide +kernel
theorem dX12_init_793 : decode cX12_init 793 = .ok (.bipush 8, 2) := by decide +kernel
theorem dX12_init_795 : decode cX12_init 795 = .ok (.newarray .int, 2) := by decide +kernel
theorem dX12_init_797 : decode cX12_init 797 = .ok (.putfield 152, 3) := by decide +kernel
theorem dX12_init_800 : decode cX12_init 800 = .ok (.aload_n 0, 1) := by decide +kernel
theorem dX12_init_801 : decode cX12_init 801 = .ok (.bipush 8, 2) := by decide +kernel
theorem dX12_init_803 : decode cX12_init 803 = .ok (.newarray .int, 2) := by decide +kernel
theorem dX12_init_805 : decode cX12_init 805 = .ok (.putfield 155, 3) := by decide +kernel
theorem dX12_init_808 : decode cX12_init 808 = .ok (.aload_n 0, 1) := by decide +kernel
theorem dX12_init_809 : decode cX12_init 809 = .ok (.bipush 8, 2) := by decide +kernel
theorem dX12_init_811 : decode cX12_init 811 = .ok (.newarray .long, 2) := by decide +kernel
theorem dX12_init_813 : decode cX12_init 813 = .ok (.putfield 158, 3) := by decide +kernel
theorem dX12_init_816 : decode cX12_init 816 = .ok (.aload_n 0, 1) := by decide +kernel
theorem dX12_init_817 : decode cX12_init 817 = .ok (.iconst 3, 1) := by decide +kernel
theorem dX12_init_818 : decode cX12_init 818 = .ok (.newarray .boolean, 2) := by decide +kernel
theorem dX12_init_820 : decode cX12_init 820 = .ok (.putfield 161, 3) := by decide +kernel
theorem dX12_init_823 : decode cX12_init 823 = .ok (.aload_n 0, 1) := by decide +kernel
theorem dX12_init_824 : decode cX12_init 824 = .ok (.sipush 1000, 3) := by decide +kernel
theorem dX12_init_827 : decode cX12_init 827 = .ok (.newarray .long, 2) := by decide +kernel
theorem dX12_init_829 : decode cX12_init 829 = .ok (.putfield 164, 3) := by decide +kernel
theorem dX12_init_832 : decode cX12_init 832 = .ok (.aload_n 0, 1) := by decide +kernel
theorem dX12_init_833 : decode cX12_init 833 = .ok (.bipush 96, 2) := by decide +kernel
theorem dX12_init_835 : decode cX12_init 835 = .ok (.newarray .int, 2) := by decide +kernel
theorem dX12_init_837 : decode cX12_init 837 = .ok (.putfield 167, 3) := by decide +kernel
theorem dX12_init_840 : decode cX12_init 840 = .ok (.aload_n 0, 1) := by decide +kernel
theorem dX12_init_841 : decode cX12_init 841 = .ok (.bipush 96, 2) := by decide +kernel
theorem dX12_init_843 : decode cX12_init 843 = .ok (.newarray .int, 2) := by decide +kernel
theorem dX12_init_845 : decode cX12_init 845 = .ok (.putfield 170, 3) := by decide +kernel
theorem dX12_init_848 : decode cX12_init 848 = .ok (.aload_n 0, 1) := by decide +kernel
theorem dX12_init_849 : decode cX12_init 849 = .ok (.bipush 96, 2) := by decide +kernel
theorem dX12_init_851 : decode cX12_init 851 = .ok (.newarray .int, 2) := by decide +kernel
theorem dX12_init_853 : decode cX12_init 853 = .ok (.putfield 173, 3) := by decide +kernel
theorem dX12_init_856 : decode cX12_init 856 = .ok (.aload_n 0, 1) := by decide +kernel
theorem dX12_init_857 : decode cX12_init 857 = .ok (.bipush 96, 2) := by decide +kernel
theorem dX12_init_859 : decode cX12_init 859 = .ok (.newarray .int, 2) := by decide +kernel
theorem dX12_init_861 : decode cX12_init 861 = .ok (.putfield 176, 3) := by decide +kernel
theorem dX12_init_864 : decode cX12_init 864 = .ok (.aload_n 0, 1) := by decide +kernel
theorem dX12_init_865 : decode cX12_init 865 = .ok (.bipush 40, 2) := by decide +kernel
theorem dX12_init_867 : decode cX12_init 867 = .ok (.newarray .int, 2) := by decide +kernel
theorem dX12_init_869 : decode cX12_init 869 = .ok (.putfield 179, 3) := by decide +kernel
theorem dX12_init_872 : decode cX12_init 872 = .ok (.aload_n 0, 1) := by decide +kernel
theorem dX12_init_873 : decode cX12_init 873 = .ok (.bipush 40, 2) := by decide +kernel
theorem dX12_init_875 : decode cX12_init 875 = .ok (.newarray .int, 2) := by decide +kernel
theorem dX12_init_877 : decode cX12_init 877 = .ok (.putfield 182, 3) := by decide +kernel
theorem dX12_init_880 : decode cX12_init 880 = .ok (.aload_n 0, 1) := by decide +kernel
theorem dX12_init_881 : decode cX12_init 881 = .ok (.bipush 40, 2) := by decide +kernel
theorem dX12_init_883 : decode cX12_init 883 = .ok (.newarray .int, 2) := by decide +kernel
theorem dX12_init_885 : decode cX12_init 885 = .ok (.putfield 185, 3) := by decide +kernel
theorem dX12_init_888 : decode cX12_init 888 = .ok (.aload_n 0, 1) := by decide +kernel
theorem dX12_init_889 : decode cX12_init 889 = .ok (.bipush 40, 2) := by decide +kernel
theorem dX12_init_891 : decode cX12_init 891 = .ok (.newarray .int, 2) := by decide +kernel
theorem dX12_init_893 : decode cX12_init 893 = .ok (.putfield 188, 3) := by decide +kernel
theorem dX12_init_896 : decode cX12_init 896 = .ok (.aload_n 0, 1) := by decide +kernel
theorem dX12_init_897 : decode cX12_init 897 = .ok (.bipush 40, 2) := by decide +kernel
theorem dX12_init_899 : decode cX12_init 899 = .ok (.newarray .int, 2) := by decide +kernel
theorem dX12_init_901 : decode cX12_init 901 = .ok (.putfield 191, 3) := by decide +kernel
theorem dX12_init_904 : decode cX12_init 904 = .ok (.aload_n 0, 1) := by decide +kernel
theorem dX12_init_905 : decode cX12_init 905 = .ok (.bipush 40, 2) := by decide +kernel
theorem dX12_init_907 : decode cX12_init 907 = .ok (.newarray .boolean, 2) := by decide +kernel
theorem dX12_init_909 : decode cX12_init 909 = .ok (.putfield 194, 3) := by decide +kernel
theorem dX12_init_912 : decode cX12_init 912 = .ok (.aload_n 0, 1) := by decide +kernel
theorem dX12_init_913 : decode cX12_init 913 = .ok (.bipush 40, 2) := by decide +kernel
theorem dX12_init_915 : decode cX12_init 915 = .ok (.newarray .boolean, 2) := by decide +kernel
theorem dX12_init_917 : decode cX12_init 917 = .ok (.putfield 197, 3) := by decide +kernel
theorem dX12_init_920 : decode cX12_init 920 = .ok (.aload_n 0, 1) := by decide +kernel
theorem dX12_init_921 : decode cX12_init 921 = .ok (.bipush 40, 2) := by decide +kernel
theorem dX12_init_923 : decode cX12_init 923 = .ok (.newarray .int, 2) := by decide +kernel
theorem dX12_init_925 : decode cX12_init 925 = .ok (.putfield 200, 3) := by decide +kernel
theorem dX12_init_928 : decode cX12_init 928 = .ok (.aload_n 0, 1) := by decide +kernel
theorem dX12_init_929 : decode cX12_init 929 = .ok (.bipush 40, 2) := by decide +kernel
theorem dX12_init_931 : decode cX12_init 931 = .ok (.newarray .int, 2) := by decide +kernel
theorem dX12_init_933 : decode cX12_init 933 = .ok (.putfield 203, 3) := by decide +kernel
theorem dX12_init_936 : decode cX12_init 936 = .ok (.aload_n 0, 1) := by decide +kernel
theorem dX12_init_937 : decode cX12_init 937 = .ok (.bipush 42, 2) := by decide +kernel
theorem dX12_init_939 : decode cX12_init 939 = .ok (.newarray .long, 2) := by decide +kernel
theorem dX12_init_941 : decode cX12_init 941 = .ok (.putfield 206, 3) := by decide +kernel
theorem dX12_init_944 : decode cX12_init 944 = .ok (.aload_n 0, 1) := by decide +kernel
theorem dX12_init_945 : decode cX12_init 945 = .ok (.bipush 40, 2) := by decide +kernel
theorem dX12_init_947 : decode cX12_init 947 = .ok (.newarray .int, 2) := by decide +kernel
theorem dX12_init_949 : decode cX12_init 949 = .ok (.putfield 209, 3) := by decide +kernel
theorem dX12_init_952 : decode cX12_init 952 = .ok (.aload_n 0, 1) := by decide +kernel
theorem dX12_init_953 : decode cX12_init 953 = .ok (.bipush 96, 2) := by decide +kernel
theorem dX12_init_955 : decode cX12_init 955 = .ok (.newarray .boolean, 2) := by decide +kernel
theorem dX12_init_957 : decode cX12_init 957 = .ok (.putfield 212, 3) := by decide +kernel
theorem dX12_init_960 : decode cX12_init 960 = .ok (.aload_n 0, 1) := by decide +kernel
theorem dX12_init_961 : decode cX12_init 961 = .ok (.bipush 8, 2) := by decide +kernel
theorem dX12_init_963 : decode cX12_init 963 = .ok (.newarray .long, 2) := by decide +kernel
theorem dX12_init_965 : decode cX12_init 965 = .ok (.putfield 215, 3) := by decide +kernel
theorem dX12_init_968 : decode cX12_init 968 = .ok (.aload_n 0, 1) := by decide +kernel
theorem dX12_init_969 : decode cX12_init 969 = .ok (.bipush 8, 2) := by decide +kernel
theorem dX12_init_971 : decode cX12_init 971 = .ok (.newarray .long, 2) := by decide +kernel
theorem dX12_init_973 : decode cX12_init 973 = .ok (.putfield 218, 3) := by decide +kernel
theorem dX12_init_976 : decode cX12_init 976 = .ok (.aload_n 0, 1) := by decide +kernel
theorem dX12_init_977 : decode cX12_init 977 = .ok (.sipush 330, 3) := by decide +kernel
theorem dX12_init_980 : decode cX12_init 980 = .ok (.newarray .int, 2) := by decide +kernel
theorem dX12_init_982 : decode cX12_init 982 = .ok (.putfield 221, 3) := by decide +kernel
theorem dX12_init_985 : decode cX12_init 985 = .ok (.return_, 1) := by decide +kernel
def stL (M : Mem) : List (Int × Int × Int) → Mem
  | [] => M
  | t :: l => stL (st M t.1 t.2.1 t.2.2) l
theorem stL_app (M : Mem) : ∀ (l l' : List (Int × Int × Int)), stL M (l ++ l') = stL (stL M l) l'
  | [], _ => rfl
  | t :: l, l' => stL_app (st M t.1 t.2.1 t.2.2) l l'
/-- what stands where after all that was stored -/
def lkL (a i : Int) : List (Int × Int × Int) → Option Int
  | [] => none
  | t :: l => match lkL a i l with
    | some v => some v
    | none => if t.1 = a ∧ t.2.1 = i then some t.2.2 else none
theorem stL_at (a i : Int) : ∀ (l : List (Int × Int × Int)) (M : Mem), stL M l a i = (lkL a i l).getD (M a i)
  | [], M => rfl
  | t :: l, M => by
    show stL (st M t.1 t.2.1 t.2.2) l a i = (match lkL a i l with | some v => some v | none => if t.1 = a ∧ t.2.1 = i then some t.2.2 else none).getD (M a i)
    rw [stL_at a i l]
    cases lkL a i l with
    | some v => rfl
    | none =>
      by_cases h : t.1 = a ∧ t.2.1 = i
      · rw [if_pos h]
        obtain ⟨rfl, rfl⟩ := h
        exact st_at _ _ _ _
      · rw [if_neg h]
        exact st_ne (fun q => h ⟨q.1.symm, q.2.symm⟩)
theorem kI_X12_7 : LkF RX12 7 12 0 := ⟨_, _, _, rfl, by decide, Or.inl (List.mem_of_getElem? (i := 1355) (by decide +kernel))⟩
theorem kI_X12_13 : LkF RX12 13 12 8 := ⟨_, _, _, rfl, by decide, Or.inl (List.mem_of_getElem? (i := 1363) (by decide +kernel))⟩
theorem kI_X12_17 : LkF RX12 17 12 9 := ⟨_, _, _, rfl, by decide, Or.inl (List.mem_of_getElem? (i := 1364) (by decide +kernel))⟩
theorem kI_X12_21 : LkF RX12 21 12 10 := ⟨_, _, _, rfl, by decide, Or.inl (List.mem_of_getElem? (i := 1365) (by decide +kernel))⟩
theorem kI_X12_24 : LkF RX12 24 12 11 := ⟨_, _, _, rfl, by decide, Or.inl (List.mem_of_getElem? (i := 1366) (by decide +kernel))⟩
theorem kI_X12_27 : LkF RX12 27 12 12 := ⟨_, _, _, rfl, by decide, Or.inl (List.mem_of_getElem? (i := 1367) (by decide +kernel))⟩
theorem kI_X12_30 : LkF RX12 30 12 13 := ⟨_, _, _, rfl, by decide, Or.inl (List.mem_of_getElem? (i := 1368) (by decide +kernel))⟩
theorem kI_X12_33 : LkF RX12 33 12 14 := ⟨_, _, _, rfl, by decide, Or.inl (List.mem_of_getElem? (i := 1369) (by decide +kernel))⟩
theorem kI_X12_36 : LkF RX12 36 12 15 := ⟨_, _, _, rfl, by decide, Or.inl (List.mem_of_getElem? (i := 1370) (by decide +kernel))⟩
theorem kI_X12_39 : LkF RX12 39 12 16 := ⟨_, _, _, rfl, by decide, Or.inl (List.mem_of_getElem? (i := 1371) (by decide +kernel))⟩
theorem kI_X12_42 : LkF RX12 42 12 17 := ⟨_, _, _, rfl, by decide, Or.inl (List.mem_of_getElem? (i := 1372) (by decide +kernel))⟩
theorem kI_X12_45 : LkF RX12 45 12 18 := ⟨_, _, _, rfl, by decide, Or.inl (List.mem_of_getElem? (i := 1373) (by decide +kernel))⟩
theorem kI_X12_48 : LkF RX12 48 12 19 := ⟨_, _, _, rfl, by decide, Or.inl (List.mem_of_getElem? (i := 1374) (by decide +kernel))⟩
theorem kI_X12_51 : LkF RX12 51 12 20 := ⟨_, _, _, rfl, by decide, Or.inl (List.mem_of_getElem? (i := 1375) (by decide +kernel))⟩
theorem kI_X12_54 : LkF RX12 54 12 21 := ⟨_, _, _, rfl, by decide, Or.inl (List.mem_of_getElem? (i := 1376) (by decide +kernel))⟩
theorem kI_X12_57 : LkF RX12 57 12 22 := ⟨_, _, _, rfl, by decide, Or.inl (List.mem_of_getElem? (i := 1377) (by decide +kernel))⟩
theorem kI_X12_60 : LkF RX12 60 12 23 := ⟨_, _, _, rfl, by decide, Or.inl (List.mem_of_getElem? (i := 1378) (by decide +kernel))⟩
theorem kI_X12_63 : LkF RX12 63 12 24 := ⟨_, _, _, rfl, by decide, Or.inl (List.mem_of_getElem? (i := 1379) (by decide +kernel))⟩
theorem kI_X12_66 : LkF RX12 66 12 25 := ⟨_, _, _, rfl, by decide, Or.inl (List.mem_of_getElem? (i := 1380) (by decide +kernel))⟩
theorem kI_X12_69 : LkF RX12 69 12 26 := ⟨_, _, _, rfl, by decide, Or.inl (List.mem_of_getElem? (i := 1381) (by decide +kernel))⟩
theorem kI_X12_72 : LkF RX12 72 12 27 := ⟨_, _, _, rfl, by decide, Or.inl (List.mem_of_getElem? (i := 1382) (by decide +kernel))⟩
theorem kI_X12_75 : LkF RX12 75 12 28 := ⟨_, _, _, rfl, by decide, Or.inl (List.mem_of_getElem? (i := 1383) (by decide +kernel))⟩
theorem kI_X12_78 : LkF RX12 78 12 29 := ⟨_, _, _, rfl, by decide, Or.inl (List.mem_of_getElem? (i := 1384) (by decide +kernel))⟩
theorem kI_X12_81 : LkF RX12 81 12 31 := ⟨_, _, _, rfl, by decide, Or.inl (List.mem_of_getElem? (i := 1386) (by decide +kernel))⟩
theorem kI_X12_84 : LkF RX12 84 12 33 := ⟨_, _, _, rfl, by decide, Or.inl (List.mem_of_getElem? (i := 1388) (by decide +kernel))⟩
theorem kI_X12_87 : LkF RX12 87 12 37 := ⟨_, _, _, rfl, by decide, Or.inl (List.mem_of_getElem? (i := 1392) (by decide +kernel))⟩
theorem kI_X12_90 : LkF RX12 90 12 38 := ⟨_, _, _, rfl, by decide, Or.inl (List.mem_of_getElem? (i := 1393) (by decide +kernel))⟩
theorem kI_X12_93 : LkF RX12 93 12 39 := ⟨_, _, _, rfl, by decide, Or.inl (List.mem_of_getElem? (i := 1394) (by decide +kernel))⟩
theorem kI_X12_96 : LkF RX12 96 12 40 := ⟨_, _, _, rfl, by decide, Or.inl (List.mem_of_getElem? (i := 1395) (by decide +kernel))⟩
theorem kI_X12_99 : LkF RX12 99 12 41 := ⟨_, _, _, rfl, by decide, Or.inl (List.mem_of_getElem? (i := 1396) (by decide +kernel))⟩
theorem kI_X12_102 : LkF RX12 102 12 42 := ⟨_, _, _, rfl, by decide, Or.inl (List.mem_of_getElem? (i := 1397) (by decide +kernel))⟩
theorem kI_X12_106 : LkF RX12 106 12 43 := ⟨_, _, _, rfl, by decide, Or.inl (List.mem_of_getElem? (i := 1398) (by decide +kernel))⟩
theorem kI_X12_110 : LkF RX12 110 12 44 := ⟨_, _, _, rfl, by decide, Or.inl (List.mem_of_getElem? (i := 1399) (by decide +kernel))⟩
theorem kI_X12_113 : LkF RX12 113 12 45 := ⟨_, _, _, rfl, by decide, Or.inl (List.mem_of_getElem? (i := 1400) (by decide +kernel))⟩
theorem kI_X12_116 : LkF RX12 116 12 46 := ⟨_, _, _, rfl, by decide, Or.inl (List.mem_of_getElem? (i := 1401) (by decide +kernel))⟩
theorem kI_X12_119 : LkF RX12 119 12 47 := ⟨_, _, _, rfl, by decide, Or.inl (List.mem_of_getElem? (i := 1402) (by decide +kernel))⟩
theorem kI_X12_122 : LkF RX12 122 12 48 := ⟨_, _, _, rfl, by decide, Or.inl (List.mem_of_getElem? (i := 1403) (by decide +kernel))⟩
theorem kI_X12_125 : LkF RX12 125 12 49 := ⟨_, _, _, rfl, by decide, Or.inl (List.mem_of_getElem? (i := 1404) (by decide +kernel))⟩
theorem kI_X12_128 : LkF RX12 128 12 50 := ⟨_, _, _, rfl, by decide, Or.inl (List.mem_of_getElem? (i := 1405) (by decide +kernel))⟩
theorem kI_X12_131 : LkF RX12 131 12 53 := ⟨_, _, _, rfl, by decide, Or.inl (List.mem_of_getElem? (i := 1408) (by decide +kernel))⟩
theorem kI_X12_134 : LkF RX12 134 12 54 := ⟨_, _, _, rfl, by decide, Or.inl (List.mem_of_getElem? (i := 1409) (by decide +kernel))⟩
theorem kI_X12_137 : LkF RX12 137 12 55 := ⟨_, _, _, rfl, by decide, Or.inl (List.mem_of_getElem? (i := 1410) (by decide +kernel))⟩
theorem kI_X12_140 : LkF RX12 140 12 56 := ⟨_, _, _, rfl, by decide, Or.inl (List.mem_of_getElem? (i := 1411) (by decide +kernel))⟩
theorem kI_X12_143 : LkF RX12 143 12 57 := ⟨_, _, _, rfl, by decide, Or.inl (List.mem_of_getElem? (i := 1412) (by decide +kernel))⟩
theorem kI_X12_146 : LkF RX12 146 12 58 := ⟨_, _, _, rfl, by decide, Or.inl (List.mem_of_getElem? (i := 1413) (by decide +kernel))⟩
theorem kI_X12_149 : LkF RX12 149 12 59 := ⟨_, _, _, rfl, by decide, Or.inl (List.mem_of_getElem? (i := 1414) (by decide +kernel))⟩
theorem kI_X12_152 : LkF RX12 152 12 61 := ⟨_, _, _, rfl, by decide, Or.inl (List.mem_of_getElem? (i := 1416) (by decide +kernel))⟩
theorem kI_X12_155 : LkF RX12 155 12 62 := ⟨_, _, _, rfl, by decide, Or.inl (List.mem_of_getElem? (i := 1417) (by decide +kernel))⟩
theorem kI_X12_158 : LkF RX12 158 12 63 := ⟨_, _, _, rfl, by decide, Or.inl (List.mem_of_getElem? (i := 1418) (by decide +kernel))⟩
theorem kI_X12_161 : LkF RX12 161 12 65 := ⟨_, _, _, rfl, by decide, Or.inl (List.mem_of_getElem? (i := 1420) (by decide +kernel))⟩
theorem kI_X12_164 : LkF RX12 164 12 66 := ⟨_, _, _, rfl, by decide, Or.inl (List.mem_of_getElem? (i := 1421) (by decide +kernel))⟩
theorem kI_X12_167 : LkF RX12 167 12 74 := ⟨_, _, _, rfl, by decide, Or.inl (List.mem_of_getElem? (i := 1429) (by decide +kernel))⟩
theorem kI_X12_170 : LkF RX12 170 12 75 := ⟨_, _, _, rfl, by decide, Or.inl (List.mem_of_getElem? (i := 1430) (by decide +kernel))⟩
theorem kI_X12_173 : LkF RX12 173 12 76 := ⟨_, _, _, rfl, by decide, Or.inl (List.mem_of_getElem? (i := 1431) (by decide +kernel))⟩
theorem kI_X12_176 : LkF RX12 176 12 77 := ⟨_, _, _, rfl, by decide, Or.inl (List.mem_of_getElem? (i := 1432) (by decide +kernel))⟩
theorem kI_X12_179 : LkF RX12 179 12 80 := ⟨_, _, _, rfl, by decide, Or.inl (List.mem_of_getElem? (i := 1435) (by decide +kernel))⟩
theorem kI_X12_182 : LkF RX12 182 12 81 := ⟨_, _, _, rfl, by decide, Or.inl (List.mem_of_getElem? (i := 1436) (by decide +kernel))⟩
theorem kI_X12_185 : LkF RX12 185 12 82 := ⟨_, _, _, rfl, by decide, Or.inl (List.mem_of_getElem? (i := 1437) (by decide +kernel))⟩
theorem kI_X12_188 : LkF RX12 188 12 83 := ⟨_, _, _, rfl, by decide, Or.inl (List.mem_of_getElem? (i := 1438) (by decide +kernel))⟩
theorem kI_X12_191 : LkF RX12 191 12 84 := ⟨_, _, _, rfl, by decide, Or.inl (List.mem_of_getElem? (i := 1439) (by decide +kernel))⟩
theorem kI_X12_194 : LkF RX12 194 12 85 := ⟨_, _, _, rfl, by decide, Or.inl (List.mem_of_getElem? (i := 1440) (by decide +kernel))⟩
theorem kI_X12_197 : LkF RX12 197 12 86 := ⟨_, _, _, rfl, by decide, Or.inl (List.mem_of_getElem? (i := 1441) (by decide +kernel))⟩
theorem kI_X12_200 : LkF RX12 200 12 87 := ⟨_, _, _, rfl, by decide, Or.inl (List.mem_of_getElem? (i := 1442) (by decide +kernel))⟩
theorem kI_X12_203 : LkF RX12 203 12 88 := ⟨_, _, _, rfl, by decide, Or.inl (List.mem_of_getElem? (i := 1443) (by decide +kernel))⟩
theorem kI_X12_206 : LkF RX12 206 12 89 := ⟨_, _, _, rfl, by decide, Or.inl (List.mem_of_getElem? (i := 1444) (by decide +kernel))⟩
theorem kI_X12_209 : LkF RX12 209 12 90 := ⟨_, _, _, rfl, by decide, Or.inl (List.mem_of_getElem? (i := 1445) (by decide +kernel))⟩
theorem kI_X12_212 : LkF RX12 212 12 91 := ⟨_, _, _, rfl, by decide, Or.inl (List.mem_of_getElem? (i := 1446) (by decide +kernel))⟩
theorem kI_X12_215 : LkF RX12 215 12 92 := ⟨_, _, _, rfl, by decide, Or.inl (List.mem_of_getElem? (i := 1447) (by decide +kernel))⟩
theorem kI_X12_218 : LkF RX12 218 12 93 := ⟨_, _, _, rfl, by decide, Or.inl (List.mem_of_getElem? (i := 1448) (by decide +kernel))⟩
theorem kI_X12_221 : LkF RX12 221 12 94 := ⟨_, _, _, rfl, by decide, Or.inl (List.mem_of_getElem? (i := 1449) (by decide +kernel))⟩
def mL0 : List (Int × Int × Int) := [(337, 0, 338)]
theorem km_0 {g : GT} {p : Program} {e : Env} {s : State} {m : MethodId} {args : Array Value} {below : List Frame} {meth : Method} {c : Code} {Q : State → Prop} {M : Mem} (hC : Cx g p s m meth c RX12 cX12_init 1) (hname : meth.name = "<init>") (kk : BW g p e (rmOf 1 (cs 337 406) (sl 337 406)) s m args below meth c Q (cs 337 338) (sl 337 338) 13 [(0, 2, 337)] [] 338 336 (stL M mL0)) : BW g p e (rmOf 1 (cs 337 406) (sl 337 406)) s m args below meth c Q (cs 337 337) (sl 337 337) 0 [(0, 2, 337)] [] 337 336 M := by
  refine b_aload_n (q := 0) hC dX12_init_0 rfl rfl ?_
  refine b_obj hC dX12_init_1 (List.mem_of_getElem? (i := 1354) (by decide +kernel)) (List.mem_of_getElem? (i := 203) (by decide +kernel)) (List.mem_of_getElem? (i := 204) (by decide +kernel)) (by decide) (by decide) (show 1 ≤ 1 by decide) (show 20 ≤ 64 * 1 by decide) ?_
  refine b_aload_n (q := 0) hC dX12_init_4 rfl rfl ?_
  refine b_sipush hC dX12_init_5 (by decide) ⟨by decide, by decide⟩ ?_
  refine c_newa (b := 1) (n' := 338) (v := 900) hC rfl (pl := 0) rfl rfl id dX12_init_8 (List.mem_of_getElem? (i := 220) (by decide +kernel)) (dk := 51) kd_338 rfl ⟨by decide, by decide⟩ ln_338 ⟨by decide, by decide⟩ (by decide) (by decide) rfl ⟨by decide, by decide, by decide, by decide⟩ ?_
  refine b_pf (t := 2) hC dX12_init_10 kI_X12_7 kd_337 rfl (by decide) rfl (fun h => absurd h (by decide)) (Or.inr (by decide)) (fun C T N h => by cases h; exact Or.inr ⟨hname, rfl, List.mem_of_getElem? (i := 1355) (by decide +kernel)⟩) ?_
  exact kk
def mL1 : List (Int × Int × Int) := [(337, 8, -1)]
theorem km_1 {g : GT} {p : Program} {e : Env} {s : State} {m : MethodId} {args : Array Value} {below : List Frame} {meth : Method} {c : Code} {Q : State → Prop} {M : Mem} (hC : Cx g p s m meth c RX12 cX12_init 1) (hname : meth.name = "<init>") (kk : BW g p e (rmOf 1 (cs 337 406) (sl 337 406)) s m args below meth c Q (cs 337 338) (sl 337 338) 18 [(0, 2, 337)] [] 338 336 (stL M mL1)) : BW g p e (rmOf 1 (cs 337 406) (sl 337 406)) s m args below meth c Q (cs 337 338) (sl 337 338) 13 [(0, 2, 337)] [] 338 336 M := by
  refine b_aload_n (q := 0) hC dX12_init_13 rfl rfl ?_
  refine b_iconst hC dX12_init_14 ⟨by decide, by decide⟩ ?_
  refine b_pf (t := 0) hC dX12_init_15 kI_X12_13 kd_337 rfl (by decide) rfl (fun h => absurd h (by decide)) (Or.inr (by decide)) (fun C T N h => by cases h; exact Or.inl rfl) ?_
  exact kk
def mL2 : List (Int × Int × Int) := [(339, 0, 115), (339, 1, 105), (339, 2, 103), (339, 3, 104), (339, 4, 116), (337, 9, 339)]
theorem km_2 {g : GT} {p : Program} {e : Env} {s : State} {m : MethodId} {args : Array Value} {below : List Frame} {meth : Method} {c : Code} {Q : State → Prop} {M : Mem} (hC : Cx g p s m meth c RX12 cX12_init 1) (hname : meth.name = "<init>") (kk : BW g p e (rmOf 1 (cs 337 406) (sl 337 406)) s m args below meth c Q (cs 337 339) (sl 337 339) 50 [(0, 2, 337)] [] 339 336 (stL M mL2)) : BW g p e (rmOf 1 (cs 337 406) (sl 337 406)) s m args below meth c Q (cs 337 338) (sl 337 338) 18 [(0, 2, 337)] [] 338 336 M := by
  refine b_aload_n (q := 0) hC dX12_init_18 rfl rfl ?_
  refine b_iconst hC dX12_init_19 ⟨by decide, by decide⟩ ?_
  refine c_newa (b := 4) (n' := 339) (v := 5) hC rfl (pl := 3) rfl rfl id dX12_init_20 (List.mem_of_getElem? (i := 1644) (by decide +kernel)) (dk := 54) kd_339 rfl ⟨by decide, by decide⟩ ln_339 ⟨by decide, by decide⟩ (by decide) (by decide) rfl ⟨by decide, by decide, by decide, by decide⟩ ?_
  refine b_dup hC dX12_init_22 (by decide) ?_
  refine b_iconst hC dX12_init_23 ⟨by decide, by decide⟩ ?_
  refine b_bipush hC dX12_init_24 (by decide) ⟨by decide, by decide⟩ ?_
  refine b_cast (d := 54) hC dX12_init_26 kd_339 rfl rfl (by decide) (by rw [ln_339]; decide) ⟨by decide, by decide⟩ (Or.inr (by decide)) ?_
  refine b_dup hC dX12_init_27 (by decide) ?_
  refine b_iconst hC dX12_init_28 ⟨by decide, by decide⟩ ?_
  refine b_bipush hC dX12_init_29 (by decide) ⟨by decide, by decide⟩ ?_
  refine b_cast (d := 54) hC dX12_init_31 kd_339 rfl rfl (by decide) (by rw [ln_339]; decide) ⟨by decide, by decide⟩ (Or.inr (by decide)) ?_
  refine b_dup hC dX12_init_32 (by decide) ?_
  refine b_iconst hC dX12_init_33 ⟨by decide, by decide⟩ ?_
  refine b_bipush hC dX12_init_34 (by decide) ⟨by decide, by decide⟩ ?_
  refine b_cast (d := 54) hC dX12_init_36 kd_339 rfl rfl (by decide) (by rw [ln_339]; decide) ⟨by decide, by decide⟩ (Or.inr (by decide)) ?_
  refine b_dup hC dX12_init_37 (by decide) ?_
  refine b_iconst hC dX12_init_38 ⟨by decide, by decide⟩ ?_
  refine b_bipush hC dX12_init_39 (by decide) ⟨by decide, by decide⟩ ?_
  refine b_cast (d := 54) hC dX12_init_41 kd_339 rfl rfl (by decide) (by rw [ln_339]; decide) ⟨by decide, by decide⟩ (Or.inr (by decide)) ?_
  refine b_dup hC dX12_init_42 (by decide) ?_
  refine b_iconst hC dX12_init_43 ⟨by decide, by decide⟩ ?_
  refine b_bipush hC dX12_init_44 (by decide) ⟨by decide, by decide⟩ ?_
  refine b_cast (d := 54) hC dX12_init_46 kd_339 rfl rfl (by decide) (by rw [ln_339]; decide) ⟨by decide, by decide⟩ (Or.inr (by decide)) ?_
  refine b_pf (t := 2) hC dX12_init_47 kI_X12_17 kd_337 rfl (by decide) rfl (fun h => absurd h (by decide)) (Or.inr (by decide)) (fun C T N h => by cases h; exact Or.inr ⟨hname, rfl, List.mem_of_getElem? (i := 1364) (by decide +kernel)⟩) ?_
  exact kk
def mL3 : List (Int × Int × Int) := [(340, 0, 100), (340, 1, 105), (340, 2, 115), (340, 3, 99), (337, 10, 340)]
theorem km_3 {g : GT} {p : Program} {e : Env} {s : State} {m : MethodId} {args : Array Value} {below : List Frame} {meth : Method} {c : Code} {Q : State → Prop} {M : Mem} (hC : Cx g p s m meth c RX12 cX12_init 1) (hname : meth.name = "<init>") (kk : BW g p e (rmOf 1 (cs 337 406) (sl 337 406)) s m args below meth c Q (cs 337 340) (sl 337 340) 77 [(0, 2, 337)] [] 340 336 (stL M mL3)) : BW g p e (rmOf 1 (cs 337 406) (sl 337 406)) s m args below meth c Q (cs 337 339) (sl 337 339) 50 [(0, 2, 337)] [] 339 336 M := by
  refine b_aload_n (q := 0) hC dX12_init_50 rfl rfl ?_
  refine b_iconst hC dX12_init_51 ⟨by decide, by decide⟩ ?_
  refine c_newa (b := 4) (n' := 340) (v := 4) hC rfl (pl := 3) rfl rfl id dX12_init_52 (List.mem_of_getElem? (i := 1644) (by decide +kernel)) (dk := 54) kd_340 rfl ⟨by decide, by decide⟩ ln_340 ⟨by decide, by decide⟩ (by decide) (by decide) rfl ⟨by decide, by decide, by decide, by decide⟩ ?_
  refine b_dup hC dX12_init_54 (by decide) ?_
  refine b_iconst hC dX12_init_55 ⟨by decide, by decide⟩ ?_
  refine b_bipush hC dX12_init_56 (by decide) ⟨by decide, by decide⟩ ?_
  refine b_cast (d := 54) hC dX12_init_58 kd_340 rfl rfl (by decide) (by rw [ln_340]; decide) ⟨by decide, by decide⟩ (Or.inr (by decide)) ?_
  refine b_dup hC dX12_init_59 (by decide) ?_
  refine b_iconst hC dX12_init_60 ⟨by decide, by decide⟩ ?_
  refine b_bipush hC dX12_init_61 (by decide) ⟨by decide, by decide⟩ ?_
  refine b_cast (d := 54) hC dX12_init_63 kd_340 rfl rfl (by decide) (by rw [ln_340]; decide) ⟨by decide, by decide⟩ (Or.inr (by decide)) ?_
  refine b_dup hC dX12_init_64 (by decide) ?_
  refine b_iconst hC dX12_init_65 ⟨by decide, by decide⟩ ?_
  refine b_bipush hC dX12_init_66 (by decide) ⟨by decide, by decide⟩ ?_
  refine b_cast (d := 54) hC dX12_init_68 kd_340 rfl rfl (by decide) (by rw [ln_340]; decide) ⟨by decide, by decide⟩ (Or.inr (by decide)) ?_
  refine b_dup hC dX12_init_69 (by decide) ?_
  refine b_iconst hC dX12_init_70 ⟨by decide, by decide⟩ ?_
  refine b_bipush hC dX12_init_71 (by decide) ⟨by decide, by decide⟩ ?_
  refine b_cast (d := 54) hC dX12_init_73 kd_340 rfl rfl (by decide) (by rw [ln_340]; decide) ⟨by decide, by decide⟩ (Or.inr (by decide)) ?_
  refine b_pf (t := 2) hC dX12_init_74 kI_X12_21 kd_337 rfl (by decide) rfl (fun h => absurd h (by decide)) (Or.inr (by decide)) (fun C T N h => by cases h; exact Or.inr ⟨hname, rfl, List.mem_of_getElem? (i := 1365) (by decide +kernel)⟩) ?_
  exact kk
def mL4 : List (Int × Int × Int) := [(341, 0, 116), (341, 1, 104), (341, 2, 105), (341, 3, 110), (341, 4, 103), (337, 11, 341)]
theorem km_4 {g : GT} {p : Program} {e : Env} {s : State} {m : MethodId} {args : Array Value} {below : List Frame} {meth : Method} {c : Code} {Q : State → Prop} {M : Mem} (hC : Cx g p s m meth c RX12 cX12_init 1) (hname : meth.name = "<init>") (kk : BW g p e (rmOf 1 (cs 337 406) (sl 337 406)) s m args below meth c Q (cs 337 341) (sl 337 341) 109 [(0, 2, 337)] [] 341 336 (stL M mL4)) : BW g p e (rmOf 1 (cs 337 406) (sl 337 406)) s m args below meth c Q (cs 337 340) (sl 337 340) 77 [(0, 2, 337)] [] 340 336 M := by
  refine b_aload_n (q := 0) hC dX12_init_77 rfl rfl ?_
  refine b_iconst hC dX12_init_78 ⟨by decide, by decide⟩ ?_
  refine c_newa (b := 4) (n' := 341) (v := 5) hC rfl (pl := 3) rfl rfl id dX12_init_79 (List.mem_of_getElem? (i := 1644) (by decide +kernel)) (dk := 54) kd_341 rfl ⟨by decide, by decide⟩ ln_341 ⟨by decide, by decide⟩ (by decide) (by decide) rfl ⟨by decide, by decide, by decide, by decide⟩ ?_
  refine b_dup hC dX12_init_81 (by decide) ?_
  refine b_iconst hC dX12_init_82 ⟨by decide, by decide⟩ ?_
  refine b_bipush hC dX12_init_83 (by decide) ⟨by decide, by decide⟩ ?_
  refine b_cast (d := 54) hC dX12_init_85 kd_341 rfl rfl (by decide) (by rw [ln_341]; decide) ⟨by decide, by decide⟩ (Or.inr (by decide)) ?_
  refine b_dup hC dX12_init_86 (by decide) ?_
  refine b_iconst hC dX12_init_87 ⟨by decide, by decide⟩ ?_
  refine b_bipush hC dX12_init_88 (by decide) ⟨by decide, by decide⟩ ?_
  refine b_cast (d := 54) hC dX12_init_90 kd_341 rfl rfl (by decide) (by rw [ln_341]; decide) ⟨by decide, by decide⟩ (Or.inr (by decide)) ?_
  refine b_dup hC dX12_init_91 (by decide) ?_
  refine b_iconst hC dX12_init_92 ⟨by decide, by decide⟩ ?_
  refine b_bipush hC dX12_init_93 (by decide) ⟨by decide, by decide⟩ ?_
  refine b_cast (d := 54) hC dX12_init_95 kd_341 rfl rfl (by decide) (by rw [ln_341]; decide) ⟨by decide, by decide⟩ (Or.inr (by decide)) ?_
  refine b_dup hC dX12_init_96 (by decide) ?_
  refine b_iconst hC dX12_init_97 ⟨by decide, by decide⟩ ?_
  refine b_bipush hC dX12_init_98 (by decide) ⟨by decide, by decide⟩ ?_
  refine b_cast (d := 54) hC dX12_init_100 kd_341 rfl rfl (by decide) (by rw [ln_341]; decide) ⟨by decide, by decide⟩ (Or.inr (by decide)) ?_
  refine b_dup hC dX12_init_101 (by decide) ?_
  refine b_iconst hC dX12_init_102 ⟨by decide, by decide⟩ ?_
  refine b_bipush hC dX12_init_103 (by decide) ⟨by decide, by decide⟩ ?_
  refine b_cast (d := 54) hC dX12_init_105 kd_341 rfl rfl (by decide) (by rw [ln_341]; decide) ⟨by decide, by decide⟩ (Or.inr (by decide)) ?_
  refine b_pf (t := 2) hC dX12_init_106 kI_X12_24 kd_337 rfl (by decide) rfl (fun h => absurd h (by decide)) (Or.inr (by decide)) (fun C T N h => by cases h; exact Or.inr ⟨hname, rfl, List.mem_of_getElem? (i := 1366) (by decide +kernel)⟩) ?_
  exact kk
def mL5 : List (Int × Int × Int) := [(342, 0, 119), (342, 1, 97), (342, 2, 121), (337, 12, 342)]
theorem km_5 {g : GT} {p : Program} {e : Env} {s : State} {m : MethodId} {args : Array Value} {below : List Frame} {meth : Method} {c : Code} {Q : State → Prop} {M : Mem} (hC : Cx g p s m meth c RX12 cX12_init 1) (hname : meth.name = "<init>") (kk : BW g p e (rmOf 1 (cs 337 406) (sl 337 406)) s m args below meth c Q (cs 337 342) (sl 337 342) 131 [(0, 2, 337)] [] 342 336 (stL M mL5)) : BW g p e (rmOf 1 (cs 337 406) (sl 337 406)) s m args below meth c Q (cs 337 341) (sl 337 341) 109 [(0, 2, 337)] [] 341 336 M := by
  refine b_aload_n (q := 0) hC dX12_init_109 rfl rfl ?_
  refine b_iconst hC dX12_init_110 ⟨by decide, by decide⟩ ?_
  refine c_newa (b := 4) (n' := 342) (v := 3) hC rfl (pl := 3) rfl rfl id dX12_init_111 (List.mem_of_getElem? (i := 1644) (by decide +kernel)) (dk := 54) kd_342 rfl ⟨by decide, by decide⟩ ln_342 ⟨by decide, by decide⟩ (by decide) (by decide) rfl ⟨by decide, by decide, by decide, by decide⟩ ?_
  refine b_dup hC dX12_init_113 (by decide) ?_
  refine b_iconst hC dX12_init_114 ⟨by decide, by decide⟩ ?_
  refine b_bipush hC dX12_init_115 (by decide) ⟨by decide, by decide⟩ ?_
  refine b_cast (d := 54) hC dX12_init_117 kd_342 rfl rfl (by decide) (by rw [ln_342]; decide) ⟨by decide, by decide⟩ (Or.inr (by decide)) ?_
  refine b_dup hC dX12_init_118 (by decide) ?_
  refine b_iconst hC dX12_init_119 ⟨by decide, by decide⟩ ?_
  refine b_bipush hC dX12_init_120 (by decide) ⟨by decide, by decide⟩ ?_
  refine b_cast (d := 54) hC dX12_init_122 kd_342 rfl rfl (by decide) (by rw [ln_342]; decide) ⟨by decide, by decide⟩ (Or.inr (by decide)) ?_
  refine b_dup hC dX12_init_123 (by decide) ?_
  refine b_iconst hC dX12_init_124 ⟨by decide, by decide⟩ ?_
  refine b_bipush hC dX12_init_125 (by decide) ⟨by decide, by decide⟩ ?_
  refine b_cast (d := 54) hC dX12_init_127 kd_342 rfl rfl (by decide) (by rw [ln_342]; decide) ⟨by decide, by decide⟩ (Or.inr (by decide)) ?_
  refine b_pf (t := 2) hC dX12_init_128 kI_X12_27 kd_337 rfl (by decide) rfl (fun h => absurd h (by decide)) (Or.inr (by decide)) (fun C T N h => by cases h; exact Or.inr ⟨hname, rfl, List.mem_of_getElem? (i := 1367) (by decide +kernel)⟩) ?_
  exact kk
def mL6 : List (Int × Int × Int) := [(343, 0, 107), (343, 1, 110), (343, 2, 111), (343, 3, 119), (343, 4, 115), (337, 13, 343)]
theorem km_6 {g : GT} {p : Program} {e : Env} {s : State} {m : MethodId} {args : Array Value} {below : List Frame} {meth : Method} {c : Code} {Q : State → Prop} {M : Mem} (hC : Cx g p s m meth c RX12 cX12_init 1) (hname : meth.name = "<init>") (kk : BW g p e (rmOf 1 (cs 337 406) (sl 337 406)) s m args below meth c Q (cs 337 343) (sl 337 343) 163 [(0, 2, 337)] [] 343 336 (stL M mL6)) : BW g p e (rmOf 1 (cs 337 406) (sl 337 406)) s m args below meth c Q (cs 337 342) (sl 337 342) 131 [(0, 2, 337)] [] 342 336 M := by
  refine b_aload_n (q := 0) hC dX12_init_131 rfl rfl ?_
  refine b_iconst hC dX12_init_132 ⟨by decide, by decide⟩ ?_
  refine c_newa (b := 4) (n' := 343) (v := 5) hC rfl (pl := 3) rfl rfl id dX12_init_133 (List.mem_of_getElem? (i := 1644) (by decide +kernel)) (dk := 54) kd_343 rfl ⟨by decide, by decide⟩ ln_343 ⟨by decide, by decide⟩ (by decide) (by decide) rfl ⟨by decide, by decide, by decide, by decide⟩ ?_
  refine b_dup hC dX12_init_135 (by decide) ?_
  refine b_iconst hC dX12_init_136 ⟨by decide, by decide⟩ ?_
  refine b_bipush hC dX12_init_137 (by decide) ⟨by decide, by decide⟩ ?_
  refine b_cast (d := 54) hC dX12_init_139 kd_343 rfl rfl (by decide) (by rw [ln_343]; decide) ⟨by decide, by decide⟩ (Or.inr (by decide)) ?_
  refine b_dup hC dX12_init_140 (by decide) ?_
  refine b_iconst hC dX12_init_141 ⟨by decide, by decide⟩ ?_
  refine b_bipush hC dX12_init_142 (by decide) ⟨by decide, by decide⟩ ?_
  refine b_cast (d := 54) hC dX12_init_144 kd_343 rfl rfl (by decide) (by rw [ln_343]; decide) ⟨by decide, by decide⟩ (Or.inr (by decide)) ?_
  refine b_dup hC dX12_init_145 (by decide) ?_
  refine b_iconst hC dX12_init_146 ⟨by decide, by decide⟩ ?_
  refine b_bipush hC dX12_init_147 (by decide) ⟨by decide, by decide⟩ ?_
  refine b_cast (d := 54) hC dX12_init_149 kd_343 rfl rfl (by decide) (by rw [ln_343]; decide) ⟨by decide, by decide⟩ (Or.inr (by decide)) ?_
  refine b_dup hC dX12_init_150 (by decide) ?_
  refine b_iconst hC dX12_init_151 ⟨by decide, by decide⟩ ?_
  refine b_bipush hC dX12_init_152 (by decide) ⟨by decide, by decide⟩ ?_
  refine b_cast (d := 54) hC dX12_init_154 kd_343 rfl rfl (by decide) (by rw [ln_343]; decide) ⟨by decide, by decide⟩ (Or.inr (by decide)) ?_
  refine b_dup hC dX12_init_155 (by decide) ?_
  refine b_iconst hC dX12_init_156 ⟨by decide, by decide⟩ ?_
  refine b_bipush hC dX12_init_157 (by decide) ⟨by decide, by decide⟩ ?_
  refine b_cast (d := 54) hC dX12_init_159 kd_343 rfl rfl (by decide) (by rw [ln_343]; decide) ⟨by decide, by decide⟩ (Or.inr (by decide)) ?_
  refine b_pf (t := 2) hC dX12_init_160 kI_X12_30 kd_337 rfl (by decide) rfl (fun h => absurd h (by decide)) (Or.inr (by decide)) (fun C T N h => by cases h; exact Or.inr ⟨hname, rfl, List.mem_of_getElem? (i := 1368) (by decide +kernel)⟩) ?_
  exact kk
def mL7 : List (Int × Int × Int) := [(344, 0, 98), (344, 1, 108), (344, 2, 105), (344, 3, 110), (344, 4, 100), (337, 14, 344)]
theorem km_7 {g : GT} {p : Program} {e : Env} {s : State} {m : MethodId} {args : Array Value} {below : List Frame} {meth : Method} {c : Code} {Q : State → Prop} {M : Mem} (hC : Cx g p s m meth c RX12 cX12_init 1) (hname : meth.name = "<init>") (kk : BW g p e (rmOf 1 (cs 337 406) (sl 337 406)) s m args below meth c Q (cs 337 344) (sl 337 344) 195 [(0, 2, 337)] [] 344 336 (stL M mL7)) : BW g p e (rmOf 1 (cs 337 406) (sl 337 406)) s m args below meth c Q (cs 337 343) (sl 337 343) 163 [(0, 2, 337)] [] 343 336 M := by
  refine b_aload_n (q := 0) hC dX12_init_163 rfl rfl ?_
  refine b_iconst hC dX12_init_164 ⟨by decide, by decide⟩ ?_
  refine c_newa (b := 4) (n' := 344) (v := 5) hC rfl (pl := 3) rfl rfl id dX12_init_165 (List.mem_of_getElem? (i := 1644) (by decide +kernel)) (dk := 54) kd_344 rfl ⟨by decide, by decide⟩ ln_344 ⟨by decide, by decide⟩ (by decide) (by decide) rfl ⟨by decide, by decide, by decide, by decide⟩ ?_
  refine b_dup hC dX12_init_167 (by decide) ?_
  refine b_iconst hC dX12_init_168 ⟨by decide, by decide⟩ ?_
  refine b_bipush hC dX12_init_169 (by decide) ⟨by decide, by decide⟩ ?_
  refine b_cast (d := 54) hC dX12_init_171 kd_344 rfl rfl (by decide) (by rw [ln_344]; decide) ⟨by decide, by decide⟩ (Or.inr (by decide)) ?_
  refine b_dup hC dX12_init_172 (by decide) ?_
  refine b_iconst hC dX12_init_173 ⟨by decide, by decide⟩ ?_
  refine b_bipush hC dX12_init_174 (by decide) ⟨by decide, by decide⟩ ?_
  refine b_cast (d := 54) hC dX12_init_176 kd_344 rfl rfl (by decide) (by rw [ln_344]; decide) ⟨by decide, by decide⟩ (Or.inr (by decide)) ?_
  refine b_dup hC dX12_init_177 (by decide) ?_
  refine b_iconst hC dX12_init_178 ⟨by decide, by decide⟩ ?_
  refine b_bipush hC dX12_init_179 (by decide) ⟨by decide, by decide⟩ ?_
  refine b_cast (d := 54) hC dX12_init_181 kd_344 rfl rfl (by decide) (by rw [ln_344]; decide) ⟨by decide, by decide⟩ (Or.inr (by decide)) ?_
  refine b_dup hC dX12_init_182 (by decide) ?_
  refine b_iconst hC dX12_init_183 ⟨by decide, by decide⟩ ?_
  refine b_bipush hC dX12_init_184 (by decide) ⟨by decide, by decide⟩ ?_
  refine b_cast (d := 54) hC dX12_init_186 kd_344 rfl rfl (by decide) (by rw [ln_344]; decide) ⟨by decide, by decide⟩ (Or.inr (by decide)) ?_
  refine b_dup hC dX12_init_187 (by decide) ?_
  refine b_iconst hC dX12_init_188 ⟨by decide, by decide⟩ ?_
  refine b_bipush hC dX12_init_189 (by decide) ⟨by decide, by decide⟩ ?_
  refine b_cast (d := 54) hC dX12_init_191 kd_344 rfl rfl (by decide) (by rw [ln_344]; decide) ⟨by decide, by decide⟩ (Or.inr (by decide)) ?_
  refine b_pf (t := 2) hC dX12_init_192 kI_X12_33 kd_337 rfl (by decide) rfl (fun h => absurd h (by decide)) (Or.inr (by decide)) (fun C T N h => by cases h; exact Or.inr ⟨hname, rfl, List.mem_of_getElem? (i := 1369) (by decide +kernel)⟩) ?_
  exact kk
def mL8 : List (Int × Int × Int) := [(345, 0, 108), (345, 1, 105), (345, 2, 110), (345, 3, 101), (337, 15, 345)]
theorem km_8 {g : GT} {p : Program} {e : Env} {s : State} {m : MethodId} {args : Array Value} {below : List Frame} {meth : Method} {c : Code} {Q : State → Prop} {M : Mem} (hC : Cx g p s m meth c RX12 cX12_init 1) (hname : meth.name = "<init>") (kk : BW g p e (rmOf 1 (cs 337 406) (sl 337 406)) s m args below meth c Q (cs 337 345) (sl 337 345) 222 [(0, 2, 337)] [] 345 336 (stL M mL8)) : BW g p e (rmOf 1 (cs 337 406) (sl 337 406)) s m args below meth c Q (cs 337 344) (sl 337 344) 195 [(0, 2, 337)] [] 344 336 M := by
  refine b_aload_n (q := 0) hC dX12_init_195 rfl rfl ?_
  refine b_iconst hC dX12_init_196 ⟨by decide, by decide⟩ ?_
  refine c_newa (b := 4) (n' := 345) (v := 4) hC rfl (pl := 3) rfl rfl id dX12_init_197 (List.mem_of_getElem? (i := 1644) (by decide +kernel)) (dk := 54) kd_345 rfl ⟨by decide, by decide⟩ ln_345 ⟨by decide, by decide⟩ (by decide) (by decide) rfl ⟨by decide, by decide, by decide, by decide⟩ ?_
  refine b_dup hC dX12_init_199 (by decide) ?_
  refine b_iconst hC dX12_init_200 ⟨by decide, by decide⟩ ?_
  refine b_bipush hC dX12_init_201 (by decide) ⟨by decide, by decide⟩ ?_
  refine b_cast (d := 54) hC dX12_init_203 kd_345 rfl rfl (by decide) (by rw [ln_345]; decide) ⟨by decide, by decide⟩ (Or.inr (by decide)) ?_
  refine b_dup hC dX12_init_204 (by decide) ?_
  refine b_iconst hC dX12_init_205 ⟨by decide, by decide⟩ ?_
  refine b_bipush hC dX12_init_206 (by decide) ⟨by decide, by decide⟩ ?_
  refine b_cast (d := 54) hC dX12_init_208 kd_345 rfl rfl (by decide) (by rw [ln_345]; decide) ⟨by decide, by decide⟩ (Or.inr (by decide)) ?_
  refine b_dup hC dX12_init_209 (by decide) ?_
  refine b_iconst hC dX12_init_210 ⟨by decide, by decide⟩ ?_
  refine b_bipush hC dX12_init_211 (by decide) ⟨by decide, by decide⟩ ?_
  refine b_cast (d := 54) hC dX12_init_213 kd_345 rfl rfl (by decide) (by rw [ln_345]; decide) ⟨by decide, by decide⟩ (Or.inr (by decide)) ?_
  refine b_dup hC dX12_init_214 (by decide) ?_
  refine b_iconst hC dX12_init_215 ⟨by decide, by decide⟩ ?_
  refine b_bipush hC dX12_init_216 (by decide) ⟨by decide, by decide⟩ ?_
  refine b_cast (d := 54) hC dX12_init_218 kd_345 rfl rfl (by decide) (by rw [ln_345]; decide) ⟨by decide, by decide⟩ (Or.inr (by decide)) ?_
  refine b_pf (t := 2) hC dX12_init_219 kI_X12_36 kd_337 rfl (by decide) rfl (fun h => absurd h (by decide)) (Or.inr (by decide)) (fun C T N h => by cases h; exact Or.inr ⟨hname, rfl, List.mem_of_getElem? (i := 1370) (by decide +kernel)⟩) ?_
  exact kk
def mL9 : List (Int × Int × Int) := [(346, 0, 115), (346, 1, 104), (346, 2, 111), (346, 3, 119), (337, 16, 346)]
theorem km_9 {g : GT} {p : Program} {e : Env} {s : State} {m : MethodId} {args : Array Value} {below : List Frame} {meth : Method} {c : Code} {Q : State → Prop} {M : Mem} (hC : Cx g p s m meth c RX12 cX12_init 1) (hname : meth.name = "<init>") (kk : BW g p e (rmOf 1 (cs 337 406) (sl 337 406)) s m args below meth c Q (cs 337 346) (sl 337 346) 249 [(0, 2, 337)] [] 346 336 (stL M mL9)) : BW g p e (rmOf 1 (cs 337 406) (sl 337 406)) s m args below meth c Q (cs 337 345) (sl 337 345) 222 [(0, 2, 337)] [] 345 336 M := by
  refine b_aload_n (q := 0) hC dX12_init_222 rfl rfl ?_
  refine b_iconst hC dX12_init_223 ⟨by decide, by decide⟩ ?_
  refine c_newa (b := 4) (n' := 346) (v := 4) hC rfl (pl := 3) rfl rfl id dX12_init_224 (List.mem_of_getElem? (i := 1644) (by decide +kernel)) (dk := 54) kd_346 rfl ⟨by decide, by decide⟩ ln_346 ⟨by decide, by decide⟩ (by decide) (by decide) rfl ⟨by decide, by decide, by decide, by decide⟩ ?_
  refine b_dup hC dX12_init_226 (by decide) ?_
  refine b_iconst hC dX12_init_227 ⟨by decide, by decide⟩ ?_
  refine b_bipush hC dX12_init_228 (by decide) ⟨by decide, by decide⟩ ?_
  refine b_cast (d := 54) hC dX12_init_230 kd_346 rfl rfl (by decide) (by rw [ln_346]; decide) ⟨by decide, by decide⟩ (Or.inr (by decide)) ?_
  refine b_dup hC dX12_init_231 (by decide) ?_
  refine b_iconst hC dX12_init_232 ⟨by decide, by decide⟩ ?_
  refine b_bipush hC dX12_init_233 (by decide) ⟨by decide, by decide⟩ ?_
  refine b_cast (d := 54) hC dX12_init_235 kd_346 rfl rfl (by decide) (by rw [ln_346]; decide) ⟨by decide, by decide⟩ (Or.inr (by decide)) ?_
  refine b_dup hC dX12_init_236 (by decide) ?_
  refine b_iconst hC dX12_init_237 ⟨by decide, by decide⟩ ?_
  refine b_bipush hC dX12_init_238 (by decide) ⟨by decide, by decide⟩ ?_
  refine b_cast (d := 54) hC dX12_init_240 kd_346 rfl rfl (by decide) (by rw [ln_346]; decide) ⟨by decide, by decide⟩ (Or.inr (by decide)) ?_
  refine b_dup hC dX12_init_241 (by decide) ?_
  refine b_iconst hC dX12_init_242 ⟨by decide, by decide⟩ ?_
  refine b_bipush hC dX12_init_243 (by decide) ⟨by decide, by decide⟩ ?_
  refine b_cast (d := 54) hC dX12_init_245 kd_346 rfl rfl (by decide) (by rw [ln_346]; decide) ⟨by decide, by decide⟩ (Or.inr (by decide)) ?_
  refine b_pf (t := 2) hC dX12_init_246 kI_X12_39 kd_337 rfl (by decide) rfl (fun h => absurd h (by decide)) (Or.inr (by decide)) (fun C T N h => by cases h; exact Or.inr ⟨hname, rfl, List.mem_of_getElem? (i := 1371) (by decide +kernel)⟩) ?_
  exact kk
def mL10 : List (Int × Int × Int) := [(347, 0, 116), (347, 1, 105), (347, 2, 109), (347, 3, 101), (347, 4, 115), (337, 17, 347)]
theorem km_10 {g : GT} {p : Program} {e : Env} {s : State} {m : MethodId} {args : Array Value} {below : List Frame} {meth : Method} {c : Code} {Q : State → Prop} {M : Mem} (hC : Cx g p s m meth c RX12 cX12_init 1) (hname : meth.name = "<init>") (kk : BW g p e (rmOf 1 (cs 337 406) (sl 337 406)) s m args below meth c Q (cs 337 347) (sl 337 347) 281 [(0, 2, 337)] [] 347 336 (stL M mL10)) : BW g p e (rmOf 1 (cs 337 406) (sl 337 406)) s m args below meth c Q (cs 337 346) (sl 337 346) 249 [(0, 2, 337)] [] 346 336 M := by
  refine b_aload_n (q := 0) hC dX12_init_249 rfl rfl ?_
  refine b_iconst hC dX12_init_250 ⟨by decide, by decide⟩ ?_
  refine c_newa (b := 4) (n' := 347) (v := 5) hC rfl (pl := 3) rfl rfl id dX12_init_251 (List.mem_of_getElem? (i := 1644) (by decide +kernel)) (dk := 54) kd_347 rfl ⟨by decide, by decide⟩ ln_347 ⟨by decide, by decide⟩ (by decide) (by decide) rfl ⟨by decide, by decide, by decide, by decide⟩ ?_
  refine b_dup hC dX12_init_253 (by decide) ?_
  refine b_iconst hC dX12_init_254 ⟨by decide, by decide⟩ ?_
  refine b_bipush hC dX12_init_255 (by decide) ⟨by decide, by decide⟩ ?_
  refine b_cast (d := 54) hC dX12_init_257 kd_347 rfl rfl (by decide) (by rw [ln_347]; decide) ⟨by decide, by decide⟩ (Or.inr (by decide)) ?_
  refine b_dup hC dX12_init_258 (by decide) ?_
  refine b_iconst hC dX12_init_259 ⟨by decide, by decide⟩ ?_
  refine b_bipush hC dX12_init_260 (by decide) ⟨by decide, by decide⟩ ?_
  refine b_cast (d := 54) hC dX12_init_262 kd_347 rfl rfl (by decide) (by rw [ln_347]; decide) ⟨by decide, by decide⟩ (Or.inr (by decide)) ?_
  refine b_dup hC dX12_init_263 (by decide) ?_
  refine b_iconst hC dX12_init_264 ⟨by decide, by decide⟩ ?_
  refine b_bipush hC dX12_init_265 (by decide) ⟨by decide, by decide⟩ ?_
  refine b_cast (d := 54) hC dX12_init_267 kd_347 rfl rfl (by decide) (by rw [ln_347]; decide) ⟨by decide, by decide⟩ (Or.inr (by decide)) ?_
  refine b_dup hC dX12_init_268 (by decide) ?_
  refine b_iconst hC dX12_init_269 ⟨by decide, by decide⟩ ?_
  refine b_bipush hC dX12_init_270 (by decide) ⟨by decide, by decide⟩ ?_
  refine b_cast (d := 54) hC dX12_init_272 kd_347 rfl rfl (by decide) (by rw [ln_347]; decide) ⟨by decide, by decide⟩ (Or.inr (by decide)) ?_
  refine b_dup hC dX12_init_273 (by decide) ?_
  refine b_iconst hC dX12_init_274 ⟨by decide, by decide⟩ ?_
  refine b_bipush hC dX12_init_275 (by decide) ⟨by decide, by decide⟩ ?_
  refine b_cast (d := 54) hC dX12_init_277 kd_347 rfl rfl (by decide) (by rw [ln_347]; decide) ⟨by decide, by decide⟩ (Or.inr (by decide)) ?_
  refine b_pf (t := 2) hC dX12_init_278 kI_X12_42 kd_337 rfl (by decide) rfl (fun h => absurd h (by decide)) (Or.inr (by decide)) (fun C T N h => by cases h; exact Or.inr ⟨hname, rfl, List.mem_of_getElem? (i := 1372) (by decide +kernel)⟩) ?_
  exact kk
def mL11 : List (Int × Int × Int) := [(348, 0, 119), (348, 1, 104), (348, 2, 101), (348, 3, 110), (337, 18, 348)]
theorem km_11 {g : GT} {p : Program} {e : Env} {s : State} {m : MethodId} {args : Array Value} {below : List Frame} {meth : Method} {c : Code} {Q : State → Prop} {M : Mem} (hC : Cx g p s m meth c RX12 cX12_init 1) (hname : meth.name = "<init>") (kk : BW g p e (rmOf 1 (cs 337 406) (sl 337 406)) s m args below meth c Q (cs 337 348) (sl 337 348) 308 [(0, 2, 337)] [] 348 336 (stL M mL11)) : BW g p e (rmOf 1 (cs 337 406) (sl 337 406)) s m args below meth c Q (cs 337 347) (sl 337 347) 281 [(0, 2, 337)] [] 347 336 M := by
  refine b_aload_n (q := 0) hC dX12_init_281 rfl rfl ?_
  refine b_iconst hC dX12_init_282 ⟨by decide, by decide⟩ ?_
  refine c_newa (b := 4) (n' := 348) (v := 4) hC rfl (pl := 3) rfl rfl id dX12_init_283 (List.mem_of_getElem? (i := 1644) (by decide +kernel)) (dk := 54) kd_348 rfl ⟨by decide, by decide⟩ ln_348 ⟨by decide, by decide⟩ (by decide) (by decide) rfl ⟨by decide, by decide, by decide, by decide⟩ ?_
  refine b_dup hC dX12_init_285 (by decide) ?_
  refine b_iconst hC dX12_init_286 ⟨by decide, by decide⟩ ?_
  refine b_bipush hC dX12_init_287 (by decide) ⟨by decide, by decide⟩ ?_
  refine b_cast (d := 54) hC dX12_init_289 kd_348 rfl rfl (by decide) (by rw [ln_348]; decide) ⟨by decide, by decide⟩ (Or.inr (by decide)) ?_
  refine b_dup hC dX12_init_290 (by decide) ?_
  refine b_iconst hC dX12_init_291 ⟨by decide, by decide⟩ ?_
  refine b_bipush hC dX12_init_292 (by decide) ⟨by decide, by decide⟩ ?_
  refine b_cast (d := 54) hC dX12_init_294 kd_348 rfl rfl (by decide) (by rw [ln_348]; decide) ⟨by decide, by decide⟩ (Or.inr (by decide)) ?_
  refine b_dup hC dX12_init_295 (by decide) ?_
  refine b_iconst hC dX12_init_296 ⟨by decide, by decide⟩ ?_
  refine b_bipush hC dX12_init_297 (by decide) ⟨by decide, by decide⟩ ?_
  refine b_cast (d := 54) hC dX12_init_299 kd_348 rfl rfl (by decide) (by rw [ln_348]; decide) ⟨by decide, by decide⟩ (Or.inr (by decide)) ?_
  refine b_dup hC dX12_init_300 (by decide) ?_
  refine b_iconst hC dX12_init_301 ⟨by decide, by decide⟩ ?_
  refine b_bipush hC dX12_init_302 (by decide) ⟨by decide, by decide⟩ ?_
  refine b_cast (d := 54) hC dX12_init_304 kd_348 rfl rfl (by decide) (by rw [ln_348]; decide) ⟨by decide, by decide⟩ (Or.inr (by decide)) ?_
  refine b_pf (t := 2) hC dX12_init_305 kI_X12_45 kd_337 rfl (by decide) rfl (fun h => absurd h (by decide)) (Or.inr (by decide)) (fun C T N h => by cases h; exact Or.inr ⟨hname, rfl, List.mem_of_getElem? (i := 1373) (by decide +kernel)⟩) ?_
  exact kk
def mL12 : List (Int × Int × Int) := [(349, 0, 111), (349, 1, 114), (337, 19, 349)]
theorem km_12 {g : GT} {p : Program} {e : Env} {s : State} {m : MethodId} {args : Array Value} {below : List Frame} {meth : Method} {c : Code} {Q : State → Prop} {M : Mem} (hC : Cx g p s m meth c RX12 cX12_init 1) (hname : meth.name = "<init>") (kk : BW g p e (rmOf 1 (cs 337 406) (sl 337 406)) s m args below meth c Q (cs 337 349) (sl 337 349) 325 [(0, 2, 337)] [] 349 336 (stL M mL12)) : BW g p e (rmOf 1 (cs 337 406) (sl 337 406)) s m args below meth c Q (cs 337 348) (sl 337 348) 308 [(0, 2, 337)] [] 348 336 M := by
  refine b_aload_n (q := 0) hC dX12_init_308 rfl rfl ?_
  refine b_iconst hC dX12_init_309 ⟨by decide, by decide⟩ ?_
  refine c_newa (b := 4) (n' := 349) (v := 2) hC rfl (pl := 3) rfl rfl id dX12_init_310 (List.mem_of_getElem? (i := 1644) (by decide +kernel)) (dk := 54) kd_349 rfl ⟨by decide, by decide⟩ ln_349 ⟨by decide, by decide⟩ (by decide) (by decide) rfl ⟨by decide, by decide, by decide, by decide⟩ ?_
  refine b_dup hC dX12_init_312 (by decide) ?_
  refine b_iconst hC dX12_init_313 ⟨by decide, by decide⟩ ?_
  refine b_bipush hC dX12_init_314 (by decide) ⟨by decide, by decide⟩ ?_
  refine b_cast (d := 54) hC dX12_init_316 kd_349 rfl rfl (by decide) (by rw [ln_349]; decide) ⟨by decide, by decide⟩ (Or.inr (by decide)) ?_
  refine b_dup hC dX12_init_317 (by decide) ?_
  refine b_iconst hC dX12_init_318 ⟨by decide, by decide⟩ ?_
  refine b_bipush hC dX12_init_319 (by decide) ⟨by decide, by decide⟩ ?_
  refine b_cast (d := 54) hC dX12_init_321 kd_349 rfl rfl (by decide) (by rw [ln_349]; decide) ⟨by decide, by decide⟩ (Or.inr (by decide)) ?_
  refine b_pf (t := 2) hC dX12_init_322 kI_X12_48 kd_337 rfl (by decide) rfl (fun h => absurd h (by decide)) (Or.inr (by decide)) (fun C T N h => by cases h; exact Or.inr ⟨hname, rfl, List.mem_of_getElem? (i := 1374) (by decide +kernel)⟩) ?_
  exact kk
def mL13 : List (Int × Int × Int) := [(350, 0, 97), (350, 1, 110), (350, 2, 100), (337, 20, 350)]
theorem km_13 {g : GT} {p : Program} {e : Env} {s : State} {m : MethodId} {args : Array Value} {below : List Frame} {meth : Method} {c : Code} {Q : State → Prop} {M : Mem} (hC : Cx g p s m meth c RX12 cX12_init 1) (hname : meth.name = "<init>") (kk : BW g p e (rmOf 1 (cs 337 406) (sl 337 406)) s m args below meth c Q (cs 337 350) (sl 337 350) 347 [(0, 2, 337)] [] 350 336 (stL M mL13)) : BW g p e (rmOf 1 (cs 337 406) (sl 337 406)) s m args below meth c Q (cs 337 349) (sl 337 349) 325 [(0, 2, 337)] [] 349 336 M := by
  refine b_aload_n (q := 0) hC dX12_init_325 rfl rfl ?_
  refine b_iconst hC dX12_init_326 ⟨by decide, by decide⟩ ?_
  refine c_newa (b := 4) (n' := 350) (v := 3) hC rfl (pl := 3) rfl rfl id dX12_init_327 (List.mem_of_getElem? (i := 1644) (by decide +kernel)) (dk := 54) kd_350 rfl ⟨by decide, by decide⟩ ln_350 ⟨by decide, by decide⟩ (by decide) (by decide) rfl ⟨by decide, by decide, by decide, by decide⟩ ?_
  refine b_dup hC dX12_init_329 (by decide) ?_
  refine b_iconst hC dX12_init_330 ⟨by decide, by decide⟩ ?_
  refine b_bipush hC dX12_init_331 (by decide) ⟨by decide, by decide⟩ ?_
  refine b_cast (d := 54) hC dX12_init_333 kd_350 rfl rfl (by decide) (by rw [ln_350]; decide) ⟨by decide, by decide⟩ (Or.inr (by decide)) ?_
  refine b_dup hC dX12_init_334 (by decide) ?_
  refine b_iconst hC dX12_init_335 ⟨by decide, by decide⟩ ?_
  refine b_bipush hC dX12_init_336 (by decide) ⟨by decide, by decide⟩ ?_
  refine b_cast (d := 54) hC dX12_init_338 kd_350 rfl rfl (by decide) (by rw [ln_350]; decide) ⟨by decide, by decide⟩ (Or.inr (by decide)) ?_
  refine b_dup hC dX12_init_339 (by decide) ?_
  refine b_iconst hC dX12_init_340 ⟨by decide, by decide⟩ ?_
  refine b_bipush hC dX12_init_341 (by decide) ⟨by decide, by decide⟩ ?_
  refine b_cast (d := 54) hC dX12_init_343 kd_350 rfl rfl (by decide) (by rw [ln_350]; decide) ⟨by decide, by decide⟩ (Or.inr (by decide)) ?_
  refine b_pf (t := 2) hC dX12_init_344 kI_X12_51 kd_337 rfl (by decide) rfl (fun h => absurd h (by decide)) (Or.inr (by decide)) (fun C T N h => by cases h; exact Or.inr ⟨hname, rfl, List.mem_of_getElem? (i := 1375) (by decide +kernel)⟩) ?_
  exact kk
def mL14 : List (Int × Int × Int) := [(351, 0, 110), (351, 1, 111), (351, 2, 116), (337, 21, 351)]
theorem km_14 {g : GT} {p : Program} {e : Env} {s : State} {m : MethodId} {args : Array Value} {below : List Frame} {meth : Method} {c : Code} {Q : State → Prop} {M : Mem} (hC : Cx g p s m meth c RX12 cX12_init 1) (hname : meth.name = "<init>") (kk : BW g p e (rmOf 1 (cs 337 406) (sl 337 406)) s m args below meth c Q (cs 337 351) (sl 337 351) 369 [(0, 2, 337)] [] 351 336 (stL M mL14)) : BW g p e (rmOf 1 (cs 337 406) (sl 337 406)) s m args below meth c Q (cs 337 350) (sl 337 350) 347 [(0, 2, 337)] [] 350 336 M := by
  refine b_aload_n (q := 0) hC dX12_init_347 rfl rfl ?_
  refine b_iconst hC dX12_init_348 ⟨by decide, by decide⟩ ?_
  refine c_newa (b := 4) (n' := 351) (v := 3) hC rfl (pl := 3) rfl rfl id dX12_init_349 (List.mem_of_getElem? (i := 1644) (by decide +kernel)) (dk := 54) kd_351 rfl ⟨by decide, by decide⟩ ln_351 ⟨by decide, by decide⟩ (by decide) (by decide) rfl ⟨by decide, by decide, by decide, by decide⟩ ?_
  refine b_dup hC dX12_init_351 (by decide) ?_
  refine b_iconst hC dX12_init_352 ⟨by decide, by decide⟩ ?_
  refine b_bipush hC dX12_init_353 (by decide) ⟨by decide, by decide⟩ ?_
  refine b_cast (d := 54) hC dX12_init_355 kd_351 rfl rfl (by decide) (by rw [ln_351]; decide) ⟨by decide, by decide⟩ (Or.inr (by decide)) ?_
  refine b_dup hC dX12_init_356 (by decide) ?_
  refine b_iconst hC dX12_init_357 ⟨by decide, by decide⟩ ?_
  refine b_bipush hC dX12_init_358 (by decide) ⟨by decide, by decide⟩ ?_
  refine b_cast (d := 54) hC dX12_init_360 kd_351 rfl rfl (by decide) (by rw [ln_351]; decide) ⟨by decide, by decide⟩ (Or.inr (by decide)) ?_
  refine b_dup hC dX12_init_361 (by decide) ?_
  refine b_iconst hC dX12_init_362 ⟨by decide, by decide⟩ ?_
  refine b_bipush hC dX12_init_363 (by decide) ⟨by decide, by decide⟩ ?_
  refine b_cast (d := 54) hC dX12_init_365 kd_351 rfl rfl (by decide) (by rw [ln_351]; decide) ⟨by decide, by decide⟩ (Or.inr (by decide)) ?_
  refine b_pf (t := 2) hC dX12_init_366 kI_X12_54 kd_337 rfl (by decide) rfl (fun h => absurd h (by decide)) (Or.inr (by decide)) (fun C T N h => by cases h; exact Or.inr ⟨hname, rfl, List.mem_of_getElem? (i := 1376) (by decide +kernel)⟩) ?_
  exact kk
def mL15 : List (Int × Int × Int) := [(352, 0, 97), (352, 1, 108), (352, 2, 108), (337, 22, 352)]
theorem km_15 {g : GT} {p : Program} {e : Env} {s : State} {m : MethodId} {args : Array Value} {below : List Frame} {meth : Method} {c : Code} {Q : State → Prop} {M : Mem} (hC : Cx g p s m meth c RX12 cX12_init 1) (hname : meth.name = "<init>") (kk : BW g p e (rmOf 1 (cs 337 406) (sl 337 406)) s m args below meth c Q (cs 337 352) (sl 337 352) 391 [(0, 2, 337)] [] 352 336 (stL M mL15)) : BW g p e (rmOf 1 (cs 337 406) (sl 337 406)) s m args below meth c Q (cs 337 351) (sl 337 351) 369 [(0, 2, 337)] [] 351 336 M := by
  refine b_aload_n (q := 0) hC dX12_init_369 rfl rfl ?_
  refine b_iconst hC dX12_init_370 ⟨by decide, by decide⟩ ?_
  refine c_newa (b := 4) (n' := 352) (v := 3) hC rfl (pl := 3) rfl rfl id dX12_init_371 (List.mem_of_getElem? (i := 1644) (by decide +kernel)) (dk := 54) kd_352 rfl ⟨by decide, by decide⟩ ln_352 ⟨by decide, by decide⟩ (by decide) (by decide) rfl ⟨by decide, by decide, by decide, by decide⟩ ?_
  refine b_dup hC dX12_init_373 (by decide) ?_
  refine b_iconst hC dX12_init_374 ⟨by decide, by decide⟩ ?_
  refine b_bipush hC dX12_init_375 (by decide) ⟨by decide, by decide⟩ ?_
  refine b_cast (d := 54) hC dX12_init_377 kd_352 rfl rfl (by decide) (by rw [ln_352]; decide) ⟨by decide, by decide⟩ (Or.inr (by decide)) ?_
  refine b_dup hC dX12_init_378 (by decide) ?_
  refine b_iconst hC dX12_init_379 ⟨by decide, by decide⟩ ?_
  refine b_bipush hC dX12_init_380 (by decide) ⟨by decide, by decide⟩ ?_
  refine b_cast (d := 54) hC dX12_init_382 kd_352 rfl rfl (by decide) (by rw [ln_352]; decide) ⟨by decide, by decide⟩ (Or.inr (by decide)) ?_
  refine b_dup hC dX12_init_383 (by decide) ?_
  refine b_iconst hC dX12_init_384 ⟨by decide, by decide⟩ ?_
  refine b_bipush hC dX12_init_385 (by decide) ⟨by decide, by decide⟩ ?_
  refine b_cast (d := 54) hC dX12_init_387 kd_352 rfl rfl (by decide) (by rw [ln_352]; decide) ⟨by decide, by decide⟩ (Or.inr (by decide)) ?_
  refine b_pf (t := 2) hC dX12_init_388 kI_X12_57 kd_337 rfl (by decide) rfl (fun h => absurd h (by decide)) (Or.inr (by decide)) (fun C T N h => by cases h; exact Or.inr ⟨hname, rfl, List.mem_of_getElem? (i := 1377) (by decide +kernel)⟩) ?_
  exact kk
def mL16 : List (Int × Int × Int) := [(353, 0, 99), (353, 1, 111), (353, 2, 108), (353, 3, 117), (353, 4, 109), (353, 5, 110), (337, 23, 353)]
theorem km_16 {g : GT} {p : Program} {e : Env} {s : State} {m : MethodId} {args : Array Value} {below : List Frame} {meth : Method} {c : Code} {Q : State → Prop} {M : Mem} (hC : Cx g p s m meth c RX12 cX12_init 1) (hname : meth.name = "<init>") (kk : BW g p e (rmOf 1 (cs 337 406) (sl 337 406)) s m args below meth c Q (cs 337 353) (sl 337 353) 429 [(0, 2, 337)] [] 353 336 (stL M mL16)) : BW g p e (rmOf 1 (cs 337 406) (sl 337 406)) s m args below meth c Q (cs 337 352) (sl 337 352) 391 [(0, 2, 337)] [] 352 336 M := by
  refine b_aload_n (q := 0) hC dX12_init_391 rfl rfl ?_
  refine b_bipush hC dX12_init_392 (by decide) ⟨by decide, by decide⟩ ?_
  refine c_newa (b := 4) (n' := 353) (v := 6) hC rfl (pl := 3) rfl rfl id dX12_init_394 (List.mem_of_getElem? (i := 1644) (by decide +kernel)) (dk := 54) kd_353 rfl ⟨by decide, by decide⟩ ln_353 ⟨by decide, by decide⟩ (by decide) (by decide) rfl ⟨by decide, by decide, by decide, by decide⟩ ?_
  refine b_dup hC dX12_init_396 (by decide) ?_
  refine b_iconst hC dX12_init_397 ⟨by decide, by decide⟩ ?_
  refine b_bipush hC dX12_init_398 (by decide) ⟨by decide, by decide⟩ ?_
  refine b_cast (d := 54) hC dX12_init_400 kd_353 rfl rfl (by decide) (by rw [ln_353]; decide) ⟨by decide, by decide⟩ (Or.inr (by decide)) ?_
  refine b_dup hC dX12_init_401 (by decide) ?_
  refine b_iconst hC dX12_init_402 ⟨by decide, by decide⟩ ?_
  refine b_bipush hC dX12_init_403 (by decide) ⟨by decide, by decide⟩ ?_
  refine b_cast (d := 54) hC dX12_init_405 kd_353 rfl rfl (by decide) (by rw [ln_353]; decide) ⟨by decide, by decide⟩ (Or.inr (by decide)) ?_
  refine b_dup hC dX12_init_406 (by decide) ?_
  refine b_iconst hC dX12_init_407 ⟨by decide, by decide⟩ ?_
  refine b_bipush hC dX12_init_408 (by decide) ⟨by decide, by decide⟩ ?_
  refine b_cast (d := 54) hC dX12_init_410 kd_353 rfl rfl (by decide) (by rw [ln_353]; decide) ⟨by decide, by decide⟩ (Or.inr (by decide)) ?_
  refine b_dup hC dX12_init_411 (by decide) ?_
  refine b_iconst hC dX12_init_412 ⟨by decide, by decide⟩ ?_
  refine b_bipush hC dX12_init_413 (by decide) ⟨by decide, by decide⟩ ?_
  refine b_cast (d := 54) hC dX12_init_415 kd_353 rfl rfl (by decide) (by rw [ln_353]; decide) ⟨by decide, by decide⟩ (Or.inr (by decide)) ?_
  refine b_dup hC dX12_init_416 (by decide) ?_
  refine b_iconst hC dX12_init_417 ⟨by decide, by decide⟩ ?_
  refine b_bipush hC dX12_init_418 (by decide) ⟨by decide, by decide⟩ ?_
  refine b_cast (d := 54) hC dX12_init_420 kd_353 rfl rfl (by decide) (by rw [ln_353]; decide) ⟨by decide, by decide⟩ (Or.inr (by decide)) ?_
  refine b_dup hC dX12_init_421 (by decide) ?_
  refine b_iconst hC dX12_init_422 ⟨by decide, by decide⟩ ?_
  refine b_bipush hC dX12_init_423 (by decide) ⟨by decide, by decide⟩ ?_
  refine b_cast (d := 54) hC dX12_init_425 kd_353 rfl rfl (by decide) (by rw [ln_353]; decide) ⟨by decide, by decide⟩ (Or.inr (by decide)) ?_
  refine b_pf (t := 2) hC dX12_init_426 kI_X12_60 kd_337 rfl (by decide) rfl (fun h => absurd h (by decide)) (Or.inr (by decide)) (fun C T N h => by cases h; exact Or.inr ⟨hname, rfl, List.mem_of_getElem? (i := 1378) (by decide +kernel)⟩) ?_
  exact kk
def mL17 : List (Int × Int × Int) := [(354, 0, 114), (354, 1, 111), (354, 2, 119), (337, 24, 354)]
theorem km_17 {g : GT} {p : Program} {e : Env} {s : State} {m : MethodId} {args : Array Value} {below : List Frame} {meth : Method} {c : Code} {Q : State → Prop} {M : Mem} (hC : Cx g p s m meth c RX12 cX12_init 1) (hname : meth.name = "<init>") (kk : BW g p e (rmOf 1 (cs 337 406) (sl 337 406)) s m args below meth c Q (cs 337 354) (sl 337 354) 451 [(0, 2, 337)] [] 354 336 (stL M mL17)) : BW g p e (rmOf 1 (cs 337 406) (sl 337 406)) s m args below meth c Q (cs 337 353) (sl 337 353) 429 [(0, 2, 337)] [] 353 336 M := by
  refine b_aload_n (q := 0) hC dX12_init_429 rfl rfl ?_
  refine b_iconst hC dX12_init_430 ⟨by decide, by decide⟩ ?_
  refine c_newa (b := 4) (n' := 354) (v := 3) hC rfl (pl := 3) rfl rfl id dX12_init_431 (List.mem_of_getElem? (i := 1644) (by decide +kernel)) (dk := 54) kd_354 rfl ⟨by decide, by decide⟩ ln_354 ⟨by decide, by decide⟩ (by decide) (by decide) rfl ⟨by decide, by decide, by decide, by decide⟩ ?_
  refine b_dup hC dX12_init_433 (by decide) ?_
  refine b_iconst hC dX12_init_434 ⟨by decide, by decide⟩ ?_
  refine b_bipush hC dX12_init_435 (by decide) ⟨by decide, by decide⟩ ?_
  refine b_cast (d := 54) hC dX12_init_437 kd_354 rfl rfl (by decide) (by rw [ln_354]; decide) ⟨by decide, by decide⟩ (Or.inr (by decide)) ?_
  refine b_dup hC dX12_init_438 (by decide) ?_
  refine b_iconst hC dX12_init_439 ⟨by decide, by decide⟩ ?_
  refine b_bipush hC dX12_init_440 (by decide) ⟨by decide, by decide⟩ ?_
  refine b_cast (d := 54) hC dX12_init_442 kd_354 rfl rfl (by decide) (by rw [ln_354]; decide) ⟨by decide, by decide⟩ (Or.inr (by decide)) ?_
  refine b_dup hC dX12_init_443 (by decide) ?_
  refine b_iconst hC dX12_init_444 ⟨by decide, by decide⟩ ?_
  refine b_bipush hC dX12_init_445 (by decide) ⟨by decide, by decide⟩ ?_
  refine b_cast (d := 54) hC dX12_init_447 kd_354 rfl rfl (by decide) (by rw [ln_354]; decide) ⟨by decide, by decide⟩ (Or.inr (by decide)) ?_
  refine b_pf (t := 2) hC dX12_init_448 kI_X12_63 kd_337 rfl (by decide) rfl (fun h => absurd h (by decide)) (Or.inr (by decide)) (fun C T N h => by cases h; exact Or.inr ⟨hname, rfl, List.mem_of_getElem? (i := 1379) (by decide +kernel)⟩) ?_
  exact kk
def mL18 : List (Int × Int × Int) := [(355, 0, 98), (355, 1, 114), (355, 2, 105), (355, 3, 103), (355, 4, 104), (355, 5, 116), (337, 25, 355)]
theorem km_18 {g : GT} {p : Program} {e : Env} {s : State} {m : MethodId} {args : Array Value} {below : List Frame} {meth : Method} {c : Code} {Q : State → Prop} {M : Mem} (hC : Cx g p s m meth c RX12 cX12_init 1) (hname : meth.name = "<init>") (kk : BW g p e (rmOf 1 (cs 337 406) (sl 337 406)) s m args below meth c Q (cs 337 355) (sl 337 355) 489 [(0, 2, 337)] [] 355 336 (stL M mL18)) : BW g p e (rmOf 1 (cs 337 406) (sl 337 406)) s m args below meth c Q (cs 337 354) (sl 337 354) 451 [(0, 2, 337)] [] 354 336 M := by
  refine b_aload_n (q := 0) hC dX12_init_451 rfl rfl ?_
  refine b_bipush hC dX12_init_452 (by decide) ⟨by decide, by decide⟩ ?_
  refine c_newa (b := 4) (n' := 355) (v := 6) hC rfl (pl := 3) rfl rfl id dX12_init_454 (List.mem_of_getElem? (i := 1644) (by decide +kernel)) (dk := 54) kd_355 rfl ⟨by decide, by decide⟩ ln_355 ⟨by decide, by decide⟩ (by decide) (by decide) rfl ⟨by decide, by decide, by decide, by decide⟩ ?_
  refine b_dup hC dX12_init_456 (by decide) ?_
  refine b_iconst hC dX12_init_457 ⟨by decide, by decide⟩ ?_
  refine b_bipush hC dX12_init_458 (by decide) ⟨by decide, by decide⟩ ?_
  refine b_cast (d := 54) hC dX12_init_460 kd_355 rfl rfl (by decide) (by rw [ln_355]; decide) ⟨by decide, by decide⟩ (Or.inr (by decide)) ?_
  refine b_dup hC dX12_init_461 (by decide) ?_
  refine b_iconst hC dX12_init_462 ⟨by decide, by decide⟩ ?_
  refine b_bipush hC dX12_init_463 (by decide) ⟨by decide, by decide⟩ ?_
  refine b_cast (d := 54) hC dX12_init_465 kd_355 rfl rfl (by decide) (by rw [ln_355]; decide) ⟨by decide, by decide⟩ (Or.inr (by decide)) ?_
  refine b_dup hC dX12_init_466 (by decide) ?_
  refine b_iconst hC dX12_init_467 ⟨by decide, by decide⟩ ?_
  refine b_bipush hC dX12_init_468 (by decide) ⟨by decide, by decide⟩ ?_
  refine b_cast (d := 54) hC dX12_init_470 kd_355 rfl rfl (by decide) (by rw [ln_355]; decide) ⟨by decide, by decide⟩ (Or.inr (by decide)) ?_
  refine b_dup hC dX12_init_471 (by decide) ?_
  refine b_iconst hC dX12_init_472 ⟨by decide, by decide⟩ ?_
  refine b_bipush hC dX12_init_473 (by decide) ⟨by decide, by decide⟩ ?_
  refine b_cast (d := 54) hC dX12_init_475 kd_355 rfl rfl (by decide) (by rw [ln_355]; decide) ⟨by decide, by decide⟩ (Or.inr (by decide)) ?_
  refine b_dup hC dX12_init_476 (by decide) ?_
  refine b_iconst hC dX12_init_477 ⟨by decide, by decide⟩ ?_
  refine b_bipush hC dX12_init_478 (by decide) ⟨by decide, by decide⟩ ?_
  refine b_cast (d := 54) hC dX12_init_480 kd_355 rfl rfl (by decide) (by rw [ln_355]; decide) ⟨by decide, by decide⟩ (Or.inr (by decide)) ?_
  refine b_dup hC dX12_init_481 (by decide) ?_
  refine b_iconst hC dX12_init_482 ⟨by decide, by decide⟩ ?_
  refine b_bipush hC dX12_init_483 (by decide) ⟨by decide, by decide⟩ ?_
  refine b_cast (d := 54) hC dX12_init_485 kd_355 rfl rfl (by decide) (by rw [ln_355]; decide) ⟨by decide, by decide⟩ (Or.inr (by decide)) ?_
  refine b_pf (t := 2) hC dX12_init_486 kI_X12_66 kd_337 rfl (by decide) rfl (fun h => absurd h (by decide)) (Or.inr (by decide)) (fun C T N h => by cases h; exact Or.inr ⟨hname, rfl, List.mem_of_getElem? (i := 1380) (by decide +kernel)⟩) ?_
  exact kk
def mL19 : List (Int × Int × Int) := [(356, 0, 108), (356, 1, 105), (356, 2, 103), (356, 3, 104), (356, 4, 116), (337, 26, 356)]
theorem km_19 {g : GT} {p : Program} {e : Env} {s : State} {m : MethodId} {args : Array Value} {below : List Frame} {meth : Method} {c : Code} {Q : State → Prop} {M : Mem} (hC : Cx g p s m meth c RX12 cX12_init 1) (hname : meth.name = "<init>") (kk : BW g p e (rmOf 1 (cs 337 406) (sl 337 406)) s m args below meth c Q (cs 337 356) (sl 337 356) 521 [(0, 2, 337)] [] 356 336 (stL M mL19)) : BW g p e (rmOf 1 (cs 337 406) (sl 337 406)) s m args below meth c Q (cs 337 355) (sl 337 355) 489 [(0, 2, 337)] [] 355 336 M := by
  refine b_aload_n (q := 0) hC dX12_init_489 rfl rfl ?_
  refine b_iconst hC dX12_init_490 ⟨by decide, by decide⟩ ?_
  refine c_newa (b := 4) (n' := 356) (v := 5) hC rfl (pl := 3) rfl rfl id dX12_init_491 (List.mem_of_getElem? (i := 1644) (by decide +kernel)) (dk := 54) kd_356 rfl ⟨by decide, by decide⟩ ln_356 ⟨by decide, by decide⟩ (by decide) (by decide) rfl ⟨by decide, by decide, by decide, by decide⟩ ?_
  refine b_dup hC dX12_init_493 (by decide) ?_
  refine b_iconst hC dX12_init_494 ⟨by decide, by decide⟩ ?_
  refine b_bipush hC dX12_init_495 (by decide) ⟨by decide, by decide⟩ ?_
  refine b_cast (d := 54) hC dX12_init_497 kd_356 rfl rfl (by decide) (by rw [ln_356]; decide) ⟨by decide, by decide⟩ (Or.inr (by decide)) ?_
  refine b_dup hC dX12_init_498 (by decide) ?_
  refine b_iconst hC dX12_init_499 ⟨by decide, by decide⟩ ?_
  refine b_bipush hC dX12_init_500 (by decide) ⟨by decide, by decide⟩ ?_
  refine b_cast (d := 54) hC dX12_init_502 kd_356 rfl rfl (by decide) (by rw [ln_356]; decide) ⟨by decide, by decide⟩ (Or.inr (by decide)) ?_
  refine b_dup hC dX12_init_503 (by decide) ?_
  refine b_iconst hC dX12_init_504 ⟨by decide, by decide⟩ ?_
  refine b_bipush hC dX12_init_505 (by decide) ⟨by decide, by decide⟩ ?_
  refine b_cast (d := 54) hC dX12_init_507 kd_356 rfl rfl (by decide) (by rw [ln_356]; decide) ⟨by decide, by decide⟩ (Or.inr (by decide)) ?_
  refine b_dup hC dX12_init_508 (by decide) ?_
  refine b_iconst hC dX12_init_509 ⟨by decide, by decide⟩ ?_
  refine b_bipush hC dX12_init_510 (by decide) ⟨by decide, by decide⟩ ?_
  refine b_cast (d := 54) hC dX12_init_512 kd_356 rfl rfl (by decide) (by rw [ln_356]; decide) ⟨by decide, by decide⟩ (Or.inr (by decide)) ?_
  refine b_dup hC dX12_init_513 (by decide) ?_
  refine b_iconst hC dX12_init_514 ⟨by decide, by decide⟩ ?_
  refine b_bipush hC dX12_init_515 (by decide) ⟨by decide, by decide⟩ ?_
  refine b_cast (d := 54) hC dX12_init_517 kd_356 rfl rfl (by decide) (by rw [ln_356]; decide) ⟨by decide, by decide⟩ (Or.inr (by decide)) ?_
  refine b_pf (t := 2) hC dX12_init_518 kI_X12_69 kd_337 rfl (by decide) rfl (fun h => absurd h (by decide)) (Or.inr (by decide)) (fun C T N h => by cases h; exact Or.inr ⟨hname, rfl, List.mem_of_getElem? (i := 1381) (by decide +kernel)⟩) ?_
  exact kk
def mL20 : List (Int × Int × Int) := [(357, 0, 107), (357, 1, 105), (357, 2, 110), (357, 3, 100), (337, 27, 357)]
theorem km_20 {g : GT} {p : Program} {e : Env} {s : State} {m : MethodId} {args : Array Value} {below : List Frame} {meth : Method} {c : Code} {Q : State → Prop} {M : Mem} (hC : Cx g p s m meth c RX12 cX12_init 1) (hname : meth.name = "<init>") (kk : BW g p e (rmOf 1 (cs 337 406) (sl 337 406)) s m args below meth c Q (cs 337 357) (sl 337 357) 548 [(0, 2, 337)] [] 357 336 (stL M mL20)) : BW g p e (rmOf 1 (cs 337 406) (sl 337 406)) s m args below meth c Q (cs 337 356) (sl 337 356) 521 [(0, 2, 337)] [] 356 336 M := by
  refine b_aload_n (q := 0) hC dX12_init_521 rfl rfl ?_
  refine b_iconst hC dX12_init_522 ⟨by decide, by decide⟩ ?_
  refine c_newa (b := 4) (n' := 357) (v := 4) hC rfl (pl := 3) rfl rfl id dX12_init_523 (List.mem_of_getElem? (i := 1644) (by decide +kernel)) (dk := 54) kd_357 rfl ⟨by decide, by decide⟩ ln_357 ⟨by decide, by decide⟩ (by decide) (by decide) rfl ⟨by decide, by decide, by decide, by decide⟩ ?_
  refine b_dup hC dX12_init_525 (by decide) ?_
  refine b_iconst hC dX12_init_526 ⟨by decide, by decide⟩ ?_
  refine b_bipush hC dX12_init_527 (by decide) ⟨by decide, by decide⟩ ?_
  refine b_cast (d := 54) hC dX12_init_529 kd_357 rfl rfl (by decide) (by rw [ln_357]; decide) ⟨by decide, by decide⟩ (Or.inr (by decide)) ?_
  refine b_dup hC dX12_init_530 (by decide) ?_
  refine b_iconst hC dX12_init_531 ⟨by decide, by decide⟩ ?_
  refine b_bipush hC dX12_init_532 (by decide) ⟨by decide, by decide⟩ ?_
  refine b_cast (d := 54) hC dX12_init_534 kd_357 rfl rfl (by decide) (by rw [ln_357]; decide) ⟨by decide, by decide⟩ (Or.inr (by decide)) ?_
  refine b_dup hC dX12_init_535 (by decide) ?_
  refine b_iconst hC dX12_init_536 ⟨by decide, by decide⟩ ?_
  refine b_bipush hC dX12_init_537 (by decide) ⟨by decide, by decide⟩ ?_
  refine b_cast (d := 54) hC dX12_init_539 kd_357 rfl rfl (by decide) (by rw [ln_357]; decide) ⟨by decide, by decide⟩ (Or.inr (by decide)) ?_
  refine b_dup hC dX12_init_540 (by decide) ?_
  refine b_iconst hC dX12_init_541 ⟨by decide, by decide⟩ ?_
  refine b_bipush hC dX12_init_542 (by decide) ⟨by decide, by decide⟩ ?_
  refine b_cast (d := 54) hC dX12_init_544 kd_357 rfl rfl (by decide) (by rw [ln_357]; decide) ⟨by decide, by decide⟩ (Or.inr (by decide)) ?_
  refine b_pf (t := 2) hC dX12_init_545 kI_X12_72 kd_337 rfl (by decide) rfl (fun h => absurd h (by decide)) (Or.inr (by decide)) (fun C T N h => by cases h; exact Or.inr ⟨hname, rfl, List.mem_of_getElem? (i := 1382) (by decide +kernel)⟩) ?_
  exact kk
def mL21 : List (Int × Int × Int) := [(358, 0, 109), (358, 1, 105), (358, 2, 110), (337, 28, 358)]
theorem km_21 {g : GT} {p : Program} {e : Env} {s : State} {m : MethodId} {args : Array Value} {below : List Frame} {meth : Method} {c : Code} {Q : State → Prop} {M : Mem} (hC : Cx g p s m meth c RX12 cX12_init 1) (hname : meth.name = "<init>") (kk : BW g p e (rmOf 1 (cs 337 406) (sl 337 406)) s m args below meth c Q (cs 337 358) (sl 337 358) 570 [(0, 2, 337)] [] 358 336 (stL M mL21)) : BW g p e (rmOf 1 (cs 337 406) (sl 337 406)) s m args below meth c Q (cs 337 357) (sl 337 357) 548 [(0, 2, 337)] [] 357 336 M := by
  refine b_aload_n (q := 0) hC dX12_init_548 rfl rfl ?_
  refine b_iconst hC dX12_init_549 ⟨by decide, by decide⟩ ?_
  refine c_newa (b := 4) (n' := 358) (v := 3) hC rfl (pl := 3) rfl rfl id dX12_init_550 (List.mem_of_getElem? (i := 1644) (by decide +kernel)) (dk := 54) kd_358 rfl ⟨by decide, by decide⟩ ln_358 ⟨by decide, by decide⟩ (by decide) (by decide) rfl ⟨by decide, by decide, by decide, by decide⟩ ?_
  refine b_dup hC dX12_init_552 (by decide) ?_
  refine b_iconst hC dX12_init_553 ⟨by decide, by decide⟩ ?_
  refine b_bipush hC dX12_init_554 (by decide) ⟨by decide, by decide⟩ ?_
  refine b_cast (d := 54) hC dX12_init_556 kd_358 rfl rfl (by decide) (by rw [ln_358]; decide) ⟨by decide, by decide⟩ (Or.inr (by decide)) ?_
  refine b_dup hC dX12_init_557 (by decide) ?_
  refine b_iconst hC dX12_init_558 ⟨by decide, by decide⟩ ?_
  refine b_bipush hC dX12_init_559 (by decide) ⟨by decide, by decide⟩ ?_
  refine b_cast (d := 54) hC dX12_init_561 kd_358 rfl rfl (by decide) (by rw [ln_358]; decide) ⟨by decide, by decide⟩ (Or.inr (by decide)) ?_
  refine b_dup hC dX12_init_562 (by decide) ?_
  refine b_iconst hC dX12_init_563 ⟨by decide, by decide⟩ ?_
  refine b_bipush hC dX12_init_564 (by decide) ⟨by decide, by decide⟩ ?_
  refine b_cast (d := 54) hC dX12_init_566 kd_358 rfl rfl (by decide) (by rw [ln_358]; decide) ⟨by decide, by decide⟩ (Or.inr (by decide)) ?_
  refine b_pf (t := 2) hC dX12_init_567 kI_X12_75 kd_337 rfl (by decide) rfl (fun h => absurd h (by decide)) (Or.inr (by decide)) (fun C T N h => by cases h; exact Or.inr ⟨hname, rfl, List.mem_of_getElem? (i := 1383) (by decide +kernel)⟩) ?_
  exact kk
def mL22 : List (Int × Int × Int) := [(359, 0, 109), (359, 1, 97), (359, 2, 120), (337, 29, 359)]
theorem km_22 {g : GT} {p : Program} {e : Env} {s : State} {m : MethodId} {args : Array Value} {below : List Frame} {meth : Method} {c : Code} {Q : State → Prop} {M : Mem} (hC : Cx g p s m meth c RX12 cX12_init 1) (hname : meth.name = "<init>") (kk : BW g p e (rmOf 1 (cs 337 406) (sl 337 406)) s m args below meth c Q (cs 337 359) (sl 337 359) 592 [(0, 2, 337)] [] 359 336 (stL M mL22)) : BW g p e (rmOf 1 (cs 337 406) (sl 337 406)) s m args below meth c Q (cs 337 358) (sl 337 358) 570 [(0, 2, 337)] [] 358 336 M := by
  refine b_aload_n (q := 0) hC dX12_init_570 rfl rfl ?_
  refine b_iconst hC dX12_init_571 ⟨by decide, by decide⟩ ?_
  refine c_newa (b := 4) (n' := 359) (v := 3) hC rfl (pl := 3) rfl rfl id dX12_init_572 (List.mem_of_getElem? (i := 1644) (by decide +kernel)) (dk := 54) kd_359 rfl ⟨by decide, by decide⟩ ln_359 ⟨by decide, by decide⟩ (by decide) (by decide) rfl ⟨by decide, by decide, by decide, by decide⟩ ?_
  refine b_dup hC dX12_init_574 (by decide) ?_
  refine b_iconst hC dX12_init_575 ⟨by decide, by decide⟩ ?_
  refine b_bipush hC dX12_init_576 (by decide) ⟨by decide, by decide⟩ ?_
  refine b_cast (d := 54) hC dX12_init_578 kd_359 rfl rfl (by decide) (by rw [ln_359]; decide) ⟨by decide, by decide⟩ (Or.inr (by decide)) ?_
  refine b_dup hC dX12_init_579 (by decide) ?_
  refine b_iconst hC dX12_init_580 ⟨by decide, by decide⟩ ?_
  refine b_bipush hC dX12_init_581 (by decide) ⟨by decide, by decide⟩ ?_
  refine b_cast (d := 54) hC dX12_init_583 kd_359 rfl rfl (by decide) (by rw [ln_359]; decide) ⟨by decide, by decide⟩ (Or.inr (by decide)) ?_
  refine b_dup hC dX12_init_584 (by decide) ?_
  refine b_iconst hC dX12_init_585 ⟨by decide, by decide⟩ ?_
  refine b_bipush hC dX12_init_586 (by decide) ⟨by decide, by decide⟩ ?_
  refine b_cast (d := 54) hC dX12_init_588 kd_359 rfl rfl (by decide) (by rw [ln_359]; decide) ⟨by decide, by decide⟩ (Or.inr (by decide)) ?_
  refine b_pf (t := 2) hC dX12_init_589 kI_X12_78 kd_337 rfl (by decide) rfl (fun h => absurd h (by decide)) (Or.inr (by decide)) (fun C T N h => by cases h; exact Or.inr ⟨hname, rfl, List.mem_of_getElem? (i := 1384) (by decide +kernel)⟩) ?_
  exact kk
def mL23 : List (Int × Int × Int) := [(337, 31, 360)]
theorem km_23 {g : GT} {p : Program} {e : Env} {s : State} {m : MethodId} {args : Array Value} {below : List Frame} {meth : Method} {c : Code} {Q : State → Prop} {M : Mem} (hC : Cx g p s m meth c RX12 cX12_init 1) (hname : meth.name = "<init>") (kk : BW g p e (rmOf 1 (cs 337 406) (sl 337 406)) s m args below meth c Q (cs 337 360) (sl 337 360) 601 [(0, 2, 337)] [] 360 336 (stL M mL23)) : BW g p e (rmOf 1 (cs 337 406) (sl 337 406)) s m args below meth c Q (cs 337 359) (sl 337 359) 592 [(0, 2, 337)] [] 359 336 M := by
  refine b_aload_n (q := 0) hC dX12_init_592 rfl rfl ?_
  refine b_sipush hC dX12_init_593 (by decide) ⟨by decide, by decide⟩ ?_
  refine c_newa (b := 1) (n' := 360) (v := 5400) hC rfl (pl := 0) rfl rfl id dX12_init_596 (List.mem_of_getElem? (i := 220) (by decide +kernel)) (dk := 51) kd_360 rfl ⟨by decide, by decide⟩ ln_360 ⟨by decide, by decide⟩ (by decide) (by decide) rfl ⟨by decide, by decide, by decide, by decide⟩ ?_
  refine b_pf (t := 2) hC dX12_init_598 kI_X12_81 kd_337 rfl (by decide) rfl (fun h => absurd h (by decide)) (Or.inr (by decide)) (fun C T N h => by cases h; exact Or.inr ⟨hname, rfl, List.mem_of_getElem? (i := 1386) (by decide +kernel)⟩) ?_
  exact kk
def mL24 : List (Int × Int × Int) := [(337, 33, 361)]
theorem km_24 {g : GT} {p : Program} {e : Env} {s : State} {m : MethodId} {args : Array Value} {below : List Frame} {meth : Method} {c : Code} {Q : State → Prop} {M : Mem} (hC : Cx g p s m meth c RX12 cX12_init 1) (hname : meth.name = "<init>") (kk : BW g p e (rmOf 1 (cs 337 406) (sl 337 406)) s m args below meth c Q (cs 337 361) (sl 337 361) 610 [(0, 2, 337)] [] 361 336 (stL M mL24)) : BW g p e (rmOf 1 (cs 337 406) (sl 337 406)) s m args below meth c Q (cs 337 360) (sl 337 360) 601 [(0, 2, 337)] [] 360 336 M := by
  refine b_aload_n (q := 0) hC dX12_init_601 rfl rfl ?_
  refine b_sipush hC dX12_init_602 (by decide) ⟨by decide, by decide⟩ ?_
  refine c_newa (b := 1) (n' := 361) (v := 1000) hC rfl (pl := 0) rfl rfl id dX12_init_605 (List.mem_of_getElem? (i := 220) (by decide +kernel)) (dk := 51) kd_361 rfl ⟨by decide, by decide⟩ ln_361 ⟨by decide, by decide⟩ (by decide) (by decide) rfl ⟨by decide, by decide, by decide, by decide⟩ ?_
  refine b_pf (t := 2) hC dX12_init_607 kI_X12_84 kd_337 rfl (by decide) rfl (fun h => absurd h (by decide)) (Or.inr (by decide)) (fun C T N h => by cases h; exact Or.inr ⟨hname, rfl, List.mem_of_getElem? (i := 1388) (by decide +kernel)⟩) ?_
  exact kk
def mL25 : List (Int × Int × Int) := [(337, 37, 362)]
theorem km_25 {g : GT} {p : Program} {e : Env} {s : State} {m : MethodId} {args : Array Value} {below : List Frame} {meth : Method} {c : Code} {Q : State → Prop} {M : Mem} (hC : Cx g p s m meth c RX12 cX12_init 1) (hname : meth.name = "<init>") (kk : BW g p e (rmOf 1 (cs 337 406) (sl 337 406)) s m args below meth c Q (cs 337 362) (sl 337 362) 617 [(0, 2, 337)] [] 362 336 (stL M mL25)) : BW g p e (rmOf 1 (cs 337 406) (sl 337 406)) s m args below meth c Q (cs 337 361) (sl 337 361) 610 [(0, 2, 337)] [] 361 336 M := by
  refine b_aload_n (q := 0) hC dX12_init_610 rfl rfl ?_
  refine b_iconst hC dX12_init_611 ⟨by decide, by decide⟩ ?_
  refine c_newa (b := 1) (n' := 362) (v := 5) hC rfl (pl := 0) rfl rfl id dX12_init_612 (List.mem_of_getElem? (i := 220) (by decide +kernel)) (dk := 51) kd_362 rfl ⟨by decide, by decide⟩ ln_362 ⟨by decide, by decide⟩ (by decide) (by decide) rfl ⟨by decide, by decide, by decide, by decide⟩ ?_
  refine b_pf (t := 2) hC dX12_init_614 kI_X12_87 kd_337 rfl (by decide) rfl (fun h => absurd h (by decide)) (Or.inr (by decide)) (fun C T N h => by cases h; exact Or.inr ⟨hname, rfl, List.mem_of_getElem? (i := 1392) (by decide +kernel)⟩) ?_
  exact kk
def mL26 : List (Int × Int × Int) := [(337, 38, 363)]
theorem km_26 {g : GT} {p : Program} {e : Env} {s : State} {m : MethodId} {args : Array Value} {below : List Frame} {meth : Method} {c : Code} {Q : State → Prop} {M : Mem} (hC : Cx g p s m meth c RX12 cX12_init 1) (hname : meth.name = "<init>") (kk : BW g p e (rmOf 1 (cs 337 406) (sl 337 406)) s m args below meth c Q (cs 337 363) (sl 337 363) 626 [(0, 2, 337)] [] 363 336 (stL M mL26)) : BW g p e (rmOf 1 (cs 337 406) (sl 337 406)) s m args below meth c Q (cs 337 362) (sl 337 362) 617 [(0, 2, 337)] [] 362 336 M := by
  refine b_aload_n (q := 0) hC dX12_init_617 rfl rfl ?_
  refine b_sipush hC dX12_init_618 (by decide) ⟨by decide, by decide⟩ ?_
  refine c_newa (b := 1) (n' := 363) (v := 200) hC rfl (pl := 0) rfl rfl id dX12_init_621 (List.mem_of_getElem? (i := 220) (by decide +kernel)) (dk := 51) kd_363 rfl ⟨by decide, by decide⟩ ln_363 ⟨by decide, by decide⟩ (by decide) (by decide) rfl ⟨by decide, by decide, by decide, by decide⟩ ?_
  refine b_pf (t := 2) hC dX12_init_623 kI_X12_90 kd_337 rfl (by decide) rfl (fun h => absurd h (by decide)) (Or.inr (by decide)) (fun C T N h => by cases h; exact Or.inr ⟨hname, rfl, List.mem_of_getElem? (i := 1393) (by decide +kernel)⟩) ?_
  exact kk
def mL27 : List (Int × Int × Int) := [(337, 39, 364)]
theorem km_27 {g : GT} {p : Program} {e : Env} {s : State} {m : MethodId} {args : Array Value} {below : List Frame} {meth : Method} {c : Code} {Q : State → Prop} {M : Mem} (hC : Cx g p s m meth c RX12 cX12_init 1) (hname : meth.name = "<init>") (kk : BW g p e (rmOf 1 (cs 337 406) (sl 337 406)) s m args below meth c Q (cs 337 364) (sl 337 364) 635 [(0, 2, 337)] [] 364 336 (stL M mL27)) : BW g p e (rmOf 1 (cs 337 406) (sl 337 406)) s m args below meth c Q (cs 337 363) (sl 337 363) 626 [(0, 2, 337)] [] 363 336 M := by
  refine b_aload_n (q := 0) hC dX12_init_626 rfl rfl ?_
  refine b_sipush hC dX12_init_627 (by decide) ⟨by decide, by decide⟩ ?_
  refine c_newa (b := 1) (n' := 364) (v := 200) hC rfl (pl := 0) rfl rfl id dX12_init_630 (List.mem_of_getElem? (i := 220) (by decide +kernel)) (dk := 51) kd_364 rfl ⟨by decide, by decide⟩ ln_364 ⟨by decide, by decide⟩ (by decide) (by decide) rfl ⟨by decide, by decide, by decide, by decide⟩ ?_
  refine b_pf (t := 2) hC dX12_init_632 kI_X12_93 kd_337 rfl (by decide) rfl (fun h => absurd h (by decide)) (Or.inr (by decide)) (fun C T N h => by cases h; exact Or.inr ⟨hname, rfl, List.mem_of_getElem? (i := 1394) (by decide +kernel)⟩) ?_
  exact kk
def mL28 : List (Int × Int × Int) := [(337, 40, 365)]
theorem km_28 {g : GT} {p : Program} {e : Env} {s : State} {m : MethodId} {args : Array Value} {below : List Frame} {meth : Method} {c : Code} {Q : State → Prop} {M : Mem} (hC : Cx g p s m meth c RX12 cX12_init 1) (hname : meth.name = "<init>") (kk : BW g p e (rmOf 1 (cs 337 406) (sl 337 406)) s m args below meth c Q (cs 337 365) (sl 337 365) 644 [(0, 2, 337)] [] 365 336 (stL M mL28)) : BW g p e (rmOf 1 (cs 337 406) (sl 337 406)) s m args below meth c Q (cs 337 364) (sl 337 364) 635 [(0, 2, 337)] [] 364 336 M := by
  refine b_aload_n (q := 0) hC dX12_init_635 rfl rfl ?_
  refine b_sipush hC dX12_init_636 (by decide) ⟨by decide, by decide⟩ ?_
  refine c_newa (b := 1) (n' := 365) (v := 200) hC rfl (pl := 0) rfl rfl id dX12_init_639 (List.mem_of_getElem? (i := 220) (by decide +kernel)) (dk := 51) kd_365 rfl ⟨by decide, by decide⟩ ln_365 ⟨by decide, by decide⟩ (by decide) (by decide) rfl ⟨by decide, by decide, by decide, by decide⟩ ?_
  refine b_pf (t := 2) hC dX12_init_641 kI_X12_96 kd_337 rfl (by decide) rfl (fun h => absurd h (by decide)) (Or.inr (by decide)) (fun C T N h => by cases h; exact Or.inr ⟨hname, rfl, List.mem_of_getElem? (i := 1395) (by decide +kernel)⟩) ?_
  exact kk
def mL29 : List (Int × Int × Int) := [(337, 41, 366)]
theorem km_29 {g : GT} {p : Program} {e : Env} {s : State} {m : MethodId} {args : Array Value} {below : List Frame} {meth : Method} {c : Code} {Q : State → Prop} {M : Mem} (hC : Cx g p s m meth c RX12 cX12_init 1) (hname : meth.name = "<init>") (kk : BW g p e (rmOf 1 (cs 337 406) (sl 337 406)) s m args below meth c Q (cs 337 366) (sl 337 366) 651 [(0, 2, 337)] [] 366 336 (stL M mL29)) : BW g p e (rmOf 1 (cs 337 406) (sl 337 406)) s m args below meth c Q (cs 337 365) (sl 337 365) 644 [(0, 2, 337)] [] 365 336 M := by
  refine b_aload_n (q := 0) hC dX12_init_644 rfl rfl ?_
  refine b_iconst hC dX12_init_645 ⟨by decide, by decide⟩ ?_
  refine c_newa (b := 1) (n' := 366) (v := 5) hC rfl (pl := 0) rfl rfl id dX12_init_646 (List.mem_of_getElem? (i := 220) (by decide +kernel)) (dk := 51) kd_366 rfl ⟨by decide, by decide⟩ ln_366 ⟨by decide, by decide⟩ (by decide) (by decide) rfl ⟨by decide, by decide, by decide, by decide⟩ ?_
  refine b_pf (t := 2) hC dX12_init_648 kI_X12_99 kd_337 rfl (by decide) rfl (fun h => absurd h (by decide)) (Or.inr (by decide)) (fun C T N h => by cases h; exact Or.inr ⟨hname, rfl, List.mem_of_getElem? (i := 1396) (by decide +kernel)⟩) ?_
  exact kk
def mL30 : List (Int × Int × Int) := [(337, 42, 367)]
theorem km_30 {g : GT} {p : Program} {e : Env} {s : State} {m : MethodId} {args : Array Value} {below : List Frame} {meth : Method} {c : Code} {Q : State → Prop} {M : Mem} (hC : Cx g p s m meth c RX12 cX12_init 1) (hname : meth.name = "<init>") (kk : BW g p e (rmOf 1 (cs 337 406) (sl 337 406)) s m args below meth c Q (cs 337 367) (sl 337 367) 659 [(0, 2, 337)] [] 367 336 (stL M mL30)) : BW g p e (rmOf 1 (cs 337 406) (sl 337 406)) s m args below meth c Q (cs 337 366) (sl 337 366) 651 [(0, 2, 337)] [] 366 336 M := by
  refine b_aload_n (q := 0) hC dX12_init_651 rfl rfl ?_
  refine b_bipush hC dX12_init_652 (by decide) ⟨by decide, by decide⟩ ?_
  refine c_newa (b := 2) (n' := 367) (v := 25) hC rfl (pl := 1) rfl rfl id dX12_init_654 (List.mem_of_getElem? (i := 490) (by decide +kernel)) (dk := 52) kd_367 rfl ⟨by decide, by decide⟩ ln_367 ⟨by decide, by decide⟩ (by decide) (by decide) rfl ⟨by decide, by decide, by decide, by decide⟩ ?_
  refine b_pf (t := 2) hC dX12_init_656 kI_X12_102 kd_337 rfl (by decide) rfl (fun h => absurd h (by decide)) (Or.inr (by decide)) (fun C T N h => by cases h; exact Or.inr ⟨hname, rfl, List.mem_of_getElem? (i := 1397) (by decide +kernel)⟩) ?_
  exact kk
def mL31 : List (Int × Int × Int) := [(337, 43, 368)]
theorem km_31 {g : GT} {p : Program} {e : Env} {s : State} {m : MethodId} {args : Array Value} {below : List Frame} {meth : Method} {c : Code} {Q : State → Prop} {M : Mem} (hC : Cx g p s m meth c RX12 cX12_init 1) (hname : meth.name = "<init>") (kk : BW g p e (rmOf 1 (cs 337 406) (sl 337 406)) s m args below meth c Q (cs 337 368) (sl 337 368) 667 [(0, 2, 337)] [] 368 336 (stL M mL31)) : BW g p e (rmOf 1 (cs 337 406) (sl 337 406)) s m args below meth c Q (cs 337 367) (sl 337 367) 659 [(0, 2, 337)] [] 367 336 M := by
  refine b_aload_n (q := 0) hC dX12_init_659 rfl rfl ?_
  refine b_bipush hC dX12_init_660 (by decide) ⟨by decide, by decide⟩ ?_
  refine c_newa (b := 3) (n' := 368) (v := 25) hC rfl (pl := 2) rfl rfl id dX12_init_662 (List.mem_of_getElem? (i := 489) (by decide +kernel)) (dk := 53) kd_368 rfl ⟨by decide, by decide⟩ ln_368 ⟨by decide, by decide⟩ (by decide) (by decide) rfl ⟨by decide, by decide, by decide, by decide⟩ ?_
  refine b_pf (t := 2) hC dX12_init_664 kI_X12_106 kd_337 rfl (by decide) rfl (fun h => absurd h (by decide)) (Or.inr (by decide)) (fun C T N h => by cases h; exact Or.inr ⟨hname, rfl, List.mem_of_getElem? (i := 1398) (by decide +kernel)⟩) ?_
  exact kk
def mL32 : List (Int × Int × Int) := [(337, 44, 369)]
theorem km_32 {g : GT} {p : Program} {e : Env} {s : State} {m : MethodId} {args : Array Value} {below : List Frame} {meth : Method} {c : Code} {Q : State → Prop} {M : Mem} (hC : Cx g p s m meth c RX12 cX12_init 1) (hname : meth.name = "<init>") (kk : BW g p e (rmOf 1 (cs 337 406) (sl 337 406)) s m args below meth c Q (cs 337 369) (sl 337 369) 675 [(0, 2, 337)] [] 369 336 (stL M mL32)) : BW g p e (rmOf 1 (cs 337 406) (sl 337 406)) s m args below meth c Q (cs 337 368) (sl 337 368) 667 [(0, 2, 337)] [] 368 336 M := by
  refine b_aload_n (q := 0) hC dX12_init_667 rfl rfl ?_
  refine b_bipush hC dX12_init_668 (by decide) ⟨by decide, by decide⟩ ?_
  refine c_newa (b := 1) (n' := 369) (v := 25) hC rfl (pl := 0) rfl rfl id dX12_init_670 (List.mem_of_getElem? (i := 220) (by decide +kernel)) (dk := 51) kd_369 rfl ⟨by decide, by decide⟩ ln_369 ⟨by decide, by decide⟩ (by decide) (by decide) rfl ⟨by decide, by decide, by decide, by decide⟩ ?_
  refine b_pf (t := 2) hC dX12_init_672 kI_X12_110 kd_337 rfl (by decide) rfl (fun h => absurd h (by decide)) (Or.inr (by decide)) (fun C T N h => by cases h; exact Or.inr ⟨hname, rfl, List.mem_of_getElem? (i := 1399) (by decide +kernel)⟩) ?_
  exact kk
def mL33 : List (Int × Int × Int) := [(337, 45, 370)]
theorem km_33 {g : GT} {p : Program} {e : Env} {s : State} {m : MethodId} {args : Array Value} {below : List Frame} {meth : Method} {c : Code} {Q : State → Prop} {M : Mem} (hC : Cx g p s m meth c RX12 cX12_init 1) (hname : meth.name = "<init>") (kk : BW g p e (rmOf 1 (cs 337 406) (sl 337 406)) s m args below meth c Q (cs 337 370) (sl 337 370) 683 [(0, 2, 337)] [] 370 336 (stL M mL33)) : BW g p e (rmOf 1 (cs 337 406) (sl 337 406)) s m args below meth c Q (cs 337 369) (sl 337 369) 675 [(0, 2, 337)] [] 369 336 M := by
  refine b_aload_n (q := 0) hC dX12_init_675 rfl rfl ?_
  refine b_bipush hC dX12_init_676 (by decide) ⟨by decide, by decide⟩ ?_
  refine c_newa (b := 1) (n' := 370) (v := 25) hC rfl (pl := 0) rfl rfl id dX12_init_678 (List.mem_of_getElem? (i := 220) (by decide +kernel)) (dk := 51) kd_370 rfl ⟨by decide, by decide⟩ ln_370 ⟨by decide, by decide⟩ (by decide) (by decide) rfl ⟨by decide, by decide, by decide, by decide⟩ ?_
  refine b_pf (t := 2) hC dX12_init_680 kI_X12_113 kd_337 rfl (by decide) rfl (fun h => absurd h (by decide)) (Or.inr (by decide)) (fun C T N h => by cases h; exact Or.inr ⟨hname, rfl, List.mem_of_getElem? (i := 1400) (by decide +kernel)⟩) ?_
  exact kk
def mL34 : List (Int × Int × Int) := [(337, 46, 371)]
theorem km_34 {g : GT} {p : Program} {e : Env} {s : State} {m : MethodId} {args : Array Value} {below : List Frame} {meth : Method} {c : Code} {Q : State → Prop} {M : Mem} (hC : Cx g p s m meth c RX12 cX12_init 1) (hname : meth.name = "<init>") (kk : BW g p e (rmOf 1 (cs 337 406) (sl 337 406)) s m args below meth c Q (cs 337 371) (sl 337 371) 691 [(0, 2, 337)] [] 371 336 (stL M mL34)) : BW g p e (rmOf 1 (cs 337 406) (sl 337 406)) s m args below meth c Q (cs 337 370) (sl 337 370) 683 [(0, 2, 337)] [] 370 336 M := by
  refine b_aload_n (q := 0) hC dX12_init_683 rfl rfl ?_
  refine b_bipush hC dX12_init_684 (by decide) ⟨by decide, by decide⟩ ?_
  refine c_newa (b := 1) (n' := 371) (v := 25) hC rfl (pl := 0) rfl rfl id dX12_init_686 (List.mem_of_getElem? (i := 220) (by decide +kernel)) (dk := 51) kd_371 rfl ⟨by decide, by decide⟩ ln_371 ⟨by decide, by decide⟩ (by decide) (by decide) rfl ⟨by decide, by decide, by decide, by decide⟩ ?_
  refine b_pf (t := 2) hC dX12_init_688 kI_X12_116 kd_337 rfl (by decide) rfl (fun h => absurd h (by decide)) (Or.inr (by decide)) (fun C T N h => by cases h; exact Or.inr ⟨hname, rfl, List.mem_of_getElem? (i := 1401) (by decide +kernel)⟩) ?_
  exact kk
def mL35 : List (Int × Int × Int) := [(337, 47, 372)]
theorem km_35 {g : GT} {p : Program} {e : Env} {s : State} {m : MethodId} {args : Array Value} {below : List Frame} {meth : Method} {c : Code} {Q : State → Prop} {M : Mem} (hC : Cx g p s m meth c RX12 cX12_init 1) (hname : meth.name = "<init>") (kk : BW g p e (rmOf 1 (cs 337 406) (sl 337 406)) s m args below meth c Q (cs 337 372) (sl 337 372) 698 [(0, 2, 337)] [] 372 336 (stL M mL35)) : BW g p e (rmOf 1 (cs 337 406) (sl 337 406)) s m args below meth c Q (cs 337 371) (sl 337 371) 691 [(0, 2, 337)] [] 371 336 M := by
  refine b_aload_n (q := 0) hC dX12_init_691 rfl rfl ?_
  refine b_iconst hC dX12_init_692 ⟨by decide, by decide⟩ ?_
  refine c_newa (b := 1) (n' := 372) (v := 2) hC rfl (pl := 0) rfl rfl id dX12_init_693 (List.mem_of_getElem? (i := 220) (by decide +kernel)) (dk := 51) kd_372 rfl ⟨by decide, by decide⟩ ln_372 ⟨by decide, by decide⟩ (by decide) (by decide) rfl ⟨by decide, by decide, by decide, by decide⟩ ?_
  refine b_pf (t := 2) hC dX12_init_695 kI_X12_119 kd_337 rfl (by decide) rfl (fun h => absurd h (by decide)) (Or.inr (by decide)) (fun C T N h => by cases h; exact Or.inr ⟨hname, rfl, List.mem_of_getElem? (i := 1402) (by decide +kernel)⟩) ?_
  exact kk
def mL36 : List (Int × Int × Int) := [(337, 48, 373)]
theorem km_36 {g : GT} {p : Program} {e : Env} {s : State} {m : MethodId} {args : Array Value} {below : List Frame} {meth : Method} {c : Code} {Q : State → Prop} {M : Mem} (hC : Cx g p s m meth c RX12 cX12_init 1) (hname : meth.name = "<init>") (kk : BW g p e (rmOf 1 (cs 337 406) (sl 337 406)) s m args below meth c Q (cs 337 373) (sl 337 373) 706 [(0, 2, 337)] [] 373 336 (stL M mL36)) : BW g p e (rmOf 1 (cs 337 406) (sl 337 406)) s m args below meth c Q (cs 337 372) (sl 337 372) 698 [(0, 2, 337)] [] 372 336 M := by
  refine b_aload_n (q := 0) hC dX12_init_698 rfl rfl ?_
  refine b_bipush hC dX12_init_699 (by decide) ⟨by decide, by decide⟩ ?_
  refine c_newa (b := 2) (n' := 373) (v := 10) hC rfl (pl := 1) rfl rfl id dX12_init_701 (List.mem_of_getElem? (i := 490) (by decide +kernel)) (dk := 52) kd_373 rfl ⟨by decide, by decide⟩ ln_373 ⟨by decide, by decide⟩ (by decide) (by decide) rfl ⟨by decide, by decide, by decide, by decide⟩ ?_
  refine b_pf (t := 2) hC dX12_init_703 kI_X12_122 kd_337 rfl (by decide) rfl (fun h => absurd h (by decide)) (Or.inr (by decide)) (fun C T N h => by cases h; exact Or.inr ⟨hname, rfl, List.mem_of_getElem? (i := 1403) (by decide +kernel)⟩) ?_
  exact kk
def mL37 : List (Int × Int × Int) := [(337, 49, 374)]
theorem km_37 {g : GT} {p : Program} {e : Env} {s : State} {m : MethodId} {args : Array Value} {below : List Frame} {meth : Method} {c : Code} {Q : State → Prop} {M : Mem} (hC : Cx g p s m meth c RX12 cX12_init 1) (hname : meth.name = "<init>") (kk : BW g p e (rmOf 1 (cs 337 406) (sl 337 406)) s m args below meth c Q (cs 337 374) (sl 337 374) 714 [(0, 2, 337)] [] 374 336 (stL M mL37)) : BW g p e (rmOf 1 (cs 337 406) (sl 337 406)) s m args below meth c Q (cs 337 373) (sl 337 373) 706 [(0, 2, 337)] [] 373 336 M := by
  refine b_aload_n (q := 0) hC dX12_init_706 rfl rfl ?_
  refine b_bipush hC dX12_init_707 (by decide) ⟨by decide, by decide⟩ ?_
  refine c_newa (b := 1) (n' := 374) (v := 10) hC rfl (pl := 0) rfl rfl id dX12_init_709 (List.mem_of_getElem? (i := 220) (by decide +kernel)) (dk := 51) kd_374 rfl ⟨by decide, by decide⟩ ln_374 ⟨by decide, by decide⟩ (by decide) (by decide) rfl ⟨by decide, by decide, by decide, by decide⟩ ?_
  refine b_pf (t := 2) hC dX12_init_711 kI_X12_125 kd_337 rfl (by decide) rfl (fun h => absurd h (by decide)) (Or.inr (by decide)) (fun C T N h => by cases h; exact Or.inr ⟨hname, rfl, List.mem_of_getElem? (i := 1404) (by decide +kernel)⟩) ?_
  exact kk
def mL38 : List (Int × Int × Int) := [(375, 0, 95), (375, 1, 95), (337, 50, 375)]
theorem km_38 {g : GT} {p : Program} {e : Env} {s : State} {m : MethodId} {args : Array Value} {below : List Frame} {meth : Method} {c : Code} {Q : State → Prop} {M : Mem} (hC : Cx g p s m meth c RX12 cX12_init 1) (hname : meth.name = "<init>") (kk : BW g p e (rmOf 1 (cs 337 406) (sl 337 406)) s m args below meth c Q (cs 337 375) (sl 337 375) 731 [(0, 2, 337)] [] 375 336 (stL M mL38)) : BW g p e (rmOf 1 (cs 337 406) (sl 337 406)) s m args below meth c Q (cs 337 374) (sl 337 374) 714 [(0, 2, 337)] [] 374 336 M := by
  refine b_aload_n (q := 0) hC dX12_init_714 rfl rfl ?_
  refine b_iconst hC dX12_init_715 ⟨by decide, by decide⟩ ?_
  refine c_newa (b := 1) (n' := 375) (v := 2) hC rfl (pl := 0) rfl rfl id dX12_init_716 (List.mem_of_getElem? (i := 220) (by decide +kernel)) (dk := 51) kd_375 rfl ⟨by decide, by decide⟩ ln_375 ⟨by decide, by decide⟩ (by decide) (by decide) rfl ⟨by decide, by decide, by decide, by decide⟩ ?_
  refine b_dup hC dX12_init_718 (by decide) ?_
  refine b_iconst hC dX12_init_719 ⟨by decide, by decide⟩ ?_
  refine b_bipush hC dX12_init_720 (by decide) ⟨by decide, by decide⟩ ?_
  refine b_iast (d := 51) hC dX12_init_722 kd_375 rfl (Or.inl rfl) (by decide) (by rw [ln_375]; decide) (Or.inr (by decide)) ?_
  refine b_dup hC dX12_init_723 (by decide) ?_
  refine b_iconst hC dX12_init_724 ⟨by decide, by decide⟩ ?_
  refine b_bipush hC dX12_init_725 (by decide) ⟨by decide, by decide⟩ ?_
  refine b_iast (d := 51) hC dX12_init_727 kd_375 rfl (Or.inl rfl) (by decide) (by rw [ln_375]; decide) (Or.inr (by decide)) ?_
  refine b_pf (t := 2) hC dX12_init_728 kI_X12_128 kd_337 rfl (by decide) rfl (fun h => absurd h (by decide)) (Or.inr (by decide)) (fun C T N h => by cases h; exact Or.inr ⟨hname, rfl, List.mem_of_getElem? (i := 1405) (by decide +kernel)⟩) ?_
  exact kk
def mL39 : List (Int × Int × Int) := [(337, 53, 376)]
theorem km_39 {g : GT} {p : Program} {e : Env} {s : State} {m : MethodId} {args : Array Value} {below : List Frame} {meth : Method} {c : Code} {Q : State → Prop} {M : Mem} (hC : Cx g p s m meth c RX12 cX12_init 1) (hname : meth.name = "<init>") (kk : BW g p e (rmOf 1 (cs 337 406) (sl 337 406)) s m args below meth c Q (cs 337 376) (sl 337 376) 738 [(0, 2, 337)] [] 376 336 (stL M mL39)) : BW g p e (rmOf 1 (cs 337 406) (sl 337 406)) s m args below meth c Q (cs 337 375) (sl 337 375) 731 [(0, 2, 337)] [] 375 336 M := by
  refine b_aload_n (q := 0) hC dX12_init_731 rfl rfl ?_
  refine b_iconst hC dX12_init_732 ⟨by decide, by decide⟩ ?_
  refine c_newa (b := 1) (n' := 376) (v := 2) hC rfl (pl := 0) rfl rfl id dX12_init_733 (List.mem_of_getElem? (i := 220) (by decide +kernel)) (dk := 51) kd_376 rfl ⟨by decide, by decide⟩ ln_376 ⟨by decide, by decide⟩ (by decide) (by decide) rfl ⟨by decide, by decide, by decide, by decide⟩ ?_
  refine b_pf (t := 2) hC dX12_init_735 kI_X12_131 kd_337 rfl (by decide) rfl (fun h => absurd h (by decide)) (Or.inr (by decide)) (fun C T N h => by cases h; exact Or.inr ⟨hname, rfl, List.mem_of_getElem? (i := 1408) (by decide +kernel)⟩) ?_
  exact kk
def mL40 : List (Int × Int × Int) := [(337, 54, 377)]
theorem km_40 {g : GT} {p : Program} {e : Env} {s : State} {m : MethodId} {args : Array Value} {below : List Frame} {meth : Method} {c : Code} {Q : State → Prop} {M : Mem} (hC : Cx g p s m meth c RX12 cX12_init 1) (hname : meth.name = "<init>") (kk : BW g p e (rmOf 1 (cs 337 406) (sl 337 406)) s m args below meth c Q (cs 337 377) (sl 337 377) 747 [(0, 2, 337)] [] 377 336 (stL M mL40)) : BW g p e (rmOf 1 (cs 337 406) (sl 337 406)) s m args below meth c Q (cs 337 376) (sl 337 376) 738 [(0, 2, 337)] [] 376 336 M := by
  refine b_aload_n (q := 0) hC dX12_init_738 rfl rfl ?_
  refine b_sipush hC dX12_init_739 (by decide) ⟨by decide, by decide⟩ ?_
  refine c_newa (b := 1) (n' := 377) (v := 160) hC rfl (pl := 0) rfl rfl id dX12_init_742 (List.mem_of_getElem? (i := 220) (by decide +kernel)) (dk := 51) kd_377 rfl ⟨by decide, by decide⟩ ln_377 ⟨by decide, by decide⟩ (by decide) (by decide) rfl ⟨by decide, by decide, by decide, by decide⟩ ?_
  refine b_pf (t := 2) hC dX12_init_744 kI_X12_134 kd_337 rfl (by decide) rfl (fun h => absurd h (by decide)) (Or.inr (by decide)) (fun C T N h => by cases h; exact Or.inr ⟨hname, rfl, List.mem_of_getElem? (i := 1409) (by decide +kernel)⟩) ?_
  exact kk
def mL41 : List (Int × Int × Int) := [(337, 55, 378)]
theorem km_41 {g : GT} {p : Program} {e : Env} {s : State} {m : MethodId} {args : Array Value} {below : List Frame} {meth : Method} {c : Code} {Q : State → Prop} {M : Mem} (hC : Cx g p s m meth c RX12 cX12_init 1) (hname : meth.name = "<init>") (kk : BW g p e (rmOf 1 (cs 337 406) (sl 337 406)) s m args below meth c Q (cs 337 378) (sl 337 378) 756 [(0, 2, 337)] [] 378 336 (stL M mL41)) : BW g p e (rmOf 1 (cs 337 406) (sl 337 406)) s m args below meth c Q (cs 337 377) (sl 337 377) 747 [(0, 2, 337)] [] 377 336 M := by
  refine b_aload_n (q := 0) hC dX12_init_747 rfl rfl ?_
  refine b_sipush hC dX12_init_748 (by decide) ⟨by decide, by decide⟩ ?_
  refine c_newa (b := 1) (n' := 378) (v := 160) hC rfl (pl := 0) rfl rfl id dX12_init_751 (List.mem_of_getElem? (i := 220) (by decide +kernel)) (dk := 51) kd_378 rfl ⟨by decide, by decide⟩ ln_378 ⟨by decide, by decide⟩ (by decide) (by decide) rfl ⟨by decide, by decide, by decide, by decide⟩ ?_
  refine b_pf (t := 2) hC dX12_init_753 kI_X12_137 kd_337 rfl (by decide) rfl (fun h => absurd h (by decide)) (Or.inr (by decide)) (fun C T N h => by cases h; exact Or.inr ⟨hname, rfl, List.mem_of_getElem? (i := 1410) (by decide +kernel)⟩) ?_
  exact kk
def mL42 : List (Int × Int × Int) := [(337, 56, 379)]
theorem km_42 {g : GT} {p : Program} {e : Env} {s : State} {m : MethodId} {args : Array Value} {below : List Frame} {meth : Method} {c : Code} {Q : State → Prop} {M : Mem} (hC : Cx g p s m meth c RX12 cX12_init 1) (hname : meth.name = "<init>") (kk : BW g p e (rmOf 1 (cs 337 406) (sl 337 406)) s m args below meth c Q (cs 337 379) (sl 337 379) 765 [(0, 2, 337)] [] 379 336 (stL M mL42)) : BW g p e (rmOf 1 (cs 337 406) (sl 337 406)) s m args below meth c Q (cs 337 378) (sl 337 378) 756 [(0, 2, 337)] [] 378 336 M := by
  refine b_aload_n (q := 0) hC dX12_init_756 rfl rfl ?_
  refine b_sipush hC dX12_init_757 (by decide) ⟨by decide, by decide⟩ ?_
  refine c_newa (b := 1) (n' := 379) (v := 160) hC rfl (pl := 0) rfl rfl id dX12_init_760 (List.mem_of_getElem? (i := 220) (by decide +kernel)) (dk := 51) kd_379 rfl ⟨by decide, by decide⟩ ln_379 ⟨by decide, by decide⟩ (by decide) (by decide) rfl ⟨by decide, by decide, by decide, by decide⟩ ?_
  refine b_pf (t := 2) hC dX12_init_762 kI_X12_140 kd_337 rfl (by decide) rfl (fun h => absurd h (by decide)) (Or.inr (by decide)) (fun C T N h => by cases h; exact Or.inr ⟨hname, rfl, List.mem_of_getElem? (i := 1411) (by decide +kernel)⟩) ?_
  exact kk
def mL43 : List (Int × Int × Int) := [(337, 57, 380)]
theorem km_43 {g : GT} {p : Program} {e : Env} {s : State} {m : MethodId} {args : Array Value} {below : List Frame} {meth : Method} {c : Code} {Q : State → Prop} {M : Mem} (hC : Cx g p s m meth c RX12 cX12_init 1) (hname : meth.name = "<init>") (kk : BW g p e (rmOf 1 (cs 337 406) (sl 337 406)) s m args below meth c Q (cs 337 380) (sl 337 380) 774 [(0, 2, 337)] [] 380 336 (stL M mL43)) : BW g p e (rmOf 1 (cs 337 406) (sl 337 406)) s m args below meth c Q (cs 337 379) (sl 337 379) 765 [(0, 2, 337)] [] 379 336 M := by
  refine b_aload_n (q := 0) hC dX12_init_765 rfl rfl ?_
  refine b_sipush hC dX12_init_766 (by decide) ⟨by decide, by decide⟩ ?_
  refine c_newa (b := 1) (n' := 380) (v := 160) hC rfl (pl := 0) rfl rfl id dX12_init_769 (List.mem_of_getElem? (i := 220) (by decide +kernel)) (dk := 51) kd_380 rfl ⟨by decide, by decide⟩ ln_380 ⟨by decide, by decide⟩ (by decide) (by decide) rfl ⟨by decide, by decide, by decide, by decide⟩ ?_
  refine b_pf (t := 2) hC dX12_init_771 kI_X12_143 kd_337 rfl (by decide) rfl (fun h => absurd h (by decide)) (Or.inr (by decide)) (fun C T N h => by cases h; exact Or.inr ⟨hname, rfl, List.mem_of_getElem? (i := 1412) (by decide +kernel)⟩) ?_
  exact kk
def mL44 : List (Int × Int × Int) := [(337, 58, 381)]
theorem km_44 {g : GT} {p : Program} {e : Env} {s : State} {m : MethodId} {args : Array Value} {below : List Frame} {meth : Method} {c : Code} {Q : State → Prop} {M : Mem} (hC : Cx g p s m meth c RX12 cX12_init 1) (hname : meth.name = "<init>") (kk : BW g p e (rmOf 1 (cs 337 406) (sl 337 406)) s m args below meth c Q (cs 337 381) (sl 337 381) 783 [(0, 2, 337)] [] 381 336 (stL M mL44)) : BW g p e (rmOf 1 (cs 337 406) (sl 337 406)) s m args below meth c Q (cs 337 380) (sl 337 380) 774 [(0, 2, 337)] [] 380 336 M := by
  refine b_aload_n (q := 0) hC dX12_init_774 rfl rfl ?_
  refine b_sipush hC dX12_init_775 (by decide) ⟨by decide, by decide⟩ ?_
  refine c_newa (b := 1) (n' := 381) (v := 160) hC rfl (pl := 0) rfl rfl id dX12_init_778 (List.mem_of_getElem? (i := 220) (by decide +kernel)) (dk := 51) kd_381 rfl ⟨by decide, by decide⟩ ln_381 ⟨by decide, by decide⟩ (by decide) (by decide) rfl ⟨by decide, by decide, by decide, by decide⟩ ?_
  refine b_pf (t := 2) hC dX12_init_780 kI_X12_146 kd_337 rfl (by decide) rfl (fun h => absurd h (by decide)) (Or.inr (by decide)) (fun C T N h => by cases h; exact Or.inr ⟨hname, rfl, List.mem_of_getElem? (i := 1413) (by decide +kernel)⟩) ?_
  exact kk
def mL45 : List (Int × Int × Int) := [(337, 59, 382)]
theorem km_45 {g : GT} {p : Program} {e : Env} {s : State} {m : MethodId} {args : Array Value} {below : List Frame} {meth : Method} {c : Code} {Q : State → Prop} {M : Mem} (hC : Cx g p s m meth c RX12 cX12_init 1) (hname : meth.name = "<init>") (kk : BW g p e (rmOf 1 (cs 337 406) (sl 337 406)) s m args below meth c Q (cs 337 382) (sl 337 382) 792 [(0, 2, 337)] [] 382 336 (stL M mL45)) : BW g p e (rmOf 1 (cs 337 406) (sl 337 406)) s m args below meth c Q (cs 337 381) (sl 337 381) 783 [(0, 2, 337)] [] 381 336 M := by
  refine b_aload_n (q := 0) hC dX12_init_783 rfl rfl ?_
  refine b_sipush hC dX12_init_784 (by decide) ⟨by decide, by decide⟩ ?_
  refine c_newa (b := 1) (n' := 382) (v := 160) hC rfl (pl := 0) rfl rfl id dX12_init_787 (List.mem_of_getElem? (i := 220) (by decide +kernel)) (dk := 51) kd_382 rfl ⟨by decide, by decide⟩ ln_382 ⟨by decide, by decide⟩ (by decide) (by decide) rfl ⟨by decide, by decide, by decide, by decide⟩ ?_
  refine b_pf (t := 2) hC dX12_init_789 kI_X12_149 kd_337 rfl (by decide) rfl (fun h => absurd h (by decide)) (Or.inr (by decide)) (fun C T N h => by cases h; exact Or.inr ⟨hname, rfl, List.mem_of_getElem? (i := 1414) (by decide +kernel)⟩) ?_
  exact kk
def mL46 : List (Int × Int × Int) := [(337, 61, 383)]
theorem km_46 {g : GT} {p : Program} {e : Env} {s : State} {m : MethodId} {args : Array Value} {below : List Frame} {meth : Method} {c : Code} {Q : State → Prop} {M : Mem} (hC : Cx g p s m meth c RX12 cX12_init 1) (hname : meth.name = "<init>") (kk : BW g p e (rmOf 1 (cs 337 406) (sl 337 406)) s m args below meth c Q (cs 337 383) (sl 337 383) 800 [(0, 2, 337)] [] 383 336 (stL M mL46)) : BW g p e (rmOf 1 (cs 337 406) (sl 337 406)) s m args below meth c Q (cs 337 382) (sl 337 382) 792 [(0, 2, 337)] [] 382 336 M := by
  refine b_aload_n (q := 0) hC dX12_init_792 rfl rfl ?_
  refine b_bipush hC dX12_init_793 (by decide) ⟨by decide, by decide⟩ ?_
  refine c_newa (b := 1) (n' := 383) (v := 8) hC rfl (pl := 0) rfl rfl id dX12_init_795 (List.mem_of_getElem? (i := 220) (by decide +kernel)) (dk := 51) kd_383 rfl ⟨by decide, by decide⟩ ln_383 ⟨by decide, by decide⟩ (by decide) (by decide) rfl ⟨by decide, by decide, by decide, by decide⟩ ?_
  refine b_pf (t := 2) hC dX12_init_797 kI_X12_152 kd_337 rfl (by decide) rfl (fun h => absurd h (by decide)) (Or.inr (by decide)) (fun C T N h => by cases h; exact Or.inr ⟨hname, rfl, List.mem_of_getElem? (i := 1416) (by decide +kernel)⟩) ?_
  exact kk
def mL47 : List (Int × Int × Int) := [(337, 62, 384)]
theorem km_47 {g : GT} {p : Program} {e : Env} {s : State} {m : MethodId} {args : Array Value} {below : List Frame} {meth : Method} {c : Code} {Q : State → Prop} {M : Mem} (hC : Cx g p s m meth c RX12 cX12_init 1) (hname : meth.name = "<init>") (kk : BW g p e (rmOf 1 (cs 337 406) (sl 337 406)) s m args below meth c Q (cs 337 384) (sl 337 384) 808 [(0, 2, 337)] [] 384 336 (stL M mL47)) : BW g p e (rmOf 1 (cs 337 406) (sl 337 406)) s m args below meth c Q (cs 337 383) (sl 337 383) 800 [(0, 2, 337)] [] 383 336 M := by
  refine b_aload_n (q := 0) hC dX12_init_800 rfl rfl ?_
  refine b_bipush hC dX12_init_801 (by decide) ⟨by decide, by decide⟩ ?_
  refine c_newa (b := 1) (n' := 384) (v := 8) hC rfl (pl := 0) rfl rfl id dX12_init_803 (List.mem_of_getElem? (i := 220) (by decide +kernel)) (dk := 51) kd_384 rfl ⟨by decide, by decide⟩ ln_384 ⟨by decide, by decide⟩ (by decide) (by decide) rfl ⟨by decide, by decide, by decide, by decide⟩ ?_
  refine b_pf (t := 2) hC dX12_init_805 kI_X12_155 kd_337 rfl (by decide) rfl (fun h => absurd h (by decide)) (Or.inr (by decide)) (fun C T N h => by cases h; exact Or.inr ⟨hname, rfl, List.mem_of_getElem? (i := 1417) (by decide +kernel)⟩) ?_
  exact kk
def mL48 : List (Int × Int × Int) := [(337, 63, 385)]
theorem km_48 {g : GT} {p : Program} {e : Env} {s : State} {m : MethodId} {args : Array Value} {below : List Frame} {meth : Method} {c : Code} {Q : State → Prop} {M : Mem} (hC : Cx g p s m meth c RX12 cX12_init 1) (hname : meth.name = "<init>") (kk : BW g p e (rmOf 1 (cs 337 406) (sl 337 406)) s m args below meth c Q (cs 337 385) (sl 337 385) 816 [(0, 2, 337)] [] 385 336 (stL M mL48)) : BW g p e (rmOf 1 (cs 337 406) (sl 337 406)) s m args below meth c Q (cs 337 384) (sl 337 384) 808 [(0, 2, 337)] [] 384 336 M := by
  refine b_aload_n (q := 0) hC dX12_init_808 rfl rfl ?_
  refine b_bipush hC dX12_init_809 (by decide) ⟨by decide, by decide⟩ ?_
  refine c_newa (b := 2) (n' := 385) (v := 8) hC rfl (pl := 1) rfl rfl id dX12_init_811 (List.mem_of_getElem? (i := 490) (by decide +kernel)) (dk := 52) kd_385 rfl ⟨by decide, by decide⟩ ln_385 ⟨by decide, by decide⟩ (by decide) (by decide) rfl ⟨by decide, by decide, by decide, by decide⟩ ?_
  refine b_pf (t := 2) hC dX12_init_813 kI_X12_158 kd_337 rfl (by decide) rfl (fun h => absurd h (by decide)) (Or.inr (by decide)) (fun C T N h => by cases h; exact Or.inr ⟨hname, rfl, List.mem_of_getElem? (i := 1418) (by decide +kernel)⟩) ?_
  exact kk
def mL49 : List (Int × Int × Int) := [(337, 65, 386)]
theorem km_49 {g : GT} {p : Program} {e : Env} {s : State} {m : MethodId} {args : Array Value} {below : List Frame} {meth : Method} {c : Code} {Q : State → Prop} {M : Mem} (hC : Cx g p s m meth c RX12 cX12_init 1) (hname : meth.name = "<init>") (kk : BW g p e (rmOf 1 (cs 337 406) (sl 337 406)) s m args below meth c Q (cs 337 386) (sl 337 386) 823 [(0, 2, 337)] [] 386 336 (stL M mL49)) : BW g p e (rmOf 1 (cs 337 406) (sl 337 406)) s m args below meth c Q (cs 337 385) (sl 337 385) 816 [(0, 2, 337)] [] 385 336 M := by
  refine b_aload_n (q := 0) hC dX12_init_816 rfl rfl ?_
  refine b_iconst hC dX12_init_817 ⟨by decide, by decide⟩ ?_
  refine c_newa (b := 3) (n' := 386) (v := 3) hC rfl (pl := 2) rfl rfl id dX12_init_818 (List.mem_of_getElem? (i := 489) (by decide +kernel)) (dk := 53) kd_386 rfl ⟨by decide, by decide⟩ ln_386 ⟨by decide, by decide⟩ (by decide) (by decide) rfl ⟨by decide, by decide, by decide, by decide⟩ ?_
  refine b_pf (t := 2) hC dX12_init_820 kI_X12_161 kd_337 rfl (by decide) rfl (fun h => absurd h (by decide)) (Or.inr (by decide)) (fun C T N h => by cases h; exact Or.inr ⟨hname, rfl, List.mem_of_getElem? (i := 1420) (by decide +kernel)⟩) ?_
  exact kk
def mL50 : List (Int × Int × Int) := [(337, 66, 387)]
theorem km_50 {g : GT} {p : Program} {e : Env} {s : State} {m : MethodId} {args : Array Value} {below : List Frame} {meth : Method} {c : Code} {Q : State → Prop} {M : Mem} (hC : Cx g p s m meth c RX12 cX12_init 1) (hname : meth.name = "<init>") (kk : BW g p e (rmOf 1 (cs 337 406) (sl 337 406)) s m args below meth c Q (cs 337 387) (sl 337 387) 832 [(0, 2, 337)] [] 387 336 (stL M mL50)) : BW g p e (rmOf 1 (cs 337 406) (sl 337 406)) s m args below meth c Q (cs 337 386) (sl 337 386) 823 [(0, 2, 337)] [] 386 336 M := by
  refine b_aload_n (q := 0) hC dX12_init_823 rfl rfl ?_
  refine b_sipush hC dX12_init_824 (by decide) ⟨by decide, by decide⟩ ?_
  refine c_newa (b := 2) (n' := 387) (v := 1000) hC rfl (pl := 1) rfl rfl id dX12_init_827 (List.mem_of_getElem? (i := 490) (by decide +kernel)) (dk := 52) kd_387 rfl ⟨by decide, by decide⟩ ln_387 ⟨by decide, by decide⟩ (by decide) (by decide) rfl ⟨by decide, by decide, by decide, by decide⟩ ?_
  refine b_pf (t := 2) hC dX12_init_829 kI_X12_164 kd_337 rfl (by decide) rfl (fun h => absurd h (by decide)) (Or.inr (by decide)) (fun C T N h => by cases h; exact Or.inr ⟨hname, rfl, List.mem_of_getElem? (i := 1421) (by decide +kernel)⟩) ?_
  exact kk
def mL51 : List (Int × Int × Int) := [(337, 74, 388)]
theorem km_51 {g : GT} {p : Program} {e : Env} {s : State} {m : MethodId} {args : Array Value} {below : List Frame} {meth : Method} {c : Code} {Q : State → Prop} {M : Mem} (hC : Cx g p s m meth c RX12 cX12_init 1) (hname : meth.name = "<init>") (kk : BW g p e (rmOf 1 (cs 337 406) (sl 337 406)) s m args below meth c Q (cs 337 388) (sl 337 388) 840 [(0, 2, 337)] [] 388 336 (stL M mL51)) : BW g p e (rmOf 1 (cs 337 406) (sl 337 406)) s m args below meth c Q (cs 337 387) (sl 337 387) 832 [(0, 2, 337)] [] 387 336 M := by
  refine b_aload_n (q := 0) hC dX12_init_832 rfl rfl ?_
  refine b_bipush hC dX12_init_833 (by decide) ⟨by decide, by decide⟩ ?_
  refine c_newa (b := 1) (n' := 388) (v := 96) hC rfl (pl := 0) rfl rfl id dX12_init_835 (List.mem_of_getElem? (i := 220) (by decide +kernel)) (dk := 51) kd_388 rfl ⟨by decide, by decide⟩ ln_388 ⟨by decide, by decide⟩ (by decide) (by decide) rfl ⟨by decide, by decide, by decide, by decide⟩ ?_
  refine b_pf (t := 2) hC dX12_init_837 kI_X12_167 kd_337 rfl (by decide) rfl (fun h => absurd h (by decide)) (Or.inr (by decide)) (fun C T N h => by cases h; exact Or.inr ⟨hname, rfl, List.mem_of_getElem? (i := 1429) (by decide +kernel)⟩) ?_
  exact kk
def mL52 : List (Int × Int × Int) := [(337, 75, 389)]
theorem km_52 {g : GT} {p : Program} {e : Env} {s : State} {m : MethodId} {args : Array Value} {below : List Frame} {meth : Method} {c : Code} {Q : State → Prop} {M : Mem} (hC : Cx g p s m meth c RX12 cX12_init 1) (hname : meth.name = "<init>") (kk : BW g p e (rmOf 1 (cs 337 406) (sl 337 406)) s m args below meth c Q (cs 337 389) (sl 337 389) 848 [(0, 2, 337)] [] 389 336 (stL M mL52)) : BW g p e (rmOf 1 (cs 337 406) (sl 337 406)) s m args below meth c Q (cs 337 388) (sl 337 388) 840 [(0, 2, 337)] [] 388 336 M := by
  refine b_aload_n (q := 0) hC dX12_init_840 rfl rfl ?_
  refine b_bipush hC dX12_init_841 (by decide) ⟨by decide, by decide⟩ ?_
  refine c_newa (b := 1) (n' := 389) (v := 96) hC rfl (pl := 0) rfl rfl id dX12_init_843 (List.mem_of_getElem? (i := 220) (by decide +kernel)) (dk := 51) kd_389 rfl ⟨by decide, by decide⟩ ln_389 ⟨by decide, by decide⟩ (by decide) (by decide) rfl ⟨by decide, by decide, by decide, by decide⟩ ?_
  refine b_pf (t := 2) hC dX12_init_845 kI_X12_170 kd_337 rfl (by decide) rfl (fun h => absurd h (by decide)) (Or.inr (by decide)) (fun C T N h => by cases h; exact Or.inr ⟨hname, rfl, List.mem_of_getElem? (i := 1430) (by decide +kernel)⟩) ?_
  exact kk
def mL53 : List (Int × Int × Int) := [(337, 76, 390)]
theorem km_53 {g : GT} {p : Program} {e : Env} {s : State} {m : MethodId} {args : Array Value} {below : List Frame} {meth : Method} {c : Code} {Q : State → Prop} {M : Mem} (hC : Cx g p s m meth c RX12 cX12_init 1) (hname : meth.name = "<init>") (kk : BW g p e (rmOf 1 (cs 337 406) (sl 337 406)) s m args below meth c Q (cs 337 390) (sl 337 390) 856 [(0, 2, 337)] [] 390 336 (stL M mL53)) : BW g p e (rmOf 1 (cs 337 406) (sl 337 406)) s m args below meth c Q (cs 337 389) (sl 337 389) 848 [(0, 2, 337)] [] 389 336 M := by
  refine b_aload_n (q := 0) hC dX12_init_848 rfl rfl ?_
  refine b_bipush hC dX12_init_849 (by decide) ⟨by decide, by decide⟩ ?_
  refine c_newa (b := 1) (n' := 390) (v := 96) hC rfl (pl := 0) rfl rfl id dX12_init_851 (List.mem_of_getElem? (i := 220) (by decide +kernel)) (dk := 51) kd_390 rfl ⟨by decide, by decide⟩ ln_390 ⟨by decide, by decide⟩ (by decide) (by decide) rfl ⟨by decide, by decide, by decide, by decide⟩ ?_
  refine b_pf (t := 2) hC dX12_init_853 kI_X12_173 kd_337 rfl (by decide) rfl (fun h => absurd h (by decide)) (Or.inr (by decide)) (fun C T N h => by cases h; exact Or.inr ⟨hname, rfl, List.mem_of_getElem? (i := 1431) (by decide +kernel)⟩) ?_
  exact kk
def mL54 : List (Int × Int × Int) := [(337, 77, 391)]
theorem km_54 {g : GT} {p : Program} {e : Env} {s : State} {m : MethodId} {args : Array Value} {below : List Frame} {meth : Method} {c : Code} {Q : State → Prop} {M : Mem} (hC : Cx g p s m meth c RX12 cX12_init 1) (hname : meth.name = "<init>") (kk : BW g p e (rmOf 1 (cs 337 406) (sl 337 406)) s m args below meth c Q (cs 337 391) (sl 337 391) 864 [(0, 2, 337)] [] 391 336 (stL M mL54)) : BW g p e (rmOf 1 (cs 337 406) (sl 337 406)) s m args below meth c Q (cs 337 390) (sl 337 390) 856 [(0, 2, 337)] [] 390 336 M := by
  refine b_aload_n (q := 0) hC dX12_init_856 rfl rfl ?_
  refine b_bipush hC dX12_init_857 (by decide) ⟨by decide, by decide⟩ ?_
  refine c_newa (b := 1) (n' := 391) (v := 96) hC rfl (pl := 0) rfl rfl id dX12_init_859 (List.mem_of_getElem? (i := 220) (by decide +kernel)) (dk := 51) kd_391 rfl ⟨by decide, by decide⟩ ln_391 ⟨by decide, by decide⟩ (by decide) (by decide) rfl ⟨by decide, by decide, by decide, by decide⟩ ?_
  refine b_pf (t := 2) hC dX12_init_861 kI_X12_176 kd_337 rfl (by decide) rfl (fun h => absurd h (by decide)) (Or.inr (by decide)) (fun C T N h => by cases h; exact Or.inr ⟨hname, rfl, List.mem_of_getElem? (i := 1432) (by decide +kernel)⟩) ?_
  exact kk
def mL55 : List (Int × Int × Int) := [(337, 80, 392)]
theorem km_55 {g : GT} {p : Program} {e : Env} {s : State} {m : MethodId} {args : Array Value} {below : List Frame} {meth : Method} {c : Code} {Q : State → Prop} {M : Mem} (hC : Cx g p s m meth c RX12 cX12_init 1) (hname : meth.name = "<init>") (kk : BW g p e (rmOf 1 (cs 337 406) (sl 337 406)) s m args below meth c Q (cs 337 392) (sl 337 392) 872 [(0, 2, 337)] [] 392 336 (stL M mL55)) : BW g p e (rmOf 1 (cs 337 406) (sl 337 406)) s m args below meth c Q (cs 337 391) (sl 337 391) 864 [(0, 2, 337)] [] 391 336 M := by
  refine b_aload_n (q := 0) hC dX12_init_864 rfl rfl ?_
  refine b_bipush hC dX12_init_865 (by decide) ⟨by decide, by decide⟩ ?_
  refine c_newa (b := 1) (n' := 392) (v := 40) hC rfl (pl := 0) rfl rfl id dX12_init_867 (List.mem_of_getElem? (i := 220) (by decide +kernel)) (dk := 51) kd_392 rfl ⟨by decide, by decide⟩ ln_392 ⟨by decide, by decide⟩ (by decide) (by decide) rfl ⟨by decide, by decide, by decide, by decide⟩ ?_
  refine b_pf (t := 2) hC dX12_init_869 kI_X12_179 kd_337 rfl (by decide) rfl (fun h => absurd h (by decide)) (Or.inr (by decide)) (fun C T N h => by cases h; exact Or.inr ⟨hname, rfl, List.mem_of_getElem? (i := 1435) (by decide +kernel)⟩) ?_
  exact kk
def mL56 : List (Int × Int × Int) := [(337, 81, 393)]
theorem km_56 {g : GT} {p : Program} {e : Env} {s : State} {m : MethodId} {args : Array Value} {below : List Frame} {meth : Method} {c : Code} {Q : State → Prop} {M : Mem} (hC : Cx g p s m meth c RX12 cX12_init 1) (hname : meth.name = "<init>") (kk : BW g p e (rmOf 1 (cs 337 406) (sl 337 406)) s m args below meth c Q (cs 337 393) (sl 337 393) 880 [(0, 2, 337)] [] 393 336 (stL M mL56)) : BW g p e (rmOf 1 (cs 337 406) (sl 337 406)) s m args below meth c Q (cs 337 392) (sl 337 392) 872 [(0, 2, 337)] [] 392 336 M := by
  refine b_aload_n (q := 0) hC dX12_init_872 rfl rfl ?_
  refine b_bipush hC dX12_init_873 (by decide) ⟨by decide, by decide⟩ ?_
  refine c_newa (b := 1) (n' := 393) (v := 40) hC rfl (pl := 0) rfl rfl id dX12_init_875 (List.mem_of_getElem? (i := 220) (by decide +kernel)) (dk := 51) kd_393 rfl ⟨by decide, by decide⟩ ln_393 ⟨by decide, by decide⟩ (by decide) (by decide) rfl ⟨by decide, by decide, by decide, by decide⟩ ?_
  refine b_pf (t := 2) hC dX12_init_877 kI_X12_182 kd_337 rfl (by decide) rfl (fun h => absurd h (by decide)) (Or.inr (by decide)) (fun C T N h => by cases h; exact Or.inr ⟨hname, rfl, List.mem_of_getElem? (i := 1436) (by decide +kernel)⟩) ?_
  exact kk
def mL57 : List (Int × Int × Int) := [(337, 82, 394)]
theorem km_57 {g : GT} {p : Program} {e : Env} {s : State} {m : MethodId} {args : Array Value} {below : List Frame} {meth : Method} {c : Code} {Q : State → Prop} {M : Mem} (hC : Cx g p s m meth c RX12 cX12_init 1) (hname : meth.name = "<init>") (kk : BW g p e (rmOf 1 (cs 337 406) (sl 337 406)) s m args below meth c Q (cs 337 394) (sl 337 394) 888 [(0, 2, 337)] [] 394 336 (stL M mL57)) : BW g p e (rmOf 1 (cs 337 406) (sl 337 406)) s m args below meth c Q (cs 337 393) (sl 337 393) 880 [(0, 2, 337)] [] 393 336 M := by
  refine b_aload_n (q := 0) hC dX12_init_880 rfl rfl ?_
  refine b_bipush hC dX12_init_881 (by decide) ⟨by decide, by decide⟩ ?_
  refine c_newa (b := 1) (n' := 394) (v := 40) hC rfl (pl := 0) rfl rfl id dX12_init_883 (List.mem_of_getElem? (i := 220) (by decide +kernel)) (dk := 51) kd_394 rfl ⟨by decide, by decide⟩ ln_394 ⟨by decide, by decide⟩ (by decide) (by decide) rfl ⟨by decide, by decide, by decide, by decide⟩ ?_
  refine b_pf (t := 2) hC dX12_init_885 kI_X12_185 kd_337 rfl (by decide) rfl (fun h => absurd h (by decide)) (Or.inr (by decide)) (fun C T N h => by cases h; exact Or.inr ⟨hname, rfl, List.mem_of_getElem? (i := 1437) (by decide +kernel)⟩) ?_
  exact kk
def mL58 : List (Int × Int × Int) := [(337, 83, 395)]
theorem km_58 {g : GT} {p : Program} {e : Env} {s : State} {m : MethodId} {args : Array Value} {below : List Frame} {meth : Method} {c : Code} {Q : State → Prop} {M : Mem} (hC : Cx g p s m meth c RX12 cX12_init 1) (hname : meth.name = "<init>") (kk : BW g p e (rmOf 1 (cs 337 406) (sl 337 406)) s m args below meth c Q (cs 337 395) (sl 337 395) 896 [(0, 2, 337)] [] 395 336 (stL M mL58)) : BW g p e (rmOf 1 (cs 337 406) (sl 337 406)) s m args below meth c Q (cs 337 394) (sl 337 394) 888 [(0, 2, 337)] [] 394 336 M := by
  refine b_aload_n (q := 0) hC dX12_init_888 rfl rfl ?_
  refine b_bipush hC dX12_init_889 (by decide) ⟨by decide, by decide⟩ ?_
  refine c_newa (b := 1) (n' := 395) (v := 40) hC rfl (pl := 0) rfl rfl id dX12_init_891 (List.mem_of_getElem? (i := 220) (by decide +kernel)) (dk := 51) kd_395 rfl ⟨by decide, by decide⟩ ln_395 ⟨by decide, by decide⟩ (by decide) (by decide) rfl ⟨by decide, by decide, by decide, by decide⟩ ?_
  refine b_pf (t := 2) hC dX12_init_893 kI_X12_188 kd_337 rfl (by decide) rfl (fun h => absurd h (by decide)) (Or.inr (by decide)) (fun C T N h => by cases h; exact Or.inr ⟨hname, rfl, List.mem_of_getElem? (i := 1438) (by decide +kernel)⟩) ?_
  exact kk
def mL59 : List (Int × Int × Int) := [(337, 84, 396)]
theorem km_59 {g : GT} {p : Program} {e : Env} {s : State} {m : MethodId} {args : Array Value} {below : List Frame} {meth : Method} {c : Code} {Q : State → Prop} {M : Mem} (hC : Cx g p s m meth c RX12 cX12_init 1) (hname : meth.name = "<init>") (kk : BW g p e (rmOf 1 (cs 337 406) (sl 337 406)) s m args below meth c Q (cs 337 396) (sl 337 396) 904 [(0, 2, 337)] [] 396 336 (stL M mL59)) : BW g p e (rmOf 1 (cs 337 406) (sl 337 406)) s m args below meth c Q (cs 337 395) (sl 337 395) 896 [(0, 2, 337)] [] 395 336 M := by
  refine b_aload_n (q := 0) hC dX12_init_896 rfl rfl ?_
  refine b_bipush hC dX12_init_897 (by decide) ⟨by decide, by decide⟩ ?_
  refine c_newa (b := 1) (n' := 396) (v := 40) hC rfl (pl := 0) rfl rfl id dX12_init_899 (List.mem_of_getElem? (i := 220) (by decide +kernel)) (dk := 51) kd_396 rfl ⟨by decide, by decide⟩ ln_396 ⟨by decide, by decide⟩ (by decide) (by decide) rfl ⟨by decide, by decide, by decide, by decide⟩ ?_
  refine b_pf (t := 2) hC dX12_init_901 kI_X12_191 kd_337 rfl (by decide) rfl (fun h => absurd h (by decide)) (Or.inr (by decide)) (fun C T N h => by cases h; exact Or.inr ⟨hname, rfl, List.mem_of_getElem? (i := 1439) (by decide +kernel)⟩) ?_
  exact kk
def mL60 : List (Int × Int × Int) := [(337, 85, 397)]
theorem km_60 {g : GT} {p : Program} {e : Env} {s : State} {m : MethodId} {args : Array Value} {below : List Frame} {meth : Method} {c : Code} {Q : State → Prop} {M : Mem} (hC : Cx g p s m meth c RX12 cX12_init 1) (hname : meth.name = "<init>") (kk : BW g p e (rmOf 1 (cs 337 406) (sl 337 406)) s m args below meth c Q (cs 337 397) (sl 337 397) 912 [(0, 2, 337)] [] 397 336 (stL M mL60)) : BW g p e (rmOf 1 (cs 337 406) (sl 337 406)) s m args below meth c Q (cs 337 396) (sl 337 396) 904 [(0, 2, 337)] [] 396 336 M := by
  refine b_aload_n (q := 0) hC dX12_init_904 rfl rfl ?_
  refine b_bipush hC dX12_init_905 (by decide) ⟨by decide, by decide⟩ ?_
  refine c_newa (b := 3) (n' := 397) (v := 40) hC rfl (pl := 2) rfl rfl id dX12_init_907 (List.mem_of_getElem? (i := 489) (by decide +kernel)) (dk := 53) kd_397 rfl ⟨by decide, by decide⟩ ln_397 ⟨by decide, by decide⟩ (by decide) (by decide) rfl ⟨by decide, by decide, by decide, by decide⟩ ?_
  refine b_pf (t := 2) hC dX12_init_909 kI_X12_194 kd_337 rfl (by decide) rfl (fun h => absurd h (by decide)) (Or.inr (by decide)) (fun C T N h => by cases h; exact Or.inr ⟨hname, rfl, List.mem_of_getElem? (i := 1440) (by decide +kernel)⟩) ?_
  exact kk
def mL61 : List (Int × Int × Int) := [(337, 86, 398)]
theorem km_61 {g : GT} {p : Program} {e : Env} {s : State} {m : MethodId} {args : Array Value} {below : List Frame} {meth : Method} {c : Code} {Q : State → Prop} {M : Mem} (hC : Cx g p s m meth c RX12 cX12_init 1) (hname : meth.name = "<init>") (kk : BW g p e (rmOf 1 (cs 337 406) (sl 337 406)) s m args below meth c Q (cs 337 398) (sl 337 398) 920 [(0, 2, 337)] [] 398 336 (stL M mL61)) : BW g p e (rmOf 1 (cs 337 406) (sl 337 406)) s m args below meth c Q (cs 337 397) (sl 337 397) 912 [(0, 2, 337)] [] 397 336 M := by
  refine b_aload_n (q := 0) hC dX12_init_912 rfl rfl ?_
  refine b_bipush hC dX12_init_913 (by decide) ⟨by decide, by decide⟩ ?_
  refine c_newa (b := 3) (n' := 398) (v := 40) hC rfl (pl := 2) rfl rfl id dX12_init_915 (List.mem_of_getElem? (i := 489) (by decide +kernel)) (dk := 53) kd_398 rfl ⟨by decide, by decide⟩ ln_398 ⟨by decide, by decide⟩ (by decide) (by decide) rfl ⟨by decide, by decide, by decide, by decide⟩ ?_
  refine b_pf (t := 2) hC dX12_init_917 kI_X12_197 kd_337 rfl (by decide) rfl (fun h => absurd h (by decide)) (Or.inr (by decide)) (fun C T N h => by cases h; exact Or.inr ⟨hname, rfl, List.mem_of_getElem? (i := 1441) (by decide +kernel)⟩) ?_
  exact kk
def mL62 : List (Int × Int × Int) := [(337, 87, 399)]
theorem km_62 {g : GT} {p : Program} {e : Env} {s : State} {m : MethodId} {args : Array Value} {below : List Frame} {meth : Method} {c : Code} {Q : State → Prop} {M : Mem} (hC : Cx g p s m meth c RX12 cX12_init 1) (hname : meth.name = "<init>") (kk : BW g p e (rmOf 1 (cs 337 406) (sl 337 406)) s m args below meth c Q (cs 337 399) (sl 337 399) 928 [(0, 2, 337)] [] 399 336 (stL M mL62)) : BW g p e (rmOf 1 (cs 337 406) (sl 337 406)) s m args below meth c Q (cs 337 398) (sl 337 398) 920 [(0, 2, 337)] [] 398 336 M := by
  refine b_aload_n (q := 0) hC dX12_init_920 rfl rfl ?_
  refine b_bipush hC dX12_init_921 (by decide) ⟨by decide, by decide⟩ ?_
  refine c_newa (b := 1) (n' := 399) (v := 40) hC rfl (pl := 0) rfl rfl id dX12_init_923 (List.mem_of_getElem? (i := 220) (by decide +kernel)) (dk := 51) kd_399 rfl ⟨by decide, by decide⟩ ln_399 ⟨by decide, by decide⟩ (by decide) (by decide) rfl ⟨by decide, by decide, by decide, by decide⟩ ?_
  refine b_pf (t := 2) hC dX12_init_925 kI_X12_200 kd_337 rfl (by decide) rfl (fun h => absurd h (by decide)) (Or.inr (by decide)) (fun C T N h => by cases h; exact Or.inr ⟨hname, rfl, List.mem_of_getElem? (i := 1442) (by decide +kernel)⟩) ?_
  exact kk
def mL63 : List (Int × Int × Int) := [(337, 88, 400)]
theorem km_63 {g : GT} {p : Program} {e : Env} {s : State} {m : MethodId} {args : Array Value} {below : List Frame} {meth : Method} {c : Code} {Q : State → Prop} {M : Mem} (hC : Cx g p s m meth c RX12 cX12_init 1) (hname : meth.name = "<init>") (kk : BW g p e (rmOf 1 (cs 337 406) (sl 337 406)) s m args below meth c Q (cs 337 400) (sl 337 400) 936 [(0, 2, 337)] [] 400 336 (stL M mL63)) : BW g p e (rmOf 1 (cs 337 406) (sl 337 406)) s m args below meth c Q (cs 337 399) (sl 337 399) 928 [(0, 2, 337)] [] 399 336 M := by
  refine b_aload_n (q := 0) hC dX12_init_928 rfl rfl ?_
  refine b_bipush hC dX12_init_929 (by decide) ⟨by decide, by decide⟩ ?_
  refine c_newa (b := 1) (n' := 400) (v := 40) hC rfl (pl := 0) rfl rfl id dX12_init_931 (List.mem_of_getElem? (i := 220) (by decide +kernel)) (dk := 51) kd_400 rfl ⟨by decide, by decide⟩ ln_400 ⟨by decide, by decide⟩ (by decide) (by decide) rfl ⟨by decide, by decide, by decide, by decide⟩ ?_
  refine b_pf (t := 2) hC dX12_init_933 kI_X12_203 kd_337 rfl (by decide) rfl (fun h => absurd h (by decide)) (Or.inr (by decide)) (fun C T N h => by cases h; exact Or.inr ⟨hname, rfl, List.mem_of_getElem? (i := 1443) (by decide +kernel)⟩) ?_
  exact kk
def mL64 : List (Int × Int × Int) := [(337, 89, 401)]
theorem km_64 {g : GT} {p : Program} {e : Env} {s : State} {m : MethodId} {args : Array Value} {below : List Frame} {meth : Method} {c : Code} {Q : State → Prop} {M : Mem} (hC : Cx g p s m meth c RX12 cX12_init 1) (hname : meth.name = "<init>") (kk : BW g p e (rmOf 1 (cs 337 406) (sl 337 406)) s m args below meth c Q (cs 337 401) (sl 337 401) 944 [(0, 2, 337)] [] 401 336 (stL M mL64)) : BW g p e (rmOf 1 (cs 337 406) (sl 337 406)) s m args below meth c Q (cs 337 400) (sl 337 400) 936 [(0, 2, 337)] [] 400 336 M := by
  refine b_aload_n (q := 0) hC dX12_init_936 rfl rfl ?_
  refine b_bipush hC dX12_init_937 (by decide) ⟨by decide, by decide⟩ ?_
  refine c_newa (b := 2) (n' := 401) (v := 42) hC rfl (pl := 1) rfl rfl id dX12_init_939 (List.mem_of_getElem? (i := 490) (by decide +kernel)) (dk := 52) kd_401 rfl ⟨by decide, by decide⟩ ln_401 ⟨by decide, by decide⟩ (by decide) (by decide) rfl ⟨by decide, by decide, by decide, by decide⟩ ?_
  refine b_pf (t := 2) hC dX12_init_941 kI_X12_206 kd_337 rfl (by decide) rfl (fun h => absurd h (by decide)) (Or.inr (by decide)) (fun C T N h => by cases h; exact Or.inr ⟨hname, rfl, List.mem_of_getElem? (i := 1444) (by decide +kernel)⟩) ?_
  exact kk
def mL65 : List (Int × Int × Int) := [(337, 90, 402)]
theorem km_65 {g : GT} {p : Program} {e : Env} {s : State} {m : MethodId} {args : Array Value} {below : List Frame} {meth : Method} {c : Code} {Q : State → Prop} {M : Mem} (hC : Cx g p s m meth c RX12 cX12_init 1) (hname : meth.name = "<init>") (kk : BW g p e (rmOf 1 (cs 337 406) (sl 337 406)) s m args below meth c Q (cs 337 402) (sl 337 402) 952 [(0, 2, 337)] [] 402 336 (stL M mL65)) : BW g p e (rmOf 1 (cs 337 406) (sl 337 406)) s m args below meth c Q (cs 337 401) (sl 337 401) 944 [(0, 2, 337)] [] 401 336 M := by
  refine b_aload_n (q := 0) hC dX12_init_944 rfl rfl ?_
  refine b_bipush hC dX12_init_945 (by decide) ⟨by decide, by decide⟩ ?_
  refine c_newa (b := 1) (n' := 402) (v := 40) hC rfl (pl := 0) rfl rfl id dX12_init_947 (List.mem_of_getElem? (i := 220) (by decide +kernel)) (dk := 51) kd_402 rfl ⟨by decide, by decide⟩ ln_402 ⟨by decide, by decide⟩ (by decide) (by decide) rfl ⟨by decide, by decide, by decide, by decide⟩ ?_
  refine b_pf (t := 2) hC dX12_init_949 kI_X12_209 kd_337 rfl (by decide) rfl (fun h => absurd h (by decide)) (Or.inr (by decide)) (fun C T N h => by cases h; exact Or.inr ⟨hname, rfl, List.mem_of_getElem? (i := 1445) (by decide +kernel)⟩) ?_
  exact kk
def mL66 : List (Int × Int × Int) := [(337, 91, 403)]
theorem km_66 {g : GT} {p : Program} {e : Env} {s : State} {m : MethodId} {args : Array Value} {below : List Frame} {meth : Method} {c : Code} {Q : State → Prop} {M : Mem} (hC : Cx g p s m meth c RX12 cX12_init 1) (hname : meth.name = "<init>") (kk : BW g p e (rmOf 1 (cs 337 406) (sl 337 406)) s m args below meth c Q (cs 337 403) (sl 337 403) 960 [(0, 2, 337)] [] 403 336 (stL M mL66)) : BW g p e (rmOf 1 (cs 337 406) (sl 337 406)) s m args below meth c Q (cs 337 402) (sl 337 402) 952 [(0, 2, 337)] [] 402 336 M := by
  refine b_aload_n (q := 0) hC dX12_init_952 rfl rfl ?_
  refine b_bipush hC dX12_init_953 (by decide) ⟨by decide, by decide⟩ ?_
  refine c_newa (b := 3) (n' := 403) (v := 96) hC rfl (pl := 2) rfl rfl id dX12_init_955 (List.mem_of_getElem? (i := 489) (by decide +kernel)) (dk := 53) kd_403 rfl ⟨by decide, by decide⟩ ln_403 ⟨by decide, by decide⟩ (by decide) (by decide) rfl ⟨by decide, by decide, by decide, by decide⟩ ?_
  refine b_pf (t := 2) hC dX12_init_957 kI_X12_212 kd_337 rfl (by decide) rfl (fun h => absurd h (by decide)) (Or.inr (by decide)) (fun C T N h => by cases h; exact Or.inr ⟨hname, rfl, List.mem_of_getElem? (i := 1446) (by decide +kernel)⟩) ?_
  exact kk
def mL67 : List (Int × Int × Int) := [(337, 92, 404)]
theorem km_67 {g : GT} {p : Program} {e : Env} {s : State} {m : MethodId} {args : Array Value} {below : List Frame} {meth : Method} {c : Code} {Q : State → Prop} {M : Mem} (hC : Cx g p s m meth c RX12 cX12_init 1) (hname : meth.name = "<init>") (kk : BW g p e (rmOf 1 (cs 337 406) (sl 337 406)) s m args below meth c Q (cs 337 404) (sl 337 404) 968 [(0, 2, 337)] [] 404 336 (stL M mL67)) : BW g p e (rmOf 1 (cs 337 406) (sl 337 406)) s m args below meth c Q (cs 337 403) (sl 337 403) 960 [(0, 2, 337)] [] 403 336 M := by
  refine b_aload_n (q := 0) hC dX12_init_960 rfl rfl ?_
  refine b_bipush hC dX12_init_961 (by decide) ⟨by decide, by decide⟩ ?_
  refine c_newa (b := 2) (n' := 404) (v := 8) hC rfl (pl := 1) rfl rfl id dX12_init_963 (List.mem_of_getElem? (i := 490) (by decide +kernel)) (dk := 52) kd_404 rfl ⟨by decide, by decide⟩ ln_404 ⟨by decide, by decide⟩ (by decide) (by decide) rfl ⟨by decide, by decide, by decide, by decide⟩ ?_
  refine b_pf (t := 2) hC dX12_init_965 kI_X12_215 kd_337 rfl (by decide) rfl (fun h => absurd h (by decide)) (Or.inr (by decide)) (fun C T N h => by cases h; exact Or.inr ⟨hname, rfl, List.mem_of_getElem? (i := 1447) (by decide +kernel)⟩) ?_
  exact kk
def mL68 : List (Int × Int × Int) := [(337, 93, 405)]
theorem km_68 {g : GT} {p : Program} {e : Env} {s : State} {m : MethodId} {args : Array Value} {below : List Frame} {meth : Method} {c : Code} {Q : State → Prop} {M : Mem} (hC : Cx g p s m meth c RX12 cX12_init 1) (hname : meth.name = "<init>") (kk : BW g p e (rmOf 1 (cs 337 406) (sl 337 406)) s m args below meth c Q (cs 337 405) (sl 337 405) 976 [(0, 2, 337)] [] 405 336 (stL M mL68)) : BW g p e (rmOf 1 (cs 337 406) (sl 337 406)) s m args below meth c Q (cs 337 404) (sl 337 404) 968 [(0, 2, 337)] [] 404 336 M := by
  refine b_aload_n (q := 0) hC dX12_init_968 rfl rfl ?_
  refine b_bipush hC dX12_init_969 (by decide) ⟨by decide, by decide⟩ ?_
  refine c_newa (b := 2) (n' := 405) (v := 8) hC rfl (pl := 1) rfl rfl id dX12_init_971 (List.mem_of_getElem? (i := 490) (by decide +kernel)) (dk := 52) kd_405 rfl ⟨by decide, by decide⟩ ln_405 ⟨by decide, by decide⟩ (by decide) (by decide) rfl ⟨by decide, by decide, by decide, by decide⟩ ?_
  refine b_pf (t := 2) hC dX12_init_973 kI_X12_218 kd_337 rfl (by decide) rfl (fun h => absurd h (by decide)) (Or.inr (by decide)) (fun C T N h => by cases h; exact Or.inr ⟨hname, rfl, List.mem_of_getElem? (i := 1448) (by decide +kernel)⟩) ?_
  exact kk
def mL69 : List (Int × Int × Int) := [(337, 94, 406)]
theorem km_69 {g : GT} {p : Program} {e : Env} {s : State} {m : MethodId} {args : Array Value} {below : List Frame} {meth : Method} {c : Code} {Q : State → Prop} {M : Mem} (hC : Cx g p s m meth c RX12 cX12_init 1) (hname : meth.name = "<init>") (kk : BW g p e (rmOf 1 (cs 337 406) (sl 337 406)) s m args below meth c Q (cs 337 406) (sl 337 406) 985 [(0, 2, 337)] [] 406 336 (stL M mL69)) : BW g p e (rmOf 1 (cs 337 406) (sl 337 406)) s m args below meth c Q (cs 337 405) (sl 337 405) 976 [(0, 2, 337)] [] 405 336 M := by
  refine b_aload_n (q := 0) hC dX12_init_976 rfl rfl ?_
  refine b_sipush hC dX12_init_977 (by decide) ⟨by decide, by decide⟩ ?_
  refine c_newa (b := 1) (n' := 406) (v := 330) hC rfl (pl := 0) rfl rfl id dX12_init_980 (List.mem_of_getElem? (i := 220) (by decide +kernel)) (dk := 51) kd_406 rfl ⟨by decide, by decide⟩ ln_406 ⟨by decide, by decide⟩ (by decide) (by decide) rfl ⟨by decide, by decide, by decide, by decide⟩ ?_
  refine b_pf (t := 2) hC dX12_init_982 kI_X12_221 kd_337 rfl (by decide) rfl (fun h => absurd h (by decide)) (Or.inr (by decide)) (fun C T N h => by cases h; exact Or.inr ⟨hname, rfl, List.mem_of_getElem? (i := 1449) (by decide +kernel)⟩) ?_
  exact kk
def mmL : List (Int × Int × Int) := mL0 ++ mL1 ++ mL2 ++ mL3 ++ mL4 ++ mL5 ++ mL6 ++ mL7 ++ mL8 ++ mL9 ++ mL10 ++ mL11 ++ mL12 ++ mL13 ++ mL14 ++ mL15 ++ mL16 ++ mL17 ++ mL18 ++ mL19 ++ mL20 ++ mL21 ++ mL22 ++ mL23 ++ mL24 ++ mL25 ++ mL26 ++ mL27 ++ mL28 ++ mL29 ++ mL30 ++ mL31 ++ mL32 ++ mL33 ++ mL34 ++ mL35 ++ mL36 ++ mL37 ++ mL38 ++ mL39 ++ mL40 ++ mL41 ++ mL42 ++ mL43 ++ mL44 ++ mL45 ++ mL46 ++ mL47 ++ mL48 ++ mL49 ++ mL50 ++ mL51 ++ mL52 ++ mL53 ++ mL54 ++ mL55 ++ mL56 ++ mL57 ++ mL58 ++ mL59 ++ mL60 ++ mL61 ++ mL62 ++ mL63 ++ mL64 ++ mL65 ++ mL66 ++ mL67 ++ mL68 ++ mL69
def mmM (M : Mem) : Mem := stL (stL (stL (stL (stL (stL (stL (stL (stL (stL (stL (stL (stL (stL (stL (stL (stL (stL (stL (stL (stL (stL (stL (stL (stL (stL (stL (stL (stL (stL (stL (stL (stL (stL (stL (stL (stL (stL (stL (stL (stL (stL (stL (stL (stL (stL (stL (stL (stL (stL (stL (stL (stL (stL (stL (stL (stL (stL (stL (stL (stL (stL (stL (stL (stL (stL (stL (stL (stL (stL M mL0) mL1) mL2) mL3) mL4) mL5) mL6) mL7) mL8) mL9) mL10) mL11) mL12) mL13) mL14) mL15) mL16) mL17) mL18) mL19) mL20) mL21) mL22) mL23) mL24) mL25) mL26) mL27) mL28) mL29) mL30) mL31) mL32) mL33) mL34) mL35) mL36) mL37) mL38) mL39) mL40) mL41) mL42) mL43) mL44) mL45) mL46) mL47) mL48) mL49) mL50) mL51) mL52) mL53) mL54) mL55) mL56) mL57) mL58) mL59) mL60) mL61) mL62) mL63) mL64) mL65) mL66) mL67) mL68) mL69
theorem mmM_e (M : Mem) : mmM M = stL M mmL := by
  unfold mmM mmL
  simp only [stL_app]
theorem ci_X12_init {g : GT} (M : Mem) (hok : okS [(2, 337)]) : RM g yX12_init cX12_init 1 none 1 337 406 336 [(2, 337)] M (mmM M) 0 := by
  refine RM_of (by decide +kernel) (Nat.le_of_ble_eq_true rfl) (fun p e s m args below meth c hC hr hname => ?_) hok
  have hC : Cx g p s m meth c RX12 cX12_init 1 := hC
  show BW g p e (rmOf 1 (cs 337 406) (sl 337 406)) s m args below meth c (MQ below (QcA g 406 336 (mmM M) none 0) args s (cs 337 406) (sl 337 406) (Ag g)) (cs 337 337) (sl 337 337) 0 [(0, 2, 337)] [] 337 336 M
  refine km_0 hC hname ?_
  refine km_1 hC hname ?_
  refine km_2 hC hname ?_
  refine km_3 hC hname ?_
  refine km_4 hC hname ?_
  refine km_5 hC hname ?_
  refine km_6 hC hname ?_
  refine km_7 hC hname ?_
  refine km_8 hC hname ?_
  refine km_9 hC hname ?_
  refine km_10 hC hname ?_
  refine km_11 hC hname ?_
  refine km_12 hC hname ?_
  refine km_13 hC hname ?_
  refine km_14 hC hname ?_
  refine km_15 hC hname ?_
  refine km_16 hC hname ?_
  refine km_17 hC hname ?_
  refine km_18 hC hname ?_
  refine km_19 hC hname ?_
  refine km_20 hC hname ?_
  refine km_21 hC hname ?_
  refine km_22 hC hname ?_
  refine km_23 hC hname ?_
  refine km_24 hC hname ?_
  refine km_25 hC hname ?_
  refine km_26 hC hname ?_
  refine km_27 hC hname ?_
  refine km_28 hC hname ?_
  refine km_29 hC hname ?_
  refine km_30 hC hname ?_
  refine km_31 hC hname ?_
  refine km_32 hC hname ?_
  refine km_33 hC hname ?_
  refine km_34 hC hname ?_
  refine km_35 hC hname ?_
  refine km_36 hC hname ?_
  refine km_37 hC hname ?_
  refine km_38 hC hname ?_
  refine km_39 hC hname ?_
  refine km_40 hC hname ?_
  refine km_41 hC hname ?_
  refine km_42 hC hname ?_
  refine km_43 hC hname ?_
  refine km_44 hC hname ?_
  refine km_45 hC hname ?_
  refine km_46 hC hname ?_
  refine km_47 hC hname ?_
  refine km_48 hC hname ?_
  refine km_49 hC hname ?_
  refine km_50 hC hname ?_
  refine km_51 hC hname ?_
  refine km_52 hC hname ?_
  refine km_53 hC hname ?_
  refine km_54 hC hname ?_
  refine km_55 hC hname ?_
  refine km_56 hC hname ?_
  refine km_57 hC hname ?_
  refine km_58 hC hname ?_
  refine km_59 hC hname ?_
  refine km_60 hC hname ?_
  refine km_61 hC hname ?_
  refine km_62 hC hname ?_
  refine km_63 hC hname ?_
  refine km_64 hC hname ?_
  refine km_65 hC hname ?_
  refine km_66 hC hname ?_
  refine km_67 hC hname ?_
  refine km_68 hC hname ?_
  refine km_69 hC hname ?_
  exact b_vret hC hr dX12_init_985
theorem mm_fxb : fxl.all (fun t => decide (t.1 ≤ 336) || decide (lkL t.1 t.2.1 mmL = some t.2.2)) = true := by decide +kernel
theorem mm_fx (M : Mem) : ∀ t ∈ fxl, 336 < t.1 → mmM M t.1 t.2.1 = t.2.2 := by
  intro t ht h
  have q := List.all_eq_true.mp mm_fxb t ht
  rcases (Bool.or_eq_true _ _).mp q with z | z
  · have := of_decide_eq_true z
    omega
  · have := of_decide_eq_true z
    rw [mmM_e, stL_at, this]
    rfl
