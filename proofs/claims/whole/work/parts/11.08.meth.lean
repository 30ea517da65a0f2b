theorem dX12_runShowing_0 : decode cX12_runShowing 0 = .ok (.aload_n 0, 1) := by decide +kernel
theorem dX12_runShowing_1 : decode cX12_runShowing 1 = .ok (.getfield 137, 3) := by decide +kernel
theorem dX12_runShowing_4 : decode cX12_runShowing 4 = .ok (.iload_n 2, 1) := by decide +kernel
theorem dX12_runShowing_5 : decode cX12_runShowing 5 = .ok (.iaload, 1) := by decide +kernel
theorem dX12_runShowing_6 : decode cX12_runShowing 6 = .ok (.istore 4, 2) := by decide +kernel
theorem dX12_runShowing_8 : decode cX12_runShowing 8 = .ok (.aload_n 0, 1) := by decide +kernel
theorem dX12_runShowing_9 : decode cX12_runShowing 9 = .ok (.getfield 140, 3) := by decide +kernel
theorem dX12_runShowing_12 : decode cX12_runShowing 12 = .ok (.iload_n 2, 1) := by decide +kernel
theorem dX12_runShowing_13 : decode cX12_runShowing 13 = .ok (.iaload, 1) := by decide +kernel
theorem dX12_runShowing_14 : decode cX12_runShowing 14 = .ok (.istore 5, 2) := by decide +kernel
theorem dX12_runShowing_16 : decode cX12_runShowing 16 = .ok (.aload_n 0, 1) := by decide +kernel
theorem dX12_runShowing_17 : decode cX12_runShowing 17 = .ok (.iload 5, 2) := by decide +kernel
theorem dX12_runShowing_19 : decode cX12_runShowing 19 = .ok (.bipush 12, 2) := by decide +kernel
theorem dX12_runShowing_21 : decode cX12_runShowing 21 = .ok (.irem, 1) := by decide +kernel
theorem dX12_runShowing_22 : decode cX12_runShowing 22 = .ok (.putfield 407, 3) := by decide +kernel
theorem dX12_runShowing_25 : decode cX12_runShowing 25 = .ok (.aload_n 0, 1) := by decide +kernel
theorem dX12_runShowing_26 : decode cX12_runShowing 26 = .ok (.iload 5, 2) := by decide +kernel
theorem dX12_runShowing_28 : decode cX12_runShowing 28 = .ok (.bipush 12, 2) := by decide +kernel
theorem dX12_runShowing_30 : decode cX12_runShowing 30 = .ok (.idiv, 1) := by decide +kernel
theorem dX12_runShowing_31 : decode cX12_runShowing 31 = .ok (.putfield 410, 3) := by decide +kernel
theorem dX12_runShowing_34 : decode cX12_runShowing 34 = .ok (.aload_n 0, 1) := by decide +kernel
theorem dX12_runShowing_35 : decode cX12_runShowing 35 = .ok (.iload_n 3, 1) := by decide +kernel
theorem dX12_runShowing_36 : decode cX12_runShowing 36 = .ok (.putfield 413, 3) := by decide +kernel
theorem dX12_runShowing_39 : decode cX12_runShowing 39 = .ok (.aload_n 0, 1) := by decide +kernel
theorem dX12_runShowing_40 : decode cX12_runShowing 40 = .ok (.aload_n 0, 1) := by decide +kernel
theorem dX12_runShowing_41 : decode cX12_runShowing 41 = .ok (.getfield 167, 3) := by decide +kernel
theorem dX12_runShowing_44 : decode cX12_runShowing 44 = .ok (.iload 5, 2) := by decide +kernel
theorem dX12_runShowing_46 : decode cX12_runShowing 46 = .ok (.iaload, 1) := by decide +kernel
theorem dX12_runShowing_47 : decode cX12_runShowing 47 = .ok (.putfield 416, 3) := by decide +kernel
theorem dX12_runShowing_50 : decode cX12_runShowing 50 = .ok (.aload_n 0, 1) := by decide +kernel
theorem dX12_runShowing_51 : decode cX12_runShowing 51 = .ok (.iconst 0, 1) := by decide +kernel
theorem dX12_runShowing_52 : decode cX12_runShowing 52 = .ok (.putfield 419, 3) := by decide +kernel
theorem dX12_runShowing_55 : decode cX12_runShowing 55 = .ok (.aload_n 0, 1) := by decide +kernel
theorem dX12_runShowing_56 : decode cX12_runShowing 56 = .ok (.iload 4, 2) := by decide +kernel
theorem dX12_runShowing_58 : decode cX12_runShowing 58 = .ok (.putfield 422, 3) := by decide +kernel
theorem dX12_runShowing_61 : decode cX12_runShowing 61 = .ok (.aload_n 0, 1) := by decide +kernel
theorem dX12_runShowing_62 : decode cX12_runShowing 62 = .ok (.aload_n 0, 1) := by decide +kernel
theorem dX12_runShowing_63 : decode cX12_runShowing 63 = .ok (.getfield 143, 3) := by decide +kernel
theorem dX12_runShowing_66 : decode cX12_runShowing 66 = .ok (.iload_n 2, 1) := by decide +kernel
theorem dX12_runShowing_67 : decode cX12_runShowing 67 = .ok (.iaload, 1) := by decide +kernel
theorem dX12_runShowing_68 : decode cX12_runShowing 68 = .ok (.aload_n 0, 1) := by decide +kernel
theorem dX12_runShowing_69 : decode cX12_runShowing 69 = .ok (.getfield 146, 3) := by decide +kernel
theorem dX12_runShowing_72 : decode cX12_runShowing 72 = .ok (.iload_n 2, 1) := by decide +kernel
theorem dX12_runShowing_73 : decode cX12_runShowing 73 = .ok (.iaload, 1) := by decide +kernel
theorem dX12_runShowing_74 : decode cX12_runShowing 74 = .ok (.invokevirtual 425, 3) := by decide +kernel
theorem dX12_runShowing_77 : decode cX12_runShowing 77 = .ok (.lstore 6, 2) := by decide +kernel
theorem dX12_runShowing_79 : decode cX12_runShowing 79 = .ok (.lload 6, 2) := by decide +kernel
theorem dX12_runShowing_81 : decode cX12_runShowing 81 = .ok (.lconst 0, 1) := by decide +kernel
theorem dX12_runShowing_82 : decode cX12_runShowing 82 = .ok (.lcmp, 1) := by decide +kernel
theorem dX12_runShowing_83 : decode cX12_runShowing 83 = .ok (.ifCond .ge 7, 3) := by decide +kernel
theorem dX12_runShowing_86 : decode cX12_runShowing 86 = .ok (.iconst 0, 1) := by decide +kernel
theorem dX12_runShowing_87 : decode cX12_runShowing 87 = .ok (.goto 20, 3) := by decide +kernel
theorem dX12_runShowing_90 : decode cX12_runShowing 90 = .ok (.lload 6, 2) := by decide +kernel
theorem dX12_runShowing_92 : decode cX12_runShowing 92 = .ok (.ldc2_w 429, 3) := by decide +kernel
theorem dX12_runShowing_95 : decode cX12_runShowing 95 = .ok (.lcmp, 1) := by decide +kernel
theorem dX12_runShowing_96 : decode cX12_runShowing 96 = .ok (.ifCond .le 8, 3) := by decide +kernel
theorem dX12_runShowing_99 : decode cX12_runShowing 99 = .ok (.bipush 99, 2) := by decide +kernel
theorem dX12_runShowing_101 : decode cX12_runShowing 101 = .ok (.goto 6, 3) := by decide +kernel
theorem dX12_runShowing_104 : decode cX12_runShowing 104 = .ok (.lload 6, 2) := by decide +kernel
theorem dX12_runShowing_106 : decode cX12_runShowing 106 = .ok (.l2i, 1) := by decide +kernel
theorem dX12_runShowing_107 : decode cX12_runShowing 107 = .ok (.istore 8, 2) := by decide +kernel
theorem dX12_runShowing_109 : decode cX12_runShowing 109 = .ok (.aload_n 0, 1) := by decide +kernel
theorem dX12_runShowing_110 : decode cX12_runShowing 110 = .ok (.iload 4, 2) := by decide +kernel
theorem dX12_runShowing_112 : decode cX12_runShowing 112 = .ok (.iload 5, 2) := by decide +kernel
theorem dX12_runShowing_114 : decode cX12_runShowing 114 = .ok (.iload 8, 2) := by decide +kernel
theorem dX12_runShowing_116 : decode cX12_runShowing 116 = .ok (.invokevirtual 431, 3) := by decide +kernel
theorem dX12_runShowing_119 : decode cX12_runShowing 119 = .ok (.aload_n 0, 1) := by decide +kernel
theorem dX12_runShowing_120 : decode cX12_runShowing 120 = .ok (.iload_n 1, 1) := by decide +kernel
theorem dX12_runShowing_121 : decode cX12_runShowing 121 = .ok (.iconst 0, 1) := by decide +kernel
theorem dX12_runShowing_122 : decode cX12_runShowing 122 = .ok (.invokevirtual 435, 3) := by decide +kernel
theorem dX12_runShowing_125 : decode cX12_runShowing 125 = .ok (.istore 9, 2) := by decide +kernel
theorem dX12_runShowing_127 : decode cX12_runShowing 127 = .ok (.aload_n 0, 1) := by decide +kernel
theorem dX12_runShowing_128 : decode cX12_runShowing 128 = .ok (.iload_n 1, 1) := by decide +kernel
theorem dX12_runShowing_129 : decode cX12_runShowing 129 = .ok (.invokevirtual 439, 3) := by decide +kernel
theorem dX12_runShowing_132 : decode cX12_runShowing 132 = .ok (.istore 10, 2) := by decide +kernel
theorem dX12_runShowing_134 : decode cX12_runShowing 134 = .ok (.aload_n 0, 1) := by decide +kernel
theorem dX12_runShowing_135 : decode cX12_runShowing 135 = .ok (.getfield 125, 3) := by decide +kernel
theorem dX12_runShowing_138 : decode cX12_runShowing 138 = .ok (.iconst 5, 1) := by decide +kernel
theorem dX12_runShowing_139 : decode cX12_runShowing 139 = .ok (.iload 4, 2) := by decide +kernel
theorem dX12_runShowing_141 : decode cX12_runShowing 141 = .ok (.iadd, 1) := by decide +kernel
theorem dX12_runShowing_142 : decode cX12_runShowing 142 = .ok (.iaload, 1) := by decide +kernel
theorem dX12_runShowing_143 : decode cX12_runShowing 143 = .ok (.istore 11, 2) := by decide +kernel
theorem dX12_runShowing_145 : decode cX12_runShowing 145 = .ok (.aload_n 0, 1) := by decide +kernel
theorem dX12_runShowing_146 : decode cX12_runShowing 146 = .ok (.aload_n 0, 1) := by decide +kernel
theorem dX12_runShowing_147 : decode cX12_runShowing 147 = .ok (.getfield 442, 3) := by decide +kernel
theorem dX12_runShowing_150 : decode cX12_runShowing 150 = .ok (.invokestatic 446, 3) := by decide +kernel
theorem dX12_runShowing_153 : decode cX12_runShowing 153 = .ok (.putfield 442, 3) := by decide +kernel
theorem dX12_runShowing_156 : decode cX12_runShowing 156 = .ok (.aload_n 0, 1) := by decide +kernel
theorem dX12_runShowing_157 : decode cX12_runShowing 157 = .ok (.getfield 442, 3) := by decide +kernel
theorem dX12_runShowing_160 : decode cX12_runShowing 160 = .ok (.ldc2_w 448, 3) := by decide +kernel
theorem dX12_runShowing_163 : decode cX12_runShowing 163 = .ok (.ldiv, 1) := by decide +kernel
theorem dX12_runShowing_164 : decode cX12_runShowing 164 = .ok (.iload 11, 2) := by decide +kernel
theorem dX12_runShowing_166 : decode cX12_runShowing 166 = .ok (.i2l, 1) := by decide +kernel
theorem dX12_runShowing_167 : decode cX12_runShowing 167 = .ok (.lrem, 1) := by decide +kernel
theorem dX12_runShowing_168 : decode cX12_runShowing 168 = .ok (.l2i, 1) := by decide +kernel
theorem dX12_runShowing_169 : decode cX12_runShowing 169 = .ok (.istore 12, 2) := by decide +kernel
theorem dX12_runShowing_171 : decode cX12_runShowing 171 = .ok (.aload_n 0, 1) := by decide +kernel
theorem dX12_runShowing_172 : decode cX12_runShowing 172 = .ok (.aload_n 0, 1) := by decide +kernel
theorem dX12_runShowing_173 : decode cX12_runShowing 173 = .ok (.getfield 442, 3) := by decide +kernel
theorem dX12_runShowing_176 : decode cX12_runShowing 176 = .ok (.invokestatic 446, 3) := by decide +kernel
theorem dX12_runShowing_179 : decode cX12_runShowing 179 = .ok (.putfield 442, 3) := by decide +kernel
theorem dX12_runShowing_182 : decode cX12_runShowing 182 = .ok (.iload 12, 2) := by decide +kernel
theorem dX12_runShowing_184 : decode cX12_runShowing 184 = .ok (.istore 13, 2) := by decide +kernel
theorem dX12_runShowing_186 : decode cX12_runShowing 186 = .ok (.aload_n 0, 1) := by decide +kernel
theorem dX12_runShowing_187 : decode cX12_runShowing 187 = .ok (.getfield 442, 3) := by decide +kernel
theorem dX12_runShowing_190 : decode cX12_runShowing 190 = .ok (.ldc2_w 448, 3) := by decide +kernel
theorem dX12_runShowing_193 : decode cX12_runShowing 193 = .ok (.ldiv, 1) := by decide +kernel
theorem dX12_runShowing_194 : decode cX12_runShowing 194 = .ok (.ldc2_w 450, 3) := by decide +kernel
theorem dX12_runShowing_197 : decode cX12_runShowing 197 = .ok (.lrem, 1) := by decide +kernel
theorem dX12_runShowing_198 : decode cX12_runShowing 198 = .ok (.iload 9, 2) := by decide +kernel
theorem dX12_runShowing_200 : decode cX12_runShowing 200 = .ok (.i2l, 1) := by decide +kernel
theorem dX12_runShowing_201 : decode cX12_runShowing 201 = .ok (.lcmp, 1) := by decide +kernel
theorem dX12_runShowing_202 : decode cX12_runShowing 202 = .ok (.ifCond .lt 29, 3) := by decide +kernel
theorem dX12_runShowing_205 : decode cX12_runShowing 205 = .ok (.aload_n 0, 1) := by decide +kernel
theorem dX12_runShowing_206 : decode cX12_runShowing 206 = .ok (.aload_n 0, 1) := by decide +kernel
theorem dX12_runShowing_207 : decode cX12_runShowing 207 = .ok (.getfield 442, 3) := by decide +kernel
theorem dX12_runShowing_210 : decode cX12_runShowing 210 = .ok (.invokestatic 446, 3) := by decide +kernel
theorem dX12_runShowing_213 : decode cX12_runShowing 213 = .ok (.putfield 442, 3) := by decide +kernel
theorem dX12_runShowing_216 : decode cX12_runShowing 216 = .ok (.aload_n 0, 1) := by decide +kernel
theorem dX12_runShowing_217 : decode cX12_runShowing 217 = .ok (.getfield 442, 3) := by decide +kernel
theorem dX12_runShowing_220 : decode cX12_runShowing 220 = .ok (.ldc2_w 448, 3) := by decide +kernel
theorem dX12_runShowing_223 : decode cX12_runShowing 223 = .ok (.ldiv, 1) := by decide +kernel
theorem dX12_runShowing_224 : decode cX12_runShowing 224 = .ok (.iload 11, 2) := by decide +kernel
theorem dX12_runShowing_226 : decode cX12_runShowing 226 = .ok (.i2l, 1) := by decide +kernel
theorem dX12_runShowing_227 : decode cX12_runShowing 227 = .ok (.lrem, 1) := by decide +kernel
theorem dX12_runShowing_228 : decode cX12_runShowing 228 = .ok (.l2i, 1) := by decide +kernel
theorem dX12_runShowing_229 : decode cX12_runShowing 229 = .ok (.istore 13, 2) := by decide +kernel
theorem dX12_runShowing_231 : decode cX12_runShowing 231 = .ok (.aload_n 0, 1) := by decide +kernel
theorem dX12_runShowing_232 : decode cX12_runShowing 232 = .ok (.aload_n 0, 1) := by decide +kernel
theorem dX12_runShowing_233 : decode cX12_runShowing 233 = .ok (.getfield 452, 3) := by decide +kernel
theorem dX12_runShowing_236 : decode cX12_runShowing 236 = .ok (.iload 4, 2) := by decide +kernel
theorem dX12_runShowing_238 : decode cX12_runShowing 238 = .ok (.iload 5, 2) := by decide +kernel
theorem dX12_runShowing_240 : decode cX12_runShowing 240 = .ok (.iload 8, 2) := by decide +kernel
theorem dX12_runShowing_242 : decode cX12_runShowing 242 = .ok (.iload 12, 2) := by decide +kernel
theorem dX12_runShowing_244 : decode cX12_runShowing 244 = .ok (.iload 13, 2) := by decide +kernel
theorem dX12_runShowing_246 : decode cX12_runShowing 246 = .ok (.iload 10, 2) := by decide +kernel
theorem dX12_runShowing_248 : decode cX12_runShowing 248 = .ok (.iload 9, 2) := by decide +kernel
theorem dX12_runShowing_250 : decode cX12_runShowing 250 = .ok (.bipush 11, 2) := by decide +kernel
theorem dX12_runShowing_252 : decode cX12_runShowing 252 = .ok (.idiv, 1) := by decide +kernel
theorem dX12_runShowing_253 : decode cX12_runShowing 253 = .ok (.invokevirtual 455, 3) := by decide +kernel
theorem dX12_runShowing_256 : decode cX12_runShowing 256 = .ok (.aload_n 0, 1) := by decide +kernel
theorem dX12_runShowing_257 : decode cX12_runShowing 257 = .ok (.dup, 1) := by decide +kernel
theorem dX12_runShowing_258 : decode cX12_runShowing 258 = .ok (.getfield 452, 3) := by decide +kernel
theorem dX12_runShowing_261 : decode cX12_runShowing 261 = .ok (.iconst 1, 1) := by decide +kernel
theorem dX12_runShowing_262 : decode cX12_runShowing 262 = .ok (.iadd, 1) := by decide +kernel
theorem dX12_runShowing_263 : decode cX12_runShowing 263 = .ok (.putfield 452, 3) := by decide +kernel
theorem dX12_runShowing_266 : decode cX12_runShowing 266 = .ok (.return_, 1) := by decide +kernel
set_option maxRecDepth 100000 in
theorem tj_X12_runShowing_231 {g : GT} {n nf : Int} (hu : Up false nf n) (M : Mem) (x4 x5 x8 x9 x10 x12 x13 : Int) : AW g false RX12 cX12_runShowing 14 none (6) n n nf 231 [(0, 2, 337), (4, 0, x4), (5, 0, x5), (8, 0, x8), (9, 0, x9), (10, 0, x10), (12, 0, x12), (13, 0, x13)] [] n M (j_X12_runShowing_231 M x4 x5 x8 x9 x10 x12 x13) := by
  unfold j_X12_runShowing_231
  refine r_aload_n 0 dX12_runShowing_231 rfl rfl ?_
  refine r_aload_n 0 dX12_runShowing_232 rfl rfl ?_
  refine r_gf (t := 0) (kz := 79) rfl hu dX12_runShowing_233 kF_X12_452 kd_337 rfl rfl rfl ?_
  refine r_iload 1 dX12_runShowing_236 rfl ?_
  refine r_iload 2 dX12_runShowing_238 rfl ?_
  refine r_iload 3 dX12_runShowing_240 rfl ?_
  refine r_iload 6 dX12_runShowing_242 rfl ?_
  refine r_iload 7 dX12_runShowing_244 rfl ?_
  refine r_iload 5 dX12_runShowing_246 rfl ?_
  refine r_iload 4 dX12_runShowing_248 rfl ?_
  refine r_bipush dX12_runShowing_250 (by decide) ⟨by decide, by decide⟩ ?_
  refine r_ok (fun h42 => ?_)
  refine r_idivP dX12_runShowing_252 ⟨h42, by decide⟩ ?_
  refine r_invv (a := 337) hu ⟨Nat.le_refl _, Nat.le_refl _⟩ dX12_runShowing_253 kM_X12_455 (ci := 12) rfl kd_337 rfl rfl (by decide) (by decide) [(0, M 337 79), (0, x4), (0, x5), (0, x8), (0, x12), (0, x13), (0, x10), (0, x9 / 11)] rfl (sk := []) rfl (Nat.le_of_ble_eq_true rfl) rfl (m_X12_lays hu M (M 337 79) x4 x5 x8 x12 x13 x10 (x9 / 11)) (fun r43 M44 => ?_)
  refine r_aload_n 0 dX12_runShowing_256 rfl rfl ?_
  refine r_dup dX12_runShowing_257 (nz2 _) ?_
  refine r_gf (t := 0) (kz := 79) rfl hu dX12_runShowing_258 kF_X12_452 kd_337 rfl rfl rfl ?_
  refine r_iconst dX12_runShowing_261 ⟨by decide, by decide⟩ ?_
  refine r_ok (fun h45 => ?_)
  refine r_iadd dX12_runShowing_262 h45 ?_
  refine r_pf (t := 0) (kz := 79) rfl hu dX12_runShowing_263 kF_X12_452 kd_337 rfl rfl rfl (fun h => absurd h (by decide)) rfl kX_12_79 (fun M46 eM46 => ?_)
  exact r_vret rfl rfl dX12_runShowing_266
set_option maxRecDepth 100000 in
theorem tj_X12_runShowing_107 {g : GT} {n nf : Int} (hu : Up false nf n) (a1 : Int) (M : Mem) (x4 x5 s0 : Int) : AW g false RX12 cX12_runShowing 14 none (6) n n nf 107 [(0, 2, 337), (1, 0, a1), (4, 0, x4), (5, 0, x5)] [(0, s0)] n M (j_X12_runShowing_107 a1 M x4 x5 s0) := by
  unfold j_X12_runShowing_107
  refine r_istore dX12_runShowing_107 (by decide) (ls' := [(8, 0, s0), (0, 2, 337), (1, 0, a1), (4, 0, x4), (5, 0, x5)]) rfl ?_
  refine r_aload_n 1 dX12_runShowing_109 rfl rfl ?_
  refine r_iload 3 dX12_runShowing_110 rfl ?_
  refine r_iload 4 dX12_runShowing_112 rfl ?_
  refine r_iload 0 dX12_runShowing_114 rfl ?_
  refine r_invv (a := 337) hu ⟨Nat.le_refl _, Nat.le_refl _⟩ dX12_runShowing_116 kM_X12_431 (ci := 12) rfl kd_337 rfl rfl (by decide) (by decide) [(0, x4), (0, x5), (0, s0)] rfl (sk := []) rfl (Nat.le_of_ble_eq_true rfl) rfl (m_X12_shows hu M x4 x5 s0) (fun r19 M20 => ?_)
  refine r_aload_n 1 dX12_runShowing_119 rfl rfl ?_
  refine r_iload_n 2 dX12_runShowing_120 rfl rfl ?_
  refine r_iconst dX12_runShowing_121 ⟨by decide, by decide⟩ ?_
  refine r_inv (a := 337) hu ⟨Nat.le_refl _, Nat.le_refl _⟩ dX12_runShowing_122 kM_X12_435 (ci := 12) rfl kd_337 rfl rfl (by decide) (by decide) [(0, a1), (0, 0)] rfl (sk := []) rfl (Nat.le_of_ble_eq_true rfl) rfl rfl (m_X12_carried hu M20 a1 0) (fun r21 M22 => ?_)
  refine r_istore dX12_runShowing_125 (by decide) (ls' := [(9, 0, r21), (8, 0, s0), (0, 2, 337), (1, 0, a1), (4, 0, x4), (5, 0, x5)]) rfl ?_
  refine r_aload_n 2 dX12_runShowing_127 rfl rfl ?_
  refine r_iload_n 3 dX12_runShowing_128 rfl rfl ?_
  refine r_inv (a := 337) hu ⟨Nat.le_refl _, Nat.le_refl _⟩ dX12_runShowing_129 kM_X12_439 (ci := 12) rfl kd_337 rfl rfl (by decide) (by decide) [(0, a1)] rfl (sk := []) rfl (Nat.le_of_ble_eq_true rfl) rfl rfl (m_X12_isSaid hu M22 a1) (fun r23 M24 => ?_)
  refine r_istore dX12_runShowing_132 (by decide) (ls' := [(10, 0, r23), (9, 0, r21), (8, 0, s0), (0, 2, 337), (1, 0, a1), (4, 0, x4), (5, 0, x5)]) rfl ?_
  refine r_aload_n 3 dX12_runShowing_134 rfl rfl ?_
  refine r_gx (kz := 49) rfl hu dX12_runShowing_135 kF_X12_125 kd_337 rfl rfl rfl fx_337_49 ?_
  refine r_iconst dX12_runShowing_138 ⟨by decide, by decide⟩ ?_
  refine r_iload 5 dX12_runShowing_139 rfl ?_
  refine r_ok (fun h25 => ?_)
  refine r_iadd dX12_runShowing_141 h25 ?_
  refine r_ok (fun h26 => ?_)
  refine r_iald hu dX12_runShowing_142 kd_374 rfl (Or.inl rfl) rfl ln_374 h26 ?_
  refine r_istoreB dX12_runShowing_143 (by decide) (lf := fun y27 => [(11, 0, y27), (10, 0, r23), (9, 0, r21), (8, 0, s0), (0, 2, 337), (1, 0, a1), (4, 0, x4), (5, 0, x5)]) (fun _ => rfl) (fun y27 ey27 => ?_)
  refine r_aload_n 4 dX12_runShowing_145 rfl rfl ?_
  refine r_aload_n 4 dX12_runShowing_146 rfl rfl ?_
  refine r_gf (t := 1) (kz := 64) rfl hu dX12_runShowing_147 kF_X12_442 kd_337 rfl rfl rfl ?_
  refine r_ins (a := 0) ⟨Nat.le_refl _, Nat.le_refl _⟩ dX12_runShowing_150 kM_X12_446 (by decide) (by decide) [(1, M24 337 64)] rfl (sk := [(2, 337)]) rfl (Nat.le_of_ble_eq_true rfl) rfl rfl (m_X12_goesOn_ hu M24 (M24 337 64)) (fun r28 M29 => ?_)
  refine r_pf (t := 1) (kz := 64) rfl hu dX12_runShowing_153 kF_X12_442 kd_337 rfl rfl rfl (fun h => absurd h (by decide)) rfl kX_12_64 (fun M30 eM30 => ?_)
  refine r_aload_n 4 dX12_runShowing_156 rfl rfl ?_
  refine r_gf (t := 1) (kz := 64) rfl hu dX12_runShowing_157 kF_X12_442 kd_337 rfl rfl rfl ?_
  refine r_ldc2 (v := 256) dX12_runShowing_160 kC_X12_448 rfl ⟨by decide, by decide⟩ ?_
  refine r_ok (fun h31 => ?_)
  refine r_ldivP dX12_runShowing_163 ⟨h31, by decide⟩ ?_
  refine r_iload 0 dX12_runShowing_164 rfl ?_
  refine r_i2l dX12_runShowing_166 ?_
  refine r_ok (fun h32 => ?_)
  refine r_lremP dX12_runShowing_167 h32 ?_
  refine r_ok (fun h33 => ?_)
  refine r_l2i dX12_runShowing_168 h33 ?_
  refine r_istoreB dX12_runShowing_169 (by decide) (lf := fun y34 => [(12, 0, y34), (11, 0, y27), (10, 0, r23), (9, 0, r21), (8, 0, s0), (0, 2, 337), (1, 0, a1), (4, 0, x4), (5, 0, x5)]) (fun _ => rfl) (fun y34 ey34 => ?_)
  refine r_aload_n 5 dX12_runShowing_171 rfl rfl ?_
  refine r_aload_n 5 dX12_runShowing_172 rfl rfl ?_
  refine r_gf (t := 1) (kz := 64) rfl hu dX12_runShowing_173 kF_X12_442 kd_337 rfl rfl rfl ?_
  refine r_ins (a := 0) ⟨Nat.le_refl _, Nat.le_refl _⟩ dX12_runShowing_176 kM_X12_446 (by decide) (by decide) [(1, M30 337 64)] rfl (sk := [(2, 337)]) rfl (Nat.le_of_ble_eq_true rfl) rfl rfl (m_X12_goesOn_ hu M30 (M30 337 64)) (fun r35 M36 => ?_)
  refine r_pf (t := 1) (kz := 64) rfl hu dX12_runShowing_179 kF_X12_442 kd_337 rfl rfl rfl (fun h => absurd h (by decide)) rfl kX_12_64 (fun M37 eM37 => ?_)
  refine r_iload 0 dX12_runShowing_182 rfl ?_
  refine r_istore dX12_runShowing_184 (by decide) (ls' := [(13, 0, y34), (12, 0, y34), (11, 0, y27), (10, 0, r23), (9, 0, r21), (8, 0, s0), (0, 2, 337), (1, 0, a1), (4, 0, x4), (5, 0, x5)]) rfl ?_
  refine r_aload_n 6 dX12_runShowing_186 rfl rfl ?_
  refine r_gf (t := 1) (kz := 64) rfl hu dX12_runShowing_187 kF_X12_442 kd_337 rfl rfl rfl ?_
  refine r_ldc2 (v := 256) dX12_runShowing_190 kC_X12_448 rfl ⟨by decide, by decide⟩ ?_
  refine r_ok (fun h38 => ?_)
  refine r_ldivP dX12_runShowing_193 ⟨h38, by decide⟩ ?_
  refine r_ldc2 (v := 100) dX12_runShowing_194 kC_X12_450 rfl ⟨by decide, by decide⟩ ?_
  refine r_ok (fun h39 => ?_)
  refine r_lremP dX12_runShowing_197 ⟨h39, by decide⟩ ?_
  refine r_iload 4 dX12_runShowing_198 rfl ?_
  refine r_i2l dX12_runShowing_200 ?_
  refine r_lif_lt (tgt := 231) dX12_runShowing_201 dX12_runShowing_202 rfl (fun h40 => ?_) (fun h41 => ?_)
  · refine r_sub [6, 8, 9, 5, 4, 3, 1, 0] (ls' := [(0, 2, 337), (4, 0, x4), (5, 0, x5), (8, 0, s0), (9, 0, r21), (10, 0, r23), (12, 0, y34), (13, 0, y34)]) rfl ?_
    exact tj_X12_runShowing_231 hu M37 x4 x5 s0 r21 r23 y34 y34
  · refine r_aload_n 6 dX12_runShowing_205 rfl rfl ?_
    refine r_aload_n 6 dX12_runShowing_206 rfl rfl ?_
    refine r_gf (t := 1) (kz := 64) rfl hu dX12_runShowing_207 kF_X12_442 kd_337 rfl rfl rfl ?_
    refine r_ins (a := 0) ⟨Nat.le_refl _, Nat.le_refl _⟩ dX12_runShowing_210 kM_X12_446 (by decide) (by decide) [(1, M37 337 64)] rfl (sk := [(2, 337)]) rfl (Nat.le_of_ble_eq_true rfl) rfl rfl (m_X12_goesOn_ hu M37 (M37 337 64)) (fun r47 M48 => ?_)
    refine r_pf (t := 1) (kz := 64) rfl hu dX12_runShowing_213 kF_X12_442 kd_337 rfl rfl rfl (fun h => absurd h (by decide)) rfl kX_12_64 (fun M49 eM49 => ?_)
    refine r_aload_n 6 dX12_runShowing_216 rfl rfl ?_
    refine r_gf (t := 1) (kz := 64) rfl hu dX12_runShowing_217 kF_X12_442 kd_337 rfl rfl rfl ?_
    refine r_ldc2 (v := 256) dX12_runShowing_220 kC_X12_448 rfl ⟨by decide, by decide⟩ ?_
    refine r_ok (fun h50 => ?_)
    refine r_ldivP dX12_runShowing_223 ⟨h50, by decide⟩ ?_
    refine r_iload 2 dX12_runShowing_224 rfl ?_
    refine r_i2l dX12_runShowing_226 ?_
    refine r_ok (fun h51 => ?_)
    refine r_lremP dX12_runShowing_227 h51 ?_
    refine r_ok (fun h52 => ?_)
    refine r_l2i dX12_runShowing_228 h52 ?_
    refine r_istoreB dX12_runShowing_229 (by decide) (lf := fun y53 => [(13, 0, y53), (12, 0, y34), (11, 0, y27), (10, 0, r23), (9, 0, r21), (8, 0, s0), (0, 2, 337), (1, 0, a1), (4, 0, x4), (5, 0, x5)]) (fun _ => rfl) (fun y53 ey53 => ?_)
    refine r_sub [6, 8, 9, 5, 4, 3, 1, 0] (ls' := [(0, 2, 337), (4, 0, x4), (5, 0, x5), (8, 0, s0), (9, 0, r21), (10, 0, r23), (12, 0, y34), (13, 0, y53)]) rfl ?_
    exact tj_X12_runShowing_231 hu M49 x4 x5 s0 r21 r23 y34 y53
set_option maxRecDepth 100000 in
theorem m_X12_runShowing {g : GT} {n nf : Int} (hu : Up false nf n) (M : Mem) (a1 a2 a3 : Int) : AM g false yX12_runShowing cX12_runShowing 14 none (6) n n nf [(2, 337), (0, a1), (0, a2), (0, a3)] M (f_X12_runShowing M a1 a2 a3) := by
  refine AM_of (by decide +kernel) (Nat.le_of_ble_eq_true rfl) (fun h => absurd h (Int.lt_irrefl n)) ?_
  show AW g false RX12 cX12_runShowing 14 none (6) n n nf 0 [(0, 2, 337), (1, 0, a1), (2, 0, a2), (3, 0, a3)] [] n M (f_X12_runShowing M a1 a2 a3)
  unfold f_X12_runShowing
  refine r_aload_n 0 dX12_runShowing_0 rfl rfl ?_
  refine r_gx (kz := 55) rfl hu dX12_runShowing_1 kF_X12_137 kd_337 rfl rfl rfl fx_337_55 ?_
  refine r_iload_n 2 dX12_runShowing_4 rfl rfl ?_
  refine r_ok (fun h1 => ?_)
  refine r_iald hu dX12_runShowing_5 kd_378 rfl (Or.inl rfl) rfl ln_378 h1 ?_
  refine r_istoreB dX12_runShowing_6 (by decide) (lf := fun y2 => [(4, 0, y2), (0, 2, 337), (1, 0, a1), (2, 0, a2), (3, 0, a3)]) (fun _ => rfl) (fun y2 ey2 => ?_)
  refine r_aload_n 1 dX12_runShowing_8 rfl rfl ?_
  refine r_gx (kz := 56) rfl hu dX12_runShowing_9 kF_X12_140 kd_337 rfl rfl rfl fx_337_56 ?_
  refine r_iload_n 3 dX12_runShowing_12 rfl rfl ?_
  refine r_iald hu dX12_runShowing_13 kd_379 rfl (Or.inl rfl) rfl ln_379 h1 ?_
  refine r_istoreB dX12_runShowing_14 (by decide) (lf := fun y3 => [(5, 0, y3), (4, 0, y2), (0, 2, 337), (1, 0, a1), (2, 0, a2), (3, 0, a3)]) (fun _ => rfl) (fun y3 ey3 => ?_)
  refine r_aload_n 2 dX12_runShowing_16 rfl rfl ?_
  refine r_iload 0 dX12_runShowing_17 rfl ?_
  refine r_bipush dX12_runShowing_19 (by decide) ⟨by decide, by decide⟩ ?_
  refine r_ok (fun h4 => ?_)
  refine r_iremP dX12_runShowing_21 ⟨h4, by decide⟩ ?_
  refine r_pf (t := 0) (kz := 68) rfl hu dX12_runShowing_22 kF_X12_407 kd_337 rfl rfl rfl (fun h => absurd h (by decide)) rfl kX_12_68 (fun M5 eM5 => ?_)
  refine r_aload_n 2 dX12_runShowing_25 rfl rfl ?_
  refine r_iload 0 dX12_runShowing_26 rfl ?_
  refine r_bipush dX12_runShowing_28 (by decide) ⟨by decide, by decide⟩ ?_
  refine r_idivP dX12_runShowing_30 ⟨h4, by decide⟩ ?_
  refine r_pf (t := 0) (kz := 69) rfl hu dX12_runShowing_31 kF_X12_410 kd_337 rfl rfl rfl (fun h => absurd h (by decide)) rfl kX_12_69 (fun M6 eM6 => ?_)
  refine r_aload_n 2 dX12_runShowing_34 rfl rfl ?_
  refine r_iload_n 5 dX12_runShowing_35 rfl rfl ?_
  refine r_pf (t := 0) (kz := 70) rfl hu dX12_runShowing_36 kF_X12_413 kd_337 rfl rfl rfl (fun h => absurd h (by decide)) rfl kX_12_70 (fun M7 eM7 => ?_)
  refine r_aload_n 2 dX12_runShowing_39 rfl rfl ?_
  refine r_aload_n 2 dX12_runShowing_40 rfl rfl ?_
  refine r_gx (kz := 74) rfl hu dX12_runShowing_41 kF_X12_167 kd_337 rfl rfl rfl fx_337_74 ?_
  refine r_iload 0 dX12_runShowing_44 rfl ?_
  refine r_ok (fun h8 => ?_)
  refine r_iald hu dX12_runShowing_46 kd_388 rfl (Or.inl rfl) rfl ln_388 h8 ?_
  refine r_pf (t := 0) (kz := 71) rfl hu dX12_runShowing_47 kF_X12_416 kd_337 rfl rfl rfl (fun h => absurd h (by decide)) rfl kX_12_71 (fun M9 eM9 => ?_)
  refine r_aload_n 2 dX12_runShowing_50 rfl rfl ?_
  refine r_iconst dX12_runShowing_51 ⟨by decide, by decide⟩ ?_
  refine r_pf (t := 0) (kz := 72) rfl hu dX12_runShowing_52 kF_X12_419 kd_337 rfl rfl rfl (fun h => absurd h (by decide)) rfl kX_12_72 (fun M10 eM10 => ?_)
  refine r_aload_n 2 dX12_runShowing_55 rfl rfl ?_
  refine r_iload 1 dX12_runShowing_56 rfl ?_
  refine r_pf (t := 0) (kz := 73) rfl hu dX12_runShowing_58 kF_X12_422 kd_337 rfl rfl rfl (fun h => absurd h (by decide)) rfl kX_12_73 (fun M11 eM11 => ?_)
  refine r_aload_n 2 dX12_runShowing_61 rfl rfl ?_
  refine r_aload_n 2 dX12_runShowing_62 rfl rfl ?_
  refine r_gx (kz := 57) rfl hu dX12_runShowing_63 kF_X12_143 kd_337 rfl rfl rfl fx_337_57 ?_
  refine r_iload_n 4 dX12_runShowing_66 rfl rfl ?_
  refine r_iald hu dX12_runShowing_67 kd_380 rfl (Or.inl rfl) rfl ln_380 h1 ?_
  refine r_aload_n 2 dX12_runShowing_68 rfl rfl ?_
  refine r_gx (kz := 58) rfl hu dX12_runShowing_69 kF_X12_146 kd_337 rfl rfl rfl fx_337_58 ?_
  refine r_iload_n 4 dX12_runShowing_72 rfl rfl ?_
  refine r_iald hu dX12_runShowing_73 kd_381 rfl (Or.inl rfl) rfl ln_381 h1 ?_
  refine r_inv (a := 337) hu ⟨Nat.le_refl _, Nat.le_refl _⟩ dX12_runShowing_74 kM_X12_425 (ci := 12) rfl kd_337 rfl rfl (by decide) (by decide) [(0, M11 380 a2), (0, M11 381 a2)] rfl (sk := []) rfl (Nat.le_of_ble_eq_true rfl) rfl rfl (m_X12_tells hu M11 (M11 380 a2) (M11 381 a2)) (fun r12 M13 => ?_)
  refine r_lstore dX12_runShowing_77 (by decide) (ls' := [(6, 1, r12), (5, 0, y3), (4, 0, y2), (0, 2, 337), (1, 0, a1), (2, 0, a2), (3, 0, a3)]) rfl ?_
  refine r_lload 0 dX12_runShowing_79 rfl ?_
  refine r_lconst (v := 0) dX12_runShowing_81 (by decide) ⟨by decide, by decide⟩ ?_
  refine r_lif_ge (tgt := 90) dX12_runShowing_82 dX12_runShowing_83 rfl (fun h14 => ?_) (fun h15 => ?_)
  · refine r_lload 0 dX12_runShowing_90 rfl ?_
    refine r_ldc2 (v := 99) dX12_runShowing_92 kC_X12_429 rfl ⟨by decide, by decide⟩ ?_
    refine r_lif_le (tgt := 104) dX12_runShowing_95 dX12_runShowing_96 rfl (fun h16 => ?_) (fun h17 => ?_)
    · refine r_lload 0 dX12_runShowing_104 rfl ?_
      refine r_ok (fun h18 => ?_)
      refine r_l2i dX12_runShowing_106 h18 ?_
      refine r_sub [3, 4, 2, 1] (ls' := [(0, 2, 337), (1, 0, a1), (4, 0, y2), (5, 0, y3)]) rfl ?_
      exact tj_X12_runShowing_107 hu a1 M13 y2 y3 r12
    · refine r_bipush dX12_runShowing_99 (by decide) ⟨by decide, by decide⟩ ?_
      refine r_goto (tgt := 107) dX12_runShowing_101 rfl ?_
      refine r_sub [3, 4, 2, 1] (ls' := [(0, 2, 337), (1, 0, a1), (4, 0, y2), (5, 0, y3)]) rfl ?_
      exact tj_X12_runShowing_107 hu a1 M13 y2 y3 99
  · refine r_iconst dX12_runShowing_86 ⟨by decide, by decide⟩ ?_
    refine r_goto (tgt := 107) dX12_runShowing_87 rfl ?_
    refine r_sub [3, 4, 2, 1] (ls' := [(0, 2, 337), (1, 0, a1), (4, 0, y2), (5, 0, y3)]) rfl ?_
    exact tj_X12_runShowing_107 hu a1 M13 y2 y3 0
theorem dX12_isLaw_0 : decode cX12_isLaw 0 = .ok (.iload_n 1, 1) := by decide +kernel
theorem dX12_isLaw_1 : decode cX12_isLaw 1 = .ok (.i2l, 1) := by decide +kernel
theorem dX12_isLaw_2 : decode cX12_isLaw 2 = .ok (.lconst 0, 1) := by decide +kernel
theorem dX12_isLaw_3 : decode cX12_isLaw 3 = .ok (.ldc2_w 481, 3) := by decide +kernel
theorem dX12_isLaw_6 : decode cX12_isLaw 6 = .ok (.invokestatic 267, 3) := by decide +kernel
theorem dX12_isLaw_9 : decode cX12_isLaw 9 = .ok (.ifCond .eq 16, 3) := by decide +kernel
theorem dX12_isLaw_12 : decode cX12_isLaw 12 = .ok (.aload_n 0, 1) := by decide +kernel
theorem dX12_isLaw_13 : decode cX12_isLaw 13 = .ok (.getfield 161, 3) := by decide +kernel
theorem dX12_isLaw_16 : decode cX12_isLaw 16 = .ok (.iload_n 1, 1) := by decide +kernel
theorem dX12_isLaw_17 : decode cX12_isLaw 17 = .ok (.baload, 1) := by decide +kernel
theorem dX12_isLaw_18 : decode cX12_isLaw 18 = .ok (.ifCond .eq 7, 3) := by decide +kernel
theorem dX12_isLaw_21 : decode cX12_isLaw 21 = .ok (.iconst 1, 1) := by decide +kernel
theorem dX12_isLaw_22 : decode cX12_isLaw 22 = .ok (.goto 4, 3) := by decide +kernel
theorem dX12_isLaw_25 : decode cX12_isLaw 25 = .ok (.iconst 0, 1) := by decide +kernel
theorem dX12_isLaw_26 : decode cX12_isLaw 26 = .ok (.ireturn, 1) := by decide +kernel
set_option maxRecDepth 100000 in
theorem m_X12_isLaw {g : GT} {n nf : Int} (hu : Up false nf n) (M : Mem) (a1 : Int) : AM g false yX12_isLaw cX12_isLaw 2 (some .boolean) (1) n n nf [(2, 337), (0, a1)] M (f_X12_isLaw M a1) := by
  refine AM_of (by decide +kernel) (Nat.le_of_ble_eq_true rfl) (fun h => absurd h (Int.lt_irrefl n)) ?_
  show AW g false RX12 cX12_isLaw 2 (some .boolean) (1) n n nf 0 [(0, 2, 337), (1, 0, a1)] [] n M (f_X12_isLaw M a1)
  unfold f_X12_isLaw
  refine r_iload_n 1 dX12_isLaw_0 rfl rfl ?_
  refine r_i2l dX12_isLaw_1 ?_
  refine r_lconst (v := 0) dX12_isLaw_2 (by decide) ⟨by decide, by decide⟩ ?_
  refine r_ldc2 (v := 2) dX12_isLaw_3 kC_X12_481 rfl ⟨by decide, by decide⟩ ?_
  refine r_ins (a := 0) ⟨Nat.le_refl _, Nat.le_refl _⟩ dX12_isLaw_6 kM_X12_267 (by decide) (by decide) [(1, a1), (1, 0), (1, 2)] rfl (sk := []) rfl (Nat.le_of_ble_eq_true rfl) rfl rfl (m_X12_isIn hu M a1 0 2) (fun r1 M2 => ?_)
  refine r_if_eq (tgt := 25) dX12_isLaw_9 rfl (fun h3 => ?_) (fun h4 => ?_)
  · refine r_iconst dX12_isLaw_25 ⟨by decide, by decide⟩ ?_
    exact r_iret rfl rfl (Or.inr ⟨rfl, Or.inl rfl⟩) dX12_isLaw_26
  · refine r_aload_n 0 dX12_isLaw_12 rfl rfl ?_
    refine r_gx (kz := 65) rfl hu dX12_isLaw_13 kF_X12_161 kd_337 rfl rfl rfl fx_337_65 ?_
    refine r_iload_n 1 dX12_isLaw_16 rfl rfl ?_
    refine r_ok (fun h5 => ?_)
    refine r_zald hu dX12_isLaw_17 kd_386 rfl rfl rfl ln_386 h5 ?_
    refine r_if_eq (tgt := 25) dX12_isLaw_18 rfl (fun h6 => ?_) (fun h7 => ?_)
    · refine r_iconst dX12_isLaw_25 ⟨by decide, by decide⟩ ?_
      exact r_iret rfl rfl (Or.inr ⟨rfl, Or.inl rfl⟩) dX12_isLaw_26
    · refine r_iconst dX12_isLaw_21 ⟨by decide, by decide⟩ ?_
      refine r_goto (tgt := 26) dX12_isLaw_22 rfl ?_
      exact r_iret rfl rfl (Or.inr ⟨rfl, Or.inr rfl⟩) dX12_isLaw_26
theorem dX12_run_0 : decode cX12_run 0 = .ok (.aload_n 0, 1) := by decide +kernel
theorem dX12_run_1 : decode cX12_run 1 = .ok (.getfield 397, 3) := by decide +kernel
theorem dX12_run_4 : decode cX12_run 4 = .ok (.ifCond .eq 15, 3) := by decide +kernel
theorem dX12_run_7 : decode cX12_run 7 = .ok (.aload_n 0, 1) := by decide +kernel
theorem dX12_run_8 : decode cX12_run 8 = .ok (.iload_n 1, 1) := by decide +kernel
theorem dX12_run_9 : decode cX12_run 9 = .ok (.invokevirtual 459, 3) := by decide +kernel
theorem dX12_run_12 : decode cX12_run 12 = .ok (.ifCond .eq 7, 3) := by decide +kernel
theorem dX12_run_15 : decode cX12_run 15 = .ok (.iload_n 2, 1) := by decide +kernel
theorem dX12_run_16 : decode cX12_run 16 = .ok (.ifCond .ge 5, 3) := by decide +kernel
theorem dX12_run_19 : decode cX12_run 19 = .ok (.iconst (-1), 1) := by decide +kernel
theorem dX12_run_20 : decode cX12_run 20 = .ok (.ireturn, 1) := by decide +kernel
theorem dX12_run_21 : decode cX12_run 21 = .ok (.aload_n 0, 1) := by decide +kernel
theorem dX12_run_22 : decode cX12_run 22 = .ok (.iload_n 2, 1) := by decide +kernel
theorem dX12_run_23 : decode cX12_run 23 = .ok (.i2l, 1) := by decide +kernel
theorem dX12_run_24 : decode cX12_run 24 = .ok (.putfield 442, 3) := by decide +kernel
theorem dX12_run_27 : decode cX12_run 27 = .ok (.aload_n 0, 1) := by decide +kernel
theorem dX12_run_28 : decode cX12_run 28 = .ok (.getfield 452, 3) := by decide +kernel
theorem dX12_run_31 : decode cX12_run 31 = .ok (.istore_n 3, 1) := by decide +kernel
theorem dX12_run_32 : decode cX12_run 32 = .ok (.iconst 0, 1) := by decide +kernel
theorem dX12_run_33 : decode cX12_run 33 = .ok (.istore 4, 2) := by decide +kernel
theorem dX12_run_35 : decode cX12_run 35 = .ok (.aload_n 0, 1) := by decide +kernel
theorem dX12_run_36 : decode cX12_run 36 = .ok (.invokevirtual 462, 3) := by decide +kernel
theorem dX12_run_39 : decode cX12_run 39 = .ok (.ifCond .le 8, 3) := by decide +kernel
theorem dX12_run_42 : decode cX12_run 42 = .ok (.bipush 80, 2) := by decide +kernel
theorem dX12_run_44 : decode cX12_run 44 = .ok (.goto 12, 3) := by decide +kernel
theorem dX12_run_47 : decode cX12_run 47 = .ok (.bipush 80, 2) := by decide +kernel
theorem dX12_run_49 : decode cX12_run 49 = .ok (.aload_n 0, 1) := by decide +kernel
theorem dX12_run_50 : decode cX12_run 50 = .ok (.getfield 131, 3) := by decide +kernel
theorem dX12_run_53 : decode cX12_run 53 = .ok (.iconst 1, 1) := by decide +kernel
theorem dX12_run_54 : decode cX12_run 54 = .ok (.iaload, 1) := by decide +kernel
theorem dX12_run_55 : decode cX12_run 55 = .ok (.iadd, 1) := by decide +kernel
theorem dX12_run_56 : decode cX12_run 56 = .ok (.istore 5, 2) := by decide +kernel
theorem dX12_run_58 : decode cX12_run 58 = .ok (.iload 5, 2) := by decide +kernel
theorem dX12_run_60 : decode cX12_run 60 = .ok (.bipush 80, 2) := by decide +kernel
theorem dX12_run_62 : decode cX12_run 62 = .ok (.aload_n 0, 1) := by decide +kernel
theorem dX12_run_63 : decode cX12_run 63 = .ok (.getfield 131, 3) := by decide +kernel
theorem dX12_run_66 : decode cX12_run 66 = .ok (.iconst 1, 1) := by decide +kernel
theorem dX12_run_67 : decode cX12_run 67 = .ok (.iaload, 1) := by decide +kernel
theorem dX12_run_68 : decode cX12_run 68 = .ok (.iadd, 1) := by decide +kernel
theorem dX12_run_69 : decode cX12_run 69 = .ok (.if_icmp .ge 133, 3) := by decide +kernel
theorem dX12_run_72 : decode cX12_run 72 = .ok (.aload_n 0, 1) := by decide +kernel
theorem dX12_run_73 : decode cX12_run 73 = .ok (.getfield 134, 3) := by decide +kernel
theorem dX12_run_76 : decode cX12_run 76 = .ok (.iload 5, 2) := by decide +kernel
theorem dX12_run_78 : decode cX12_run 78 = .ok (.iaload, 1) := by decide +kernel
theorem dX12_run_79 : decode cX12_run 79 = .ok (.ifCond .ne 35, 3) := by decide +kernel
theorem dX12_run_82 : decode cX12_run 82 = .ok (.aload_n 0, 1) := by decide +kernel
theorem dX12_run_83 : decode cX12_run 83 = .ok (.getfield 452, 3) := by decide +kernel
theorem dX12_run_86 : decode cX12_run 86 = .ok (.bipush 40, 2) := by decide +kernel
theorem dX12_run_88 : decode cX12_run 88 = .ok (.if_icmp .ne 10, 3) := by decide +kernel
theorem dX12_run_91 : decode cX12_run 91 = .ok (.aload_n 0, 1) := by decide +kernel
theorem dX12_run_92 : decode cX12_run 92 = .ok (.getfield 452, 3) := by decide +kernel
theorem dX12_run_95 : decode cX12_run 95 = .ok (.iload_n 3, 1) := by decide +kernel
theorem dX12_run_96 : decode cX12_run 96 = .ok (.isub, 1) := by decide +kernel
theorem dX12_run_97 : decode cX12_run 97 = .ok (.ireturn, 1) := by decide +kernel
theorem dX12_run_98 : decode cX12_run 98 = .ok (.aload_n 0, 1) := by decide +kernel
theorem dX12_run_99 : decode cX12_run 99 = .ok (.iload_n 1, 1) := by decide +kernel
theorem dX12_run_100 : decode cX12_run 100 = .ok (.iload 5, 2) := by decide +kernel
theorem dX12_run_102 : decode cX12_run 102 = .ok (.aload_n 0, 1) := by decide +kernel
theorem dX12_run_103 : decode cX12_run 103 = .ok (.getfield 452, 3) := by decide +kernel
theorem dX12_run_106 : decode cX12_run 106 = .ok (.iload_n 3, 1) := by decide +kernel
theorem dX12_run_107 : decode cX12_run 107 = .ok (.isub, 1) := by decide +kernel
theorem dX12_run_108 : decode cX12_run 108 = .ok (.invokevirtual 465, 3) := by decide +kernel
theorem dX12_run_111 : decode cX12_run 111 = .ok (.goto 85, 3) := by decide +kernel
theorem dX12_run_114 : decode cX12_run 114 = .ok (.aload_n 0, 1) := by decide +kernel
theorem dX12_run_115 : decode cX12_run 115 = .ok (.getfield 134, 3) := by decide +kernel
theorem dX12_run_118 : decode cX12_run 118 = .ok (.iload 5, 2) := by decide +kernel
theorem dX12_run_120 : decode cX12_run 120 = .ok (.iaload, 1) := by decide +kernel
theorem dX12_run_121 : decode cX12_run 121 = .ok (.iconst 1, 1) := by decide +kernel
theorem dX12_run_122 : decode cX12_run 122 = .ok (.if_icmp .ne 32, 3) := by decide +kernel
theorem dX12_run_125 : decode cX12_run 125 = .ok (.aload_n 0, 1) := by decide +kernel
theorem dX12_run_126 : decode cX12_run 126 = .ok (.getfield 152, 3) := by decide +kernel
theorem dX12_run_129 : decode cX12_run 129 = .ok (.iload 4, 2) := by decide +kernel
theorem dX12_run_131 : decode cX12_run 131 = .ok (.iload 5, 2) := by decide +kernel
theorem dX12_run_133 : decode cX12_run 133 = .ok (.iastore, 1) := by decide +kernel
theorem dX12_run_134 : decode cX12_run 134 = .ok (.aload_n 0, 1) := by decide +kernel
theorem dX12_run_135 : decode cX12_run 135 = .ok (.getfield 155, 3) := by decide +kernel
theorem dX12_run_138 : decode cX12_run 138 = .ok (.iload 4, 2) := by decide +kernel
theorem dX12_run_140 : decode cX12_run 140 = .ok (.aload_n 0, 1) := by decide +kernel
theorem dX12_run_141 : decode cX12_run 141 = .ok (.getfield 149, 3) := by decide +kernel
theorem dX12_run_144 : decode cX12_run 144 = .ok (.iload 5, 2) := by decide +kernel
theorem dX12_run_146 : decode cX12_run 146 = .ok (.iaload, 1) := by decide +kernel
theorem dX12_run_147 : decode cX12_run 147 = .ok (.iastore, 1) := by decide +kernel
theorem dX12_run_148 : decode cX12_run 148 = .ok (.iinc 4 1, 3) := by decide +kernel
theorem dX12_run_151 : decode cX12_run 151 = .ok (.goto 45, 3) := by decide +kernel
theorem dX12_run_154 : decode cX12_run 154 = .ok (.aload_n 0, 1) := by decide +kernel
theorem dX12_run_155 : decode cX12_run 155 = .ok (.getfield 155, 3) := by decide +kernel
theorem dX12_run_158 : decode cX12_run 158 = .ok (.iload 4, 2) := by decide +kernel
theorem dX12_run_160 : decode cX12_run 160 = .ok (.iconst 1, 1) := by decide +kernel
theorem dX12_run_161 : decode cX12_run 161 = .ok (.isub, 1) := by decide +kernel
theorem dX12_run_162 : decode cX12_run 162 = .ok (.dup2, 1) := by decide +kernel
theorem dX12_run_163 : decode cX12_run 163 = .ok (.iaload, 1) := by decide +kernel
theorem dX12_run_164 : decode cX12_run 164 = .ok (.iconst 1, 1) := by decide +kernel
theorem dX12_run_165 : decode cX12_run 165 = .ok (.isub, 1) := by decide +kernel
theorem dX12_run_166 : decode cX12_run 166 = .ok (.iastore, 1) := by decide +kernel
theorem dX12_run_167 : decode cX12_run 167 = .ok (.aload_n 0, 1) := by decide +kernel
theorem dX12_run_168 : decode cX12_run 168 = .ok (.getfield 155, 3) := by decide +kernel
theorem dX12_run_171 : decode cX12_run 171 = .ok (.iload 4, 2) := by decide +kernel
theorem dX12_run_173 : decode cX12_run 173 = .ok (.iconst 1, 1) := by decide +kernel
theorem dX12_run_174 : decode cX12_run 174 = .ok (.isub, 1) := by decide +kernel
theorem dX12_run_175 : decode cX12_run 175 = .ok (.iaload, 1) := by decide +kernel
theorem dX12_run_176 : decode cX12_run 176 = .ok (.ifCond .le 17, 3) := by decide +kernel
theorem dX12_run_179 : decode cX12_run 179 = .ok (.aload_n 0, 1) := by decide +kernel
theorem dX12_run_180 : decode cX12_run 180 = .ok (.getfield 152, 3) := by decide +kernel
theorem dX12_run_183 : decode cX12_run 183 = .ok (.iload 4, 2) := by decide +kernel
theorem dX12_run_185 : decode cX12_run 185 = .ok (.iconst 1, 1) := by decide +kernel
theorem dX12_run_186 : decode cX12_run 186 = .ok (.isub, 1) := by decide +kernel
theorem dX12_run_187 : decode cX12_run 187 = .ok (.iaload, 1) := by decide +kernel
theorem dX12_run_188 : decode cX12_run 188 = .ok (.istore 5, 2) := by decide +kernel
theorem dX12_run_190 : decode cX12_run 190 = .ok (.goto 6, 3) := by decide +kernel
theorem dX12_run_193 : decode cX12_run 193 = .ok (.iinc 4 (-1), 3) := by decide +kernel
theorem dX12_run_196 : decode cX12_run 196 = .ok (.iinc 5 1, 3) := by decide +kernel
theorem dX12_run_199 : decode cX12_run 199 = .ok (.goto (-141), 3) := by decide +kernel
theorem dX12_run_202 : decode cX12_run 202 = .ok (.aload_n 0, 1) := by decide +kernel
theorem dX12_run_203 : decode cX12_run 203 = .ok (.getfield 452, 3) := by decide +kernel
theorem dX12_run_206 : decode cX12_run 206 = .ok (.iload_n 3, 1) := by decide +kernel
theorem dX12_run_207 : decode cX12_run 207 = .ok (.isub, 1) := by decide +kernel
theorem dX12_run_208 : decode cX12_run 208 = .ok (.ireturn, 1) := by decide +kernel
set_option maxRecDepth 100000 in
theorem tb_X12_run_58 {g : GT} {n nf : Int} (hu : Up false nf n) (a1 : Int) (w58 : Mem → Int → Int → Int → Res) (hw58 : ∀ (M : Mem) (x3 x4 x5 : Int), AW g false RX12 cX12_run 6 (some .int) (7) n n nf 58 [(0, 2, 337), (1, 0, a1), (3, 0, x3), (4, 0, x4), (5, 0, x5)] [] n M (w58 M x3 x4 x5)) (M : Mem) (x3 x4 x5 : Int) : AW g false RX12 cX12_run 6 (some .int) (7) n n nf 58 [(0, 2, 337), (1, 0, a1), (3, 0, x3), (4, 0, x4), (5, 0, x5)] [] n M (b_X12_run_58 a1 w58 M x3 x4 x5) := by
  unfold b_X12_run_58
  refine r_iload 4 dX12_run_58 rfl ?_
  refine r_bipush dX12_run_60 (by decide) ⟨by decide, by decide⟩ ?_
  refine r_aload_n 0 dX12_run_62 rfl rfl ?_
  refine r_gx (kz := 53) rfl hu dX12_run_63 kF_X12_131 kd_337 rfl rfl rfl fx_337_53 ?_
  refine r_iconst dX12_run_66 ⟨by decide, by decide⟩ ?_
  refine r_iald hu dX12_run_67 kd_376 rfl (Or.inl rfl) rfl ln_376 ⟨by decide, by decide⟩ ?_
  refine r_ok (fun h17 => ?_)
  refine r_iadd dX12_run_68 h17 ?_
  refine r_icmp_ge (tgt := 202) dX12_run_69 rfl (fun h18 => ?_) (fun h19 => ?_)
  · refine r_aload_n 0 dX12_run_202 rfl rfl ?_
    refine r_gf (t := 0) (kz := 79) rfl hu dX12_run_203 kF_X12_452 kd_337 rfl rfl rfl ?_
    refine r_iload_n 2 dX12_run_206 rfl rfl ?_
    refine r_ok (fun h20 => ?_)
    refine r_isub dX12_run_207 h20 ?_
    exact r_iret rfl rfl (Or.inl rfl) dX12_run_208
  · refine r_aload_n 0 dX12_run_72 rfl rfl ?_
    refine r_gx (kz := 54) rfl hu dX12_run_73 kF_X12_134 kd_337 rfl rfl rfl fx_337_54 ?_
    refine r_iload 4 dX12_run_76 rfl ?_
    refine r_ok (fun h21 => ?_)
    refine r_iald hu dX12_run_78 kd_377 rfl (Or.inl rfl) rfl ln_377 h21 ?_
    refine r_if_ne (tgt := 114) dX12_run_79 rfl (fun h22 => ?_) (fun h23 => ?_)
    · refine r_aload_n 0 dX12_run_82 rfl rfl ?_
      refine r_gf (t := 0) (kz := 79) rfl hu dX12_run_83 kF_X12_452 kd_337 rfl rfl rfl ?_
      refine r_bipush dX12_run_86 (by decide) ⟨by decide, by decide⟩ ?_
      refine r_icmp_ne (tgt := 98) dX12_run_88 rfl (fun h24 => ?_) (fun h25 => ?_)
      · refine r_aload_n 0 dX12_run_91 rfl rfl ?_
        refine r_gf (t := 0) (kz := 79) rfl hu dX12_run_92 kF_X12_452 kd_337 rfl rfl rfl ?_
        refine r_iload_n 2 dX12_run_95 rfl rfl ?_
        refine r_ok (fun h26 => ?_)
        refine r_isub dX12_run_96 h26 ?_
        exact r_iret rfl rfl (Or.inl rfl) dX12_run_97
      · refine r_aload_n 0 dX12_run_98 rfl rfl ?_
        refine r_iload_n 1 dX12_run_99 rfl rfl ?_
        refine r_iload 4 dX12_run_100 rfl ?_
        refine r_aload_n 0 dX12_run_102 rfl rfl ?_
        refine r_gf (t := 0) (kz := 79) rfl hu dX12_run_103 kF_X12_452 kd_337 rfl rfl rfl ?_
        refine r_iload_n 2 dX12_run_106 rfl rfl ?_
        refine r_ok (fun h27 => ?_)
        refine r_isub dX12_run_107 h27 ?_
        refine r_invv (a := 337) hu ⟨Nat.le_refl _, Nat.le_refl _⟩ dX12_run_108 kM_X12_465 (ci := 12) rfl kd_337 rfl rfl (by decide) (by decide) [(0, a1), (0, x5), (0, (M 337 79) - x3)] rfl (sk := []) rfl (Nat.le_of_ble_eq_true rfl) rfl (m_X12_runShowing hu M a1 x5 ((M 337 79) - x3)) (fun r28 M29 => ?_)
        refine r_goto (tgt := 196) dX12_run_111 rfl ?_
        refine r_iincB 4 dX12_run_196 rfl ⟨by have := h21; omega, by have := h21; omega⟩ (by decide) (lf := fun y30 => [(5, 0, y30), (0, 2, 337), (1, 0, a1), (3, 0, x3), (4, 0, x4)]) (fun _ => rfl) (fun y30 ey30 => ?_)
        refine r_goto (tgt := 58) dX12_run_199 rfl ?_
        refine r_sub [1, 2, 3, 4, 0] (ls' := [(0, 2, 337), (1, 0, a1), (3, 0, x3), (4, 0, x4), (5, 0, y30)]) rfl ?_
        exact hw58 M29 x3 x4 y30
    · refine r_aload_n 0 dX12_run_114 rfl rfl ?_
      refine r_gx (kz := 54) rfl hu dX12_run_115 kF_X12_134 kd_337 rfl rfl rfl fx_337_54 ?_
      refine r_iload 4 dX12_run_118 rfl ?_
      refine r_iald hu dX12_run_120 kd_377 rfl (Or.inl rfl) rfl ln_377 h21 ?_
      refine r_iconst dX12_run_121 ⟨by decide, by decide⟩ ?_
      refine r_icmp_ne (tgt := 154) dX12_run_122 rfl (fun h31 => ?_) (fun h32 => ?_)
      · refine r_aload_n 0 dX12_run_125 rfl rfl ?_
        refine r_gx (kz := 61) rfl hu dX12_run_126 kF_X12_152 kd_337 rfl rfl rfl fx_337_61 ?_
        refine r_iload 3 dX12_run_129 rfl ?_
        refine r_iload 4 dX12_run_131 rfl ?_
        refine r_ok (fun h33 => ?_)
        refine r_iast hu dX12_run_133 kd_383 rfl (Or.inl rfl) rfl ln_383 h33 rfl (fun M34 eM34 => ?_)
        refine r_aload_n 0 dX12_run_134 rfl rfl ?_
        refine r_gx (kz := 62) rfl hu dX12_run_135 kF_X12_155 kd_337 rfl rfl rfl fx_337_62 ?_
        refine r_iload 3 dX12_run_138 rfl ?_
        refine r_aload_n 0 dX12_run_140 rfl rfl ?_
        refine r_gx (kz := 59) rfl hu dX12_run_141 kF_X12_149 kd_337 rfl rfl rfl fx_337_59 ?_
        refine r_iload 4 dX12_run_144 rfl ?_
        refine r_iald hu dX12_run_146 kd_382 rfl (Or.inl rfl) rfl ln_382 h21 ?_
        refine r_iast hu dX12_run_147 kd_384 rfl (Or.inl rfl) rfl ln_384 h33 rfl (fun M35 eM35 => ?_)
        refine r_iincB 3 dX12_run_148 rfl ⟨by have := h33; omega, by have := h33; omega⟩ (by decide) (lf := fun y36 => [(4, 0, y36), (0, 2, 337), (1, 0, a1), (3, 0, x3), (5, 0, x5)]) (fun _ => rfl) (fun y36 ey36 => ?_)
        refine r_goto (tgt := 196) dX12_run_151 rfl ?_
        refine r_iincB 4 dX12_run_196 rfl ⟨by have := h21; omega, by have := h21; omega⟩ (by decide) (lf := fun y37 => [(5, 0, y37), (4, 0, y36), (0, 2, 337), (1, 0, a1), (3, 0, x3)]) (fun _ => rfl) (fun y37 ey37 => ?_)
        refine r_goto (tgt := 58) dX12_run_199 rfl ?_
        refine r_sub [2, 3, 4, 1, 0] (ls' := [(0, 2, 337), (1, 0, a1), (3, 0, x3), (4, 0, y36), (5, 0, y37)]) rfl ?_
        exact hw58 M35 x3 y36 y37
      · refine r_aload_n 0 dX12_run_154 rfl rfl ?_
        refine r_gx (kz := 62) rfl hu dX12_run_155 kF_X12_155 kd_337 rfl rfl rfl fx_337_62 ?_
        refine r_iload 3 dX12_run_158 rfl ?_
        refine r_iconst dX12_run_160 ⟨by decide, by decide⟩ ?_
        refine r_ok (fun h38 => ?_)
        refine r_isub dX12_run_161 h38 ?_
        refine r_dup2 dX12_run_162 (nz0 _) (nz2 _) ?_
        refine r_ok (fun h39 => ?_)
        refine r_iald hu dX12_run_163 kd_384 rfl (Or.inl rfl) rfl ln_384 h39 ?_
        refine r_iconst dX12_run_164 ⟨by decide, by decide⟩ ?_
        refine r_ok (fun h40 => ?_)
        refine r_isub dX12_run_165 h40 ?_
        refine r_iast hu dX12_run_166 kd_384 rfl (Or.inl rfl) rfl ln_384 h39 rfl (fun M41 eM41 => ?_)
        refine r_aload_n 0 dX12_run_167 rfl rfl ?_
        refine r_gx (kz := 62) rfl hu dX12_run_168 kF_X12_155 kd_337 rfl rfl rfl fx_337_62 ?_
        refine r_iload 3 dX12_run_171 rfl ?_
        refine r_iconst dX12_run_173 ⟨by decide, by decide⟩ ?_
        refine r_isub dX12_run_174 h38 ?_
        refine r_iald hu dX12_run_175 kd_384 rfl (Or.inl rfl) rfl ln_384 h39 ?_
        refine r_if_le (tgt := 193) dX12_run_176 rfl (fun h42 => ?_) (fun h43 => ?_)
        · refine r_ok (fun h44 => ?_)
          refine r_iincB 3 dX12_run_193 rfl h44 (by decide) (lf := fun y45 => [(4, 0, y45), (0, 2, 337), (1, 0, a1), (3, 0, x3), (5, 0, x5)]) (fun _ => rfl) (fun y45 ey45 => ?_)
          refine r_iincB 4 dX12_run_196 rfl ⟨by have := h21; omega, by have := h21; omega⟩ (by decide) (lf := fun y46 => [(5, 0, y46), (4, 0, y45), (0, 2, 337), (1, 0, a1), (3, 0, x3)]) (fun _ => rfl) (fun y46 ey46 => ?_)
          refine r_goto (tgt := 58) dX12_run_199 rfl ?_
          refine r_sub [2, 3, 4, 1, 0] (ls' := [(0, 2, 337), (1, 0, a1), (3, 0, x3), (4, 0, y45), (5, 0, y46)]) rfl ?_
          exact hw58 M41 x3 y45 y46
        · refine r_aload_n 0 dX12_run_179 rfl rfl ?_
          refine r_gx (kz := 61) rfl hu dX12_run_180 kF_X12_152 kd_337 rfl rfl rfl fx_337_61 ?_
          refine r_iload 3 dX12_run_183 rfl ?_
          refine r_iconst dX12_run_185 ⟨by decide, by decide⟩ ?_
          refine r_isub dX12_run_186 h38 ?_
          refine r_iald hu dX12_run_187 kd_383 rfl (Or.inl rfl) rfl ln_383 h39 ?_
          refine r_istoreB dX12_run_188 (by decide) (lf := fun y47 => [(5, 0, y47), (0, 2, 337), (1, 0, a1), (3, 0, x3), (4, 0, x4)]) (fun _ => rfl) (fun y47 ey47 => ?_)
          refine r_goto (tgt := 196) dX12_run_190 rfl ?_
          refine r_ok (fun h48 => ?_)
          refine r_iincB 0 dX12_run_196 rfl h48 (by decide) (lf := fun y49 => [(5, 0, y49), (0, 2, 337), (1, 0, a1), (3, 0, x3), (4, 0, x4)]) (fun _ => rfl) (fun y49 ey49 => ?_)
          refine r_goto (tgt := 58) dX12_run_199 rfl ?_
          refine r_sub [1, 2, 3, 4, 0] (ls' := [(0, 2, 337), (1, 0, a1), (3, 0, x3), (4, 0, x4), (5, 0, y49)]) rfl ?_
          exact hw58 M41 x3 x4 y49
set_option maxRecDepth 100000 in
theorem m_X12_run {g : GT} {n nf : Int} (hu : Up false nf n) (M : Mem) (a1 a2 : Int) : AM g false yX12_run cX12_run 6 (some .int) (7) n n nf [(2, 337), (0, a1), (0, a2)] M (f_X12_run M a1 a2) := by
  refine AM_of (by decide +kernel) (Nat.le_of_ble_eq_true rfl) (fun h => absurd h (Int.lt_irrefl n)) ?_
  show AW g false RX12 cX12_run 6 (some .int) (7) n n nf 0 [(0, 2, 337), (1, 0, a1), (2, 0, a2)] [] n M (f_X12_run M a1 a2)
  unfold f_X12_run
  refine r_aload_n 0 dX12_run_0 rfl rfl ?_
  refine r_gf (t := 0) (kz := 60) rfl hu dX12_run_1 kF_X12_397 kd_337 rfl rfl rfl ?_
  refine r_if_eq (tgt := 19) dX12_run_4 rfl (fun h1 => ?_) (fun h2 => ?_)
  · refine r_iconst dX12_run_19 ⟨by decide, by decide⟩ ?_
    exact r_iret rfl rfl (Or.inl rfl) dX12_run_20
  · refine r_aload_n 0 dX12_run_7 rfl rfl ?_
    refine r_iload_n 1 dX12_run_8 rfl rfl ?_
    refine r_inv (a := 337) hu ⟨Nat.le_refl _, Nat.le_refl _⟩ dX12_run_9 kM_X12_459 (ci := 12) rfl kd_337 rfl rfl (by decide) (by decide) [(0, a1)] rfl (sk := []) rfl (Nat.le_of_ble_eq_true rfl) rfl rfl (m_X12_isLaw hu M a1) (fun r3 M4 => ?_)
    refine r_if_eq (tgt := 19) dX12_run_12 rfl (fun h5 => ?_) (fun h6 => ?_)
    · refine r_iconst dX12_run_19 ⟨by decide, by decide⟩ ?_
      exact r_iret rfl rfl (Or.inl rfl) dX12_run_20
    · refine r_iload_n 2 dX12_run_15 rfl rfl ?_
      refine r_if_ge (tgt := 21) dX12_run_16 rfl (fun h7 => ?_) (fun h8 => ?_)
      · refine r_aload_n 0 dX12_run_21 rfl rfl ?_
        refine r_iload_n 2 dX12_run_22 rfl rfl ?_
        refine r_i2l dX12_run_23 ?_
        refine r_pf (t := 1) (kz := 64) rfl hu dX12_run_24 kF_X12_442 kd_337 rfl rfl rfl (fun h => absurd h (by decide)) rfl kX_12_64 (fun M9 eM9 => ?_)
        refine r_aload_n 0 dX12_run_27 rfl rfl ?_
        refine r_gf (t := 0) (kz := 79) rfl hu dX12_run_28 kF_X12_452 kd_337 rfl rfl rfl ?_
        refine r_istore_nB dX12_run_31 rfl (by decide) (lf := fun y10 => [(3, 0, y10), (0, 2, 337), (1, 0, a1), (2, 0, a2)]) (fun _ => rfl) (fun y10 ey10 => ?_)
        refine r_iconst dX12_run_32 ⟨by decide, by decide⟩ ?_
        refine r_istore dX12_run_33 (by decide) (ls' := [(4, 0, 0), (3, 0, y10), (0, 2, 337), (1, 0, a1), (2, 0, a2)]) rfl ?_
        refine r_aload_n 2 dX12_run_35 rfl rfl ?_
        refine r_inv (a := 337) hu ⟨Nat.le_refl _, Nat.le_refl _⟩ dX12_run_36 kM_X12_462 (ci := 12) rfl kd_337 rfl rfl (by decide) (by decide) [] rfl (sk := []) rfl (Nat.le_of_ble_eq_true rfl) rfl rfl (m_X12_showings hu M9) (fun r11 M12 => ?_)
        refine r_if_le (tgt := 47) dX12_run_39 rfl (fun h13 => ?_) (fun h14 => ?_)
        · refine r_bipush dX12_run_47 (by decide) ⟨by decide, by decide⟩ ?_
          refine r_aload_n 2 dX12_run_49 rfl rfl ?_
          refine r_gx (kz := 53) rfl hu dX12_run_50 kF_X12_131 kd_337 rfl rfl rfl fx_337_53 ?_
          refine r_iconst dX12_run_53 ⟨by decide, by decide⟩ ?_
          refine r_iald hu dX12_run_54 kd_376 rfl (Or.inl rfl) rfl ln_376 ⟨by decide, by decide⟩ ?_
          refine r_ok (fun h15 => ?_)
          refine r_iadd dX12_run_55 h15 ?_
          refine r_istoreB dX12_run_56 (by decide) (lf := fun y16 => [(5, 0, y16), (4, 0, 0), (3, 0, y10), (0, 2, 337), (1, 0, a1), (2, 0, a2)]) (fun _ => rfl) (fun y16 ey16 => ?_)
          refine r_sub [3, 4, 2, 1, 0] (ls' := [(0, 2, 337), (1, 0, a1), (3, 0, y10), (4, 0, 0), (5, 0, y16)]) rfl ?_
          exact wl3_aw (P := fun M x3 x4 x5 o => AW g false RX12 cX12_run 6 (some .int) (7) n n nf 58 [(0, 2, 337), (1, 0, a1), (3, 0, x3), (4, 0, x4), (5, 0, x5)] [] n M (o)) (fun M x3 x4 x5 => aw_none) (fun w hw M x3 x4 x5 => tb_X12_run_58 hu a1 w hw M x3 x4 x5) FU M12 y10 0 y16
        · refine r_bipush dX12_run_42 (by decide) ⟨by decide, by decide⟩ ?_
          refine r_goto (tgt := 56) dX12_run_44 rfl ?_
          refine r_istore dX12_run_56 (by decide) (ls' := [(5, 0, 80), (4, 0, 0), (3, 0, y10), (0, 2, 337), (1, 0, a1), (2, 0, a2)]) rfl ?_
          refine r_sub [3, 4, 2, 1, 0] (ls' := [(0, 2, 337), (1, 0, a1), (3, 0, y10), (4, 0, 0), (5, 0, 80)]) rfl ?_
          exact wl3_aw (P := fun M x3 x4 x5 o => AW g false RX12 cX12_run 6 (some .int) (7) n n nf 58 [(0, 2, 337), (1, 0, a1), (3, 0, x3), (4, 0, x4), (5, 0, x5)] [] n M (o)) (fun M x3 x4 x5 => aw_none) (fun w hw M x3 x4 x5 => tb_X12_run_58 hu a1 w hw M x3 x4 x5) FU M12 y10 0 80
      · refine r_iconst dX12_run_19 ⟨by decide, by decide⟩ ?_
        exact r_iret rfl rfl (Or.inl rfl) dX12_run_20
theorem dX12_stands_0 : decode cX12_stands 0 = .ok (.aload_n 0, 1) := by decide +kernel
theorem dX12_stands_1 : decode cX12_stands 1 = .ok (.getfield 87, 3) := by decide +kernel
theorem dX12_stands_4 : decode cX12_stands 4 = .ok (.iload_n 1, 1) := by decide +kernel
theorem dX12_stands_5 : decode cX12_stands 5 = .ok (.aload_n 0, 1) := by decide +kernel
theorem dX12_stands_6 : decode cX12_stands 6 = .ok (.getfield 87, 3) := by decide +kernel
theorem dX12_stands_9 : decode cX12_stands 9 = .ok (.iconst 0, 1) := by decide +kernel
theorem dX12_stands_10 : decode cX12_stands 10 = .ok (.iaload, 1) := by decide +kernel
theorem dX12_stands_11 : decode cX12_stands 11 = .ok (.iastore, 1) := by decide +kernel
theorem dX12_stands_12 : decode cX12_stands 12 = .ok (.aload_n 0, 1) := by decide +kernel
theorem dX12_stands_13 : decode cX12_stands 13 = .ok (.getfield 99, 3) := by decide +kernel
theorem dX12_stands_16 : decode cX12_stands 16 = .ok (.iload_n 1, 1) := by decide +kernel
theorem dX12_stands_17 : decode cX12_stands 17 = .ok (.aload_n 0, 1) := by decide +kernel
theorem dX12_stands_18 : decode cX12_stands 18 = .ok (.getfield 99, 3) := by decide +kernel
theorem dX12_stands_21 : decode cX12_stands 21 = .ok (.iconst 0, 1) := by decide +kernel
theorem dX12_stands_22 : decode cX12_stands 22 = .ok (.iaload, 1) := by decide +kernel
theorem dX12_stands_23 : decode cX12_stands 23 = .ok (.iastore, 1) := by decide +kernel
theorem dX12_stands_24 : decode cX12_stands 24 = .ok (.sipush 900, 3) := by decide +kernel
theorem dX12_stands_27 : decode cX12_stands 27 = .ok (.iload_n 1, 1) := by decide +kernel
theorem dX12_stands_28 : decode cX12_stands 28 = .ok (.imul, 1) := by decide +kernel
theorem dX12_stands_29 : decode cX12_stands 29 = .ok (.istore_n 2, 1) := by decide +kernel
theorem dX12_stands_30 : decode cX12_stands 30 = .ok (.iconst 0, 1) := by decide +kernel
theorem dX12_stands_31 : decode cX12_stands 31 = .ok (.istore_n 3, 1) := by decide +kernel
theorem dX12_stands_32 : decode cX12_stands 32 = .ok (.iload_n 3, 1) := by decide +kernel
theorem dX12_stands_33 : decode cX12_stands 33 = .ok (.aload_n 0, 1) := by decide +kernel
theorem dX12_stands_34 : decode cX12_stands 34 = .ok (.getfield 87, 3) := by decide +kernel
theorem dX12_stands_37 : decode cX12_stands 37 = .ok (.iload_n 1, 1) := by decide +kernel
theorem dX12_stands_38 : decode cX12_stands 38 = .ok (.iaload, 1) := by decide +kernel
theorem dX12_stands_39 : decode cX12_stands 39 = .ok (.if_icmp .ge 66, 3) := by decide +kernel
theorem dX12_stands_42 : decode cX12_stands 42 = .ok (.aload_n 0, 1) := by decide +kernel
theorem dX12_stands_43 : decode cX12_stands 43 = .ok (.getfield 90, 3) := by decide +kernel
theorem dX12_stands_46 : decode cX12_stands 46 = .ok (.bipush 40, 2) := by decide +kernel
theorem dX12_stands_48 : decode cX12_stands 48 = .ok (.iload_n 1, 1) := by decide +kernel
theorem dX12_stands_49 : decode cX12_stands 49 = .ok (.imul, 1) := by decide +kernel
theorem dX12_stands_50 : decode cX12_stands 50 = .ok (.iload_n 3, 1) := by decide +kernel
theorem dX12_stands_51 : decode cX12_stands 51 = .ok (.iadd, 1) := by decide +kernel
theorem dX12_stands_52 : decode cX12_stands 52 = .ok (.aload_n 0, 1) := by decide +kernel
theorem dX12_stands_53 : decode cX12_stands 53 = .ok (.getfield 90, 3) := by decide +kernel
theorem dX12_stands_56 : decode cX12_stands 56 = .ok (.iload_n 3, 1) := by decide +kernel
theorem dX12_stands_57 : decode cX12_stands 57 = .ok (.iaload, 1) := by decide +kernel
theorem dX12_stands_58 : decode cX12_stands 58 = .ok (.iload_n 2, 1) := by decide +kernel
theorem dX12_stands_59 : decode cX12_stands 59 = .ok (.iadd, 1) := by decide +kernel
theorem dX12_stands_60 : decode cX12_stands 60 = .ok (.iastore, 1) := by decide +kernel
theorem dX12_stands_61 : decode cX12_stands 61 = .ok (.aload_n 0, 1) := by decide +kernel
theorem dX12_stands_62 : decode cX12_stands 62 = .ok (.getfield 93, 3) := by decide +kernel
theorem dX12_stands_65 : decode cX12_stands 65 = .ok (.bipush 40, 2) := by decide +kernel
theorem dX12_stands_67 : decode cX12_stands 67 = .ok (.iload_n 1, 1) := by decide +kernel
theorem dX12_stands_68 : decode cX12_stands 68 = .ok (.imul, 1) := by decide +kernel
theorem dX12_stands_69 : decode cX12_stands 69 = .ok (.iload_n 3, 1) := by decide +kernel
theorem dX12_stands_70 : decode cX12_stands 70 = .ok (.iadd, 1) := by decide +kernel
theorem dX12_stands_71 : decode cX12_stands 71 = .ok (.aload_n 0, 1) := by decide +kernel
theorem dX12_stands_72 : decode cX12_stands 72 = .ok (.getfield 93, 3) := by decide +kernel
theorem dX12_stands_75 : decode cX12_stands 75 = .ok (.iload_n 3, 1) := by decide +kernel
theorem dX12_stands_76 : decode cX12_stands 76 = .ok (.iaload, 1) := by decide +kernel
theorem dX12_stands_77 : decode cX12_stands 77 = .ok (.iload_n 2, 1) := by decide +kernel
theorem dX12_stands_78 : decode cX12_stands 78 = .ok (.iadd, 1) := by decide +kernel
theorem dX12_stands_79 : decode cX12_stands 79 = .ok (.iastore, 1) := by decide +kernel
theorem dX12_stands_80 : decode cX12_stands 80 = .ok (.aload_n 0, 1) := by decide +kernel
theorem dX12_stands_81 : decode cX12_stands 81 = .ok (.getfield 96, 3) := by decide +kernel
theorem dX12_stands_84 : decode cX12_stands 84 = .ok (.bipush 40, 2) := by decide +kernel
theorem dX12_stands_86 : decode cX12_stands 86 = .ok (.iload_n 1, 1) := by decide +kernel
theorem dX12_stands_87 : decode cX12_stands 87 = .ok (.imul, 1) := by decide +kernel
theorem dX12_stands_88 : decode cX12_stands 88 = .ok (.iload_n 3, 1) := by decide +kernel
theorem dX12_stands_89 : decode cX12_stands 89 = .ok (.iadd, 1) := by decide +kernel
theorem dX12_stands_90 : decode cX12_stands 90 = .ok (.aload_n 0, 1) := by decide +kernel
theorem dX12_stands_91 : decode cX12_stands 91 = .ok (.getfield 96, 3) := by decide +kernel
theorem dX12_stands_94 : decode cX12_stands 94 = .ok (.iload_n 3, 1) := by decide +kernel
theorem dX12_stands_95 : decode cX12_stands 95 = .ok (.iaload, 1) := by decide +kernel
theorem dX12_stands_96 : decode cX12_stands 96 = .ok (.iload_n 2, 1) := by decide +kernel
theorem dX12_stands_97 : decode cX12_stands 97 = .ok (.iadd, 1) := by decide +kernel
theorem dX12_stands_98 : decode cX12_stands 98 = .ok (.iastore, 1) := by decide +kernel
theorem dX12_stands_99 : decode cX12_stands 99 = .ok (.iinc 3 1, 3) := by decide +kernel
theorem dX12_stands_102 : decode cX12_stands 102 = .ok (.goto (-70), 3) := by decide +kernel
theorem dX12_stands_105 : decode cX12_stands 105 = .ok (.iconst 0, 1) := by decide +kernel
theorem dX12_stands_106 : decode cX12_stands 106 = .ok (.istore_n 3, 1) := by decide +kernel
theorem dX12_stands_107 : decode cX12_stands 107 = .ok (.iload_n 3, 1) := by decide +kernel
theorem dX12_stands_108 : decode cX12_stands 108 = .ok (.aload_n 0, 1) := by decide +kernel
theorem dX12_stands_109 : decode cX12_stands 109 = .ok (.getfield 99, 3) := by decide +kernel
theorem dX12_stands_112 : decode cX12_stands 112 = .ok (.iload_n 1, 1) := by decide +kernel
theorem dX12_stands_113 : decode cX12_stands 113 = .ok (.iaload, 1) := by decide +kernel
theorem dX12_stands_114 : decode cX12_stands 114 = .ok (.if_icmp .ge 95, 3) := by decide +kernel
theorem dX12_stands_117 : decode cX12_stands 117 = .ok (.aload_n 0, 1) := by decide +kernel
theorem dX12_stands_118 : decode cX12_stands 118 = .ok (.getfield 102, 3) := by decide +kernel
theorem dX12_stands_121 : decode cX12_stands 121 = .ok (.iconst 5, 1) := by decide +kernel
theorem dX12_stands_122 : decode cX12_stands 122 = .ok (.iload_n 1, 1) := by decide +kernel
theorem dX12_stands_123 : decode cX12_stands 123 = .ok (.imul, 1) := by decide +kernel
theorem dX12_stands_124 : decode cX12_stands 124 = .ok (.iload_n 3, 1) := by decide +kernel
theorem dX12_stands_125 : decode cX12_stands 125 = .ok (.iadd, 1) := by decide +kernel
theorem dX12_stands_126 : decode cX12_stands 126 = .ok (.aload_n 0, 1) := by decide +kernel
theorem dX12_stands_127 : decode cX12_stands 127 = .ok (.getfield 102, 3) := by decide +kernel
theorem dX12_stands_130 : decode cX12_stands 130 = .ok (.iload_n 3, 1) := by decide +kernel
theorem dX12_stands_131 : decode cX12_stands 131 = .ok (.laload, 1) := by decide +kernel
theorem dX12_stands_132 : decode cX12_stands 132 = .ok (.lastore, 1) := by decide +kernel
theorem dX12_stands_133 : decode cX12_stands 133 = .ok (.aload_n 0, 1) := by decide +kernel
theorem dX12_stands_134 : decode cX12_stands 134 = .ok (.getfield 106, 3) := by decide +kernel
theorem dX12_stands_137 : decode cX12_stands 137 = .ok (.iconst 5, 1) := by decide +kernel
theorem dX12_stands_138 : decode cX12_stands 138 = .ok (.iload_n 1, 1) := by decide +kernel
theorem dX12_stands_139 : decode cX12_stands 139 = .ok (.imul, 1) := by decide +kernel
theorem dX12_stands_140 : decode cX12_stands 140 = .ok (.iload_n 3, 1) := by decide +kernel
theorem dX12_stands_141 : decode cX12_stands 141 = .ok (.iadd, 1) := by decide +kernel
theorem dX12_stands_142 : decode cX12_stands 142 = .ok (.aload_n 0, 1) := by decide +kernel
theorem dX12_stands_143 : decode cX12_stands 143 = .ok (.getfield 106, 3) := by decide +kernel
theorem dX12_stands_146 : decode cX12_stands 146 = .ok (.iload_n 3, 1) := by decide +kernel
theorem dX12_stands_147 : decode cX12_stands 147 = .ok (.baload, 1) := by decide +kernel
theorem dX12_stands_148 : decode cX12_stands 148 = .ok (.bastore, 1) := by decide +kernel
theorem dX12_stands_149 : decode cX12_stands 149 = .ok (.aload_n 0, 1) := by decide +kernel
theorem dX12_stands_150 : decode cX12_stands 150 = .ok (.getfield 110, 3) := by decide +kernel
theorem dX12_stands_153 : decode cX12_stands 153 = .ok (.iconst 5, 1) := by decide +kernel
theorem dX12_stands_154 : decode cX12_stands 154 = .ok (.iload_n 1, 1) := by decide +kernel
theorem dX12_stands_155 : decode cX12_stands 155 = .ok (.imul, 1) := by decide +kernel
theorem dX12_stands_156 : decode cX12_stands 156 = .ok (.iload_n 3, 1) := by decide +kernel
theorem dX12_stands_157 : decode cX12_stands 157 = .ok (.iadd, 1) := by decide +kernel
theorem dX12_stands_158 : decode cX12_stands 158 = .ok (.aload_n 0, 1) := by decide +kernel
theorem dX12_stands_159 : decode cX12_stands 159 = .ok (.getfield 110, 3) := by decide +kernel
theorem dX12_stands_162 : decode cX12_stands 162 = .ok (.iload_n 3, 1) := by decide +kernel
theorem dX12_stands_163 : decode cX12_stands 163 = .ok (.iaload, 1) := by decide +kernel
theorem dX12_stands_164 : decode cX12_stands 164 = .ok (.iload_n 2, 1) := by decide +kernel
theorem dX12_stands_165 : decode cX12_stands 165 = .ok (.iadd, 1) := by decide +kernel
theorem dX12_stands_166 : decode cX12_stands 166 = .ok (.iastore, 1) := by decide +kernel
theorem dX12_stands_167 : decode cX12_stands 167 = .ok (.aload_n 0, 1) := by decide +kernel
theorem dX12_stands_168 : decode cX12_stands 168 = .ok (.getfield 113, 3) := by decide +kernel
theorem dX12_stands_171 : decode cX12_stands 171 = .ok (.iconst 5, 1) := by decide +kernel
theorem dX12_stands_172 : decode cX12_stands 172 = .ok (.iload_n 1, 1) := by decide +kernel
theorem dX12_stands_173 : decode cX12_stands 173 = .ok (.imul, 1) := by decide +kernel
theorem dX12_stands_174 : decode cX12_stands 174 = .ok (.iload_n 3, 1) := by decide +kernel
theorem dX12_stands_175 : decode cX12_stands 175 = .ok (.iadd, 1) := by decide +kernel
theorem dX12_stands_176 : decode cX12_stands 176 = .ok (.aload_n 0, 1) := by decide +kernel
theorem dX12_stands_177 : decode cX12_stands 177 = .ok (.getfield 113, 3) := by decide +kernel
theorem dX12_stands_180 : decode cX12_stands 180 = .ok (.iload_n 3, 1) := by decide +kernel
theorem dX12_stands_181 : decode cX12_stands 181 = .ok (.iaload, 1) := by decide +kernel
theorem dX12_stands_182 : decode cX12_stands 182 = .ok (.iload_n 2, 1) := by decide +kernel
theorem dX12_stands_183 : decode cX12_stands 183 = .ok (.iadd, 1) := by decide +kernel
theorem dX12_stands_184 : decode cX12_stands 184 = .ok (.iastore, 1) := by decide +kernel
theorem dX12_stands_185 : decode cX12_stands 185 = .ok (.aload_n 0, 1) := by decide +kernel
theorem dX12_stands_186 : decode cX12_stands 186 = .ok (.getfield 116, 3) := by decide +kernel
theorem dX12_stands_189 : decode cX12_stands 189 = .ok (.iconst 5, 1) := by decide +kernel
theorem dX12_stands_190 : decode cX12_stands 190 = .ok (.iload_n 1, 1) := by decide +kernel
theorem dX12_stands_191 : decode cX12_stands 191 = .ok (.imul, 1) := by decide +kernel
theorem dX12_stands_192 : decode cX12_stands 192 = .ok (.iload_n 3, 1) := by decide +kernel
theorem dX12_stands_193 : decode cX12_stands 193 = .ok (.iadd, 1) := by decide +kernel
theorem dX12_stands_194 : decode cX12_stands 194 = .ok (.aload_n 0, 1) := by decide +kernel
theorem dX12_stands_195 : decode cX12_stands 195 = .ok (.getfield 116, 3) := by decide +kernel
theorem dX12_stands_198 : decode cX12_stands 198 = .ok (.iload_n 3, 1) := by decide +kernel
theorem dX12_stands_199 : decode cX12_stands 199 = .ok (.iaload, 1) := by decide +kernel
theorem dX12_stands_200 : decode cX12_stands 200 = .ok (.iload_n 2, 1) := by decide +kernel
theorem dX12_stands_201 : decode cX12_stands 201 = .ok (.iadd, 1) := by decide +kernel
theorem dX12_stands_202 : decode cX12_stands 202 = .ok (.iastore, 1) := by decide +kernel
theorem dX12_stands_203 : decode cX12_stands 203 = .ok (.iinc 3 1, 3) := by decide +kernel
theorem dX12_stands_206 : decode cX12_stands 206 = .ok (.goto (-99), 3) := by decide +kernel
theorem dX12_stands_209 : decode cX12_stands 209 = .ok (.iconst 0, 1) := by decide +kernel
theorem dX12_stands_210 : decode cX12_stands 210 = .ok (.istore_n 3, 1) := by decide +kernel
theorem dX12_stands_211 : decode cX12_stands 211 = .ok (.iload_n 3, 1) := by decide +kernel
theorem dX12_stands_212 : decode cX12_stands 212 = .ok (.aload_n 0, 1) := by decide +kernel
theorem dX12_stands_213 : decode cX12_stands 213 = .ok (.getfield 282, 3) := by decide +kernel
theorem dX12_stands_216 : decode cX12_stands 216 = .ok (.if_icmp .ge 23, 3) := by decide +kernel
theorem dX12_stands_219 : decode cX12_stands 219 = .ok (.aload_n 0, 1) := by decide +kernel
theorem dX12_stands_220 : decode cX12_stands 220 = .ok (.getfield 81, 3) := by decide +kernel
theorem dX12_stands_223 : decode cX12_stands 223 = .ok (.iload_n 2, 1) := by decide +kernel
theorem dX12_stands_224 : decode cX12_stands 224 = .ok (.iload_n 3, 1) := by decide +kernel
theorem dX12_stands_225 : decode cX12_stands 225 = .ok (.iadd, 1) := by decide +kernel
theorem dX12_stands_226 : decode cX12_stands 226 = .ok (.aload_n 0, 1) := by decide +kernel
theorem dX12_stands_227 : decode cX12_stands 227 = .ok (.getfield 81, 3) := by decide +kernel
theorem dX12_stands_230 : decode cX12_stands 230 = .ok (.iload_n 3, 1) := by decide +kernel
theorem dX12_stands_231 : decode cX12_stands 231 = .ok (.iaload, 1) := by decide +kernel
theorem dX12_stands_232 : decode cX12_stands 232 = .ok (.iastore, 1) := by decide +kernel
theorem dX12_stands_233 : decode cX12_stands 233 = .ok (.iinc 3 1, 3) := by decide +kernel
theorem dX12_stands_236 : decode cX12_stands 236 = .ok (.goto (-25), 3) := by decide +kernel
theorem dX12_stands_239 : decode cX12_stands 239 = .ok (.return_, 1) := by decide +kernel
set_option maxRecDepth 100000 in
theorem tb_X12_stands_211 {g : GT} {n nf : Int} (hu : Up false nf n) (w211 : Mem → Int → Int → Res) (hw211 : ∀ (M : Mem) (x2 x3 : Int), AW g false RX12 cX12_stands 4 none (0) n n nf 211 [(0, 2, 337), (2, 0, x2), (3, 0, x3)] [] n M (w211 M x2 x3)) (M : Mem) (x2 x3 : Int) : AW g false RX12 cX12_stands 4 none (0) n n nf 211 [(0, 2, 337), (2, 0, x2), (3, 0, x3)] [] n M (b_X12_stands_211 w211 M x2 x3) := by
  unfold b_X12_stands_211
  refine r_iload_n 2 dX12_stands_211 rfl rfl ?_
  refine r_aload_n 0 dX12_stands_212 rfl rfl ?_
  refine r_gf (t := 0) (kz := 32) rfl hu dX12_stands_213 kF_X12_282 kd_337 rfl rfl rfl ?_
  refine r_icmp_ge (tgt := 239) dX12_stands_216 rfl (fun h12 => ?_) (fun h13 => ?_)
  · exact r_vret rfl rfl dX12_stands_239
  · refine r_aload_n 0 dX12_stands_219 rfl rfl ?_
    refine r_gx (kz := 31) rfl hu dX12_stands_220 kF_X12_81 kd_337 rfl rfl rfl fx_337_31 ?_
    refine r_iload_n 1 dX12_stands_223 rfl rfl ?_
    refine r_iload_n 2 dX12_stands_224 rfl rfl ?_
    refine r_ok (fun h14 => ?_)
    refine r_iadd dX12_stands_225 h14 ?_
    refine r_aload_n 0 dX12_stands_226 rfl rfl ?_
    refine r_gx (kz := 31) rfl hu dX12_stands_227 kF_X12_81 kd_337 rfl rfl rfl fx_337_31 ?_
    refine r_iload_n 2 dX12_stands_230 rfl rfl ?_
    refine r_ok (fun h15 => ?_)
    refine r_iald hu dX12_stands_231 kd_360 rfl (Or.inl rfl) rfl ln_360 h15 ?_
    refine r_ok (fun h16 => ?_)
    refine r_iast hu dX12_stands_232 kd_360 rfl (Or.inl rfl) rfl ln_360 h16 rfl (fun M17 eM17 => ?_)
    refine r_iincB 2 dX12_stands_233 rfl ⟨by have := h15; omega, by have := h15; omega⟩ (by decide) (lf := fun y18 => [(3, 0, y18), (0, 2, 337), (2, 0, x2)]) (fun _ => rfl) (fun y18 ey18 => ?_)
    refine r_goto (tgt := 211) dX12_stands_236 rfl ?_
    refine r_sub [1, 2, 0] (ls' := [(0, 2, 337), (2, 0, x2), (3, 0, y18)]) rfl ?_
    exact hw211 M17 x2 y18
set_option maxRecDepth 100000 in
theorem tb_X12_stands_107 {g : GT} {n nf : Int} (hu : Up false nf n) (a1 : Int) (w107 : Mem → Int → Int → Res) (hw107 : ∀ (M : Mem) (x2 x3 : Int), AW g false RX12 cX12_stands 4 none (0) n n nf 107 [(0, 2, 337), (1, 0, a1), (2, 0, x2), (3, 0, x3)] [] n M (w107 M x2 x3)) (M : Mem) (x2 x3 : Int) : AW g false RX12 cX12_stands 4 none (0) n n nf 107 [(0, 2, 337), (1, 0, a1), (2, 0, x2), (3, 0, x3)] [] n M (b_X12_stands_107 a1 w107 M x2 x3) := by
  unfold b_X12_stands_107
  refine r_iload_n 3 dX12_stands_107 rfl rfl ?_
  refine r_aload_n 0 dX12_stands_108 rfl rfl ?_
  refine r_gx (kz := 41) rfl hu dX12_stands_109 kF_X12_99 kd_337 rfl rfl rfl fx_337_41 ?_
  refine r_iload_n 1 dX12_stands_112 rfl rfl ?_
  refine r_ok (fun h9 => ?_)
  refine r_iald hu dX12_stands_113 kd_366 rfl (Or.inl rfl) rfl ln_366 h9 ?_
  refine r_icmp_ge (tgt := 209) dX12_stands_114 rfl (fun h10 => ?_) (fun h11 => ?_)
  · refine r_iconst dX12_stands_209 ⟨by decide, by decide⟩ ?_
    refine r_istore_n dX12_stands_210 rfl (by decide) (ls' := [(3, 0, 0), (0, 2, 337), (1, 0, a1), (2, 0, x2)]) rfl ?_
    refine r_sub [1, 3, 0] (ls' := [(0, 2, 337), (2, 0, x2), (3, 0, 0)]) rfl ?_
    exact wl2_aw (P := fun M x2 x3 o => AW g false RX12 cX12_stands 4 none (0) n n nf 211 [(0, 2, 337), (2, 0, x2), (3, 0, x3)] [] n M (o)) (fun M x2 x3 => aw_none) (fun w hw M x2 x3 => tb_X12_stands_211 hu w hw M x2 x3) FU M x2 0
  · refine r_aload_n 0 dX12_stands_117 rfl rfl ?_
    refine r_gx (kz := 42) rfl hu dX12_stands_118 kF_X12_102 kd_337 rfl rfl rfl fx_337_42 ?_
    refine r_iconst dX12_stands_121 ⟨by decide, by decide⟩ ?_
    refine r_iload_n 1 dX12_stands_122 rfl rfl ?_
    refine r_ok (fun h19 => ?_)
    refine r_imul dX12_stands_123 h19 ?_
    refine r_iload_n 3 dX12_stands_124 rfl rfl ?_
    refine r_ok (fun h20 => ?_)
    refine r_iadd dX12_stands_125 h20 ?_
    refine r_aload_n 0 dX12_stands_126 rfl rfl ?_
    refine r_gx (kz := 42) rfl hu dX12_stands_127 kF_X12_102 kd_337 rfl rfl rfl fx_337_42 ?_
    refine r_iload_n 3 dX12_stands_130 rfl rfl ?_
    refine r_ok (fun h21 => ?_)
    refine r_lald hu dX12_stands_131 kd_367 rfl rfl rfl ln_367 h21 ?_
    refine r_ok (fun h22 => ?_)
    refine r_last hu dX12_stands_132 kd_367 rfl rfl rfl ln_367 h22 rfl (fun M23 eM23 => ?_)
    refine r_aload_n 0 dX12_stands_133 rfl rfl ?_
    refine r_gx (kz := 43) rfl hu dX12_stands_134 kF_X12_106 kd_337 rfl rfl rfl fx_337_43 ?_
    refine r_iconst dX12_stands_137 ⟨by decide, by decide⟩ ?_
    refine r_iload_n 1 dX12_stands_138 rfl rfl ?_
    refine r_imul dX12_stands_139 h19 ?_
    refine r_iload_n 3 dX12_stands_140 rfl rfl ?_
    refine r_iadd dX12_stands_141 h20 ?_
    refine r_aload_n 0 dX12_stands_142 rfl rfl ?_
    refine r_gx (kz := 43) rfl hu dX12_stands_143 kF_X12_106 kd_337 rfl rfl rfl fx_337_43 ?_
    refine r_iload_n 3 dX12_stands_146 rfl rfl ?_
    refine r_zald hu dX12_stands_147 kd_368 rfl rfl rfl ln_368 h21 ?_
    refine r_ok (fun h24 => ?_)
    refine r_zast hu dX12_stands_148 kd_368 rfl rfl rfl ln_368 h22 h24 rfl (fun M25 eM25 => ?_)
    refine r_aload_n 0 dX12_stands_149 rfl rfl ?_
    refine r_gx (kz := 44) rfl hu dX12_stands_150 kF_X12_110 kd_337 rfl rfl rfl fx_337_44 ?_
    refine r_iconst dX12_stands_153 ⟨by decide, by decide⟩ ?_
    refine r_iload_n 1 dX12_stands_154 rfl rfl ?_
    refine r_imul dX12_stands_155 h19 ?_
    refine r_iload_n 3 dX12_stands_156 rfl rfl ?_
    refine r_iadd dX12_stands_157 h20 ?_
    refine r_aload_n 0 dX12_stands_158 rfl rfl ?_
    refine r_gx (kz := 44) rfl hu dX12_stands_159 kF_X12_110 kd_337 rfl rfl rfl fx_337_44 ?_
    refine r_iload_n 3 dX12_stands_162 rfl rfl ?_
    refine r_iald hu dX12_stands_163 kd_369 rfl (Or.inl rfl) rfl ln_369 h21 ?_
    refine r_iload_n 2 dX12_stands_164 rfl rfl ?_
    refine r_ok (fun h26 => ?_)
    refine r_iadd dX12_stands_165 h26 ?_
    refine r_iast hu dX12_stands_166 kd_369 rfl (Or.inl rfl) rfl ln_369 h22 rfl (fun M27 eM27 => ?_)
    refine r_aload_n 0 dX12_stands_167 rfl rfl ?_
    refine r_gx (kz := 45) rfl hu dX12_stands_168 kF_X12_113 kd_337 rfl rfl rfl fx_337_45 ?_
    refine r_iconst dX12_stands_171 ⟨by decide, by decide⟩ ?_
    refine r_iload_n 1 dX12_stands_172 rfl rfl ?_
    refine r_imul dX12_stands_173 h19 ?_
    refine r_iload_n 3 dX12_stands_174 rfl rfl ?_
    refine r_iadd dX12_stands_175 h20 ?_
    refine r_aload_n 0 dX12_stands_176 rfl rfl ?_
    refine r_gx (kz := 45) rfl hu dX12_stands_177 kF_X12_113 kd_337 rfl rfl rfl fx_337_45 ?_
    refine r_iload_n 3 dX12_stands_180 rfl rfl ?_
    refine r_iald hu dX12_stands_181 kd_370 rfl (Or.inl rfl) rfl ln_370 h21 ?_
    refine r_iload_n 2 dX12_stands_182 rfl rfl ?_
    refine r_ok (fun h28 => ?_)
    refine r_iadd dX12_stands_183 h28 ?_
    refine r_iast hu dX12_stands_184 kd_370 rfl (Or.inl rfl) rfl ln_370 h22 rfl (fun M29 eM29 => ?_)
    refine r_aload_n 0 dX12_stands_185 rfl rfl ?_
    refine r_gx (kz := 46) rfl hu dX12_stands_186 kF_X12_116 kd_337 rfl rfl rfl fx_337_46 ?_
    refine r_iconst dX12_stands_189 ⟨by decide, by decide⟩ ?_
    refine r_iload_n 1 dX12_stands_190 rfl rfl ?_
    refine r_imul dX12_stands_191 h19 ?_
    refine r_iload_n 3 dX12_stands_192 rfl rfl ?_
    refine r_iadd dX12_stands_193 h20 ?_
    refine r_aload_n 0 dX12_stands_194 rfl rfl ?_
    refine r_gx (kz := 46) rfl hu dX12_stands_195 kF_X12_116 kd_337 rfl rfl rfl fx_337_46 ?_
    refine r_iload_n 3 dX12_stands_198 rfl rfl ?_
    refine r_iald hu dX12_stands_199 kd_371 rfl (Or.inl rfl) rfl ln_371 h21 ?_
    refine r_iload_n 2 dX12_stands_200 rfl rfl ?_
    refine r_ok (fun h30 => ?_)
    refine r_iadd dX12_stands_201 h30 ?_
    refine r_iast hu dX12_stands_202 kd_371 rfl (Or.inl rfl) rfl ln_371 h22 rfl (fun M31 eM31 => ?_)
    refine r_iincB 3 dX12_stands_203 rfl ⟨by have := h21; omega, by have := h21; omega⟩ (by decide) (lf := fun y32 => [(3, 0, y32), (0, 2, 337), (1, 0, a1), (2, 0, x2)]) (fun _ => rfl) (fun y32 ey32 => ?_)
    refine r_goto (tgt := 107) dX12_stands_206 rfl ?_
    refine r_sub [1, 2, 3, 0] (ls' := [(0, 2, 337), (1, 0, a1), (2, 0, x2), (3, 0, y32)]) rfl ?_
    exact hw107 M31 x2 y32
set_option maxRecDepth 100000 in
theorem tb_X12_stands_32 {g : GT} {n nf : Int} (hu : Up false nf n) (a1 : Int) (w32 : Mem → Int → Int → Res) (hw32 : ∀ (M : Mem) (x2 x3 : Int), AW g false RX12 cX12_stands 4 none (0) n n nf 32 [(0, 2, 337), (1, 0, a1), (2, 0, x2), (3, 0, x3)] [] n M (w32 M x2 x3)) (M : Mem) (x2 x3 : Int) : AW g false RX12 cX12_stands 4 none (0) n n nf 32 [(0, 2, 337), (1, 0, a1), (2, 0, x2), (3, 0, x3)] [] n M (b_X12_stands_32 a1 w32 M x2 x3) := by
  unfold b_X12_stands_32
  refine r_iload_n 3 dX12_stands_32 rfl rfl ?_
  refine r_aload_n 0 dX12_stands_33 rfl rfl ?_
  refine r_gx (kz := 37) rfl hu dX12_stands_34 kF_X12_87 kd_337 rfl rfl rfl fx_337_37 ?_
  refine r_iload_n 1 dX12_stands_37 rfl rfl ?_
  refine r_ok (fun h6 => ?_)
  refine r_iald hu dX12_stands_38 kd_362 rfl (Or.inl rfl) rfl ln_362 h6 ?_
  refine r_icmp_ge (tgt := 105) dX12_stands_39 rfl (fun h7 => ?_) (fun h8 => ?_)
  · refine r_iconst dX12_stands_105 ⟨by decide, by decide⟩ ?_
    refine r_istore_n dX12_stands_106 rfl (by decide) (ls' := [(3, 0, 0), (0, 2, 337), (1, 0, a1), (2, 0, x2)]) rfl ?_
    refine r_sub [1, 2, 3, 0] (ls' := [(0, 2, 337), (1, 0, a1), (2, 0, x2), (3, 0, 0)]) rfl ?_
    exact wl2_aw (P := fun M x2 x3 o => AW g false RX12 cX12_stands 4 none (0) n n nf 107 [(0, 2, 337), (1, 0, a1), (2, 0, x2), (3, 0, x3)] [] n M (o)) (fun M x2 x3 => aw_none) (fun w hw M x2 x3 => tb_X12_stands_107 hu a1 w hw M x2 x3) FU M x2 0
  · refine r_aload_n 0 dX12_stands_42 rfl rfl ?_
    refine r_gx (kz := 38) rfl hu dX12_stands_43 kF_X12_90 kd_337 rfl rfl rfl fx_337_38 ?_
    refine r_bipush dX12_stands_46 (by decide) ⟨by decide, by decide⟩ ?_
    refine r_iload_n 1 dX12_stands_48 rfl rfl ?_
    refine r_ok (fun h33 => ?_)
    refine r_imul dX12_stands_49 h33 ?_
    refine r_iload_n 3 dX12_stands_50 rfl rfl ?_
    refine r_ok (fun h34 => ?_)
    refine r_iadd dX12_stands_51 h34 ?_
    refine r_aload_n 0 dX12_stands_52 rfl rfl ?_
    refine r_gx (kz := 38) rfl hu dX12_stands_53 kF_X12_90 kd_337 rfl rfl rfl fx_337_38 ?_
    refine r_iload_n 3 dX12_stands_56 rfl rfl ?_
    refine r_ok (fun h35 => ?_)
    refine r_iald hu dX12_stands_57 kd_363 rfl (Or.inl rfl) rfl ln_363 h35 ?_
    refine r_iload_n 2 dX12_stands_58 rfl rfl ?_
    refine r_ok (fun h36 => ?_)
    refine r_iadd dX12_stands_59 h36 ?_
    refine r_ok (fun h37 => ?_)
    refine r_iast hu dX12_stands_60 kd_363 rfl (Or.inl rfl) rfl ln_363 h37 rfl (fun M38 eM38 => ?_)
    refine r_aload_n 0 dX12_stands_61 rfl rfl ?_
    refine r_gx (kz := 39) rfl hu dX12_stands_62 kF_X12_93 kd_337 rfl rfl rfl fx_337_39 ?_
    refine r_bipush dX12_stands_65 (by decide) ⟨by decide, by decide⟩ ?_
    refine r_iload_n 1 dX12_stands_67 rfl rfl ?_
    refine r_imul dX12_stands_68 h33 ?_
    refine r_iload_n 3 dX12_stands_69 rfl rfl ?_
    refine r_iadd dX12_stands_70 h34 ?_
    refine r_aload_n 0 dX12_stands_71 rfl rfl ?_
    refine r_gx (kz := 39) rfl hu dX12_stands_72 kF_X12_93 kd_337 rfl rfl rfl fx_337_39 ?_
    refine r_iload_n 3 dX12_stands_75 rfl rfl ?_
    refine r_iald hu dX12_stands_76 kd_364 rfl (Or.inl rfl) rfl ln_364 h35 ?_
    refine r_iload_n 2 dX12_stands_77 rfl rfl ?_
    refine r_ok (fun h39 => ?_)
    refine r_iadd dX12_stands_78 h39 ?_
    refine r_iast hu dX12_stands_79 kd_364 rfl (Or.inl rfl) rfl ln_364 h37 rfl (fun M40 eM40 => ?_)
    refine r_aload_n 0 dX12_stands_80 rfl rfl ?_
    refine r_gx (kz := 40) rfl hu dX12_stands_81 kF_X12_96 kd_337 rfl rfl rfl fx_337_40 ?_
    refine r_bipush dX12_stands_84 (by decide) ⟨by decide, by decide⟩ ?_
    refine r_iload_n 1 dX12_stands_86 rfl rfl ?_
    refine r_imul dX12_stands_87 h33 ?_
    refine r_iload_n 3 dX12_stands_88 rfl rfl ?_
    refine r_iadd dX12_stands_89 h34 ?_
    refine r_aload_n 0 dX12_stands_90 rfl rfl ?_
    refine r_gx (kz := 40) rfl hu dX12_stands_91 kF_X12_96 kd_337 rfl rfl rfl fx_337_40 ?_
    refine r_iload_n 3 dX12_stands_94 rfl rfl ?_
    refine r_iald hu dX12_stands_95 kd_365 rfl (Or.inl rfl) rfl ln_365 h35 ?_
    refine r_iload_n 2 dX12_stands_96 rfl rfl ?_
    refine r_ok (fun h41 => ?_)
    refine r_iadd dX12_stands_97 h41 ?_
    refine r_iast hu dX12_stands_98 kd_365 rfl (Or.inl rfl) rfl ln_365 h37 rfl (fun M42 eM42 => ?_)
    refine r_iincB 3 dX12_stands_99 rfl ⟨by have := h35; omega, by have := h35; omega⟩ (by decide) (lf := fun y43 => [(3, 0, y43), (0, 2, 337), (1, 0, a1), (2, 0, x2)]) (fun _ => rfl) (fun y43 ey43 => ?_)
    refine r_goto (tgt := 32) dX12_stands_102 rfl ?_
    refine r_sub [1, 2, 3, 0] (ls' := [(0, 2, 337), (1, 0, a1), (2, 0, x2), (3, 0, y43)]) rfl ?_
    exact hw32 M42 x2 y43
set_option maxRecDepth 100000 in
theorem m_X12_stands {g : GT} {n nf : Int} (hu : Up false nf n) (M : Mem) (a1 : Int) : AM g false yX12_stands cX12_stands 4 none (0) n n nf [(2, 337), (0, a1)] M (f_X12_stands M a1) := by
  refine AM_of (by decide +kernel) (Nat.le_of_ble_eq_true rfl) (fun h => absurd h (Int.lt_irrefl n)) ?_
  show AW g false RX12 cX12_stands 4 none (0) n n nf 0 [(0, 2, 337), (1, 0, a1)] [] n M (f_X12_stands M a1)
  unfold f_X12_stands
  refine r_aload_n 0 dX12_stands_0 rfl rfl ?_
  refine r_gx (kz := 37) rfl hu dX12_stands_1 kF_X12_87 kd_337 rfl rfl rfl fx_337_37 ?_
  refine r_iload_n 1 dX12_stands_4 rfl rfl ?_
  refine r_aload_n 0 dX12_stands_5 rfl rfl ?_
  refine r_gx (kz := 37) rfl hu dX12_stands_6 kF_X12_87 kd_337 rfl rfl rfl fx_337_37 ?_
  refine r_iconst dX12_stands_9 ⟨by decide, by decide⟩ ?_
  refine r_iald hu dX12_stands_10 kd_362 rfl (Or.inl rfl) rfl ln_362 ⟨by decide, by decide⟩ ?_
  refine r_ok (fun h1 => ?_)
  refine r_iast hu dX12_stands_11 kd_362 rfl (Or.inl rfl) rfl ln_362 h1 rfl (fun M2 eM2 => ?_)
  refine r_aload_n 0 dX12_stands_12 rfl rfl ?_
  refine r_gx (kz := 41) rfl hu dX12_stands_13 kF_X12_99 kd_337 rfl rfl rfl fx_337_41 ?_
  refine r_iload_n 1 dX12_stands_16 rfl rfl ?_
  refine r_aload_n 0 dX12_stands_17 rfl rfl ?_
  refine r_gx (kz := 41) rfl hu dX12_stands_18 kF_X12_99 kd_337 rfl rfl rfl fx_337_41 ?_
  refine r_iconst dX12_stands_21 ⟨by decide, by decide⟩ ?_
  refine r_iald hu dX12_stands_22 kd_366 rfl (Or.inl rfl) rfl ln_366 ⟨by decide, by decide⟩ ?_
  refine r_iast hu dX12_stands_23 kd_366 rfl (Or.inl rfl) rfl ln_366 h1 rfl (fun M3 eM3 => ?_)
  refine r_sipush dX12_stands_24 (by decide) ⟨by decide, by decide⟩ ?_
  refine r_iload_n 1 dX12_stands_27 rfl rfl ?_
  refine r_ok (fun h4 => ?_)
  refine r_imul dX12_stands_28 h4 ?_
  refine r_istore_nB dX12_stands_29 rfl (by decide) (lf := fun y5 => [(2, 0, y5), (0, 2, 337), (1, 0, a1)]) (fun _ => rfl) (fun y5 ey5 => ?_)
  refine r_iconst dX12_stands_30 ⟨by decide, by decide⟩ ?_
  refine r_istore_n dX12_stands_31 rfl (by decide) (ls' := [(3, 0, 0), (2, 0, y5), (0, 2, 337), (1, 0, a1)]) rfl ?_
  refine r_sub [2, 3, 1, 0] (ls' := [(0, 2, 337), (1, 0, a1), (2, 0, y5), (3, 0, 0)]) rfl ?_
  exact wl2_aw (P := fun M x2 x3 o => AW g false RX12 cX12_stands 4 none (0) n n nf 32 [(0, 2, 337), (1, 0, a1), (2, 0, x2), (3, 0, x3)] [] n M (o)) (fun M x2 x3 => aw_none) (fun w hw M x2 x3 => tb_X12_stands_32 hu a1 w hw M x2 x3) FU M3 y5 0
theorem dX12_reads_0 : decode cX12_reads 0 = .ok (.aload_n 0, 1) := by decide +kernel
theorem dX12_reads_1 : decode cX12_reads 1 = .ok (.invokevirtual 388, 3) := by decide +kernel
theorem dX12_reads_4 : decode cX12_reads 4 = .ok (.aload_n 0, 1) := by decide +kernel
theorem dX12_reads_5 : decode cX12_reads 5 = .ok (.getfield 227, 3) := by decide +kernel
theorem dX12_reads_8 : decode cX12_reads 8 = .ok (.ifCond .ne 28, 3) := by decide +kernel
theorem dX12_reads_11 : decode cX12_reads 11 = .ok (.aload_n 0, 1) := by decide +kernel
theorem dX12_reads_12 : decode cX12_reads 12 = .ok (.invokevirtual 239, 3) := by decide +kernel
theorem dX12_reads_15 : decode cX12_reads 15 = .ok (.iconst (-1), 1) := by decide +kernel
theorem dX12_reads_16 : decode cX12_reads 16 = .ok (.if_icmp .eq 20, 3) := by decide +kernel
theorem dX12_reads_19 : decode cX12_reads 19 = .ok (.aload_n 0, 1) := by decide +kernel
theorem dX12_reads_20 : decode cX12_reads 20 = .ok (.iload_n 1, 1) := by decide +kernel
theorem dX12_reads_21 : decode cX12_reads 21 = .ok (.iconst 1, 1) := by decide +kernel
theorem dX12_reads_22 : decode cX12_reads 22 = .ok (.if_icmp .ne 7, 3) := by decide +kernel
theorem dX12_reads_25 : decode cX12_reads 25 = .ok (.iconst 1, 1) := by decide +kernel
theorem dX12_reads_26 : decode cX12_reads 26 = .ok (.goto 4, 3) := by decide +kernel
theorem dX12_reads_29 : decode cX12_reads 29 = .ok (.iconst 0, 1) := by decide +kernel
theorem dX12_reads_30 : decode cX12_reads 30 = .ok (.invokevirtual 468, 3) := by decide +kernel
theorem dX12_reads_33 : decode cX12_reads 33 = .ok (.goto (-29), 3) := by decide +kernel
theorem dX12_reads_36 : decode cX12_reads 36 = .ok (.aload_n 0, 1) := by decide +kernel
theorem dX12_reads_37 : decode cX12_reads 37 = .ok (.aload_n 0, 1) := by decide +kernel
theorem dX12_reads_38 : decode cX12_reads 38 = .ok (.getfield 227, 3) := by decide +kernel
theorem dX12_reads_41 : decode cX12_reads 41 = .ok (.putfield 394, 3) := by decide +kernel
theorem dX12_reads_44 : decode cX12_reads 44 = .ok (.aload_n 0, 1) := by decide +kernel
theorem dX12_reads_45 : decode cX12_reads 45 = .ok (.aload_n 0, 1) := by decide +kernel
theorem dX12_reads_46 : decode cX12_reads 46 = .ok (.getfield 230, 3) := by decide +kernel
theorem dX12_reads_49 : decode cX12_reads 49 = .ok (.putfield 13, 3) := by decide +kernel
theorem dX12_reads_52 : decode cX12_reads 52 = .ok (.aload_n 0, 1) := by decide +kernel
theorem dX12_reads_53 : decode cX12_reads 53 = .ok (.getfield 227, 3) := by decide +kernel
theorem dX12_reads_56 : decode cX12_reads 56 = .ok (.ifCond .eq 5, 3) := by decide +kernel
theorem dX12_reads_59 : decode cX12_reads 59 = .ok (.iconst 0, 1) := by decide +kernel
theorem dX12_reads_60 : decode cX12_reads 60 = .ok (.ireturn, 1) := by decide +kernel
theorem dX12_reads_61 : decode cX12_reads 61 = .ok (.aload_n 0, 1) := by decide +kernel
theorem dX12_reads_62 : decode cX12_reads 62 = .ok (.iload_n 1, 1) := by decide +kernel
theorem dX12_reads_63 : decode cX12_reads 63 = .ok (.invokevirtual 472, 3) := by decide +kernel
theorem dX12_reads_66 : decode cX12_reads 66 = .ok (.iconst 1, 1) := by decide +kernel
theorem dX12_reads_67 : decode cX12_reads 67 = .ok (.ireturn, 1) := by decide +kernel
set_option maxRecDepth 100000 in
theorem tj_X12_reads_36 {g : GT} {n nf : Int} (hu : Up false nf n) (a1 : Int) (M : Mem) : AW g false RX12 cX12_reads 2 (some .boolean) (11) n n nf 36 [(0, 2, 337), (1, 0, a1)] [] n M (j_X12_reads_36 a1 M) := by
  unfold j_X12_reads_36
  refine r_aload_n 0 dX12_reads_36 rfl rfl ?_
  refine r_aload_n 0 dX12_reads_37 rfl rfl ?_
  refine r_gf (t := 0) (kz := 5) rfl hu dX12_reads_38 kF_X12_227 kd_337 rfl rfl rfl ?_
  refine r_pf (t := 0) (kz := 7) rfl hu dX12_reads_41 kF_X12_394 kd_337 rfl rfl rfl (fun h => absurd h (by decide)) rfl kX_12_7 (fun M9 eM9 => ?_)
  refine r_aload_n 0 dX12_reads_44 rfl rfl ?_
  refine r_aload_n 0 dX12_reads_45 rfl rfl ?_
  refine r_gf (t := 0) (kz := 6) rfl hu dX12_reads_46 kF_X12_230 kd_337 rfl rfl rfl ?_
  refine r_pf (t := 0) (kz := 8) rfl hu dX12_reads_49 kF_X12_13 kd_337 rfl rfl rfl (fun h => absurd h (by decide)) rfl kX_12_8 (fun M10 eM10 => ?_)
  refine r_aload_n 0 dX12_reads_52 rfl rfl ?_
  refine r_gf (t := 0) (kz := 5) rfl hu dX12_reads_53 kF_X12_227 kd_337 rfl rfl rfl ?_
  refine r_if_eq (tgt := 61) dX12_reads_56 rfl (fun h11 => ?_) (fun h12 => ?_)
  · refine r_aload_n 0 dX12_reads_61 rfl rfl ?_
    refine r_iload_n 1 dX12_reads_62 rfl rfl ?_
    refine r_invv (a := 337) hu ⟨Nat.le_refl _, Nat.le_refl _⟩ dX12_reads_63 kM_X12_472 (ci := 12) rfl kd_337 rfl rfl (by decide) (by decide) [(0, a1)] rfl (sk := []) rfl (Nat.le_of_ble_eq_true rfl) rfl (m_X12_stands hu M10 a1) (fun r13 M14 => ?_)
    refine r_iconst dX12_reads_66 ⟨by decide, by decide⟩ ?_
    exact r_iret rfl rfl (Or.inr ⟨rfl, Or.inr rfl⟩) dX12_reads_67
  · refine r_iconst dX12_reads_59 ⟨by decide, by decide⟩ ?_
    exact r_iret rfl rfl (Or.inr ⟨rfl, Or.inl rfl⟩) dX12_reads_60
set_option maxRecDepth 100000 in
theorem tb_X12_reads_4 {g : GT} {n nf : Int} (hu : Up false nf n) (a1 : Int) (w4 : Mem → Res) (hw4 : ∀ (M : Mem), AW g false RX12 cX12_reads 2 (some .boolean) (11) n n nf 4 [(0, 2, 337), (1, 0, a1)] [] n M (w4 M)) (M : Mem) : AW g false RX12 cX12_reads 2 (some .boolean) (11) n n nf 4 [(0, 2, 337), (1, 0, a1)] [] n M (b_X12_reads_4 a1 w4 M) := by
  unfold b_X12_reads_4
  refine r_aload_n 0 dX12_reads_4 rfl rfl ?_
  refine r_gf (t := 0) (kz := 5) rfl hu dX12_reads_5 kF_X12_227 kd_337 rfl rfl rfl ?_
  refine r_if_ne (tgt := 36) dX12_reads_8 rfl (fun h3 => ?_) (fun h4 => ?_)
  · refine r_aload_n 0 dX12_reads_11 rfl rfl ?_
    refine r_inv (a := 337) hu ⟨Nat.le_refl _, Nat.le_refl _⟩ dX12_reads_12 kM_X12_239 (ci := 12) rfl kd_337 rfl rfl (by decide) (by decide) [] rfl (sk := []) rfl (Nat.le_of_ble_eq_true rfl) rfl rfl (m_X12_look hu M) (fun r5 M6 => ?_)
    refine r_iconst dX12_reads_15 ⟨by decide, by decide⟩ ?_
    refine r_icmp_eq (tgt := 36) dX12_reads_16 rfl (fun h7 => ?_) (fun h8 => ?_)
    · exact tj_X12_reads_36 hu a1 M6
    · refine r_aload_n 0 dX12_reads_19 rfl rfl ?_
      refine r_iload_n 1 dX12_reads_20 rfl rfl ?_
      refine r_iconst dX12_reads_21 ⟨by decide, by decide⟩ ?_
      refine r_icmp_ne (tgt := 29) dX12_reads_22 rfl (fun h15 => ?_) (fun h16 => ?_)
      · refine r_iconst dX12_reads_25 ⟨by decide, by decide⟩ ?_
        refine r_goto (tgt := 30) dX12_reads_26 rfl ?_
        refine r_invv (a := 337) hu ⟨Nat.le_refl _, Nat.le_refl _⟩ dX12_reads_30 kM_X12_468 (ci := 12) rfl kd_337 rfl rfl (by decide) (by decide) [(0, 1)] rfl (sk := []) rfl (Nat.le_of_ble_eq_true rfl) rfl (m_X12_statement hu M6 1) (fun r17 M18 => ?_)
        refine r_goto (tgt := 4) dX12_reads_33 rfl ?_
        exact hw4 M18
      · refine r_iconst dX12_reads_29 ⟨by decide, by decide⟩ ?_
        refine r_invv (a := 337) hu ⟨Nat.le_refl _, Nat.le_refl _⟩ dX12_reads_30 kM_X12_468 (ci := 12) rfl kd_337 rfl rfl (by decide) (by decide) [(0, 0)] rfl (sk := []) rfl (Nat.le_of_ble_eq_true rfl) rfl (m_X12_statement hu M6 0) (fun r19 M20 => ?_)
        refine r_goto (tgt := 4) dX12_reads_33 rfl ?_
        exact hw4 M20
  · exact tj_X12_reads_36 hu a1 M
set_option maxRecDepth 100000 in
theorem m_X12_reads {g : GT} {n nf : Int} (hu : Up false nf n) (M : Mem) (a1 : Int) : AM g false yX12_reads cX12_reads 2 (some .boolean) (11) n n nf [(2, 337), (0, a1)] M (f_X12_reads M a1) := by
  refine AM_of (by decide +kernel) (Nat.le_of_ble_eq_true rfl) (fun h => absurd h (Int.lt_irrefl n)) ?_
  show AW g false RX12 cX12_reads 2 (some .boolean) (11) n n nf 0 [(0, 2, 337), (1, 0, a1)] [] n M (f_X12_reads M a1)
  unfold f_X12_reads
  refine r_aload_n 0 dX12_reads_0 rfl rfl ?_
  refine r_invv (a := 337) hu ⟨Nat.le_refl _, Nat.le_refl _⟩ dX12_reads_1 kM_X12_388 (ci := 12) rfl kd_337 rfl rfl (by decide) (by decide) [] rfl (sk := []) rfl (Nat.le_of_ble_eq_true rfl) rfl (m_X12_begins hu M) (fun r1 M2 => ?_)
  exact wl0_aw (P := fun M o => AW g false RX12 cX12_reads 2 (some .boolean) (11) n n nf 4 [(0, 2, 337), (1, 0, a1)] [] n M (o)) (fun M => aw_none) (fun w hw M => tb_X12_reads_4 hu a1 w hw M) FU M2
theorem dX12_spreads_0 : decode cX12_spreads 0 = .ok (.iconst 0, 1) := by decide +kernel
theorem dX12_spreads_1 : decode cX12_spreads 1 = .ok (.istore_n 1, 1) := by decide +kernel
theorem dX12_spreads_2 : decode cX12_spreads 2 = .ok (.iconst 0, 1) := by decide +kernel
theorem dX12_spreads_3 : decode cX12_spreads 3 = .ok (.istore_n 2, 1) := by decide +kernel
theorem dX12_spreads_4 : decode cX12_spreads 4 = .ok (.iload_n 2, 1) := by decide +kernel
theorem dX12_spreads_5 : decode cX12_spreads 5 = .ok (.bipush 96, 2) := by decide +kernel
theorem dX12_spreads_7 : decode cX12_spreads 7 = .ok (.if_icmp .ge 156, 3) := by decide +kernel
theorem dX12_spreads_10 : decode cX12_spreads 10 = .ok (.aload_n 0, 1) := by decide +kernel
theorem dX12_spreads_11 : decode cX12_spreads 11 = .ok (.getfield 167, 3) := by decide +kernel
theorem dX12_spreads_14 : decode cX12_spreads 14 = .ok (.iload_n 2, 1) := by decide +kernel
theorem dX12_spreads_15 : decode cX12_spreads 15 = .ok (.iaload, 1) := by decide +kernel
theorem dX12_spreads_16 : decode cX12_spreads 16 = .ok (.ifCond .eq 141, 3) := by decide +kernel
theorem dX12_spreads_19 : decode cX12_spreads 19 = .ok (.aload_n 0, 1) := by decide +kernel
theorem dX12_spreads_20 : decode cX12_spreads 20 = .ok (.getfield 170, 3) := by decide +kernel
theorem dX12_spreads_23 : decode cX12_spreads 23 = .ok (.iload_n 2, 1) := by decide +kernel
theorem dX12_spreads_24 : decode cX12_spreads 24 = .ok (.iaload, 1) := by decide +kernel
theorem dX12_spreads_25 : decode cX12_spreads 25 = .ok (.iconst (-1), 1) := by decide +kernel
theorem dX12_spreads_26 : decode cX12_spreads 26 = .ok (.if_icmp .eq 6, 3) := by decide +kernel
theorem dX12_spreads_29 : decode cX12_spreads 29 = .ok (.goto 128, 3) := by decide +kernel
theorem dX12_spreads_32 : decode cX12_spreads 32 = .ok (.iload_n 2, 1) := by decide +kernel
theorem dX12_spreads_33 : decode cX12_spreads 33 = .ok (.bipush 12, 2) := by decide +kernel
theorem dX12_spreads_35 : decode cX12_spreads 35 = .ok (.irem, 1) := by decide +kernel
theorem dX12_spreads_36 : decode cX12_spreads 36 = .ok (.ifCond .le 18, 3) := by decide +kernel
theorem dX12_spreads_39 : decode cX12_spreads 39 = .ok (.aload_n 0, 1) := by decide +kernel
theorem dX12_spreads_40 : decode cX12_spreads 40 = .ok (.getfield 170, 3) := by decide +kernel
theorem dX12_spreads_43 : decode cX12_spreads 43 = .ok (.iload_n 2, 1) := by decide +kernel
theorem dX12_spreads_44 : decode cX12_spreads 44 = .ok (.iconst 1, 1) := by decide +kernel
theorem dX12_spreads_45 : decode cX12_spreads 45 = .ok (.isub, 1) := by decide +kernel
theorem dX12_spreads_46 : decode cX12_spreads 46 = .ok (.iaload, 1) := by decide +kernel
theorem dX12_spreads_47 : decode cX12_spreads 47 = .ok (.aload_n 0, 1) := by decide +kernel
theorem dX12_spreads_48 : decode cX12_spreads 48 = .ok (.getfield 522, 3) := by decide +kernel
theorem dX12_spreads_51 : decode cX12_spreads 51 = .ok (.if_icmp .eq 27, 3) := by decide +kernel
theorem dX12_spreads_54 : decode cX12_spreads 54 = .ok (.iload_n 2, 1) := by decide +kernel
theorem dX12_spreads_55 : decode cX12_spreads 55 = .ok (.bipush 12, 2) := by decide +kernel
theorem dX12_spreads_57 : decode cX12_spreads 57 = .ok (.irem, 1) := by decide +kernel
theorem dX12_spreads_58 : decode cX12_spreads 58 = .ok (.bipush 11, 2) := by decide +kernel
theorem dX12_spreads_60 : decode cX12_spreads 60 = .ok (.if_icmp .ge 22, 3) := by decide +kernel
theorem dX12_spreads_63 : decode cX12_spreads 63 = .ok (.aload_n 0, 1) := by decide +kernel
theorem dX12_spreads_64 : decode cX12_spreads 64 = .ok (.getfield 170, 3) := by decide +kernel
theorem dX12_spreads_67 : decode cX12_spreads 67 = .ok (.iload_n 2, 1) := by decide +kernel
theorem dX12_spreads_68 : decode cX12_spreads 68 = .ok (.iconst 1, 1) := by decide +kernel
theorem dX12_spreads_69 : decode cX12_spreads 69 = .ok (.iadd, 1) := by decide +kernel
theorem dX12_spreads_70 : decode cX12_spreads 70 = .ok (.iaload, 1) := by decide +kernel
theorem dX12_spreads_71 : decode cX12_spreads 71 = .ok (.aload_n 0, 1) := by decide +kernel
theorem dX12_spreads_72 : decode cX12_spreads 72 = .ok (.getfield 522, 3) := by decide +kernel
theorem dX12_spreads_75 : decode cX12_spreads 75 = .ok (.if_icmp .ne 7, 3) := by decide +kernel
theorem dX12_spreads_78 : decode cX12_spreads 78 = .ok (.iconst 1, 1) := by decide +kernel
theorem dX12_spreads_79 : decode cX12_spreads 79 = .ok (.goto 4, 3) := by decide +kernel
theorem dX12_spreads_82 : decode cX12_spreads 82 = .ok (.iconst 0, 1) := by decide +kernel
theorem dX12_spreads_83 : decode cX12_spreads 83 = .ok (.istore_n 3, 1) := by decide +kernel
theorem dX12_spreads_84 : decode cX12_spreads 84 = .ok (.iload_n 3, 1) := by decide +kernel
theorem dX12_spreads_85 : decode cX12_spreads 85 = .ok (.ifCond .ne 47, 3) := by decide +kernel
theorem dX12_spreads_88 : decode cX12_spreads 88 = .ok (.iload_n 2, 1) := by decide +kernel
theorem dX12_spreads_89 : decode cX12_spreads 89 = .ok (.bipush 12, 2) := by decide +kernel
theorem dX12_spreads_91 : decode cX12_spreads 91 = .ok (.if_icmp .lt 19, 3) := by decide +kernel
theorem dX12_spreads_94 : decode cX12_spreads 94 = .ok (.aload_n 0, 1) := by decide +kernel
theorem dX12_spreads_95 : decode cX12_spreads 95 = .ok (.getfield 170, 3) := by decide +kernel
theorem dX12_spreads_98 : decode cX12_spreads 98 = .ok (.iload_n 2, 1) := by decide +kernel
theorem dX12_spreads_99 : decode cX12_spreads 99 = .ok (.bipush 12, 2) := by decide +kernel
theorem dX12_spreads_101 : decode cX12_spreads 101 = .ok (.isub, 1) := by decide +kernel
theorem dX12_spreads_102 : decode cX12_spreads 102 = .ok (.iaload, 1) := by decide +kernel
theorem dX12_spreads_103 : decode cX12_spreads 103 = .ok (.aload_n 0, 1) := by decide +kernel
theorem dX12_spreads_104 : decode cX12_spreads 104 = .ok (.getfield 522, 3) := by decide +kernel
theorem dX12_spreads_107 : decode cX12_spreads 107 = .ok (.if_icmp .eq 25, 3) := by decide +kernel
theorem dX12_spreads_110 : decode cX12_spreads 110 = .ok (.iload_n 2, 1) := by decide +kernel
theorem dX12_spreads_111 : decode cX12_spreads 111 = .ok (.bipush 84, 2) := by decide +kernel
theorem dX12_spreads_113 : decode cX12_spreads 113 = .ok (.if_icmp .ge 23, 3) := by decide +kernel
theorem dX12_spreads_116 : decode cX12_spreads 116 = .ok (.aload_n 0, 1) := by decide +kernel
theorem dX12_spreads_117 : decode cX12_spreads 117 = .ok (.getfield 170, 3) := by decide +kernel
theorem dX12_spreads_120 : decode cX12_spreads 120 = .ok (.iload_n 2, 1) := by decide +kernel
theorem dX12_spreads_121 : decode cX12_spreads 121 = .ok (.bipush 12, 2) := by decide +kernel
theorem dX12_spreads_123 : decode cX12_spreads 123 = .ok (.iadd, 1) := by decide +kernel
theorem dX12_spreads_124 : decode cX12_spreads 124 = .ok (.iaload, 1) := by decide +kernel
theorem dX12_spreads_125 : decode cX12_spreads 125 = .ok (.aload_n 0, 1) := by decide +kernel
theorem dX12_spreads_126 : decode cX12_spreads 126 = .ok (.getfield 522, 3) := by decide +kernel
theorem dX12_spreads_129 : decode cX12_spreads 129 = .ok (.if_icmp .ne 7, 3) := by decide +kernel
theorem dX12_spreads_132 : decode cX12_spreads 132 = .ok (.iconst 1, 1) := by decide +kernel
theorem dX12_spreads_133 : decode cX12_spreads 133 = .ok (.goto 4, 3) := by decide +kernel
theorem dX12_spreads_136 : decode cX12_spreads 136 = .ok (.iconst 0, 1) := by decide +kernel
theorem dX12_spreads_137 : decode cX12_spreads 137 = .ok (.istore_n 3, 1) := by decide +kernel
theorem dX12_spreads_138 : decode cX12_spreads 138 = .ok (.iload_n 3, 1) := by decide +kernel
theorem dX12_spreads_139 : decode cX12_spreads 139 = .ok (.ifCond .ne 6, 3) := by decide +kernel
theorem dX12_spreads_142 : decode cX12_spreads 142 = .ok (.goto 15, 3) := by decide +kernel
theorem dX12_spreads_145 : decode cX12_spreads 145 = .ok (.aload_n 0, 1) := by decide +kernel
theorem dX12_spreads_146 : decode cX12_spreads 146 = .ok (.getfield 170, 3) := by decide +kernel
theorem dX12_spreads_149 : decode cX12_spreads 149 = .ok (.iload_n 2, 1) := by decide +kernel
theorem dX12_spreads_150 : decode cX12_spreads 150 = .ok (.aload_n 0, 1) := by decide +kernel
theorem dX12_spreads_151 : decode cX12_spreads 151 = .ok (.getfield 522, 3) := by decide +kernel
theorem dX12_spreads_154 : decode cX12_spreads 154 = .ok (.iastore, 1) := by decide +kernel
theorem dX12_spreads_155 : decode cX12_spreads 155 = .ok (.iconst 1, 1) := by decide +kernel
theorem dX12_spreads_156 : decode cX12_spreads 156 = .ok (.istore_n 1, 1) := by decide +kernel
theorem dX12_spreads_157 : decode cX12_spreads 157 = .ok (.iinc 2 1, 3) := by decide +kernel
theorem dX12_spreads_160 : decode cX12_spreads 160 = .ok (.goto (-156), 3) := by decide +kernel
theorem dX12_spreads_163 : decode cX12_spreads 163 = .ok (.iload_n 1, 1) := by decide +kernel
theorem dX12_spreads_164 : decode cX12_spreads 164 = .ok (.ireturn, 1) := by decide +kernel
set_option maxRecDepth 100000 in
theorem tj_X12_spreads_137 {g : GT} {n nf : Int} (hu : Up false nf n) (w4 : Mem → Int → Int → Res) (hw4 : ∀ (M : Mem) (x1 x2 : Int), AW g false RX12 cX12_spreads 4 (some .boolean) (0) n n nf 4 [(0, 2, 337), (1, 0, x1), (2, 0, x2)] [] n M (w4 M x1 x2)) (M : Mem) (x1 x2 s0 : Int) : AW g false RX12 cX12_spreads 4 (some .boolean) (0) n n nf 137 [(0, 2, 337), (1, 0, x1), (2, 0, x2)] [(0, s0)] n M (j_X12_spreads_137 w4 M x1 x2 s0) := by
  unfold j_X12_spreads_137
  refine r_istore_n dX12_spreads_137 rfl (by decide) (ls' := [(3, 0, s0), (0, 2, 337), (1, 0, x1), (2, 0, x2)]) rfl ?_
  refine r_iload_n 0 dX12_spreads_138 rfl rfl ?_
  refine r_if_ne (tgt := 145) dX12_spreads_139 rfl (fun h21 => ?_) (fun h22 => ?_)
  · refine r_goto (tgt := 157) dX12_spreads_142 rfl ?_
    refine r_ok (fun h23 => ?_)
    refine r_iincB 3 dX12_spreads_157 rfl h23 (by decide) (lf := fun y24 => [(2, 0, y24), (3, 0, s0), (0, 2, 337), (1, 0, x1)]) (fun _ => rfl) (fun y24 ey24 => ?_)
    refine r_goto (tgt := 4) dX12_spreads_160 rfl ?_
    refine r_sub [2, 3, 0] (ls' := [(0, 2, 337), (1, 0, x1), (2, 0, y24)]) rfl ?_
    exact hw4 M x1 y24
  · refine r_aload_n 1 dX12_spreads_145 rfl rfl ?_
    refine r_gx (kz := 75) rfl hu dX12_spreads_146 kF_X12_170 kd_337 rfl rfl rfl fx_337_75 ?_
    refine r_iload_n 3 dX12_spreads_149 rfl rfl ?_
    refine r_aload_n 1 dX12_spreads_150 rfl rfl ?_
    refine r_gf (t := 0) (kz := 78) rfl hu dX12_spreads_151 kF_X12_522 kd_337 rfl rfl rfl ?_
    refine r_ok (fun h25 => ?_)
    refine r_iast hu dX12_spreads_154 kd_389 rfl (Or.inl rfl) rfl ln_389 h25 rfl (fun M26 eM26 => ?_)
    refine r_iconst dX12_spreads_155 ⟨by decide, by decide⟩ ?_
    refine r_istore_n dX12_spreads_156 rfl (by decide) (ls' := [(1, 0, 1), (3, 0, s0), (0, 2, 337), (2, 0, x2)]) rfl ?_
    refine r_iincB 3 dX12_spreads_157 rfl ⟨by have := h25; omega, by have := h25; omega⟩ (by decide) (lf := fun y27 => [(2, 0, y27), (1, 0, 1), (3, 0, s0), (0, 2, 337)]) (fun _ => rfl) (fun y27 ey27 => ?_)
    refine r_goto (tgt := 4) dX12_spreads_160 rfl ?_
    refine r_sub [3, 1, 0] (ls' := [(0, 2, 337), (1, 0, 1), (2, 0, y27)]) rfl ?_
    exact hw4 M26 1 y27
set_option maxRecDepth 100000 in
theorem tj_X12_spreads_136 {g : GT} {n nf : Int} (hu : Up false nf n) (w4 : Mem → Int → Int → Res) (hw4 : ∀ (M : Mem) (x1 x2 : Int), AW g false RX12 cX12_spreads 4 (some .boolean) (0) n n nf 4 [(0, 2, 337), (1, 0, x1), (2, 0, x2)] [] n M (w4 M x1 x2)) (M : Mem) (x1 x2 : Int) : AW g false RX12 cX12_spreads 4 (some .boolean) (0) n n nf 136 [(0, 2, 337), (1, 0, x1), (2, 0, x2)] [] n M (j_X12_spreads_136 w4 M x1 x2) := by
  unfold j_X12_spreads_136
  refine r_iconst dX12_spreads_136 ⟨by decide, by decide⟩ ?_
  exact tj_X12_spreads_137 hu w4 hw4 M x1 x2 0
set_option maxRecDepth 100000 in
theorem tj_X12_spreads_132 {g : GT} {n nf : Int} (hu : Up false nf n) (w4 : Mem → Int → Int → Res) (hw4 : ∀ (M : Mem) (x1 x2 : Int), AW g false RX12 cX12_spreads 4 (some .boolean) (0) n n nf 4 [(0, 2, 337), (1, 0, x1), (2, 0, x2)] [] n M (w4 M x1 x2)) (M : Mem) (x1 x2 : Int) : AW g false RX12 cX12_spreads 4 (some .boolean) (0) n n nf 132 [(0, 2, 337), (1, 0, x1), (2, 0, x2)] [] n M (j_X12_spreads_132 w4 M x1 x2) := by
  unfold j_X12_spreads_132
  refine r_iconst dX12_spreads_132 ⟨by decide, by decide⟩ ?_
  refine r_goto (tgt := 137) dX12_spreads_133 rfl ?_
  exact tj_X12_spreads_137 hu w4 hw4 M x1 x2 1
set_option maxRecDepth 100000 in
theorem tj_X12_spreads_110 {g : GT} {n nf : Int} (hu : Up false nf n) (w4 : Mem → Int → Int → Res) (hw4 : ∀ (M : Mem) (x1 x2 : Int), AW g false RX12 cX12_spreads 4 (some .boolean) (0) n n nf 4 [(0, 2, 337), (1, 0, x1), (2, 0, x2)] [] n M (w4 M x1 x2)) (M : Mem) (x1 x2 : Int) : AW g false RX12 cX12_spreads 4 (some .boolean) (0) n n nf 110 [(0, 2, 337), (1, 0, x1), (2, 0, x2)] [] n M (j_X12_spreads_110 w4 M x1 x2) := by
  unfold j_X12_spreads_110
  refine r_iload_n 2 dX12_spreads_110 rfl rfl ?_
  refine r_bipush dX12_spreads_111 (by decide) ⟨by decide, by decide⟩ ?_
  refine r_icmp_ge (tgt := 136) dX12_spreads_113 rfl (fun h19 => ?_) (fun h20 => ?_)
  · exact tj_X12_spreads_136 hu w4 hw4 M x1 x2
  · refine r_aload_n 0 dX12_spreads_116 rfl rfl ?_
    refine r_gx (kz := 75) rfl hu dX12_spreads_117 kF_X12_170 kd_337 rfl rfl rfl fx_337_75 ?_
    refine r_iload_n 2 dX12_spreads_120 rfl rfl ?_
    refine r_bipush dX12_spreads_121 (by decide) ⟨by decide, by decide⟩ ?_
    refine r_ok (fun h28 => ?_)
    refine r_iadd dX12_spreads_123 h28 ?_
    refine r_ok (fun h29 => ?_)
    refine r_iald hu dX12_spreads_124 kd_389 rfl (Or.inl rfl) rfl ln_389 h29 ?_
    refine r_aload_n 0 dX12_spreads_125 rfl rfl ?_
    refine r_gf (t := 0) (kz := 78) rfl hu dX12_spreads_126 kF_X12_522 kd_337 rfl rfl rfl ?_
    refine r_icmp_ne (tgt := 136) dX12_spreads_129 rfl (fun h30 => ?_) (fun h31 => ?_)
    · exact tj_X12_spreads_132 hu w4 hw4 M x1 x2
    · exact tj_X12_spreads_136 hu w4 hw4 M x1 x2
set_option maxRecDepth 100000 in
theorem tj_X12_spreads_83 {g : GT} {n nf : Int} (hu : Up false nf n) (w4 : Mem → Int → Int → Res) (hw4 : ∀ (M : Mem) (x1 x2 : Int), AW g false RX12 cX12_spreads 4 (some .boolean) (0) n n nf 4 [(0, 2, 337), (1, 0, x1), (2, 0, x2)] [] n M (w4 M x1 x2)) (M : Mem) (x1 x2 s0 : Int) : AW g false RX12 cX12_spreads 4 (some .boolean) (0) n n nf 83 [(0, 2, 337), (1, 0, x1), (2, 0, x2)] [(0, s0)] n M (j_X12_spreads_83 w4 M x1 x2 s0) := by
  unfold j_X12_spreads_83
  refine r_istore_n dX12_spreads_83 rfl (by decide) (ls' := [(3, 0, s0), (0, 2, 337), (1, 0, x1), (2, 0, x2)]) rfl ?_
  refine r_iload_n 0 dX12_spreads_84 rfl rfl ?_
  refine r_if_ne (tgt := 132) dX12_spreads_85 rfl (fun h15 => ?_) (fun h16 => ?_)
  · refine r_iload_n 3 dX12_spreads_88 rfl rfl ?_
    refine r_bipush dX12_spreads_89 (by decide) ⟨by decide, by decide⟩ ?_
    refine r_icmp_lt (tgt := 110) dX12_spreads_91 rfl (fun h17 => ?_) (fun h18 => ?_)
    · refine r_sub [1, 2, 3] (ls' := [(0, 2, 337), (1, 0, x1), (2, 0, x2)]) rfl ?_
      exact tj_X12_spreads_110 hu w4 hw4 M x1 x2
    · refine r_aload_n 1 dX12_spreads_94 rfl rfl ?_
      refine r_gx (kz := 75) rfl hu dX12_spreads_95 kF_X12_170 kd_337 rfl rfl rfl fx_337_75 ?_
      refine r_iload_n 3 dX12_spreads_98 rfl rfl ?_
      refine r_bipush dX12_spreads_99 (by decide) ⟨by decide, by decide⟩ ?_
      refine r_ok (fun h32 => ?_)
      refine r_isub dX12_spreads_101 h32 ?_
      refine r_ok (fun h33 => ?_)
      refine r_iald hu dX12_spreads_102 kd_389 rfl (Or.inl rfl) rfl ln_389 h33 ?_
      refine r_aload_n 1 dX12_spreads_103 rfl rfl ?_
      refine r_gf (t := 0) (kz := 78) rfl hu dX12_spreads_104 kF_X12_522 kd_337 rfl rfl rfl ?_
      refine r_icmp_eq (tgt := 132) dX12_spreads_107 rfl (fun h34 => ?_) (fun h35 => ?_)
      · refine r_sub [1, 2, 3] (ls' := [(0, 2, 337), (1, 0, x1), (2, 0, x2)]) rfl ?_
        exact tj_X12_spreads_132 hu w4 hw4 M x1 x2
      · refine r_sub [1, 2, 3] (ls' := [(0, 2, 337), (1, 0, x1), (2, 0, x2)]) rfl ?_
        exact tj_X12_spreads_110 hu w4 hw4 M x1 x2
  · refine r_sub [1, 2, 3] (ls' := [(0, 2, 337), (1, 0, x1), (2, 0, x2)]) rfl ?_
    exact tj_X12_spreads_132 hu w4 hw4 M x1 x2
set_option maxRecDepth 100000 in
theorem tj_X12_spreads_82 {g : GT} {n nf : Int} (hu : Up false nf n) (w4 : Mem → Int → Int → Res) (hw4 : ∀ (M : Mem) (x1 x2 : Int), AW g false RX12 cX12_spreads 4 (some .boolean) (0) n n nf 4 [(0, 2, 337), (1, 0, x1), (2, 0, x2)] [] n M (w4 M x1 x2)) (M : Mem) (x1 x2 : Int) : AW g false RX12 cX12_spreads 4 (some .boolean) (0) n n nf 82 [(0, 2, 337), (1, 0, x1), (2, 0, x2)] [] n M (j_X12_spreads_82 w4 M x1 x2) := by
  unfold j_X12_spreads_82
  refine r_iconst dX12_spreads_82 ⟨by decide, by decide⟩ ?_
  exact tj_X12_spreads_83 hu w4 hw4 M x1 x2 0
set_option maxRecDepth 100000 in
theorem tj_X12_spreads_78 {g : GT} {n nf : Int} (hu : Up false nf n) (w4 : Mem → Int → Int → Res) (hw4 : ∀ (M : Mem) (x1 x2 : Int), AW g false RX12 cX12_spreads 4 (some .boolean) (0) n n nf 4 [(0, 2, 337), (1, 0, x1), (2, 0, x2)] [] n M (w4 M x1 x2)) (M : Mem) (x1 x2 : Int) : AW g false RX12 cX12_spreads 4 (some .boolean) (0) n n nf 78 [(0, 2, 337), (1, 0, x1), (2, 0, x2)] [] n M (j_X12_spreads_78 w4 M x1 x2) := by
  unfold j_X12_spreads_78
  refine r_iconst dX12_spreads_78 ⟨by decide, by decide⟩ ?_
  refine r_goto (tgt := 83) dX12_spreads_79 rfl ?_
  exact tj_X12_spreads_83 hu w4 hw4 M x1 x2 1
set_option maxRecDepth 100000 in
theorem tj_X12_spreads_54 {g : GT} {n nf : Int} (hu : Up false nf n) (w4 : Mem → Int → Int → Res) (hw4 : ∀ (M : Mem) (x1 x2 : Int), AW g false RX12 cX12_spreads 4 (some .boolean) (0) n n nf 4 [(0, 2, 337), (1, 0, x1), (2, 0, x2)] [] n M (w4 M x1 x2)) (M : Mem) (x1 x2 : Int) : AW g false RX12 cX12_spreads 4 (some .boolean) (0) n n nf 54 [(0, 2, 337), (1, 0, x1), (2, 0, x2)] [] n M (j_X12_spreads_54 w4 M x1 x2) := by
  unfold j_X12_spreads_54
  refine r_iload_n 2 dX12_spreads_54 rfl rfl ?_
  refine r_bipush dX12_spreads_55 (by decide) ⟨by decide, by decide⟩ ?_
  refine r_ok (fun h12 => ?_)
  refine r_iremP dX12_spreads_57 ⟨h12, by decide⟩ ?_
  refine r_bipush dX12_spreads_58 (by decide) ⟨by decide, by decide⟩ ?_
  refine r_icmp_ge (tgt := 82) dX12_spreads_60 rfl (fun h13 => ?_) (fun h14 => ?_)
  · exact tj_X12_spreads_82 hu w4 hw4 M x1 x2
  · refine r_aload_n 0 dX12_spreads_63 rfl rfl ?_
    refine r_gx (kz := 75) rfl hu dX12_spreads_64 kF_X12_170 kd_337 rfl rfl rfl fx_337_75 ?_
    refine r_iload_n 2 dX12_spreads_67 rfl rfl ?_
    refine r_iconst dX12_spreads_68 ⟨by decide, by decide⟩ ?_
    refine r_ok (fun h36 => ?_)
    refine r_iadd dX12_spreads_69 h36 ?_
    refine r_ok (fun h37 => ?_)
    refine r_iald hu dX12_spreads_70 kd_389 rfl (Or.inl rfl) rfl ln_389 h37 ?_
    refine r_aload_n 0 dX12_spreads_71 rfl rfl ?_
    refine r_gf (t := 0) (kz := 78) rfl hu dX12_spreads_72 kF_X12_522 kd_337 rfl rfl rfl ?_
    refine r_icmp_ne (tgt := 82) dX12_spreads_75 rfl (fun h38 => ?_) (fun h39 => ?_)
    · exact tj_X12_spreads_78 hu w4 hw4 M x1 x2
    · exact tj_X12_spreads_82 hu w4 hw4 M x1 x2
set_option maxRecDepth 100000 in
theorem tb_X12_spreads_4 {g : GT} {n nf : Int} (hu : Up false nf n) (w4 : Mem → Int → Int → Res) (hw4 : ∀ (M : Mem) (x1 x2 : Int), AW g false RX12 cX12_spreads 4 (some .boolean) (0) n n nf 4 [(0, 2, 337), (1, 0, x1), (2, 0, x2)] [] n M (w4 M x1 x2)) (M : Mem) (x1 x2 : Int) : AW g false RX12 cX12_spreads 4 (some .boolean) (0) n n nf 4 [(0, 2, 337), (1, 0, x1), (2, 0, x2)] [] n M (b_X12_spreads_4 w4 M x1 x2) := by
  unfold b_X12_spreads_4
  refine r_iload_n 2 dX12_spreads_4 rfl rfl ?_
  refine r_bipush dX12_spreads_5 (by decide) ⟨by decide, by decide⟩ ?_
  refine r_icmp_ge (tgt := 163) dX12_spreads_7 rfl (fun h1 => ?_) (fun h2 => ?_)
  · refine r_iload_n 1 dX12_spreads_163 rfl rfl ?_
    refine r_ok (fun h3 => ?_)
    exact r_iret rfl rfl (Or.inr ⟨rfl, h3⟩) dX12_spreads_164
  · refine r_aload_n 0 dX12_spreads_10 rfl rfl ?_
    refine r_gx (kz := 74) rfl hu dX12_spreads_11 kF_X12_167 kd_337 rfl rfl rfl fx_337_74 ?_
    refine r_iload_n 2 dX12_spreads_14 rfl rfl ?_
    refine r_ok (fun h4 => ?_)
    refine r_iald hu dX12_spreads_15 kd_388 rfl (Or.inl rfl) rfl ln_388 h4 ?_
    refine r_if_eq (tgt := 157) dX12_spreads_16 rfl (fun h5 => ?_) (fun h6 => ?_)
    · refine r_iincB 2 dX12_spreads_157 rfl ⟨by have := h4; omega, by have := h4; omega⟩ (by decide) (lf := fun y7 => [(2, 0, y7), (0, 2, 337), (1, 0, x1)]) (fun _ => rfl) (fun y7 ey7 => ?_)
      refine r_goto (tgt := 4) dX12_spreads_160 rfl ?_
      refine r_sub [1, 2, 0] (ls' := [(0, 2, 337), (1, 0, x1), (2, 0, y7)]) rfl ?_
      exact hw4 M x1 y7
    · refine r_aload_n 0 dX12_spreads_19 rfl rfl ?_
      refine r_gx (kz := 75) rfl hu dX12_spreads_20 kF_X12_170 kd_337 rfl rfl rfl fx_337_75 ?_
      refine r_iload_n 2 dX12_spreads_23 rfl rfl ?_
      refine r_iald hu dX12_spreads_24 kd_389 rfl (Or.inl rfl) rfl ln_389 h4 ?_
      refine r_iconst dX12_spreads_25 ⟨by decide, by decide⟩ ?_
      refine r_icmp_eq (tgt := 32) dX12_spreads_26 rfl (fun h8 => ?_) (fun h9 => ?_)
      · refine r_iload_n 2 dX12_spreads_32 rfl rfl ?_
        refine r_bipush dX12_spreads_33 (by decide) ⟨by decide, by decide⟩ ?_
        refine r_iremP dX12_spreads_35 ⟨h4.1, by decide⟩ ?_
        refine r_if_le (tgt := 54) dX12_spreads_36 rfl (fun h10 => ?_) (fun h11 => ?_)
        · exact tj_X12_spreads_54 hu w4 hw4 M x1 x2
        · refine r_aload_n 0 dX12_spreads_39 rfl rfl ?_
          refine r_gx (kz := 75) rfl hu dX12_spreads_40 kF_X12_170 kd_337 rfl rfl rfl fx_337_75 ?_
          refine r_iload_n 2 dX12_spreads_43 rfl rfl ?_
          refine r_iconst dX12_spreads_44 ⟨by decide, by decide⟩ ?_
          refine r_isub dX12_spreads_45 ⟨by have := h4; omega, by have := h4; omega⟩ ?_
          refine r_ok (fun h40 => ?_)
          refine r_iald hu dX12_spreads_46 kd_389 rfl (Or.inl rfl) rfl ln_389 h40 ?_
          refine r_aload_n 0 dX12_spreads_47 rfl rfl ?_
          refine r_gf (t := 0) (kz := 78) rfl hu dX12_spreads_48 kF_X12_522 kd_337 rfl rfl rfl ?_
          refine r_icmp_eq (tgt := 78) dX12_spreads_51 rfl (fun h41 => ?_) (fun h42 => ?_)
          · exact tj_X12_spreads_78 hu w4 hw4 M x1 x2
          · exact tj_X12_spreads_54 hu w4 hw4 M x1 x2
      · refine r_goto (tgt := 157) dX12_spreads_29 rfl ?_
        refine r_iincB 2 dX12_spreads_157 rfl ⟨by have := h4; omega, by have := h4; omega⟩ (by decide) (lf := fun y43 => [(2, 0, y43), (0, 2, 337), (1, 0, x1)]) (fun _ => rfl) (fun y43 ey43 => ?_)
        refine r_goto (tgt := 4) dX12_spreads_160 rfl ?_
        refine r_sub [1, 2, 0] (ls' := [(0, 2, 337), (1, 0, x1), (2, 0, y43)]) rfl ?_
        exact hw4 M x1 y43
set_option maxRecDepth 100000 in
theorem m_X12_spreads {g : GT} {n nf : Int} (hu : Up false nf n) (M : Mem) : AM g false yX12_spreads cX12_spreads 4 (some .boolean) (0) n n nf [(2, 337)] M (f_X12_spreads M) := by
  refine AM_of (by decide +kernel) (Nat.le_of_ble_eq_true rfl) (fun h => absurd h (Int.lt_irrefl n)) ?_
  show AW g false RX12 cX12_spreads 4 (some .boolean) (0) n n nf 0 [(0, 2, 337)] [] n M (f_X12_spreads M)
  unfold f_X12_spreads
  refine r_iconst dX12_spreads_0 ⟨by decide, by decide⟩ ?_
  refine r_istore_n dX12_spreads_1 rfl (by decide) (ls' := [(1, 0, 0), (0, 2, 337)]) rfl ?_
  refine r_iconst dX12_spreads_2 ⟨by decide, by decide⟩ ?_
  refine r_istore_n dX12_spreads_3 rfl (by decide) (ls' := [(2, 0, 0), (1, 0, 0), (0, 2, 337)]) rfl ?_
  refine r_sub [2, 1, 0] (ls' := [(0, 2, 337), (1, 0, 0), (2, 0, 0)]) rfl ?_
  exact wl2_aw (P := fun M x1 x2 o => AW g false RX12 cX12_spreads 4 (some .boolean) (0) n n nf 4 [(0, 2, 337), (1, 0, x1), (2, 0, x2)] [] n M (o)) (fun M x1 x2 => aw_none) (fun w hw M x1 x2 => tb_X12_spreads_4 hu w hw M x1 x2) FU M 0 0
theorem dX12_tellsPieces_0 : decode cX12_tellsPieces 0 = .ok (.aload_n 0, 1) := by decide +kernel
theorem dX12_tellsPieces_1 : decode cX12_tellsPieces 1 = .ok (.iconst 0, 1) := by decide +kernel
theorem dX12_tellsPieces_2 : decode cX12_tellsPieces 2 = .ok (.putfield 522, 3) := by decide +kernel
theorem dX12_tellsPieces_5 : decode cX12_tellsPieces 5 = .ok (.iconst 0, 1) := by decide +kernel
theorem dX12_tellsPieces_6 : decode cX12_tellsPieces 6 = .ok (.istore_n 1, 1) := by decide +kernel
theorem dX12_tellsPieces_7 : decode cX12_tellsPieces 7 = .ok (.iload_n 1, 1) := by decide +kernel
theorem dX12_tellsPieces_8 : decode cX12_tellsPieces 8 = .ok (.bipush 96, 2) := by decide +kernel
theorem dX12_tellsPieces_10 : decode cX12_tellsPieces 10 = .ok (.if_icmp .ge 16, 3) := by decide +kernel
theorem dX12_tellsPieces_13 : decode cX12_tellsPieces 13 = .ok (.aload_n 0, 1) := by decide +kernel
theorem dX12_tellsPieces_14 : decode cX12_tellsPieces 14 = .ok (.getfield 170, 3) := by decide +kernel
theorem dX12_tellsPieces_17 : decode cX12_tellsPieces 17 = .ok (.iload_n 1, 1) := by decide +kernel
theorem dX12_tellsPieces_18 : decode cX12_tellsPieces 18 = .ok (.iconst (-1), 1) := by decide +kernel
theorem dX12_tellsPieces_19 : decode cX12_tellsPieces 19 = .ok (.iastore, 1) := by decide +kernel
theorem dX12_tellsPieces_20 : decode cX12_tellsPieces 20 = .ok (.iinc 1 1, 3) := by decide +kernel
theorem dX12_tellsPieces_23 : decode cX12_tellsPieces 23 = .ok (.goto (-16), 3) := by decide +kernel
theorem dX12_tellsPieces_26 : decode cX12_tellsPieces 26 = .ok (.iconst 0, 1) := by decide +kernel
theorem dX12_tellsPieces_27 : decode cX12_tellsPieces 27 = .ok (.istore_n 1, 1) := by decide +kernel
theorem dX12_tellsPieces_28 : decode cX12_tellsPieces 28 = .ok (.iload_n 1, 1) := by decide +kernel
theorem dX12_tellsPieces_29 : decode cX12_tellsPieces 29 = .ok (.bipush 96, 2) := by decide +kernel
theorem dX12_tellsPieces_31 : decode cX12_tellsPieces 31 = .ok (.if_icmp .ge 125, 3) := by decide +kernel
theorem dX12_tellsPieces_34 : decode cX12_tellsPieces 34 = .ok (.aload_n 0, 1) := by decide +kernel
theorem dX12_tellsPieces_35 : decode cX12_tellsPieces 35 = .ok (.getfield 167, 3) := by decide +kernel
theorem dX12_tellsPieces_38 : decode cX12_tellsPieces 38 = .ok (.iload_n 1, 1) := by decide +kernel
theorem dX12_tellsPieces_39 : decode cX12_tellsPieces 39 = .ok (.iaload, 1) := by decide +kernel
theorem dX12_tellsPieces_40 : decode cX12_tellsPieces 40 = .ok (.ifCond .eq 110, 3) := by decide +kernel
theorem dX12_tellsPieces_43 : decode cX12_tellsPieces 43 = .ok (.aload_n 0, 1) := by decide +kernel
theorem dX12_tellsPieces_44 : decode cX12_tellsPieces 44 = .ok (.getfield 170, 3) := by decide +kernel
theorem dX12_tellsPieces_47 : decode cX12_tellsPieces 47 = .ok (.iload_n 1, 1) := by decide +kernel
theorem dX12_tellsPieces_48 : decode cX12_tellsPieces 48 = .ok (.iaload, 1) := by decide +kernel
theorem dX12_tellsPieces_49 : decode cX12_tellsPieces 49 = .ok (.iconst (-1), 1) := by decide +kernel
theorem dX12_tellsPieces_50 : decode cX12_tellsPieces 50 = .ok (.if_icmp .eq 6, 3) := by decide +kernel
theorem dX12_tellsPieces_53 : decode cX12_tellsPieces 53 = .ok (.goto 97, 3) := by decide +kernel
theorem dX12_tellsPieces_56 : decode cX12_tellsPieces 56 = .ok (.aload_n 0, 1) := by decide +kernel
theorem dX12_tellsPieces_57 : decode cX12_tellsPieces 57 = .ok (.getfield 170, 3) := by decide +kernel
theorem dX12_tellsPieces_60 : decode cX12_tellsPieces 60 = .ok (.iload_n 1, 1) := by decide +kernel
theorem dX12_tellsPieces_61 : decode cX12_tellsPieces 61 = .ok (.aload_n 0, 1) := by decide +kernel
theorem dX12_tellsPieces_62 : decode cX12_tellsPieces 62 = .ok (.getfield 522, 3) := by decide +kernel
theorem dX12_tellsPieces_65 : decode cX12_tellsPieces 65 = .ok (.iastore, 1) := by decide +kernel
theorem dX12_tellsPieces_66 : decode cX12_tellsPieces 66 = .ok (.aload_n 0, 1) := by decide +kernel
theorem dX12_tellsPieces_67 : decode cX12_tellsPieces 67 = .ok (.getfield 176, 3) := by decide +kernel
theorem dX12_tellsPieces_70 : decode cX12_tellsPieces 70 = .ok (.aload_n 0, 1) := by decide +kernel
theorem dX12_tellsPieces_71 : decode cX12_tellsPieces 71 = .ok (.getfield 522, 3) := by decide +kernel
theorem dX12_tellsPieces_74 : decode cX12_tellsPieces 74 = .ok (.iload_n 1, 1) := by decide +kernel
theorem dX12_tellsPieces_75 : decode cX12_tellsPieces 75 = .ok (.iastore, 1) := by decide +kernel
theorem dX12_tellsPieces_76 : decode cX12_tellsPieces 76 = .ok (.iconst 1, 1) := by decide +kernel
theorem dX12_tellsPieces_77 : decode cX12_tellsPieces 77 = .ok (.istore_n 2, 1) := by decide +kernel
theorem dX12_tellsPieces_78 : decode cX12_tellsPieces 78 = .ok (.iload_n 2, 1) := by decide +kernel
theorem dX12_tellsPieces_79 : decode cX12_tellsPieces 79 = .ok (.ifCond .eq 11, 3) := by decide +kernel
theorem dX12_tellsPieces_82 : decode cX12_tellsPieces 82 = .ok (.aload_n 0, 1) := by decide +kernel
theorem dX12_tellsPieces_83 : decode cX12_tellsPieces 83 = .ok (.invokevirtual 525, 3) := by decide +kernel
theorem dX12_tellsPieces_86 : decode cX12_tellsPieces 86 = .ok (.istore_n 2, 1) := by decide +kernel
theorem dX12_tellsPieces_87 : decode cX12_tellsPieces 87 = .ok (.goto (-9), 3) := by decide +kernel
theorem dX12_tellsPieces_90 : decode cX12_tellsPieces 90 = .ok (.aload_n 0, 1) := by decide +kernel
theorem dX12_tellsPieces_91 : decode cX12_tellsPieces 91 = .ok (.getfield 173, 3) := by decide +kernel
theorem dX12_tellsPieces_94 : decode cX12_tellsPieces 94 = .ok (.aload_n 0, 1) := by decide +kernel
theorem dX12_tellsPieces_95 : decode cX12_tellsPieces 95 = .ok (.getfield 522, 3) := by decide +kernel
theorem dX12_tellsPieces_98 : decode cX12_tellsPieces 98 = .ok (.iconst 0, 1) := by decide +kernel
theorem dX12_tellsPieces_99 : decode cX12_tellsPieces 99 = .ok (.iastore, 1) := by decide +kernel
theorem dX12_tellsPieces_100 : decode cX12_tellsPieces 100 = .ok (.iconst 0, 1) := by decide +kernel
theorem dX12_tellsPieces_101 : decode cX12_tellsPieces 101 = .ok (.istore_n 3, 1) := by decide +kernel
theorem dX12_tellsPieces_102 : decode cX12_tellsPieces 102 = .ok (.iload_n 3, 1) := by decide +kernel
theorem dX12_tellsPieces_103 : decode cX12_tellsPieces 103 = .ok (.bipush 96, 2) := by decide +kernel
theorem dX12_tellsPieces_105 : decode cX12_tellsPieces 105 = .ok (.if_icmp .ge 35, 3) := by decide +kernel
theorem dX12_tellsPieces_108 : decode cX12_tellsPieces 108 = .ok (.aload_n 0, 1) := by decide +kernel
theorem dX12_tellsPieces_109 : decode cX12_tellsPieces 109 = .ok (.getfield 170, 3) := by decide +kernel
theorem dX12_tellsPieces_112 : decode cX12_tellsPieces 112 = .ok (.iload_n 3, 1) := by decide +kernel
theorem dX12_tellsPieces_113 : decode cX12_tellsPieces 113 = .ok (.iaload, 1) := by decide +kernel
theorem dX12_tellsPieces_114 : decode cX12_tellsPieces 114 = .ok (.aload_n 0, 1) := by decide +kernel
theorem dX12_tellsPieces_115 : decode cX12_tellsPieces 115 = .ok (.getfield 522, 3) := by decide +kernel
theorem dX12_tellsPieces_118 : decode cX12_tellsPieces 118 = .ok (.if_icmp .ne 16, 3) := by decide +kernel
theorem dX12_tellsPieces_121 : decode cX12_tellsPieces 121 = .ok (.aload_n 0, 1) := by decide +kernel
theorem dX12_tellsPieces_122 : decode cX12_tellsPieces 122 = .ok (.getfield 173, 3) := by decide +kernel
theorem dX12_tellsPieces_125 : decode cX12_tellsPieces 125 = .ok (.aload_n 0, 1) := by decide +kernel
theorem dX12_tellsPieces_126 : decode cX12_tellsPieces 126 = .ok (.getfield 522, 3) := by decide +kernel
theorem dX12_tellsPieces_129 : decode cX12_tellsPieces 129 = .ok (.dup2, 1) := by decide +kernel
theorem dX12_tellsPieces_130 : decode cX12_tellsPieces 130 = .ok (.iaload, 1) := by decide +kernel
theorem dX12_tellsPieces_131 : decode cX12_tellsPieces 131 = .ok (.iconst 1, 1) := by decide +kernel
theorem dX12_tellsPieces_132 : decode cX12_tellsPieces 132 = .ok (.iadd, 1) := by decide +kernel
theorem dX12_tellsPieces_133 : decode cX12_tellsPieces 133 = .ok (.iastore, 1) := by decide +kernel
theorem dX12_tellsPieces_134 : decode cX12_tellsPieces 134 = .ok (.iinc 3 1, 3) := by decide +kernel
theorem dX12_tellsPieces_137 : decode cX12_tellsPieces 137 = .ok (.goto (-35), 3) := by decide +kernel
theorem dX12_tellsPieces_140 : decode cX12_tellsPieces 140 = .ok (.aload_n 0, 1) := by decide +kernel
theorem dX12_tellsPieces_141 : decode cX12_tellsPieces 141 = .ok (.dup, 1) := by decide +kernel
theorem dX12_tellsPieces_142 : decode cX12_tellsPieces 142 = .ok (.getfield 522, 3) := by decide +kernel
theorem dX12_tellsPieces_145 : decode cX12_tellsPieces 145 = .ok (.iconst 1, 1) := by decide +kernel
theorem dX12_tellsPieces_146 : decode cX12_tellsPieces 146 = .ok (.iadd, 1) := by decide +kernel
theorem dX12_tellsPieces_147 : decode cX12_tellsPieces 147 = .ok (.putfield 522, 3) := by decide +kernel
theorem dX12_tellsPieces_150 : decode cX12_tellsPieces 150 = .ok (.iinc 1 1, 3) := by decide +kernel
theorem dX12_tellsPieces_153 : decode cX12_tellsPieces 153 = .ok (.goto (-125), 3) := by decide +kernel
theorem dX12_tellsPieces_156 : decode cX12_tellsPieces 156 = .ok (.return_, 1) := by decide +kernel
set_option maxRecDepth 100000 in
theorem tb_X12_tellsPieces_102 {g : GT} {n nf : Int} (hu : Up false nf n) (w28 : Mem → Int → Res) (w102 : Mem → Int → Int → Res) (hw28 : ∀ (M : Mem) (x1 : Int), AW g false RX12 cX12_tellsPieces 4 none (1) n n nf 28 [(0, 2, 337), (1, 0, x1)] [] n M (w28 M x1)) (hw102 : ∀ (M : Mem) (x1 x3 : Int), AW g false RX12 cX12_tellsPieces 4 none (1) n n nf 102 [(0, 2, 337), (1, 0, x1), (3, 0, x3)] [] n M (w102 M x1 x3)) (M : Mem) (x1 x3 : Int) : AW g false RX12 cX12_tellsPieces 4 none (1) n n nf 102 [(0, 2, 337), (1, 0, x1), (3, 0, x3)] [] n M (b_X12_tellsPieces_102 w28 w102 M x1 x3) := by
  unfold b_X12_tellsPieces_102
  refine r_iload_n 2 dX12_tellsPieces_102 rfl rfl ?_
  refine r_bipush dX12_tellsPieces_103 (by decide) ⟨by decide, by decide⟩ ?_
  refine r_icmp_ge (tgt := 140) dX12_tellsPieces_105 rfl (fun h19 => ?_) (fun h20 => ?_)
  · refine r_aload_n 0 dX12_tellsPieces_140 rfl rfl ?_
    refine r_dup dX12_tellsPieces_141 (nz2 _) ?_
    refine r_gf (t := 0) (kz := 78) rfl hu dX12_tellsPieces_142 kF_X12_522 kd_337 rfl rfl rfl ?_
    refine r_iconst dX12_tellsPieces_145 ⟨by decide, by decide⟩ ?_
    refine r_ok (fun h21 => ?_)
    refine r_iadd dX12_tellsPieces_146 h21 ?_
    refine r_pf (t := 0) (kz := 78) rfl hu dX12_tellsPieces_147 kF_X12_522 kd_337 rfl rfl rfl (fun h => absurd h (by decide)) rfl kX_12_78 (fun M22 eM22 => ?_)
    refine r_ok (fun h23 => ?_)
    refine r_iincB 1 dX12_tellsPieces_150 rfl h23 (by decide) (lf := fun y24 => [(1, 0, y24), (0, 2, 337), (3, 0, x3)]) (fun _ => rfl) (fun y24 ey24 => ?_)
    refine r_goto (tgt := 28) dX12_tellsPieces_153 rfl ?_
    refine r_sub [1, 0] (ls' := [(0, 2, 337), (1, 0, y24)]) rfl ?_
    exact hw28 M22 y24
  · refine r_aload_n 0 dX12_tellsPieces_108 rfl rfl ?_
    refine r_gx (kz := 75) rfl hu dX12_tellsPieces_109 kF_X12_170 kd_337 rfl rfl rfl fx_337_75 ?_
    refine r_iload_n 2 dX12_tellsPieces_112 rfl rfl ?_
    refine r_ok (fun h25 => ?_)
    refine r_iald hu dX12_tellsPieces_113 kd_389 rfl (Or.inl rfl) rfl ln_389 h25 ?_
    refine r_aload_n 0 dX12_tellsPieces_114 rfl rfl ?_
    refine r_gf (t := 0) (kz := 78) rfl hu dX12_tellsPieces_115 kF_X12_522 kd_337 rfl rfl rfl ?_
    refine r_icmp_ne (tgt := 134) dX12_tellsPieces_118 rfl (fun h26 => ?_) (fun h27 => ?_)
    · refine r_aload_n 0 dX12_tellsPieces_121 rfl rfl ?_
      refine r_gx (kz := 76) rfl hu dX12_tellsPieces_122 kF_X12_173 kd_337 rfl rfl rfl fx_337_76 ?_
      refine r_aload_n 0 dX12_tellsPieces_125 rfl rfl ?_
      refine r_gf (t := 0) (kz := 78) rfl hu dX12_tellsPieces_126 kF_X12_522 kd_337 rfl rfl rfl ?_
      refine r_dup2 dX12_tellsPieces_129 (nz0 _) (nz2 _) ?_
      refine r_ok (fun h28 => ?_)
      refine r_iald hu dX12_tellsPieces_130 kd_390 rfl (Or.inl rfl) rfl ln_390 h28 ?_
      refine r_iconst dX12_tellsPieces_131 ⟨by decide, by decide⟩ ?_
      refine r_ok (fun h29 => ?_)
      refine r_iadd dX12_tellsPieces_132 h29 ?_
      refine r_iast hu dX12_tellsPieces_133 kd_390 rfl (Or.inl rfl) rfl ln_390 h28 rfl (fun M30 eM30 => ?_)
      refine r_iincB 2 dX12_tellsPieces_134 rfl ⟨by have := h25; omega, by have := h25; omega⟩ (by decide) (lf := fun y31 => [(3, 0, y31), (0, 2, 337), (1, 0, x1)]) (fun _ => rfl) (fun y31 ey31 => ?_)
      refine r_goto (tgt := 102) dX12_tellsPieces_137 rfl ?_
      refine r_sub [1, 2, 0] (ls' := [(0, 2, 337), (1, 0, x1), (3, 0, y31)]) rfl ?_
      exact hw102 M30 x1 y31
    · refine r_iincB 2 dX12_tellsPieces_134 rfl ⟨by have := h25; omega, by have := h25; omega⟩ (by decide) (lf := fun y32 => [(3, 0, y32), (0, 2, 337), (1, 0, x1)]) (fun _ => rfl) (fun y32 ey32 => ?_)
      refine r_goto (tgt := 102) dX12_tellsPieces_137 rfl ?_
      refine r_sub [1, 2, 0] (ls' := [(0, 2, 337), (1, 0, x1), (3, 0, y32)]) rfl ?_
      exact hw102 M x1 y32
set_option maxRecDepth 100000 in
theorem tb_X12_tellsPieces_78 {g : GT} {n nf : Int} (hu : Up false nf n) (w28 : Mem → Int → Res) (w78 : Mem → Int → Int → Res) (hw28 : ∀ (M : Mem) (x1 : Int), AW g false RX12 cX12_tellsPieces 4 none (1) n n nf 28 [(0, 2, 337), (1, 0, x1)] [] n M (w28 M x1)) (hw78 : ∀ (M : Mem) (x1 x2 : Int), AW g false RX12 cX12_tellsPieces 4 none (1) n n nf 78 [(0, 2, 337), (1, 0, x1), (2, 0, x2)] [] n M (w78 M x1 x2)) (M : Mem) (x1 x2 : Int) : AW g false RX12 cX12_tellsPieces 4 none (1) n n nf 78 [(0, 2, 337), (1, 0, x1), (2, 0, x2)] [] n M (b_X12_tellsPieces_78 w28 w78 M x1 x2) := by
  unfold b_X12_tellsPieces_78
  refine r_iload_n 2 dX12_tellsPieces_78 rfl rfl ?_
  refine r_if_eq (tgt := 90) dX12_tellsPieces_79 rfl (fun h15 => ?_) (fun h16 => ?_)
  · refine r_aload_n 0 dX12_tellsPieces_90 rfl rfl ?_
    refine r_gx (kz := 76) rfl hu dX12_tellsPieces_91 kF_X12_173 kd_337 rfl rfl rfl fx_337_76 ?_
    refine r_aload_n 0 dX12_tellsPieces_94 rfl rfl ?_
    refine r_gf (t := 0) (kz := 78) rfl hu dX12_tellsPieces_95 kF_X12_522 kd_337 rfl rfl rfl ?_
    refine r_iconst dX12_tellsPieces_98 ⟨by decide, by decide⟩ ?_
    refine r_ok (fun h17 => ?_)
    refine r_iast hu dX12_tellsPieces_99 kd_390 rfl (Or.inl rfl) rfl ln_390 h17 rfl (fun M18 eM18 => ?_)
    refine r_iconst dX12_tellsPieces_100 ⟨by decide, by decide⟩ ?_
    refine r_istore_n dX12_tellsPieces_101 rfl (by decide) (ls' := [(3, 0, 0), (0, 2, 337), (1, 0, x1), (2, 0, x2)]) rfl ?_
    refine r_sub [1, 2, 0] (ls' := [(0, 2, 337), (1, 0, x1), (3, 0, 0)]) rfl ?_
    exact wl2_aw (P := fun M x1 x3 o => AW g false RX12 cX12_tellsPieces 4 none (1) n n nf 102 [(0, 2, 337), (1, 0, x1), (3, 0, x3)] [] n M (o)) (fun M x1 x3 => aw_none) (fun w hw M x1 x3 => tb_X12_tellsPieces_102 hu w28 w hw28 hw M x1 x3) FU M18 x1 0
  · refine r_aload_n 0 dX12_tellsPieces_82 rfl rfl ?_
    refine r_inv (a := 337) hu ⟨Nat.le_refl _, Nat.le_refl _⟩ dX12_tellsPieces_83 kM_X12_525 (ci := 12) rfl kd_337 rfl rfl (by decide) (by decide) [] rfl (sk := []) rfl (Nat.le_of_ble_eq_true rfl) rfl rfl (m_X12_spreads hu M) (fun r33 M34 => ?_)
    refine r_istore_n dX12_tellsPieces_86 rfl (by decide) (ls' := [(2, 0, r33), (0, 2, 337), (1, 0, x1)]) rfl ?_
    refine r_goto (tgt := 78) dX12_tellsPieces_87 rfl ?_
    refine r_sub [1, 2, 0] (ls' := [(0, 2, 337), (1, 0, x1), (2, 0, r33)]) rfl ?_
    exact hw78 M34 x1 r33
set_option maxRecDepth 100000 in
theorem tb_X12_tellsPieces_28 {g : GT} {n nf : Int} (hu : Up false nf n) (w28 : Mem → Int → Res) (hw28 : ∀ (M : Mem) (x1 : Int), AW g false RX12 cX12_tellsPieces 4 none (1) n n nf 28 [(0, 2, 337), (1, 0, x1)] [] n M (w28 M x1)) (M : Mem) (x1 : Int) : AW g false RX12 cX12_tellsPieces 4 none (1) n n nf 28 [(0, 2, 337), (1, 0, x1)] [] n M (b_X12_tellsPieces_28 w28 M x1) := by
  unfold b_X12_tellsPieces_28
  refine r_iload_n 1 dX12_tellsPieces_28 rfl rfl ?_
  refine r_bipush dX12_tellsPieces_29 (by decide) ⟨by decide, by decide⟩ ?_
  refine r_icmp_ge (tgt := 156) dX12_tellsPieces_31 rfl (fun h4 => ?_) (fun h5 => ?_)
  · exact r_vret rfl rfl dX12_tellsPieces_156
  · refine r_aload_n 0 dX12_tellsPieces_34 rfl rfl ?_
    refine r_gx (kz := 74) rfl hu dX12_tellsPieces_35 kF_X12_167 kd_337 rfl rfl rfl fx_337_74 ?_
    refine r_iload_n 1 dX12_tellsPieces_38 rfl rfl ?_
    refine r_ok (fun h6 => ?_)
    refine r_iald hu dX12_tellsPieces_39 kd_388 rfl (Or.inl rfl) rfl ln_388 h6 ?_
    refine r_if_eq (tgt := 150) dX12_tellsPieces_40 rfl (fun h7 => ?_) (fun h8 => ?_)
    · refine r_iincB 1 dX12_tellsPieces_150 rfl ⟨by have := h6; omega, by have := h6; omega⟩ (by decide) (lf := fun y9 => [(1, 0, y9), (0, 2, 337)]) (fun _ => rfl) (fun y9 ey9 => ?_)
      refine r_goto (tgt := 28) dX12_tellsPieces_153 rfl ?_
      refine r_sub [1, 0] (ls' := [(0, 2, 337), (1, 0, y9)]) rfl ?_
      exact hw28 M y9
    · refine r_aload_n 0 dX12_tellsPieces_43 rfl rfl ?_
      refine r_gx (kz := 75) rfl hu dX12_tellsPieces_44 kF_X12_170 kd_337 rfl rfl rfl fx_337_75 ?_
      refine r_iload_n 1 dX12_tellsPieces_47 rfl rfl ?_
      refine r_iald hu dX12_tellsPieces_48 kd_389 rfl (Or.inl rfl) rfl ln_389 h6 ?_
      refine r_iconst dX12_tellsPieces_49 ⟨by decide, by decide⟩ ?_
      refine r_icmp_eq (tgt := 56) dX12_tellsPieces_50 rfl (fun h10 => ?_) (fun h11 => ?_)
      · refine r_aload_n 0 dX12_tellsPieces_56 rfl rfl ?_
        refine r_gx (kz := 75) rfl hu dX12_tellsPieces_57 kF_X12_170 kd_337 rfl rfl rfl fx_337_75 ?_
        refine r_iload_n 1 dX12_tellsPieces_60 rfl rfl ?_
        refine r_aload_n 0 dX12_tellsPieces_61 rfl rfl ?_
        refine r_gf (t := 0) (kz := 78) rfl hu dX12_tellsPieces_62 kF_X12_522 kd_337 rfl rfl rfl ?_
        refine r_iast hu dX12_tellsPieces_65 kd_389 rfl (Or.inl rfl) rfl ln_389 h6 rfl (fun M12 eM12 => ?_)
        refine r_aload_n 0 dX12_tellsPieces_66 rfl rfl ?_
        refine r_gx (kz := 77) rfl hu dX12_tellsPieces_67 kF_X12_176 kd_337 rfl rfl rfl fx_337_77 ?_
        refine r_aload_n 0 dX12_tellsPieces_70 rfl rfl ?_
        refine r_gf (t := 0) (kz := 78) rfl hu dX12_tellsPieces_71 kF_X12_522 kd_337 rfl rfl rfl ?_
        refine r_iload_n 1 dX12_tellsPieces_74 rfl rfl ?_
        refine r_ok (fun h13 => ?_)
        refine r_iast hu dX12_tellsPieces_75 kd_391 rfl (Or.inl rfl) rfl ln_391 h13 rfl (fun M14 eM14 => ?_)
        refine r_iconst dX12_tellsPieces_76 ⟨by decide, by decide⟩ ?_
        refine r_istore_n dX12_tellsPieces_77 rfl (by decide) (ls' := [(2, 0, 1), (0, 2, 337), (1, 0, x1)]) rfl ?_
        refine r_sub [1, 2, 0] (ls' := [(0, 2, 337), (1, 0, x1), (2, 0, 1)]) rfl ?_
        exact wl2_aw (P := fun M x1 x2 o => AW g false RX12 cX12_tellsPieces 4 none (1) n n nf 78 [(0, 2, 337), (1, 0, x1), (2, 0, x2)] [] n M (o)) (fun M x1 x2 => aw_none) (fun w hw M x1 x2 => tb_X12_tellsPieces_78 hu w28 w hw28 hw M x1 x2) FU M14 x1 1
      · refine r_goto (tgt := 150) dX12_tellsPieces_53 rfl ?_
        refine r_iincB 1 dX12_tellsPieces_150 rfl ⟨by have := h6; omega, by have := h6; omega⟩ (by decide) (lf := fun y35 => [(1, 0, y35), (0, 2, 337)]) (fun _ => rfl) (fun y35 ey35 => ?_)
        refine r_goto (tgt := 28) dX12_tellsPieces_153 rfl ?_
        refine r_sub [1, 0] (ls' := [(0, 2, 337), (1, 0, y35)]) rfl ?_
        exact hw28 M y35
set_option maxRecDepth 100000 in
theorem tb_X12_tellsPieces_7 {g : GT} {n nf : Int} (hu : Up false nf n) (w7 : Mem → Int → Res) (hw7 : ∀ (M : Mem) (x1 : Int), AW g false RX12 cX12_tellsPieces 4 none (1) n n nf 7 [(0, 2, 337), (1, 0, x1)] [] n M (w7 M x1)) (M : Mem) (x1 : Int) : AW g false RX12 cX12_tellsPieces 4 none (1) n n nf 7 [(0, 2, 337), (1, 0, x1)] [] n M (b_X12_tellsPieces_7 w7 M x1) := by
  unfold b_X12_tellsPieces_7
  refine r_iload_n 1 dX12_tellsPieces_7 rfl rfl ?_
  refine r_bipush dX12_tellsPieces_8 (by decide) ⟨by decide, by decide⟩ ?_
  refine r_icmp_ge (tgt := 26) dX12_tellsPieces_10 rfl (fun h2 => ?_) (fun h3 => ?_)
  · refine r_iconst dX12_tellsPieces_26 ⟨by decide, by decide⟩ ?_
    refine r_istore_n dX12_tellsPieces_27 rfl (by decide) (ls' := [(1, 0, 0), (0, 2, 337)]) rfl ?_
    refine r_sub [1, 0] (ls' := [(0, 2, 337), (1, 0, 0)]) rfl ?_
    exact wl1_aw (P := fun M x1 o => AW g false RX12 cX12_tellsPieces 4 none (1) n n nf 28 [(0, 2, 337), (1, 0, x1)] [] n M (o)) (fun M x1 => aw_none) (fun w hw M x1 => tb_X12_tellsPieces_28 hu w hw M x1) FU M 0
  · refine r_aload_n 0 dX12_tellsPieces_13 rfl rfl ?_
    refine r_gx (kz := 75) rfl hu dX12_tellsPieces_14 kF_X12_170 kd_337 rfl rfl rfl fx_337_75 ?_
    refine r_iload_n 1 dX12_tellsPieces_17 rfl rfl ?_
    refine r_iconst dX12_tellsPieces_18 ⟨by decide, by decide⟩ ?_
    refine r_ok (fun h36 => ?_)
    refine r_iast hu dX12_tellsPieces_19 kd_389 rfl (Or.inl rfl) rfl ln_389 h36 rfl (fun M37 eM37 => ?_)
    refine r_iincB 1 dX12_tellsPieces_20 rfl ⟨by have := h36; omega, by have := h36; omega⟩ (by decide) (lf := fun y38 => [(1, 0, y38), (0, 2, 337)]) (fun _ => rfl) (fun y38 ey38 => ?_)
    refine r_goto (tgt := 7) dX12_tellsPieces_23 rfl ?_
    refine r_sub [1, 0] (ls' := [(0, 2, 337), (1, 0, y38)]) rfl ?_
    exact hw7 M37 y38
set_option maxRecDepth 100000 in
theorem m_X12_tellsPieces {g : GT} {n nf : Int} (hu : Up false nf n) (M : Mem) : AM g false yX12_tellsPieces cX12_tellsPieces 4 none (1) n n nf [(2, 337)] M (f_X12_tellsPieces M) := by
  refine AM_of (by decide +kernel) (Nat.le_of_ble_eq_true rfl) (fun h => absurd h (Int.lt_irrefl n)) ?_
  show AW g false RX12 cX12_tellsPieces 4 none (1) n n nf 0 [(0, 2, 337)] [] n M (f_X12_tellsPieces M)
  unfold f_X12_tellsPieces
  refine r_aload_n 0 dX12_tellsPieces_0 rfl rfl ?_
  refine r_iconst dX12_tellsPieces_1 ⟨by decide, by decide⟩ ?_
  refine r_pf (t := 0) (kz := 78) rfl hu dX12_tellsPieces_2 kF_X12_522 kd_337 rfl rfl rfl (fun h => absurd h (by decide)) rfl kX_12_78 (fun M1 eM1 => ?_)
  refine r_iconst dX12_tellsPieces_5 ⟨by decide, by decide⟩ ?_
  refine r_istore_n dX12_tellsPieces_6 rfl (by decide) (ls' := [(1, 0, 0), (0, 2, 337)]) rfl ?_
  refine r_sub [1, 0] (ls' := [(0, 2, 337), (1, 0, 0)]) rfl ?_
  exact wl1_aw (P := fun M x1 o => AW g false RX12 cX12_tellsPieces 4 none (1) n n nf 7 [(0, 2, 337), (1, 0, x1)] [] n M (o)) (fun M x1 => aw_none) (fun w hw M x1 => tb_X12_tellsPieces_7 hu w hw M x1) FU M1 0
theorem dX12_tellsSight_0 : decode cX12_tellsSight 0 = .ok (.aload_n 0, 1) := by decide +kernel
theorem dX12_tellsSight_1 : decode cX12_tellsSight 1 = .ok (.iconst 0, 1) := by decide +kernel
theorem dX12_tellsSight_2 : decode cX12_tellsSight 2 = .ok (.putfield 413, 3) := by decide +kernel
theorem dX12_tellsSight_5 : decode cX12_tellsSight 5 = .ok (.aload_n 0, 1) := by decide +kernel
theorem dX12_tellsSight_6 : decode cX12_tellsSight 6 = .ok (.iconst 0, 1) := by decide +kernel
theorem dX12_tellsSight_7 : decode cX12_tellsSight 7 = .ok (.putfield 416, 3) := by decide +kernel
theorem dX12_tellsSight_10 : decode cX12_tellsSight 10 = .ok (.aload_n 0, 1) := by decide +kernel
theorem dX12_tellsSight_11 : decode cX12_tellsSight 11 = .ok (.iconst 0, 1) := by decide +kernel
theorem dX12_tellsSight_12 : decode cX12_tellsSight 12 = .ok (.putfield 419, 3) := by decide +kernel
theorem dX12_tellsSight_15 : decode cX12_tellsSight 15 = .ok (.aload_n 0, 1) := by decide +kernel
theorem dX12_tellsSight_16 : decode cX12_tellsSight 16 = .ok (.iconst 0, 1) := by decide +kernel
theorem dX12_tellsSight_17 : decode cX12_tellsSight 17 = .ok (.putfield 422, 3) := by decide +kernel
theorem dX12_tellsSight_20 : decode cX12_tellsSight 20 = .ok (.iconst 0, 1) := by decide +kernel
theorem dX12_tellsSight_21 : decode cX12_tellsSight 21 = .ok (.istore_n 1, 1) := by decide +kernel
theorem dX12_tellsSight_22 : decode cX12_tellsSight 22 = .ok (.iload_n 1, 1) := by decide +kernel
theorem dX12_tellsSight_23 : decode cX12_tellsSight 23 = .ok (.bipush 96, 2) := by decide +kernel
theorem dX12_tellsSight_25 : decode cX12_tellsSight 25 = .ok (.if_icmp .ge 53, 3) := by decide +kernel
theorem dX12_tellsSight_28 : decode cX12_tellsSight 28 = .ok (.aload_n 0, 1) := by decide +kernel
theorem dX12_tellsSight_29 : decode cX12_tellsSight 29 = .ok (.iload_n 1, 1) := by decide +kernel
theorem dX12_tellsSight_30 : decode cX12_tellsSight 30 = .ok (.bipush 12, 2) := by decide +kernel
theorem dX12_tellsSight_32 : decode cX12_tellsSight 32 = .ok (.irem, 1) := by decide +kernel
theorem dX12_tellsSight_33 : decode cX12_tellsSight 33 = .ok (.putfield 407, 3) := by decide +kernel
theorem dX12_tellsSight_36 : decode cX12_tellsSight 36 = .ok (.aload_n 0, 1) := by decide +kernel
theorem dX12_tellsSight_37 : decode cX12_tellsSight 37 = .ok (.iload_n 1, 1) := by decide +kernel
theorem dX12_tellsSight_38 : decode cX12_tellsSight 38 = .ok (.bipush 12, 2) := by decide +kernel
theorem dX12_tellsSight_40 : decode cX12_tellsSight 40 = .ok (.idiv, 1) := by decide +kernel
theorem dX12_tellsSight_41 : decode cX12_tellsSight 41 = .ok (.putfield 410, 3) := by decide +kernel
theorem dX12_tellsSight_44 : decode cX12_tellsSight 44 = .ok (.aload_n 0, 1) := by decide +kernel
theorem dX12_tellsSight_45 : decode cX12_tellsSight 45 = .ok (.getfield 167, 3) := by decide +kernel
theorem dX12_tellsSight_48 : decode cX12_tellsSight 48 = .ok (.iload_n 1, 1) := by decide +kernel
theorem dX12_tellsSight_49 : decode cX12_tellsSight 49 = .ok (.iload_n 1, 1) := by decide +kernel
theorem dX12_tellsSight_50 : decode cX12_tellsSight 50 = .ok (.aload_n 0, 1) := by decide +kernel
theorem dX12_tellsSight_51 : decode cX12_tellsSight 51 = .ok (.getfield 128, 3) := by decide +kernel
theorem dX12_tellsSight_54 : decode cX12_tellsSight 54 = .ok (.iconst 1, 1) := by decide +kernel
theorem dX12_tellsSight_55 : decode cX12_tellsSight 55 = .ok (.iaload, 1) := by decide +kernel
theorem dX12_tellsSight_56 : decode cX12_tellsSight 56 = .ok (.if_icmp .ne 7, 3) := by decide +kernel
theorem dX12_tellsSight_59 : decode cX12_tellsSight 59 = .ok (.iconst 0, 1) := by decide +kernel
theorem dX12_tellsSight_60 : decode cX12_tellsSight 60 = .ok (.goto 11, 3) := by decide +kernel
theorem dX12_tellsSight_63 : decode cX12_tellsSight 63 = .ok (.aload_n 0, 1) := by decide +kernel
theorem dX12_tellsSight_64 : decode cX12_tellsSight 64 = .ok (.iconst 1, 1) := by decide +kernel
theorem dX12_tellsSight_65 : decode cX12_tellsSight 65 = .ok (.bipush 9, 2) := by decide +kernel
theorem dX12_tellsSight_67 : decode cX12_tellsSight 67 = .ok (.iconst 0, 1) := by decide +kernel
theorem dX12_tellsSight_68 : decode cX12_tellsSight 68 = .ok (.invokevirtual 511, 3) := by decide +kernel
theorem dX12_tellsSight_71 : decode cX12_tellsSight 71 = .ok (.iastore, 1) := by decide +kernel
theorem dX12_tellsSight_72 : decode cX12_tellsSight 72 = .ok (.iinc 1 1, 3) := by decide +kernel
theorem dX12_tellsSight_75 : decode cX12_tellsSight 75 = .ok (.goto (-53), 3) := by decide +kernel
theorem dX12_tellsSight_78 : decode cX12_tellsSight 78 = .ok (.aload_n 0, 1) := by decide +kernel
theorem dX12_tellsSight_79 : decode cX12_tellsSight 79 = .ok (.invokevirtual 515, 3) := by decide +kernel
theorem dX12_tellsSight_82 : decode cX12_tellsSight 82 = .ok (.return_, 1) := by decide +kernel
set_option maxRecDepth 100000 in
theorem tb_X12_tellsSight_22 {g : GT} {n nf : Int} (hu : Up false nf n) (w22 : Mem → Int → Res) (hw22 : ∀ (M : Mem) (x1 : Int), AW g false RX12 cX12_tellsSight 2 none (4) n n nf 22 [(0, 2, 337), (1, 0, x1)] [] n M (w22 M x1)) (M : Mem) (x1 : Int) : AW g false RX12 cX12_tellsSight 2 none (4) n n nf 22 [(0, 2, 337), (1, 0, x1)] [] n M (b_X12_tellsSight_22 w22 M x1) := by
  unfold b_X12_tellsSight_22
  refine r_iload_n 1 dX12_tellsSight_22 rfl rfl ?_
  refine r_bipush dX12_tellsSight_23 (by decide) ⟨by decide, by decide⟩ ?_
  refine r_icmp_ge (tgt := 78) dX12_tellsSight_25 rfl (fun h5 => ?_) (fun h6 => ?_)
  · refine r_aload_n 0 dX12_tellsSight_78 rfl rfl ?_
    refine r_invv (a := 337) hu ⟨Nat.le_refl _, Nat.le_refl _⟩ dX12_tellsSight_79 kM_X12_515 (ci := 12) rfl kd_337 rfl rfl (by decide) (by decide) [] rfl (sk := []) rfl (Nat.le_of_ble_eq_true rfl) rfl (m_X12_tellsPieces hu M) (fun r7 M8 => ?_)
    exact r_vret rfl rfl dX12_tellsSight_82
  · refine r_aload_n 0 dX12_tellsSight_28 rfl rfl ?_
    refine r_iload_n 1 dX12_tellsSight_29 rfl rfl ?_
    refine r_bipush dX12_tellsSight_30 (by decide) ⟨by decide, by decide⟩ ?_
    refine r_ok (fun h9 => ?_)
    refine r_iremP dX12_tellsSight_32 ⟨h9, by decide⟩ ?_
    refine r_pf (t := 0) (kz := 68) rfl hu dX12_tellsSight_33 kF_X12_407 kd_337 rfl rfl rfl (fun h => absurd h (by decide)) rfl kX_12_68 (fun M10 eM10 => ?_)
    refine r_aload_n 0 dX12_tellsSight_36 rfl rfl ?_
    refine r_iload_n 1 dX12_tellsSight_37 rfl rfl ?_
    refine r_bipush dX12_tellsSight_38 (by decide) ⟨by decide, by decide⟩ ?_
    refine r_idivP dX12_tellsSight_40 ⟨h9, by decide⟩ ?_
    refine r_pf (t := 0) (kz := 69) rfl hu dX12_tellsSight_41 kF_X12_410 kd_337 rfl rfl rfl (fun h => absurd h (by decide)) rfl kX_12_69 (fun M11 eM11 => ?_)
    refine r_aload_n 0 dX12_tellsSight_44 rfl rfl ?_
    refine r_gx (kz := 74) rfl hu dX12_tellsSight_45 kF_X12_167 kd_337 rfl rfl rfl fx_337_74 ?_
    refine r_iload_n 1 dX12_tellsSight_48 rfl rfl ?_
    refine r_iload_n 1 dX12_tellsSight_49 rfl rfl ?_
    refine r_aload_n 0 dX12_tellsSight_50 rfl rfl ?_
    refine r_gx (kz := 50) rfl hu dX12_tellsSight_51 kF_X12_128 kd_337 rfl rfl rfl fx_337_50 ?_
    refine r_iconst dX12_tellsSight_54 ⟨by decide, by decide⟩ ?_
    refine r_iald hu dX12_tellsSight_55 kd_375 rfl (Or.inl rfl) rfl ln_375 ⟨by decide, by decide⟩ ?_
    refine r_icmp_ne (tgt := 63) dX12_tellsSight_56 rfl (fun h12 => ?_) (fun h13 => ?_)
    · refine r_iconst dX12_tellsSight_59 ⟨by decide, by decide⟩ ?_
      refine r_goto (tgt := 71) dX12_tellsSight_60 rfl ?_
      refine r_iast hu dX12_tellsSight_71 kd_388 rfl (Or.inl rfl) rfl ln_388 ⟨by omega, by omega⟩ rfl (fun M14 eM14 => ?_)
      refine r_ok (fun h15 => ?_)
      refine r_iincB 1 dX12_tellsSight_72 rfl h15 (by decide) (lf := fun y16 => [(1, 0, y16), (0, 2, 337)]) (fun _ => rfl) (fun y16 ey16 => ?_)
      refine r_goto (tgt := 22) dX12_tellsSight_75 rfl ?_
      refine r_sub [1, 0] (ls' := [(0, 2, 337), (1, 0, y16)]) rfl ?_
      exact hw22 M14 y16
    · refine r_aload_n 0 dX12_tellsSight_63 rfl rfl ?_
      refine r_iconst dX12_tellsSight_64 ⟨by decide, by decide⟩ ?_
      refine r_bipush dX12_tellsSight_65 (by decide) ⟨by decide, by decide⟩ ?_
      refine r_iconst dX12_tellsSight_67 ⟨by decide, by decide⟩ ?_
      refine r_inv (a := 337) hu ⟨Nat.le_refl _, Nat.le_refl _⟩ dX12_tellsSight_68 kM_X12_511 (ci := 12) rfl kd_337 rfl rfl (by decide) (by decide) [(0, 1), (0, 9), (0, 0)] rfl (sk := [(0, x1), (2, 388)]) rfl (Nat.le_of_ble_eq_true rfl) rfl rfl (m_X12_ruled hu M11 1 9 0) (fun r17 M18 => ?_)
      refine r_iast hu dX12_tellsSight_71 kd_388 rfl (Or.inl rfl) rfl ln_388 ⟨by omega, by omega⟩ rfl (fun M19 eM19 => ?_)
      refine r_ok (fun h20 => ?_)
      refine r_iincB 1 dX12_tellsSight_72 rfl h20 (by decide) (lf := fun y21 => [(1, 0, y21), (0, 2, 337)]) (fun _ => rfl) (fun y21 ey21 => ?_)
      refine r_goto (tgt := 22) dX12_tellsSight_75 rfl ?_
      refine r_sub [1, 0] (ls' := [(0, 2, 337), (1, 0, y21)]) rfl ?_
      exact hw22 M19 y21
set_option maxRecDepth 100000 in
theorem m_X12_tellsSight {g : GT} {n nf : Int} (hu : Up false nf n) (M : Mem) : AM g false yX12_tellsSight cX12_tellsSight 2 none (4) n n nf [(2, 337)] M (f_X12_tellsSight M) := by
  refine AM_of (by decide +kernel) (Nat.le_of_ble_eq_true rfl) (fun h => absurd h (Int.lt_irrefl n)) ?_
  show AW g false RX12 cX12_tellsSight 2 none (4) n n nf 0 [(0, 2, 337)] [] n M (f_X12_tellsSight M)
  unfold f_X12_tellsSight
  refine r_aload_n 0 dX12_tellsSight_0 rfl rfl ?_
  refine r_iconst dX12_tellsSight_1 ⟨by decide, by decide⟩ ?_
  refine r_pf (t := 0) (kz := 70) rfl hu dX12_tellsSight_2 kF_X12_413 kd_337 rfl rfl rfl (fun h => absurd h (by decide)) rfl kX_12_70 (fun M1 eM1 => ?_)
  refine r_aload_n 0 dX12_tellsSight_5 rfl rfl ?_
  refine r_iconst dX12_tellsSight_6 ⟨by decide, by decide⟩ ?_
  refine r_pf (t := 0) (kz := 71) rfl hu dX12_tellsSight_7 kF_X12_416 kd_337 rfl rfl rfl (fun h => absurd h (by decide)) rfl kX_12_71 (fun M2 eM2 => ?_)
  refine r_aload_n 0 dX12_tellsSight_10 rfl rfl ?_
  refine r_iconst dX12_tellsSight_11 ⟨by decide, by decide⟩ ?_
  refine r_pf (t := 0) (kz := 72) rfl hu dX12_tellsSight_12 kF_X12_419 kd_337 rfl rfl rfl (fun h => absurd h (by decide)) rfl kX_12_72 (fun M3 eM3 => ?_)
  refine r_aload_n 0 dX12_tellsSight_15 rfl rfl ?_
  refine r_iconst dX12_tellsSight_16 ⟨by decide, by decide⟩ ?_
  refine r_pf (t := 0) (kz := 73) rfl hu dX12_tellsSight_17 kF_X12_422 kd_337 rfl rfl rfl (fun h => absurd h (by decide)) rfl kX_12_73 (fun M4 eM4 => ?_)
  refine r_iconst dX12_tellsSight_20 ⟨by decide, by decide⟩ ?_
  refine r_istore_n dX12_tellsSight_21 rfl (by decide) (ls' := [(1, 0, 0), (0, 2, 337)]) rfl ?_
  refine r_sub [1, 0] (ls' := [(0, 2, 337), (1, 0, 0)]) rfl ?_
  exact wl1_aw (P := fun M x1 o => AW g false RX12 cX12_tellsSight 2 none (4) n n nf 22 [(0, 2, 337), (1, 0, x1)] [] n M (o)) (fun M x1 => aw_none) (fun w hw M x1 => tb_X12_tellsSight_22 hu w hw M x1) FU M4 0
theorem dX12_field_0 : decode cX12_field 0 = .ok (.aload_n 0, 1) := by decide +kernel
theorem dX12_field_1 : decode cX12_field 1 = .ok (.iconst 1, 1) := by decide +kernel
theorem dX12_field_2 : decode cX12_field 2 = .ok (.invokevirtual 475, 3) := by decide +kernel
theorem dX12_field_5 : decode cX12_field 5 = .ok (.ifCond .ne 5, 3) := by decide +kernel
theorem dX12_field_8 : decode cX12_field 8 = .ok (.iconst (-1), 1) := by decide +kernel
theorem dX12_field_9 : decode cX12_field 9 = .ok (.ireturn, 1) := by decide +kernel
theorem dX12_field_10 : decode cX12_field 10 = .ok (.aload_n 0, 1) := by decide +kernel
theorem dX12_field_11 : decode cX12_field 11 = .ok (.getfield 119, 3) := by decide +kernel
theorem dX12_field_14 : decode cX12_field 14 = .ok (.iconst 1, 1) := by decide +kernel
theorem dX12_field_15 : decode cX12_field 15 = .ok (.aload_n 0, 1) := by decide +kernel
theorem dX12_field_16 : decode cX12_field 16 = .ok (.getfield 119, 3) := by decide +kernel
theorem dX12_field_19 : decode cX12_field 19 = .ok (.iconst 0, 1) := by decide +kernel
theorem dX12_field_20 : decode cX12_field 20 = .ok (.iaload, 1) := by decide +kernel
theorem dX12_field_21 : decode cX12_field 21 = .ok (.iastore, 1) := by decide +kernel
theorem dX12_field_22 : decode cX12_field 22 = .ok (.aload_n 0, 1) := by decide +kernel
theorem dX12_field_23 : decode cX12_field 23 = .ok (.getfield 128, 3) := by decide +kernel
theorem dX12_field_26 : decode cX12_field 26 = .ok (.iconst 1, 1) := by decide +kernel
theorem dX12_field_27 : decode cX12_field 27 = .ok (.aload_n 0, 1) := by decide +kernel
theorem dX12_field_28 : decode cX12_field 28 = .ok (.getfield 128, 3) := by decide +kernel
theorem dX12_field_31 : decode cX12_field 31 = .ok (.iconst 0, 1) := by decide +kernel
theorem dX12_field_32 : decode cX12_field 32 = .ok (.iaload, 1) := by decide +kernel
theorem dX12_field_33 : decode cX12_field 33 = .ok (.iastore, 1) := by decide +kernel
theorem dX12_field_34 : decode cX12_field 34 = .ok (.iconst 0, 1) := by decide +kernel
theorem dX12_field_35 : decode cX12_field 35 = .ok (.istore_n 1, 1) := by decide +kernel
theorem dX12_field_36 : decode cX12_field 36 = .ok (.iload_n 1, 1) := by decide +kernel
theorem dX12_field_37 : decode cX12_field 37 = .ok (.aload_n 0, 1) := by decide +kernel
theorem dX12_field_38 : decode cX12_field 38 = .ok (.getfield 119, 3) := by decide +kernel
theorem dX12_field_41 : decode cX12_field 41 = .ok (.iconst 0, 1) := by decide +kernel
theorem dX12_field_42 : decode cX12_field 42 = .ok (.iaload, 1) := by decide +kernel
theorem dX12_field_43 : decode cX12_field 43 = .ok (.if_icmp .ge 37, 3) := by decide +kernel
theorem dX12_field_46 : decode cX12_field 46 = .ok (.aload_n 0, 1) := by decide +kernel
theorem dX12_field_47 : decode cX12_field 47 = .ok (.getfield 122, 3) := by decide +kernel
theorem dX12_field_50 : decode cX12_field 50 = .ok (.iconst 5, 1) := by decide +kernel
theorem dX12_field_51 : decode cX12_field 51 = .ok (.iload_n 1, 1) := by decide +kernel
theorem dX12_field_52 : decode cX12_field 52 = .ok (.iadd, 1) := by decide +kernel
theorem dX12_field_53 : decode cX12_field 53 = .ok (.aload_n 0, 1) := by decide +kernel
theorem dX12_field_54 : decode cX12_field 54 = .ok (.getfield 122, 3) := by decide +kernel
theorem dX12_field_57 : decode cX12_field 57 = .ok (.iload_n 1, 1) := by decide +kernel
theorem dX12_field_58 : decode cX12_field 58 = .ok (.laload, 1) := by decide +kernel
theorem dX12_field_59 : decode cX12_field 59 = .ok (.lastore, 1) := by decide +kernel
theorem dX12_field_60 : decode cX12_field 60 = .ok (.aload_n 0, 1) := by decide +kernel
theorem dX12_field_61 : decode cX12_field 61 = .ok (.getfield 125, 3) := by decide +kernel
theorem dX12_field_64 : decode cX12_field 64 = .ok (.iconst 5, 1) := by decide +kernel
theorem dX12_field_65 : decode cX12_field 65 = .ok (.iload_n 1, 1) := by decide +kernel
theorem dX12_field_66 : decode cX12_field 66 = .ok (.iadd, 1) := by decide +kernel
theorem dX12_field_67 : decode cX12_field 67 = .ok (.aload_n 0, 1) := by decide +kernel
theorem dX12_field_68 : decode cX12_field 68 = .ok (.getfield 125, 3) := by decide +kernel
theorem dX12_field_71 : decode cX12_field 71 = .ok (.iload_n 1, 1) := by decide +kernel
theorem dX12_field_72 : decode cX12_field 72 = .ok (.iaload, 1) := by decide +kernel
theorem dX12_field_73 : decode cX12_field 73 = .ok (.iastore, 1) := by decide +kernel
theorem dX12_field_74 : decode cX12_field 74 = .ok (.iinc 1 1, 3) := by decide +kernel
theorem dX12_field_77 : decode cX12_field 77 = .ok (.goto (-41), 3) := by decide +kernel
theorem dX12_field_80 : decode cX12_field 80 = .ok (.aload_n 0, 1) := by decide +kernel
theorem dX12_field_81 : decode cX12_field 81 = .ok (.iconst 0, 1) := by decide +kernel
theorem dX12_field_82 : decode cX12_field 82 = .ok (.putfield 452, 3) := by decide +kernel
theorem dX12_field_85 : decode cX12_field 85 = .ok (.aload_n 0, 1) := by decide +kernel
theorem dX12_field_86 : decode cX12_field 86 = .ok (.iconst 0, 1) := by decide +kernel
theorem dX12_field_87 : decode cX12_field 87 = .ok (.putfield 397, 3) := by decide +kernel
theorem dX12_field_90 : decode cX12_field 90 = .ok (.aload_n 0, 1) := by decide +kernel
theorem dX12_field_91 : decode cX12_field 91 = .ok (.getfield 131, 3) := by decide +kernel
theorem dX12_field_94 : decode cX12_field 94 = .ok (.iconst 1, 1) := by decide +kernel
theorem dX12_field_95 : decode cX12_field 95 = .ok (.iconst 0, 1) := by decide +kernel
theorem dX12_field_96 : decode cX12_field 96 = .ok (.iastore, 1) := by decide +kernel
theorem dX12_field_97 : decode cX12_field 97 = .ok (.aload_n 0, 1) := by decide +kernel
theorem dX12_field_98 : decode cX12_field 98 = .ok (.invokevirtual 478, 3) := by decide +kernel
theorem dX12_field_101 : decode cX12_field 101 = .ok (.aload_n 0, 1) := by decide +kernel
theorem dX12_field_102 : decode cX12_field 102 = .ok (.getfield 364, 3) := by decide +kernel
theorem dX12_field_105 : decode cX12_field 105 = .ok (.ireturn, 1) := by decide +kernel
set_option maxRecDepth 100000 in
theorem tb_X12_field_36 {g : GT} {n nf : Int} (hu : Up false nf n) (w36 : Mem → Int → Res) (hw36 : ∀ (M : Mem) (x1 : Int), AW g false RX12 cX12_field 2 (some .int) (12) n n nf 36 [(0, 2, 337), (1, 0, x1)] [] n M (w36 M x1)) (M : Mem) (x1 : Int) : AW g false RX12 cX12_field 2 (some .int) (12) n n nf 36 [(0, 2, 337), (1, 0, x1)] [] n M (b_X12_field_36 w36 M x1) := by
  unfold b_X12_field_36
  refine r_iload_n 1 dX12_field_36 rfl rfl ?_
  refine r_aload_n 0 dX12_field_37 rfl rfl ?_
  refine r_gx (kz := 47) rfl hu dX12_field_38 kF_X12_119 kd_337 rfl rfl rfl fx_337_47 ?_
  refine r_iconst dX12_field_41 ⟨by decide, by decide⟩ ?_
  refine r_iald hu dX12_field_42 kd_372 rfl (Or.inl rfl) rfl ln_372 ⟨by decide, by decide⟩ ?_
  refine r_icmp_ge (tgt := 80) dX12_field_43 rfl (fun h7 => ?_) (fun h8 => ?_)
  · refine r_aload_n 0 dX12_field_80 rfl rfl ?_
    refine r_iconst dX12_field_81 ⟨by decide, by decide⟩ ?_
    refine r_pf (t := 0) (kz := 79) rfl hu dX12_field_82 kF_X12_452 kd_337 rfl rfl rfl (fun h => absurd h (by decide)) rfl kX_12_79 (fun M9 eM9 => ?_)
    refine r_aload_n 0 dX12_field_85 rfl rfl ?_
    refine r_iconst dX12_field_86 ⟨by decide, by decide⟩ ?_
    refine r_pf (t := 0) (kz := 60) rfl hu dX12_field_87 kF_X12_397 kd_337 rfl rfl rfl (fun _ => Or.inl rfl) rfl kX_12_60 (fun M10 eM10 => ?_)
    refine r_aload_n 0 dX12_field_90 rfl rfl ?_
    refine r_gx (kz := 53) rfl hu dX12_field_91 kF_X12_131 kd_337 rfl rfl rfl fx_337_53 ?_
    refine r_iconst dX12_field_94 ⟨by decide, by decide⟩ ?_
    refine r_iconst dX12_field_95 ⟨by decide, by decide⟩ ?_
    refine r_iast hu dX12_field_96 kd_376 rfl (Or.inl rfl) rfl ln_376 ⟨by decide, by decide⟩ rfl (fun M11 eM11 => ?_)
    refine r_aload_n 0 dX12_field_97 rfl rfl ?_
    refine r_invv (a := 337) hu ⟨Nat.le_refl _, Nat.le_refl _⟩ dX12_field_98 kM_X12_478 (ci := 12) rfl kd_337 rfl rfl (by decide) (by decide) [] rfl (sk := []) rfl (Nat.le_of_ble_eq_true rfl) rfl (m_X12_tellsSight hu M11) (fun r12 M13 => ?_)
    refine r_aload_n 0 dX12_field_101 rfl rfl ?_
    refine r_gf (t := 0) (kz := 36) rfl hu dX12_field_102 kF_X12_364 kd_337 rfl rfl rfl ?_
    exact r_iret rfl rfl (Or.inl rfl) dX12_field_105
  · refine r_aload_n 0 dX12_field_46 rfl rfl ?_
    refine r_gx (kz := 48) rfl hu dX12_field_47 kF_X12_122 kd_337 rfl rfl rfl fx_337_48 ?_
    refine r_iconst dX12_field_50 ⟨by decide, by decide⟩ ?_
    refine r_iload_n 1 dX12_field_51 rfl rfl ?_
    refine r_ok (fun h14 => ?_)
    refine r_iadd dX12_field_52 h14 ?_
    refine r_aload_n 0 dX12_field_53 rfl rfl ?_
    refine r_gx (kz := 48) rfl hu dX12_field_54 kF_X12_122 kd_337 rfl rfl rfl fx_337_48 ?_
    refine r_iload_n 1 dX12_field_57 rfl rfl ?_
    refine r_ok (fun h15 => ?_)
    refine r_lald hu dX12_field_58 kd_373 rfl rfl rfl ln_373 h15 ?_
    refine r_ok (fun h16 => ?_)
    refine r_last hu dX12_field_59 kd_373 rfl rfl rfl ln_373 h16 rfl (fun M17 eM17 => ?_)
    refine r_aload_n 0 dX12_field_60 rfl rfl ?_
    refine r_gx (kz := 49) rfl hu dX12_field_61 kF_X12_125 kd_337 rfl rfl rfl fx_337_49 ?_
    refine r_iconst dX12_field_64 ⟨by decide, by decide⟩ ?_
    refine r_iload_n 1 dX12_field_65 rfl rfl ?_
    refine r_iadd dX12_field_66 h14 ?_
    refine r_aload_n 0 dX12_field_67 rfl rfl ?_
    refine r_gx (kz := 49) rfl hu dX12_field_68 kF_X12_125 kd_337 rfl rfl rfl fx_337_49 ?_
    refine r_iload_n 1 dX12_field_71 rfl rfl ?_
    refine r_iald hu dX12_field_72 kd_374 rfl (Or.inl rfl) rfl ln_374 h15 ?_
    refine r_iast hu dX12_field_73 kd_374 rfl (Or.inl rfl) rfl ln_374 h16 rfl (fun M18 eM18 => ?_)
    refine r_iincB 1 dX12_field_74 rfl ⟨by have := h15; omega, by have := h15; omega⟩ (by decide) (lf := fun y19 => [(1, 0, y19), (0, 2, 337)]) (fun _ => rfl) (fun y19 ey19 => ?_)
    refine r_goto (tgt := 36) dX12_field_77 rfl ?_
    refine r_sub [1, 0] (ls' := [(0, 2, 337), (1, 0, y19)]) rfl ?_
    exact hw36 M18 y19
set_option maxRecDepth 100000 in
theorem m_X12_field {g : GT} {n nf : Int} (hu : Up false nf n) (M : Mem) : AM g false yX12_field cX12_field 2 (some .int) (12) n n nf [(2, 337)] M (f_X12_field M) := by
  refine AM_of (by decide +kernel) (Nat.le_of_ble_eq_true rfl) (fun h => absurd h (Int.lt_irrefl n)) ?_
  show AW g false RX12 cX12_field 2 (some .int) (12) n n nf 0 [(0, 2, 337)] [] n M (f_X12_field M)
  unfold f_X12_field
  refine r_aload_n 0 dX12_field_0 rfl rfl ?_
  refine r_iconst dX12_field_1 ⟨by decide, by decide⟩ ?_
  refine r_inv (a := 337) hu ⟨Nat.le_refl _, Nat.le_refl _⟩ dX12_field_2 kM_X12_475 (ci := 12) rfl kd_337 rfl rfl (by decide) (by decide) [(0, 1)] rfl (sk := []) rfl (Nat.le_of_ble_eq_true rfl) rfl rfl (m_X12_reads hu M 1) (fun r1 M2 => ?_)
  refine r_if_ne (tgt := 10) dX12_field_5 rfl (fun h3 => ?_) (fun h4 => ?_)
  · refine r_iconst dX12_field_8 ⟨by decide, by decide⟩ ?_
    exact r_iret rfl rfl (Or.inl rfl) dX12_field_9
  · refine r_aload_n 0 dX12_field_10 rfl rfl ?_
    refine r_gx (kz := 47) rfl hu dX12_field_11 kF_X12_119 kd_337 rfl rfl rfl fx_337_47 ?_
    refine r_iconst dX12_field_14 ⟨by decide, by decide⟩ ?_
    refine r_aload_n 0 dX12_field_15 rfl rfl ?_
    refine r_gx (kz := 47) rfl hu dX12_field_16 kF_X12_119 kd_337 rfl rfl rfl fx_337_47 ?_
    refine r_iconst dX12_field_19 ⟨by decide, by decide⟩ ?_
    refine r_iald hu dX12_field_20 kd_372 rfl (Or.inl rfl) rfl ln_372 ⟨by decide, by decide⟩ ?_
    refine r_iast hu dX12_field_21 kd_372 rfl (Or.inl rfl) rfl ln_372 ⟨by decide, by decide⟩ rfl (fun M5 eM5 => ?_)
    refine r_aload_n 0 dX12_field_22 rfl rfl ?_
    refine r_gx (kz := 50) rfl hu dX12_field_23 kF_X12_128 kd_337 rfl rfl rfl fx_337_50 ?_
    refine r_iconst dX12_field_26 ⟨by decide, by decide⟩ ?_
    refine r_aload_n 0 dX12_field_27 rfl rfl ?_
    refine r_gx (kz := 50) rfl hu dX12_field_28 kF_X12_128 kd_337 rfl rfl rfl fx_337_50 ?_
    refine r_iconst dX12_field_31 ⟨by decide, by decide⟩ ?_
    refine r_iald hu dX12_field_32 kd_375 rfl (Or.inl rfl) rfl ln_375 ⟨by decide, by decide⟩ ?_
    refine r_iast hu dX12_field_33 kd_375 rfl (Or.inl rfl) rfl ln_375 ⟨by decide, by decide⟩ rfl (fun M6 eM6 => ?_)
    refine r_iconst dX12_field_34 ⟨by decide, by decide⟩ ?_
    refine r_istore_n dX12_field_35 rfl (by decide) (ls' := [(1, 0, 0), (0, 2, 337)]) rfl ?_
    refine r_sub [1, 0] (ls' := [(0, 2, 337), (1, 0, 0)]) rfl ?_
    exact wl1_aw (P := fun M x1 o => AW g false RX12 cX12_field 2 (some .int) (12) n n nf 36 [(0, 2, 337), (1, 0, x1)] [] n M (o)) (fun M x1 => aw_none) (fun w hw M x1 => tb_X12_field_36 hu w hw M x1) FU M6 0
theorem dX12_law_0 : decode cX12_law 0 = .ok (.iload_n 1, 1) := by decide +kernel
theorem dX12_law_1 : decode cX12_law 1 = .ok (.i2l, 1) := by decide +kernel
theorem dX12_law_2 : decode cX12_law 2 = .ok (.lconst 0, 1) := by decide +kernel
theorem dX12_law_3 : decode cX12_law 3 = .ok (.ldc2_w 481, 3) := by decide +kernel
theorem dX12_law_6 : decode cX12_law 6 = .ok (.invokestatic 267, 3) := by decide +kernel
theorem dX12_law_9 : decode cX12_law 9 = .ok (.ifCond .ne 11, 3) := by decide +kernel
theorem dX12_law_12 : decode cX12_law 12 = .ok (.aload_n 0, 1) := by decide +kernel
theorem dX12_law_13 : decode cX12_law 13 = .ok (.iconst 0, 1) := by decide +kernel
theorem dX12_law_14 : decode cX12_law 14 = .ok (.putfield 224, 3) := by decide +kernel
theorem dX12_law_17 : decode cX12_law 17 = .ok (.bipush (-2), 2) := by decide +kernel
theorem dX12_law_19 : decode cX12_law 19 = .ok (.ireturn, 1) := by decide +kernel
theorem dX12_law_20 : decode cX12_law 20 = .ok (.aload_n 0, 1) := by decide +kernel
theorem dX12_law_21 : decode cX12_law 21 = .ok (.iconst 2, 1) := by decide +kernel
theorem dX12_law_22 : decode cX12_law 22 = .ok (.iload_n 1, 1) := by decide +kernel
theorem dX12_law_23 : decode cX12_law 23 = .ok (.iadd, 1) := by decide +kernel
theorem dX12_law_24 : decode cX12_law 24 = .ok (.invokevirtual 475, 3) := by decide +kernel
theorem dX12_law_27 : decode cX12_law 27 = .ok (.ifCond .ne 5, 3) := by decide +kernel
theorem dX12_law_30 : decode cX12_law 30 = .ok (.iconst (-1), 1) := by decide +kernel
theorem dX12_law_31 : decode cX12_law 31 = .ok (.ireturn, 1) := by decide +kernel
theorem dX12_law_32 : decode cX12_law 32 = .ok (.aload_n 0, 1) := by decide +kernel
theorem dX12_law_33 : decode cX12_law 33 = .ok (.getfield 161, 3) := by decide +kernel
theorem dX12_law_36 : decode cX12_law 36 = .ok (.iload_n 1, 1) := by decide +kernel
theorem dX12_law_37 : decode cX12_law 37 = .ok (.iconst 1, 1) := by decide +kernel
theorem dX12_law_38 : decode cX12_law 38 = .ok (.bastore, 1) := by decide +kernel
theorem dX12_law_39 : decode cX12_law 39 = .ok (.aload_n 0, 1) := by decide +kernel
theorem dX12_law_40 : decode cX12_law 40 = .ok (.getfield 364, 3) := by decide +kernel
theorem dX12_law_43 : decode cX12_law 43 = .ok (.ireturn, 1) := by decide +kernel
set_option maxRecDepth 100000 in
theorem m_X12_law {g : GT} {n nf : Int} (hu : Up false nf n) (M : Mem) (a1 : Int) : AM g false yX12_law cX12_law 2 (some .int) (12) n n nf [(2, 337), (0, a1)] M (f_X12_law M a1) := by
  refine AM_of (by decide +kernel) (Nat.le_of_ble_eq_true rfl) (fun h => absurd h (Int.lt_irrefl n)) ?_
  show AW g false RX12 cX12_law 2 (some .int) (12) n n nf 0 [(0, 2, 337), (1, 0, a1)] [] n M (f_X12_law M a1)
  unfold f_X12_law
  refine r_iload_n 1 dX12_law_0 rfl rfl ?_
  refine r_i2l dX12_law_1 ?_
  refine r_lconst (v := 0) dX12_law_2 (by decide) ⟨by decide, by decide⟩ ?_
  refine r_ldc2 (v := 2) dX12_law_3 kC_X12_481 rfl ⟨by decide, by decide⟩ ?_
  refine r_ins (a := 0) ⟨Nat.le_refl _, Nat.le_refl _⟩ dX12_law_6 kM_X12_267 (by decide) (by decide) [(1, a1), (1, 0), (1, 2)] rfl (sk := []) rfl (Nat.le_of_ble_eq_true rfl) rfl rfl (m_X12_isIn hu M a1 0 2) (fun r1 M2 => ?_)
  refine r_if_ne (tgt := 20) dX12_law_9 rfl (fun h3 => ?_) (fun h4 => ?_)
  · refine r_aload_n 0 dX12_law_12 rfl rfl ?_
    refine r_iconst dX12_law_13 ⟨by decide, by decide⟩ ?_
    refine r_pf (t := 0) (kz := 1) rfl hu dX12_law_14 kF_X12_224 kd_337 rfl rfl rfl (fun h => absurd h (by decide)) rfl kX_12_1 (fun M5 eM5 => ?_)
    refine r_bipush dX12_law_17 (by decide) ⟨by decide, by decide⟩ ?_
    exact r_iret rfl rfl (Or.inl rfl) dX12_law_19
  · refine r_aload_n 0 dX12_law_20 rfl rfl ?_
    refine r_iconst dX12_law_21 ⟨by decide, by decide⟩ ?_
    refine r_iload_n 1 dX12_law_22 rfl rfl ?_
    refine r_ok (fun h6 => ?_)
    refine r_iadd dX12_law_23 h6 ?_
    refine r_inv (a := 337) hu ⟨Nat.le_refl _, Nat.le_refl _⟩ dX12_law_24 kM_X12_475 (ci := 12) rfl kd_337 rfl rfl (by decide) (by decide) [(0, 2 + a1)] rfl (sk := []) rfl (Nat.le_of_ble_eq_true rfl) rfl rfl (m_X12_reads hu M2 (2 + a1)) (fun r7 M8 => ?_)
    refine r_if_ne (tgt := 32) dX12_law_27 rfl (fun h9 => ?_) (fun h10 => ?_)
    · refine r_iconst dX12_law_30 ⟨by decide, by decide⟩ ?_
      exact r_iret rfl rfl (Or.inl rfl) dX12_law_31
    · refine r_aload_n 0 dX12_law_32 rfl rfl ?_
      refine r_gx (kz := 65) rfl hu dX12_law_33 kF_X12_161 kd_337 rfl rfl rfl fx_337_65 ?_
      refine r_iload_n 1 dX12_law_36 rfl rfl ?_
      refine r_iconst dX12_law_37 ⟨by decide, by decide⟩ ?_
      refine r_ok (fun h11 => ?_)
      refine r_zast hu dX12_law_38 kd_386 rfl rfl rfl ln_386 h11 (Or.inr rfl) rfl (fun M12 eM12 => ?_)
      refine r_aload_n 0 dX12_law_39 rfl rfl ?_
      refine r_gf (t := 0) (kz := 36) rfl hu dX12_law_40 kF_X12_364 kd_337 rfl rfl rfl ?_
      exact r_iret rfl rfl (Or.inl rfl) dX12_law_43
theorem dX12_fault_0 : decode cX12_fault 0 = .ok (.iload_n 1, 1) := by decide +kernel
theorem dX12_fault_1 : decode cX12_fault 1 = .ok (.ifCond .ne 10, 3) := by decide +kernel
theorem dX12_fault_4 : decode cX12_fault 4 = .ok (.aload_n 0, 1) := by decide +kernel
theorem dX12_fault_5 : decode cX12_fault 5 = .ok (.getfield 394, 3) := by decide +kernel
theorem dX12_fault_8 : decode cX12_fault 8 = .ok (.goto 16, 3) := by decide +kernel
theorem dX12_fault_11 : decode cX12_fault 11 = .ok (.iload_n 1, 1) := by decide +kernel
theorem dX12_fault_12 : decode cX12_fault 12 = .ok (.iconst 1, 1) := by decide +kernel
theorem dX12_fault_13 : decode cX12_fault 13 = .ok (.if_icmp .ne 10, 3) := by decide +kernel
theorem dX12_fault_16 : decode cX12_fault 16 = .ok (.aload_n 0, 1) := by decide +kernel
theorem dX12_fault_17 : decode cX12_fault 17 = .ok (.getfield 13, 3) := by decide +kernel
theorem dX12_fault_20 : decode cX12_fault 20 = .ok (.goto 4, 3) := by decide +kernel
theorem dX12_fault_23 : decode cX12_fault 23 = .ok (.iconst (-1), 1) := by decide +kernel
theorem dX12_fault_24 : decode cX12_fault 24 = .ok (.ireturn, 1) := by decide +kernel
set_option maxRecDepth 100000 in
theorem m_X12_fault {g : GT} {n nf : Int} (hu : Up false nf n) (M : Mem) (a1 : Int) : AM g false yX12_fault cX12_fault 2 (some .int) (0) n n nf [(2, 337), (0, a1)] M (f_X12_fault M a1) := by
  refine AM_of (by decide +kernel) (Nat.le_of_ble_eq_true rfl) (fun h => absurd h (Int.lt_irrefl n)) ?_
  show AW g false RX12 cX12_fault 2 (some .int) (0) n n nf 0 [(0, 2, 337), (1, 0, a1)] [] n M (f_X12_fault M a1)
  unfold f_X12_fault
  refine r_iload_n 1 dX12_fault_0 rfl rfl ?_
  refine r_if_ne (tgt := 11) dX12_fault_1 rfl (fun h1 => ?_) (fun h2 => ?_)
  · refine r_aload_n 0 dX12_fault_4 rfl rfl ?_
    refine r_gf (t := 0) (kz := 7) rfl hu dX12_fault_5 kF_X12_394 kd_337 rfl rfl rfl ?_
    refine r_goto (tgt := 24) dX12_fault_8 rfl ?_
    exact r_iret rfl rfl (Or.inl rfl) dX12_fault_24
  · refine r_iload_n 1 dX12_fault_11 rfl rfl ?_
    refine r_iconst dX12_fault_12 ⟨by decide, by decide⟩ ?_
    refine r_icmp_ne (tgt := 23) dX12_fault_13 rfl (fun h3 => ?_) (fun h4 => ?_)
    · refine r_aload_n 0 dX12_fault_16 rfl rfl ?_
      refine r_gf (t := 0) (kz := 8) rfl hu dX12_fault_17 kF_X12_13 kd_337 rfl rfl rfl ?_
      refine r_goto (tgt := 24) dX12_fault_20 rfl ?_
      exact r_iret rfl rfl (Or.inl rfl) dX12_fault_24
    · refine r_iconst dX12_fault_23 ⟨by decide, by decide⟩ ?_
      exact r_iret rfl rfl (Or.inl rfl) dX12_fault_24
theorem dX12_isThing_0 : decode cX12_isThing 0 = .ok (.iload_n 1, 1) := by decide +kernel
theorem dX12_isThing_1 : decode cX12_isThing 1 = .ok (.i2l, 1) := by decide +kernel
theorem dX12_isThing_2 : decode cX12_isThing 2 = .ok (.lconst 0, 1) := by decide +kernel
theorem dX12_isThing_3 : decode cX12_isThing 3 = .ok (.aload_n 0, 1) := by decide +kernel
theorem dX12_isThing_4 : decode cX12_isThing 4 = .ok (.getfield 119, 3) := by decide +kernel
theorem dX12_isThing_7 : decode cX12_isThing 7 = .ok (.iconst 1, 1) := by decide +kernel
theorem dX12_isThing_8 : decode cX12_isThing 8 = .ok (.iaload, 1) := by decide +kernel
theorem dX12_isThing_9 : decode cX12_isThing 9 = .ok (.iconst 1, 1) := by decide +kernel
theorem dX12_isThing_10 : decode cX12_isThing 10 = .ok (.isub, 1) := by decide +kernel
theorem dX12_isThing_11 : decode cX12_isThing 11 = .ok (.i2l, 1) := by decide +kernel
theorem dX12_isThing_12 : decode cX12_isThing 12 = .ok (.invokestatic 267, 3) := by decide +kernel
theorem dX12_isThing_15 : decode cX12_isThing 15 = .ok (.ireturn, 1) := by decide +kernel
set_option maxRecDepth 100000 in
theorem m_X12_isThing {g : GT} {n nf : Int} (hu : Up false nf n) (M : Mem) (a1 : Int) : AM g false yX12_isThing cX12_isThing 2 (some .boolean) (1) n n nf [(2, 337), (0, a1)] M (f_X12_isThing M a1) := by
  refine AM_of (by decide +kernel) (Nat.le_of_ble_eq_true rfl) (fun h => absurd h (Int.lt_irrefl n)) ?_
  show AW g false RX12 cX12_isThing 2 (some .boolean) (1) n n nf 0 [(0, 2, 337), (1, 0, a1)] [] n M (f_X12_isThing M a1)
  unfold f_X12_isThing
  refine r_iload_n 1 dX12_isThing_0 rfl rfl ?_
  refine r_i2l dX12_isThing_1 ?_
  refine r_lconst (v := 0) dX12_isThing_2 (by decide) ⟨by decide, by decide⟩ ?_
  refine r_aload_n 0 dX12_isThing_3 rfl rfl ?_
  refine r_gx (kz := 47) rfl hu dX12_isThing_4 kF_X12_119 kd_337 rfl rfl rfl fx_337_47 ?_
  refine r_iconst dX12_isThing_7 ⟨by decide, by decide⟩ ?_
  refine r_iald hu dX12_isThing_8 kd_372 rfl (Or.inl rfl) rfl ln_372 ⟨by decide, by decide⟩ ?_
  refine r_iconst dX12_isThing_9 ⟨by decide, by decide⟩ ?_
  refine r_ok (fun h1 => ?_)
  refine r_isub dX12_isThing_10 h1 ?_
  refine r_i2l dX12_isThing_11 ?_
  refine r_ins (a := 0) ⟨Nat.le_refl _, Nat.le_refl _⟩ dX12_isThing_12 kM_X12_267 (by decide) (by decide) [(1, a1), (1, 0), (1, (M 372 1) - 1)] rfl (sk := []) rfl (Nat.le_of_ble_eq_true rfl) rfl rfl (m_X12_isIn hu M a1 0 ((M 372 1) - 1)) (fun r2 M3 => ?_)
  refine r_ok (fun h4 => ?_)
  exact r_iret rfl rfl (Or.inr ⟨rfl, h4⟩) dX12_isThing_15
theorem dX12_isSquare_0 : decode cX12_isSquare 0 = .ok (.iload_n 0, 1) := by decide +kernel
theorem dX12_isSquare_1 : decode cX12_isSquare 1 = .ok (.i2l, 1) := by decide +kernel
theorem dX12_isSquare_2 : decode cX12_isSquare 2 = .ok (.lconst 0, 1) := by decide +kernel
theorem dX12_isSquare_3 : decode cX12_isSquare 3 = .ok (.ldc2_w 483, 3) := by decide +kernel
theorem dX12_isSquare_6 : decode cX12_isSquare 6 = .ok (.invokestatic 267, 3) := by decide +kernel
theorem dX12_isSquare_9 : decode cX12_isSquare 9 = .ok (.ifCond .eq 19, 3) := by decide +kernel
theorem dX12_isSquare_12 : decode cX12_isSquare 12 = .ok (.iload_n 1, 1) := by decide +kernel
theorem dX12_isSquare_13 : decode cX12_isSquare 13 = .ok (.i2l, 1) := by decide +kernel
theorem dX12_isSquare_14 : decode cX12_isSquare 14 = .ok (.lconst 0, 1) := by decide +kernel
theorem dX12_isSquare_15 : decode cX12_isSquare 15 = .ok (.ldc2_w 485, 3) := by decide +kernel
theorem dX12_isSquare_18 : decode cX12_isSquare 18 = .ok (.invokestatic 267, 3) := by decide +kernel
theorem dX12_isSquare_21 : decode cX12_isSquare 21 = .ok (.ifCond .eq 7, 3) := by decide +kernel
theorem dX12_isSquare_24 : decode cX12_isSquare 24 = .ok (.iconst 1, 1) := by decide +kernel
theorem dX12_isSquare_25 : decode cX12_isSquare 25 = .ok (.goto 4, 3) := by decide +kernel
theorem dX12_isSquare_28 : decode cX12_isSquare 28 = .ok (.iconst 0, 1) := by decide +kernel
theorem dX12_isSquare_29 : decode cX12_isSquare 29 = .ok (.ireturn, 1) := by decide +kernel
set_option maxRecDepth 100000 in
theorem m_X12_isSquare {g : GT} {n nf : Int} (hu : Up false nf n) (M : Mem) (a0 a1 : Int) : AM g false yX12_isSquare cX12_isSquare 2 (some .boolean) (1) n n nf [(0, a0), (0, a1)] M (f_X12_isSquare M a0 a1) := by
  refine AM_of (by decide +kernel) (Nat.le_of_ble_eq_true rfl) (fun h => absurd h (Int.lt_irrefl n)) ?_
  show AW g false RX12 cX12_isSquare 2 (some .boolean) (1) n n nf 0 [(0, 0, a0), (1, 0, a1)] [] n M (f_X12_isSquare M a0 a1)
  unfold f_X12_isSquare
  refine r_iload_n 0 dX12_isSquare_0 rfl rfl ?_
  refine r_i2l dX12_isSquare_1 ?_
  refine r_lconst (v := 0) dX12_isSquare_2 (by decide) ⟨by decide, by decide⟩ ?_
  refine r_ldc2 (v := 11) dX12_isSquare_3 kC_X12_483 rfl ⟨by decide, by decide⟩ ?_
  refine r_ins (a := 0) ⟨Nat.le_refl _, Nat.le_refl _⟩ dX12_isSquare_6 kM_X12_267 (by decide) (by decide) [(1, a0), (1, 0), (1, 11)] rfl (sk := []) rfl (Nat.le_of_ble_eq_true rfl) rfl rfl (m_X12_isIn hu M a0 0 11) (fun r1 M2 => ?_)
  refine r_if_eq (tgt := 28) dX12_isSquare_9 rfl (fun h3 => ?_) (fun h4 => ?_)
  · refine r_iconst dX12_isSquare_28 ⟨by decide, by decide⟩ ?_
    exact r_iret rfl rfl (Or.inr ⟨rfl, Or.inl rfl⟩) dX12_isSquare_29
  · refine r_iload_n 1 dX12_isSquare_12 rfl rfl ?_
    refine r_i2l dX12_isSquare_13 ?_
    refine r_lconst (v := 0) dX12_isSquare_14 (by decide) ⟨by decide, by decide⟩ ?_
    refine r_ldc2 (v := 7) dX12_isSquare_15 kC_X12_485 rfl ⟨by decide, by decide⟩ ?_
    refine r_ins (a := 0) ⟨Nat.le_refl _, Nat.le_refl _⟩ dX12_isSquare_18 kM_X12_267 (by decide) (by decide) [(1, a1), (1, 0), (1, 7)] rfl (sk := []) rfl (Nat.le_of_ble_eq_true rfl) rfl rfl (m_X12_isIn hu M2 a1 0 7) (fun r5 M6 => ?_)
    refine r_if_eq (tgt := 28) dX12_isSquare_21 rfl (fun h7 => ?_) (fun h8 => ?_)
    · refine r_iconst dX12_isSquare_28 ⟨by decide, by decide⟩ ?_
      exact r_iret rfl rfl (Or.inr ⟨rfl, Or.inl rfl⟩) dX12_isSquare_29
    · refine r_iconst dX12_isSquare_24 ⟨by decide, by decide⟩ ?_
      refine r_goto (tgt := 29) dX12_isSquare_25 rfl ?_
      exact r_iret rfl rfl (Or.inr ⟨rfl, Or.inr rfl⟩) dX12_isSquare_29
theorem dX12_has_0 : decode cX12_has 0 = .ok (.iconst 0, 1) := by decide +kernel
theorem dX12_has_1 : decode cX12_has 1 = .ok (.istore_n 2, 1) := by decide +kernel
theorem dX12_has_2 : decode cX12_has 2 = .ok (.iload_n 1, 1) := by decide +kernel
theorem dX12_has_3 : decode cX12_has 3 = .ok (.tableswitch 185 0 9 #[53, 60, 87, 92, 120, 148, 155, 155, 155, 180], 53) := by decide +kernel
theorem dX12_has_56 : decode cX12_has 56 = .ok (.aload_n 0, 1) := by decide +kernel
theorem dX12_has_57 : decode cX12_has 57 = .ok (.getfield 119, 3) := by decide +kernel
theorem dX12_has_60 : decode cX12_has 60 = .ok (.iconst 1, 1) := by decide +kernel
theorem dX12_has_61 : decode cX12_has 61 = .ok (.iaload, 1) := by decide +kernel
theorem dX12_has_62 : decode cX12_has 62 = .ok (.ireturn, 1) := by decide +kernel
theorem dX12_has_63 : decode cX12_has 63 = .ok (.iconst 0, 1) := by decide +kernel
theorem dX12_has_64 : decode cX12_has 64 = .ok (.istore_n 3, 1) := by decide +kernel
theorem dX12_has_65 : decode cX12_has 65 = .ok (.iload_n 3, 1) := by decide +kernel
theorem dX12_has_66 : decode cX12_has 66 = .ok (.iconst 3, 1) := by decide +kernel
theorem dX12_has_67 : decode cX12_has 67 = .ok (.if_icmp .ge 21, 3) := by decide +kernel
theorem dX12_has_70 : decode cX12_has 70 = .ok (.aload_n 0, 1) := by decide +kernel
theorem dX12_has_71 : decode cX12_has 71 = .ok (.getfield 161, 3) := by decide +kernel
theorem dX12_has_74 : decode cX12_has 74 = .ok (.iload_n 3, 1) := by decide +kernel
theorem dX12_has_75 : decode cX12_has 75 = .ok (.baload, 1) := by decide +kernel
theorem dX12_has_76 : decode cX12_has 76 = .ok (.ifCond .eq 6, 3) := by decide +kernel
theorem dX12_has_79 : decode cX12_has 79 = .ok (.iinc 2 1, 3) := by decide +kernel
theorem dX12_has_82 : decode cX12_has 82 = .ok (.iinc 3 1, 3) := by decide +kernel
theorem dX12_has_85 : decode cX12_has 85 = .ok (.goto (-20), 3) := by decide +kernel
theorem dX12_has_88 : decode cX12_has 88 = .ok (.iload_n 2, 1) := by decide +kernel
theorem dX12_has_89 : decode cX12_has 89 = .ok (.ireturn, 1) := by decide +kernel
theorem dX12_has_90 : decode cX12_has 90 = .ok (.aload_n 0, 1) := by decide +kernel
theorem dX12_has_91 : decode cX12_has 91 = .ok (.getfield 452, 3) := by decide +kernel
theorem dX12_has_94 : decode cX12_has 94 = .ok (.ireturn, 1) := by decide +kernel
theorem dX12_has_95 : decode cX12_has 95 = .ok (.iconst 0, 1) := by decide +kernel
theorem dX12_has_96 : decode cX12_has 96 = .ok (.istore_n 3, 1) := by decide +kernel
theorem dX12_has_97 : decode cX12_has 97 = .ok (.iload_n 3, 1) := by decide +kernel
theorem dX12_has_98 : decode cX12_has 98 = .ok (.bipush 96, 2) := by decide +kernel
theorem dX12_has_100 : decode cX12_has 100 = .ok (.if_icmp .ge 21, 3) := by decide +kernel
theorem dX12_has_103 : decode cX12_has 103 = .ok (.aload_n 0, 1) := by decide +kernel
theorem dX12_has_104 : decode cX12_has 104 = .ok (.getfield 212, 3) := by decide +kernel
theorem dX12_has_107 : decode cX12_has 107 = .ok (.iload_n 3, 1) := by decide +kernel
theorem dX12_has_108 : decode cX12_has 108 = .ok (.baload, 1) := by decide +kernel
theorem dX12_has_109 : decode cX12_has 109 = .ok (.ifCond .eq 6, 3) := by decide +kernel
theorem dX12_has_112 : decode cX12_has 112 = .ok (.iinc 2 1, 3) := by decide +kernel
theorem dX12_has_115 : decode cX12_has 115 = .ok (.iinc 3 1, 3) := by decide +kernel
theorem dX12_has_118 : decode cX12_has 118 = .ok (.goto (-21), 3) := by decide +kernel
theorem dX12_has_121 : decode cX12_has 121 = .ok (.iload_n 2, 1) := by decide +kernel
theorem dX12_has_122 : decode cX12_has 122 = .ok (.ireturn, 1) := by decide +kernel
theorem dX12_has_123 : decode cX12_has 123 = .ok (.iconst 0, 1) := by decide +kernel
theorem dX12_has_124 : decode cX12_has 124 = .ok (.istore_n 3, 1) := by decide +kernel
theorem dX12_has_125 : decode cX12_has 125 = .ok (.iload_n 3, 1) := by decide +kernel
theorem dX12_has_126 : decode cX12_has 126 = .ok (.bipush 96, 2) := by decide +kernel
theorem dX12_has_128 : decode cX12_has 128 = .ok (.if_icmp .ge 21, 3) := by decide +kernel
theorem dX12_has_131 : decode cX12_has 131 = .ok (.aload_n 0, 1) := by decide +kernel
theorem dX12_has_132 : decode cX12_has 132 = .ok (.getfield 167, 3) := by decide +kernel
theorem dX12_has_135 : decode cX12_has 135 = .ok (.iload_n 3, 1) := by decide +kernel
theorem dX12_has_136 : decode cX12_has 136 = .ok (.iaload, 1) := by decide +kernel
theorem dX12_has_137 : decode cX12_has 137 = .ok (.ifCond .le 6, 3) := by decide +kernel
theorem dX12_has_140 : decode cX12_has 140 = .ok (.iinc 2 1, 3) := by decide +kernel
theorem dX12_has_143 : decode cX12_has 143 = .ok (.iinc 3 1, 3) := by decide +kernel
theorem dX12_has_146 : decode cX12_has 146 = .ok (.goto (-21), 3) := by decide +kernel
theorem dX12_has_149 : decode cX12_has 149 = .ok (.iload_n 2, 1) := by decide +kernel
theorem dX12_has_150 : decode cX12_has 150 = .ok (.ireturn, 1) := by decide +kernel
theorem dX12_has_151 : decode cX12_has 151 = .ok (.aload_n 0, 1) := by decide +kernel
theorem dX12_has_152 : decode cX12_has 152 = .ok (.getfield 128, 3) := by decide +kernel
theorem dX12_has_155 : decode cX12_has 155 = .ok (.iconst 1, 1) := by decide +kernel
theorem dX12_has_156 : decode cX12_has 156 = .ok (.iaload, 1) := by decide +kernel
theorem dX12_has_157 : decode cX12_has 157 = .ok (.ireturn, 1) := by decide +kernel
theorem dX12_has_158 : decode cX12_has 158 = .ok (.aload_n 0, 1) := by decide +kernel
theorem dX12_has_159 : decode cX12_has 159 = .ok (.getfield 161, 3) := by decide +kernel
theorem dX12_has_162 : decode cX12_has 162 = .ok (.iload_n 1, 1) := by decide +kernel
theorem dX12_has_163 : decode cX12_has 163 = .ok (.bipush 6, 2) := by decide +kernel
theorem dX12_has_165 : decode cX12_has 165 = .ok (.isub, 1) := by decide +kernel
theorem dX12_has_166 : decode cX12_has 166 = .ok (.baload, 1) := by decide +kernel
theorem dX12_has_167 : decode cX12_has 167 = .ok (.ifCond .eq 14, 3) := by decide +kernel
theorem dX12_has_170 : decode cX12_has 170 = .ok (.aload_n 0, 1) := by decide +kernel
theorem dX12_has_171 : decode cX12_has 171 = .ok (.getfield 99, 3) := by decide +kernel
theorem dX12_has_174 : decode cX12_has 174 = .ok (.iload_n 1, 1) := by decide +kernel
theorem dX12_has_175 : decode cX12_has 175 = .ok (.iconst 4, 1) := by decide +kernel
theorem dX12_has_176 : decode cX12_has 176 = .ok (.isub, 1) := by decide +kernel
theorem dX12_has_177 : decode cX12_has 177 = .ok (.iaload, 1) := by decide +kernel
theorem dX12_has_178 : decode cX12_has 178 = .ok (.goto 4, 3) := by decide +kernel
theorem dX12_has_181 : decode cX12_has 181 = .ok (.iconst 0, 1) := by decide +kernel
theorem dX12_has_182 : decode cX12_has 182 = .ok (.ireturn, 1) := by decide +kernel
theorem dX12_has_183 : decode cX12_has 183 = .ok (.aload_n 0, 1) := by decide +kernel
theorem dX12_has_184 : decode cX12_has 184 = .ok (.invokevirtual 462, 3) := by decide +kernel
theorem dX12_has_187 : decode cX12_has 187 = .ok (.ireturn, 1) := by decide +kernel
theorem dX12_has_188 : decode cX12_has 188 = .ok (.iconst (-1), 1) := by decide +kernel
theorem dX12_has_189 : decode cX12_has 189 = .ok (.ireturn, 1) := by decide +kernel
set_option maxRecDepth 100000 in
theorem tb_X12_has_65 {g : GT} {n nf : Int} (hu : Up false nf n) (w65 : Mem → Int → Int → Res) (hw65 : ∀ (M : Mem) (x2 x3 : Int), AW g false RX12 cX12_has 4 (some .int) (2) n n nf 65 [(0, 2, 337), (2, 0, x2), (3, 0, x3)] [] n M (w65 M x2 x3)) (M : Mem) (x2 x3 : Int) : AW g false RX12 cX12_has 4 (some .int) (2) n n nf 65 [(0, 2, 337), (2, 0, x2), (3, 0, x3)] [] n M (b_X12_has_65 w65 M x2 x3) := by
  unfold b_X12_has_65
  refine r_iload_n 2 dX12_has_65 rfl rfl ?_
  refine r_iconst dX12_has_66 ⟨by decide, by decide⟩ ?_
  refine r_icmp_ge (tgt := 88) dX12_has_67 rfl (fun h5 => ?_) (fun h6 => ?_)
  · refine r_iload_n 1 dX12_has_88 rfl rfl ?_
    exact r_iret rfl rfl (Or.inl rfl) dX12_has_89
  · refine r_aload_n 0 dX12_has_70 rfl rfl ?_
    refine r_gx (kz := 65) rfl hu dX12_has_71 kF_X12_161 kd_337 rfl rfl rfl fx_337_65 ?_
    refine r_iload_n 2 dX12_has_74 rfl rfl ?_
    refine r_ok (fun h7 => ?_)
    refine r_zald hu dX12_has_75 kd_386 rfl rfl rfl ln_386 h7 ?_
    refine r_if_eq (tgt := 82) dX12_has_76 rfl (fun h8 => ?_) (fun h9 => ?_)
    · refine r_iincB 2 dX12_has_82 rfl ⟨by have := h7; omega, by have := h7; omega⟩ (by decide) (lf := fun y10 => [(3, 0, y10), (0, 2, 337), (2, 0, x2)]) (fun _ => rfl) (fun y10 ey10 => ?_)
      refine r_goto (tgt := 65) dX12_has_85 rfl ?_
      refine r_sub [1, 2, 0] (ls' := [(0, 2, 337), (2, 0, x2), (3, 0, y10)]) rfl ?_
      exact hw65 M x2 y10
    · refine r_ok (fun h11 => ?_)
      refine r_iincB 1 dX12_has_79 rfl h11 (by decide) (lf := fun y12 => [(2, 0, y12), (0, 2, 337), (3, 0, x3)]) (fun _ => rfl) (fun y12 ey12 => ?_)
      refine r_iincB 2 dX12_has_82 rfl ⟨by have := h7; omega, by have := h7; omega⟩ (by decide) (lf := fun y13 => [(3, 0, y13), (2, 0, y12), (0, 2, 337)]) (fun _ => rfl) (fun y13 ey13 => ?_)
      refine r_goto (tgt := 65) dX12_has_85 rfl ?_
      refine r_sub [2, 1, 0] (ls' := [(0, 2, 337), (2, 0, y12), (3, 0, y13)]) rfl ?_
      exact hw65 M y12 y13
set_option maxRecDepth 100000 in
theorem tb_X12_has_97 {g : GT} {n nf : Int} (hu : Up false nf n) (w97 : Mem → Int → Int → Res) (hw97 : ∀ (M : Mem) (x2 x3 : Int), AW g false RX12 cX12_has 4 (some .int) (2) n n nf 97 [(0, 2, 337), (2, 0, x2), (3, 0, x3)] [] n M (w97 M x2 x3)) (M : Mem) (x2 x3 : Int) : AW g false RX12 cX12_has 4 (some .int) (2) n n nf 97 [(0, 2, 337), (2, 0, x2), (3, 0, x3)] [] n M (b_X12_has_97 w97 M x2 x3) := by
  unfold b_X12_has_97
  refine r_iload_n 2 dX12_has_97 rfl rfl ?_
  refine r_bipush dX12_has_98 (by decide) ⟨by decide, by decide⟩ ?_
  refine r_icmp_ge (tgt := 121) dX12_has_100 rfl (fun h18 => ?_) (fun h19 => ?_)
  · refine r_iload_n 1 dX12_has_121 rfl rfl ?_
    exact r_iret rfl rfl (Or.inl rfl) dX12_has_122
  · refine r_aload_n 0 dX12_has_103 rfl rfl ?_
    refine r_gx (kz := 91) rfl hu dX12_has_104 kF_X12_212 kd_337 rfl rfl rfl fx_337_91 ?_
    refine r_iload_n 2 dX12_has_107 rfl rfl ?_
    refine r_ok (fun h20 => ?_)
    refine r_zald hu dX12_has_108 kd_403 rfl rfl rfl ln_403 h20 ?_
    refine r_if_eq (tgt := 115) dX12_has_109 rfl (fun h21 => ?_) (fun h22 => ?_)
    · refine r_iincB 2 dX12_has_115 rfl ⟨by have := h20; omega, by have := h20; omega⟩ (by decide) (lf := fun y23 => [(3, 0, y23), (0, 2, 337), (2, 0, x2)]) (fun _ => rfl) (fun y23 ey23 => ?_)
      refine r_goto (tgt := 97) dX12_has_118 rfl ?_
      refine r_sub [1, 2, 0] (ls' := [(0, 2, 337), (2, 0, x2), (3, 0, y23)]) rfl ?_
      exact hw97 M x2 y23
    · refine r_ok (fun h24 => ?_)
      refine r_iincB 1 dX12_has_112 rfl h24 (by decide) (lf := fun y25 => [(2, 0, y25), (0, 2, 337), (3, 0, x3)]) (fun _ => rfl) (fun y25 ey25 => ?_)
      refine r_iincB 2 dX12_has_115 rfl ⟨by have := h20; omega, by have := h20; omega⟩ (by decide) (lf := fun y26 => [(3, 0, y26), (2, 0, y25), (0, 2, 337)]) (fun _ => rfl) (fun y26 ey26 => ?_)
      refine r_goto (tgt := 97) dX12_has_118 rfl ?_
      refine r_sub [2, 1, 0] (ls' := [(0, 2, 337), (2, 0, y25), (3, 0, y26)]) rfl ?_
      exact hw97 M y25 y26
set_option maxRecDepth 100000 in
theorem tb_X12_has_125 {g : GT} {n nf : Int} (hu : Up false nf n) (w125 : Mem → Int → Int → Res) (hw125 : ∀ (M : Mem) (x2 x3 : Int), AW g false RX12 cX12_has 4 (some .int) (2) n n nf 125 [(0, 2, 337), (2, 0, x2), (3, 0, x3)] [] n M (w125 M x2 x3)) (M : Mem) (x2 x3 : Int) : AW g false RX12 cX12_has 4 (some .int) (2) n n nf 125 [(0, 2, 337), (2, 0, x2), (3, 0, x3)] [] n M (b_X12_has_125 w125 M x2 x3) := by
  unfold b_X12_has_125
  refine r_iload_n 2 dX12_has_125 rfl rfl ?_
  refine r_bipush dX12_has_126 (by decide) ⟨by decide, by decide⟩ ?_
  refine r_icmp_ge (tgt := 149) dX12_has_128 rfl (fun h29 => ?_) (fun h30 => ?_)
  · refine r_iload_n 1 dX12_has_149 rfl rfl ?_
    exact r_iret rfl rfl (Or.inl rfl) dX12_has_150
  · refine r_aload_n 0 dX12_has_131 rfl rfl ?_
    refine r_gx (kz := 74) rfl hu dX12_has_132 kF_X12_167 kd_337 rfl rfl rfl fx_337_74 ?_
    refine r_iload_n 2 dX12_has_135 rfl rfl ?_
    refine r_ok (fun h31 => ?_)
    refine r_iald hu dX12_has_136 kd_388 rfl (Or.inl rfl) rfl ln_388 h31 ?_
    refine r_if_le (tgt := 143) dX12_has_137 rfl (fun h32 => ?_) (fun h33 => ?_)
    · refine r_iincB 2 dX12_has_143 rfl ⟨by have := h31; omega, by have := h31; omega⟩ (by decide) (lf := fun y34 => [(3, 0, y34), (0, 2, 337), (2, 0, x2)]) (fun _ => rfl) (fun y34 ey34 => ?_)
      refine r_goto (tgt := 125) dX12_has_146 rfl ?_
      refine r_sub [1, 2, 0] (ls' := [(0, 2, 337), (2, 0, x2), (3, 0, y34)]) rfl ?_
      exact hw125 M x2 y34
    · refine r_ok (fun h35 => ?_)
      refine r_iincB 1 dX12_has_140 rfl h35 (by decide) (lf := fun y36 => [(2, 0, y36), (0, 2, 337), (3, 0, x3)]) (fun _ => rfl) (fun y36 ey36 => ?_)
      refine r_iincB 2 dX12_has_143 rfl ⟨by have := h31; omega, by have := h31; omega⟩ (by decide) (lf := fun y37 => [(3, 0, y37), (2, 0, y36), (0, 2, 337)]) (fun _ => rfl) (fun y37 ey37 => ?_)
      refine r_goto (tgt := 125) dX12_has_146 rfl ?_
      refine r_sub [2, 1, 0] (ls' := [(0, 2, 337), (2, 0, y36), (3, 0, y37)]) rfl ?_
      exact hw125 M y36 y37
set_option maxRecDepth 100000 in
theorem tj_X12_has_158 {g : GT} {n nf : Int} (hu : Up false nf n) (a1 : Int) (M : Mem) : AW g false RX12 cX12_has 4 (some .int) (2) n n nf 158 [(0, 2, 337), (1, 0, a1)] [] n M (j_X12_has_158 a1 M) := by
  unfold j_X12_has_158
  refine r_aload_n 0 dX12_has_158 rfl rfl ?_
  refine r_gx (kz := 65) rfl hu dX12_has_159 kF_X12_161 kd_337 rfl rfl rfl fx_337_65 ?_
  refine r_iload_n 1 dX12_has_162 rfl rfl ?_
  refine r_bipush dX12_has_163 (by decide) ⟨by decide, by decide⟩ ?_
  refine r_ok (fun h42 => ?_)
  refine r_isub dX12_has_165 h42 ?_
  refine r_ok (fun h43 => ?_)
  refine r_zald hu dX12_has_166 kd_386 rfl rfl rfl ln_386 h43 ?_
  refine r_if_eq (tgt := 181) dX12_has_167 rfl (fun h44 => ?_) (fun h45 => ?_)
  · refine r_iconst dX12_has_181 ⟨by decide, by decide⟩ ?_
    exact r_iret rfl rfl (Or.inl rfl) dX12_has_182
  · refine r_aload_n 0 dX12_has_170 rfl rfl ?_
    refine r_gx (kz := 41) rfl hu dX12_has_171 kF_X12_99 kd_337 rfl rfl rfl fx_337_41 ?_
    refine r_iload_n 1 dX12_has_174 rfl rfl ?_
    refine r_iconst dX12_has_175 ⟨by decide, by decide⟩ ?_
    refine r_ok (fun h46 => ?_)
    refine r_isub dX12_has_176 h46 ?_
    refine r_ok (fun h47 => ?_)
    refine r_iald hu dX12_has_177 kd_366 rfl (Or.inl rfl) rfl ln_366 h47 ?_
    refine r_goto (tgt := 182) dX12_has_178 rfl ?_
    exact r_iret rfl rfl (Or.inl rfl) dX12_has_182
set_option maxRecDepth 100000 in
theorem m_X12_has {g : GT} {n nf : Int} (hu : Up false nf n) (M : Mem) (a1 : Int) : AM g false yX12_has cX12_has 4 (some .int) (2) n n nf [(2, 337), (0, a1)] M (f_X12_has M a1) := by
  refine AM_of (by decide +kernel) (Nat.le_of_ble_eq_true rfl) (fun h => absurd h (Int.lt_irrefl n)) ?_
  show AW g false RX12 cX12_has 4 (some .int) (2) n n nf 0 [(0, 2, 337), (1, 0, a1)] [] n M (f_X12_has M a1)
  unfold f_X12_has
  refine r_iconst dX12_has_0 ⟨by decide, by decide⟩ ?_
  refine r_istore_n dX12_has_1 rfl (by decide) (ls' := [(2, 0, 0), (0, 2, 337), (1, 0, a1)]) rfl ?_
  refine r_iload_n 2 dX12_has_2 rfl rfl ?_
  refine r_tsw (tgt := 56) 0 dX12_has_3 ⟨by decide, by decide⟩ rfl rfl (fun h1 => ?_) (fun h2 => ?_)
  · refine r_aload_n 1 dX12_has_56 rfl rfl ?_
    refine r_gx (kz := 47) rfl hu dX12_has_57 kF_X12_119 kd_337 rfl rfl rfl fx_337_47 ?_
    refine r_iconst dX12_has_60 ⟨by decide, by decide⟩ ?_
    refine r_iald hu dX12_has_61 kd_372 rfl (Or.inl rfl) rfl ln_372 ⟨by decide, by decide⟩ ?_
    exact r_iret rfl rfl (Or.inl rfl) dX12_has_62
  · refine r_tsw (tgt := 63) 1 dX12_has_3 ⟨by decide, by decide⟩ rfl rfl (fun h3 => ?_) (fun h4 => ?_)
    · refine r_iconst dX12_has_63 ⟨by decide, by decide⟩ ?_
      refine r_istore_n dX12_has_64 rfl (by decide) (ls' := [(3, 0, 0), (2, 0, 0), (0, 2, 337), (1, 0, a1)]) rfl ?_
      refine r_sub [2, 1, 0] (ls' := [(0, 2, 337), (2, 0, 0), (3, 0, 0)]) rfl ?_
      exact wl2_aw (P := fun M x2 x3 o => AW g false RX12 cX12_has 4 (some .int) (2) n n nf 65 [(0, 2, 337), (2, 0, x2), (3, 0, x3)] [] n M (o)) (fun M x2 x3 => aw_none) (fun w hw M x2 x3 => tb_X12_has_65 hu w hw M x2 x3) FU M 0 0
    · refine r_tsw (tgt := 90) 2 dX12_has_3 ⟨by decide, by decide⟩ rfl rfl (fun h14 => ?_) (fun h15 => ?_)
      · refine r_aload_n 1 dX12_has_90 rfl rfl ?_
        refine r_gf (t := 0) (kz := 79) rfl hu dX12_has_91 kF_X12_452 kd_337 rfl rfl rfl ?_
        exact r_iret rfl rfl (Or.inl rfl) dX12_has_94
      · refine r_tsw (tgt := 95) 3 dX12_has_3 ⟨by decide, by decide⟩ rfl rfl (fun h16 => ?_) (fun h17 => ?_)
        · refine r_iconst dX12_has_95 ⟨by decide, by decide⟩ ?_
          refine r_istore_n dX12_has_96 rfl (by decide) (ls' := [(3, 0, 0), (2, 0, 0), (0, 2, 337), (1, 0, a1)]) rfl ?_
          refine r_sub [2, 1, 0] (ls' := [(0, 2, 337), (2, 0, 0), (3, 0, 0)]) rfl ?_
          exact wl2_aw (P := fun M x2 x3 o => AW g false RX12 cX12_has 4 (some .int) (2) n n nf 97 [(0, 2, 337), (2, 0, x2), (3, 0, x3)] [] n M (o)) (fun M x2 x3 => aw_none) (fun w hw M x2 x3 => tb_X12_has_97 hu w hw M x2 x3) FU M 0 0
        · refine r_tsw (tgt := 123) 4 dX12_has_3 ⟨by decide, by decide⟩ rfl rfl (fun h27 => ?_) (fun h28 => ?_)
          · refine r_iconst dX12_has_123 ⟨by decide, by decide⟩ ?_
            refine r_istore_n dX12_has_124 rfl (by decide) (ls' := [(3, 0, 0), (2, 0, 0), (0, 2, 337), (1, 0, a1)]) rfl ?_
            refine r_sub [2, 1, 0] (ls' := [(0, 2, 337), (2, 0, 0), (3, 0, 0)]) rfl ?_
            exact wl2_aw (P := fun M x2 x3 o => AW g false RX12 cX12_has 4 (some .int) (2) n n nf 125 [(0, 2, 337), (2, 0, x2), (3, 0, x3)] [] n M (o)) (fun M x2 x3 => aw_none) (fun w hw M x2 x3 => tb_X12_has_125 hu w hw M x2 x3) FU M 0 0
          · refine r_tsw (tgt := 151) 5 dX12_has_3 ⟨by decide, by decide⟩ rfl rfl (fun h38 => ?_) (fun h39 => ?_)
            · refine r_aload_n 1 dX12_has_151 rfl rfl ?_
              refine r_gx (kz := 50) rfl hu dX12_has_152 kF_X12_128 kd_337 rfl rfl rfl fx_337_50 ?_
              refine r_iconst dX12_has_155 ⟨by decide, by decide⟩ ?_
              refine r_iald hu dX12_has_156 kd_375 rfl (Or.inl rfl) rfl ln_375 ⟨by decide, by decide⟩ ?_
              exact r_iret rfl rfl (Or.inl rfl) dX12_has_157
            · refine r_tsw (tgt := 158) 6 dX12_has_3 ⟨by decide, by decide⟩ rfl rfl (fun h40 => ?_) (fun h41 => ?_)
              · refine r_sub [1, 2] (ls' := [(0, 2, 337), (1, 0, a1)]) rfl ?_
                exact tj_X12_has_158 hu a1 M
              · refine r_tsw (tgt := 158) 7 dX12_has_3 ⟨by decide, by decide⟩ rfl rfl (fun h48 => ?_) (fun h49 => ?_)
                · refine r_sub [1, 2] (ls' := [(0, 2, 337), (1, 0, a1)]) rfl ?_
                  exact tj_X12_has_158 hu a1 M
                · refine r_tsw (tgt := 158) 8 dX12_has_3 ⟨by decide, by decide⟩ rfl rfl (fun h50 => ?_) (fun h51 => ?_)
                  · refine r_sub [1, 2] (ls' := [(0, 2, 337), (1, 0, a1)]) rfl ?_
                    exact tj_X12_has_158 hu a1 M
                  · refine r_tsw (tgt := 183) 9 dX12_has_3 ⟨by decide, by decide⟩ rfl rfl (fun h52 => ?_) (fun h53 => ?_)
                    · refine r_aload_n 1 dX12_has_183 rfl rfl ?_
                      refine r_inv (a := 337) hu ⟨Nat.le_refl _, Nat.le_refl _⟩ dX12_has_184 kM_X12_462 (ci := 12) rfl kd_337 rfl rfl (by decide) (by decide) [] rfl (sk := []) rfl (Nat.le_of_ble_eq_true rfl) rfl rfl (m_X12_showings hu M) (fun r54 M55 => ?_)
                      exact r_iret rfl rfl (Or.inl rfl) dX12_has_187
                    · refine r_tswd (tgt := 188) dX12_has_3 (by omega) rfl ?_
                      refine r_iconst dX12_has_188 ⟨by decide, by decide⟩ ?_
                      exact r_iret rfl rfl (Or.inl rfl) dX12_has_189
theorem dX12_letter_0 : decode cX12_letter 0 = .ok (.iload_n 3, 1) := by decide +kernel
theorem dX12_letter_1 : decode cX12_letter 1 = .ok (.i2l, 1) := by decide +kernel
theorem dX12_letter_2 : decode cX12_letter 2 = .ok (.lconst 0, 1) := by decide +kernel
theorem dX12_letter_3 : decode cX12_letter 3 = .ok (.ldc2_w 487, 3) := by decide +kernel
theorem dX12_letter_6 : decode cX12_letter 6 = .ok (.invokestatic 267, 3) := by decide +kernel
theorem dX12_letter_9 : decode cX12_letter 9 = .ok (.ifCond .ne 5, 3) := by decide +kernel
theorem dX12_letter_12 : decode cX12_letter 12 = .ok (.iconst (-1), 1) := by decide +kernel
theorem dX12_letter_13 : decode cX12_letter 13 = .ok (.ireturn, 1) := by decide +kernel
theorem dX12_letter_14 : decode cX12_letter 14 = .ok (.iload_n 1, 1) := by decide +kernel
theorem dX12_letter_15 : decode cX12_letter 15 = .ok (.iconst (-1), 1) := by decide +kernel
theorem dX12_letter_16 : decode cX12_letter 16 = .ok (.if_icmp .ne 14, 3) := by decide +kernel
theorem dX12_letter_19 : decode cX12_letter 19 = .ok (.aload_n 0, 1) := by decide +kernel
theorem dX12_letter_20 : decode cX12_letter 20 = .ok (.iload_n 2, 1) := by decide +kernel
theorem dX12_letter_21 : decode cX12_letter 21 = .ok (.invokevirtual 489, 3) := by decide +kernel
theorem dX12_letter_24 : decode cX12_letter 24 = .ok (.ifCond .ne 36, 3) := by decide +kernel
theorem dX12_letter_27 : decode cX12_letter 27 = .ok (.goto 31, 3) := by decide +kernel
theorem dX12_letter_30 : decode cX12_letter 30 = .ok (.aload_n 0, 1) := by decide +kernel
theorem dX12_letter_31 : decode cX12_letter 31 = .ok (.iload_n 1, 1) := by decide +kernel
theorem dX12_letter_32 : decode cX12_letter 32 = .ok (.invokevirtual 459, 3) := by decide +kernel
theorem dX12_letter_35 : decode cX12_letter 35 = .ok (.ifCond .eq 23, 3) := by decide +kernel
theorem dX12_letter_38 : decode cX12_letter 38 = .ok (.iload_n 2, 1) := by decide +kernel
theorem dX12_letter_39 : decode cX12_letter 39 = .ok (.i2l, 1) := by decide +kernel
theorem dX12_letter_40 : decode cX12_letter 40 = .ok (.lconst 0, 1) := by decide +kernel
theorem dX12_letter_41 : decode cX12_letter 41 = .ok (.aload_n 0, 1) := by decide +kernel
theorem dX12_letter_42 : decode cX12_letter 42 = .ok (.getfield 99, 3) := by decide +kernel
theorem dX12_letter_45 : decode cX12_letter 45 = .ok (.iconst 2, 1) := by decide +kernel
theorem dX12_letter_46 : decode cX12_letter 46 = .ok (.iload_n 1, 1) := by decide +kernel
theorem dX12_letter_47 : decode cX12_letter 47 = .ok (.iadd, 1) := by decide +kernel
theorem dX12_letter_48 : decode cX12_letter 48 = .ok (.iaload, 1) := by decide +kernel
theorem dX12_letter_49 : decode cX12_letter 49 = .ok (.iconst 1, 1) := by decide +kernel
theorem dX12_letter_50 : decode cX12_letter 50 = .ok (.isub, 1) := by decide +kernel
theorem dX12_letter_51 : decode cX12_letter 51 = .ok (.i2l, 1) := by decide +kernel
theorem dX12_letter_52 : decode cX12_letter 52 = .ok (.invokestatic 267, 3) := by decide +kernel
theorem dX12_letter_55 : decode cX12_letter 55 = .ok (.ifCond .ne 5, 3) := by decide +kernel
theorem dX12_letter_58 : decode cX12_letter 58 = .ok (.iconst (-1), 1) := by decide +kernel
theorem dX12_letter_59 : decode cX12_letter 59 = .ok (.ireturn, 1) := by decide +kernel
theorem dX12_letter_60 : decode cX12_letter 60 = .ok (.iload_n 1, 1) := by decide +kernel
theorem dX12_letter_61 : decode cX12_letter 61 = .ok (.iconst (-1), 1) := by decide +kernel
theorem dX12_letter_62 : decode cX12_letter 62 = .ok (.if_icmp .ne 14, 3) := by decide +kernel
theorem dX12_letter_65 : decode cX12_letter 65 = .ok (.aload_n 0, 1) := by decide +kernel
theorem dX12_letter_66 : decode cX12_letter 66 = .ok (.getfield 122, 3) := by decide +kernel
theorem dX12_letter_69 : decode cX12_letter 69 = .ok (.iconst 5, 1) := by decide +kernel
theorem dX12_letter_70 : decode cX12_letter 70 = .ok (.iload_n 2, 1) := by decide +kernel
theorem dX12_letter_71 : decode cX12_letter 71 = .ok (.iadd, 1) := by decide +kernel
theorem dX12_letter_72 : decode cX12_letter 72 = .ok (.laload, 1) := by decide +kernel
theorem dX12_letter_73 : decode cX12_letter 73 = .ok (.goto 15, 3) := by decide +kernel
theorem dX12_letter_76 : decode cX12_letter 76 = .ok (.aload_n 0, 1) := by decide +kernel
theorem dX12_letter_77 : decode cX12_letter 77 = .ok (.getfield 102, 3) := by decide +kernel
theorem dX12_letter_80 : decode cX12_letter 80 = .ok (.iconst 5, 1) := by decide +kernel
theorem dX12_letter_81 : decode cX12_letter 81 = .ok (.iconst 2, 1) := by decide +kernel
theorem dX12_letter_82 : decode cX12_letter 82 = .ok (.iload_n 1, 1) := by decide +kernel
theorem dX12_letter_83 : decode cX12_letter 83 = .ok (.iadd, 1) := by decide +kernel
theorem dX12_letter_84 : decode cX12_letter 84 = .ok (.imul, 1) := by decide +kernel
theorem dX12_letter_85 : decode cX12_letter 85 = .ok (.iload_n 2, 1) := by decide +kernel
theorem dX12_letter_86 : decode cX12_letter 86 = .ok (.iadd, 1) := by decide +kernel
theorem dX12_letter_87 : decode cX12_letter 87 = .ok (.laload, 1) := by decide +kernel
theorem dX12_letter_88 : decode cX12_letter 88 = .ok (.lstore 4, 2) := by decide +kernel
theorem dX12_letter_90 : decode cX12_letter 90 = .ok (.iconst 0, 1) := by decide +kernel
theorem dX12_letter_91 : decode cX12_letter 91 = .ok (.istore 6, 2) := by decide +kernel
theorem dX12_letter_93 : decode cX12_letter 93 = .ok (.lload 4, 2) := by decide +kernel
theorem dX12_letter_95 : decode cX12_letter 95 = .ok (.lstore 7, 2) := by decide +kernel
theorem dX12_letter_97 : decode cX12_letter 97 = .ok (.lload 7, 2) := by decide +kernel
theorem dX12_letter_99 : decode cX12_letter 99 = .ok (.lconst 0, 1) := by decide +kernel
theorem dX12_letter_100 : decode cX12_letter 100 = .ok (.lcmp, 1) := by decide +kernel
theorem dX12_letter_101 : decode cX12_letter 101 = .ok (.ifCond .le 17, 3) := by decide +kernel
theorem dX12_letter_104 : decode cX12_letter 104 = .ok (.iinc 6 1, 3) := by decide +kernel
theorem dX12_letter_107 : decode cX12_letter 107 = .ok (.lload 7, 2) := by decide +kernel
theorem dX12_letter_109 : decode cX12_letter 109 = .ok (.ldc2_w 278, 3) := by decide +kernel
theorem dX12_letter_112 : decode cX12_letter 112 = .ok (.ldiv, 1) := by decide +kernel
theorem dX12_letter_113 : decode cX12_letter 113 = .ok (.lstore 7, 2) := by decide +kernel
theorem dX12_letter_115 : decode cX12_letter 115 = .ok (.goto (-18), 3) := by decide +kernel
theorem dX12_letter_118 : decode cX12_letter 118 = .ok (.iload_n 3, 1) := by decide +kernel
theorem dX12_letter_119 : decode cX12_letter 119 = .ok (.iload 6, 2) := by decide +kernel
theorem dX12_letter_121 : decode cX12_letter 121 = .ok (.if_icmp .lt 5, 3) := by decide +kernel
theorem dX12_letter_124 : decode cX12_letter 124 = .ok (.iconst 0, 1) := by decide +kernel
theorem dX12_letter_125 : decode cX12_letter 125 = .ok (.ireturn, 1) := by decide +kernel
theorem dX12_letter_126 : decode cX12_letter 126 = .ok (.iload 6, 2) := by decide +kernel
theorem dX12_letter_128 : decode cX12_letter 128 = .ok (.iconst 1, 1) := by decide +kernel
theorem dX12_letter_129 : decode cX12_letter 129 = .ok (.isub, 1) := by decide +kernel
theorem dX12_letter_130 : decode cX12_letter 130 = .ok (.istore 7, 2) := by decide +kernel
theorem dX12_letter_132 : decode cX12_letter 132 = .ok (.iload 7, 2) := by decide +kernel
theorem dX12_letter_134 : decode cX12_letter 134 = .ok (.iload_n 3, 1) := by decide +kernel
theorem dX12_letter_135 : decode cX12_letter 135 = .ok (.if_icmp .le 17, 3) := by decide +kernel
theorem dX12_letter_138 : decode cX12_letter 138 = .ok (.lload 4, 2) := by decide +kernel
theorem dX12_letter_140 : decode cX12_letter 140 = .ok (.ldc2_w 278, 3) := by decide +kernel
theorem dX12_letter_143 : decode cX12_letter 143 = .ok (.ldiv, 1) := by decide +kernel
theorem dX12_letter_144 : decode cX12_letter 144 = .ok (.lstore 4, 2) := by decide +kernel
theorem dX12_letter_146 : decode cX12_letter 146 = .ok (.iinc 7 (-1), 3) := by decide +kernel
theorem dX12_letter_149 : decode cX12_letter 149 = .ok (.goto (-17), 3) := by decide +kernel
theorem dX12_letter_152 : decode cX12_letter 152 = .ok (.lload 4, 2) := by decide +kernel
theorem dX12_letter_154 : decode cX12_letter 154 = .ok (.ldc2_w 278, 3) := by decide +kernel
theorem dX12_letter_157 : decode cX12_letter 157 = .ok (.lrem, 1) := by decide +kernel
theorem dX12_letter_158 : decode cX12_letter 158 = .ok (.l2i, 1) := by decide +kernel
theorem dX12_letter_159 : decode cX12_letter 159 = .ok (.ireturn, 1) := by decide +kernel
set_option maxRecDepth 100000 in
theorem tb_X12_letter_132 {g : GT} {n nf : Int} (hu : Up false nf n) (a3 : Int) (w132 : Mem → Int → Int → Res) (hw132 : ∀ (M : Mem) (x4 x7 : Int), AW g false RX12 cX12_letter 9 (some .int) (2) n n nf 132 [(3, 0, a3), (4, 1, x4), (7, 0, x7)] [] n M (w132 M x4 x7)) (M : Mem) (x4 x7 : Int) : AW g false RX12 cX12_letter 9 (some .int) (2) n n nf 132 [(3, 0, a3), (4, 1, x4), (7, 0, x7)] [] n M (b_X12_letter_132 a3 w132 M x4 x7) := by
  unfold b_X12_letter_132
  refine r_iload 2 dX12_letter_132 rfl ?_
  refine r_iload_n 0 dX12_letter_134 rfl rfl ?_
  refine r_icmp_le (tgt := 152) dX12_letter_135 rfl (fun h22 => ?_) (fun h23 => ?_)
  · refine r_lload 1 dX12_letter_152 rfl ?_
    refine r_ldc2 (v := 27) dX12_letter_154 kC_X12_278 rfl ⟨by decide, by decide⟩ ?_
    refine r_ok (fun h24 => ?_)
    refine r_lremP dX12_letter_157 ⟨h24, by decide⟩ ?_
    refine r_ok (fun h25 => ?_)
    refine r_l2i dX12_letter_158 h25 ?_
    exact r_iret rfl rfl (Or.inl rfl) dX12_letter_159
  · refine r_lload 1 dX12_letter_138 rfl ?_
    refine r_ldc2 (v := 27) dX12_letter_140 kC_X12_278 rfl ⟨by decide, by decide⟩ ?_
    refine r_ok (fun h26 => ?_)
    refine r_ldivP dX12_letter_143 ⟨h26, by decide⟩ ?_
    refine r_lstoreB dX12_letter_144 (by decide) (lf := fun y27 => [(4, 1, y27), (3, 0, a3), (7, 0, x7)]) (fun _ => rfl) (fun y27 ey27 => ?_)
    refine r_ok (fun h28 => ?_)
    refine r_iincB 2 dX12_letter_146 rfl h28 (by decide) (lf := fun y29 => [(7, 0, y29), (4, 1, y27), (3, 0, a3)]) (fun _ => rfl) (fun y29 ey29 => ?_)
    refine r_goto (tgt := 132) dX12_letter_149 rfl ?_
    refine r_sub [2, 1, 0] (ls' := [(3, 0, a3), (4, 1, y27), (7, 0, y29)]) rfl ?_
    exact hw132 M y27 y29
set_option maxRecDepth 100000 in
theorem tb_X12_letter_97 {g : GT} {n nf : Int} (hu : Up false nf n) (a3 : Int) (w97 : Mem → Int → Int → Int → Res) (hw97 : ∀ (M : Mem) (x4 x6 x7 : Int), AW g false RX12 cX12_letter 9 (some .int) (2) n n nf 97 [(3, 0, a3), (4, 1, x4), (6, 0, x6), (7, 1, x7)] [] n M (w97 M x4 x6 x7)) (M : Mem) (x4 x6 x7 : Int) : AW g false RX12 cX12_letter 9 (some .int) (2) n n nf 97 [(3, 0, a3), (4, 1, x4), (6, 0, x6), (7, 1, x7)] [] n M (b_X12_letter_97 a3 w97 M x4 x6 x7) := by
  unfold b_X12_letter_97
  refine r_lload 3 dX12_letter_97 rfl ?_
  refine r_lconst (v := 0) dX12_letter_99 (by decide) ⟨by decide, by decide⟩ ?_
  refine r_lif_le (tgt := 118) dX12_letter_100 dX12_letter_101 rfl (fun h16 => ?_) (fun h17 => ?_)
  · refine r_iload_n 0 dX12_letter_118 rfl rfl ?_
    refine r_iload 2 dX12_letter_119 rfl ?_
    refine r_icmp_lt (tgt := 126) dX12_letter_121 rfl (fun h18 => ?_) (fun h19 => ?_)
    · refine r_iload 2 dX12_letter_126 rfl ?_
      refine r_iconst dX12_letter_128 ⟨by decide, by decide⟩ ?_
      refine r_ok (fun h20 => ?_)
      refine r_isub dX12_letter_129 h20 ?_
      refine r_istoreB dX12_letter_130 (by decide) (lf := fun y21 => [(7, 0, y21), (3, 0, a3), (4, 1, x4), (6, 0, x6)]) (fun _ => rfl) (fun y21 ey21 => ?_)
      refine r_sub [1, 2, 0] (ls' := [(3, 0, a3), (4, 1, x4), (7, 0, y21)]) rfl ?_
      exact wl2_aw (P := fun M x4 x7 o => AW g false RX12 cX12_letter 9 (some .int) (2) n n nf 132 [(3, 0, a3), (4, 1, x4), (7, 0, x7)] [] n M (o)) (fun M x4 x7 => aw_none) (fun w hw M x4 x7 => tb_X12_letter_132 hu a3 w hw M x4 x7) FU M x4 y21
    · refine r_iconst dX12_letter_124 ⟨by decide, by decide⟩ ?_
      exact r_iret rfl rfl (Or.inl rfl) dX12_letter_125
  · refine r_ok (fun h30 => ?_)
    refine r_iincB 2 dX12_letter_104 rfl h30 (by decide) (lf := fun y31 => [(6, 0, y31), (3, 0, a3), (4, 1, x4), (7, 1, x7)]) (fun _ => rfl) (fun y31 ey31 => ?_)
    refine r_lload 3 dX12_letter_107 rfl ?_
    refine r_ldc2 (v := 27) dX12_letter_109 kC_X12_278 rfl ⟨by decide, by decide⟩ ?_
    refine r_ok (fun h32 => ?_)
    refine r_ldivP dX12_letter_112 ⟨h32, by decide⟩ ?_
    refine r_lstoreB dX12_letter_113 (by decide) (lf := fun y33 => [(7, 1, y33), (6, 0, y31), (3, 0, a3), (4, 1, x4)]) (fun _ => rfl) (fun y33 ey33 => ?_)
    refine r_goto (tgt := 97) dX12_letter_115 rfl ?_
    refine r_sub [2, 3, 1, 0] (ls' := [(3, 0, a3), (4, 1, x4), (6, 0, y31), (7, 1, y33)]) rfl ?_
    exact hw97 M x4 y31 y33
set_option maxRecDepth 100000 in
theorem tj_X12_letter_60 {g : GT} {n nf : Int} (hu : Up false nf n) (a1 a2 a3 : Int) (M : Mem) : AW g false RX12 cX12_letter 9 (some .int) (2) n n nf 60 [(0, 2, 337), (1, 0, a1), (2, 0, a2), (3, 0, a3)] [] n M (j_X12_letter_60 a1 a2 a3 M) := by
  unfold j_X12_letter_60
  refine r_iload_n 1 dX12_letter_60 rfl rfl ?_
  refine r_iconst dX12_letter_61 ⟨by decide, by decide⟩ ?_
  refine r_icmp_ne (tgt := 76) dX12_letter_62 rfl (fun h11 => ?_) (fun h12 => ?_)
  · refine r_aload_n 0 dX12_letter_65 rfl rfl ?_
    refine r_gx (kz := 48) rfl hu dX12_letter_66 kF_X12_122 kd_337 rfl rfl rfl fx_337_48 ?_
    refine r_iconst dX12_letter_69 ⟨by decide, by decide⟩ ?_
    refine r_iload_n 2 dX12_letter_70 rfl rfl ?_
    refine r_ok (fun h13 => ?_)
    refine r_iadd dX12_letter_71 h13 ?_
    refine r_ok (fun h14 => ?_)
    refine r_lald hu dX12_letter_72 kd_373 rfl rfl rfl ln_373 h14 ?_
    refine r_goto (tgt := 88) dX12_letter_73 rfl ?_
    refine r_lstoreB dX12_letter_88 (by decide) (lf := fun y15 => [(4, 1, y15), (0, 2, 337), (1, 0, a1), (2, 0, a2), (3, 0, a3)]) (fun _ => rfl) (fun y15 ey15 => ?_)
    refine r_iconst dX12_letter_90 ⟨by decide, by decide⟩ ?_
    refine r_istore dX12_letter_91 (by decide) (ls' := [(6, 0, 0), (4, 1, y15), (0, 2, 337), (1, 0, a1), (2, 0, a2), (3, 0, a3)]) rfl ?_
    refine r_lload 1 dX12_letter_93 rfl ?_
    refine r_lstore dX12_letter_95 (by decide) (ls' := [(7, 1, y15), (6, 0, 0), (4, 1, y15), (0, 2, 337), (1, 0, a1), (2, 0, a2), (3, 0, a3)]) rfl ?_
    refine r_sub [6, 2, 1, 0] (ls' := [(3, 0, a3), (4, 1, y15), (6, 0, 0), (7, 1, y15)]) rfl ?_
    exact wl3_aw (P := fun M x4 x6 x7 o => AW g false RX12 cX12_letter 9 (some .int) (2) n n nf 97 [(3, 0, a3), (4, 1, x4), (6, 0, x6), (7, 1, x7)] [] n M (o)) (fun M x4 x6 x7 => aw_none) (fun w hw M x4 x6 x7 => tb_X12_letter_97 hu a3 w hw M x4 x6 x7) FU M y15 0 y15
  · refine r_aload_n 0 dX12_letter_76 rfl rfl ?_
    refine r_gx (kz := 42) rfl hu dX12_letter_77 kF_X12_102 kd_337 rfl rfl rfl fx_337_42 ?_
    refine r_iconst dX12_letter_80 ⟨by decide, by decide⟩ ?_
    refine r_iconst dX12_letter_81 ⟨by decide, by decide⟩ ?_
    refine r_iload_n 1 dX12_letter_82 rfl rfl ?_
    refine r_ok (fun h34 => ?_)
    refine r_iadd dX12_letter_83 h34 ?_
    refine r_ok (fun h35 => ?_)
    refine r_imul dX12_letter_84 h35 ?_
    refine r_iload_n 2 dX12_letter_85 rfl rfl ?_
    refine r_ok (fun h36 => ?_)
    refine r_iadd dX12_letter_86 h36 ?_
    refine r_ok (fun h37 => ?_)
    refine r_lald hu dX12_letter_87 kd_367 rfl rfl rfl ln_367 h37 ?_
    refine r_lstoreB dX12_letter_88 (by decide) (lf := fun y38 => [(4, 1, y38), (0, 2, 337), (1, 0, a1), (2, 0, a2), (3, 0, a3)]) (fun _ => rfl) (fun y38 ey38 => ?_)
    refine r_iconst dX12_letter_90 ⟨by decide, by decide⟩ ?_
    refine r_istore dX12_letter_91 (by decide) (ls' := [(6, 0, 0), (4, 1, y38), (0, 2, 337), (1, 0, a1), (2, 0, a2), (3, 0, a3)]) rfl ?_
    refine r_lload 1 dX12_letter_93 rfl ?_
    refine r_lstore dX12_letter_95 (by decide) (ls' := [(7, 1, y38), (6, 0, 0), (4, 1, y38), (0, 2, 337), (1, 0, a1), (2, 0, a2), (3, 0, a3)]) rfl ?_
    refine r_sub [6, 2, 1, 0] (ls' := [(3, 0, a3), (4, 1, y38), (6, 0, 0), (7, 1, y38)]) rfl ?_
    exact wl3_aw (P := fun M x4 x6 x7 o => AW g false RX12 cX12_letter 9 (some .int) (2) n n nf 97 [(3, 0, a3), (4, 1, x4), (6, 0, x6), (7, 1, x7)] [] n M (o)) (fun M x4 x6 x7 => aw_none) (fun w hw M x4 x6 x7 => tb_X12_letter_97 hu a3 w hw M x4 x6 x7) FU M y38 0 y38
set_option maxRecDepth 100000 in
theorem m_X12_letter {g : GT} {n nf : Int} (hu : Up false nf n) (M : Mem) (a1 a2 a3 : Int) : AM g false yX12_letter cX12_letter 9 (some .int) (2) n n nf [(2, 337), (0, a1), (0, a2), (0, a3)] M (f_X12_letter M a1 a2 a3) := by
  refine AM_of (by decide +kernel) (Nat.le_of_ble_eq_true rfl) (fun h => absurd h (Int.lt_irrefl n)) ?_
  show AW g false RX12 cX12_letter 9 (some .int) (2) n n nf 0 [(0, 2, 337), (1, 0, a1), (2, 0, a2), (3, 0, a3)] [] n M (f_X12_letter M a1 a2 a3)
  unfold f_X12_letter
  refine r_iload_n 3 dX12_letter_0 rfl rfl ?_
  refine r_i2l dX12_letter_1 ?_
  refine r_lconst (v := 0) dX12_letter_2 (by decide) ⟨by decide, by decide⟩ ?_
  refine r_ldc2 (v := 5) dX12_letter_3 kC_X12_487 rfl ⟨by decide, by decide⟩ ?_
  refine r_ins (a := 0) ⟨Nat.le_refl _, Nat.le_refl _⟩ dX12_letter_6 kM_X12_267 (by decide) (by decide) [(1, a3), (1, 0), (1, 5)] rfl (sk := []) rfl (Nat.le_of_ble_eq_true rfl) rfl rfl (m_X12_isIn hu M a3 0 5) (fun r1 M2 => ?_)
  refine r_if_ne (tgt := 14) dX12_letter_9 rfl (fun h3 => ?_) (fun h4 => ?_)
  · refine r_iconst dX12_letter_12 ⟨by decide, by decide⟩ ?_
    exact r_iret rfl rfl (Or.inl rfl) dX12_letter_13
  · refine r_iload_n 1 dX12_letter_14 rfl rfl ?_
    refine r_iconst dX12_letter_15 ⟨by decide, by decide⟩ ?_
    refine r_icmp_ne (tgt := 30) dX12_letter_16 rfl (fun h5 => ?_) (fun h6 => ?_)
    · refine r_aload_n 0 dX12_letter_19 rfl rfl ?_
      refine r_iload_n 2 dX12_letter_20 rfl rfl ?_
      refine r_inv (a := 337) hu ⟨Nat.le_refl _, Nat.le_refl _⟩ dX12_letter_21 kM_X12_489 (ci := 12) rfl kd_337 rfl rfl (by decide) (by decide) [(0, a2)] rfl (sk := []) rfl (Nat.le_of_ble_eq_true rfl) rfl rfl (m_X12_isThing hu M2 a2) (fun r7 M8 => ?_)
      refine r_if_ne (tgt := 60) dX12_letter_24 rfl (fun h9 => ?_) (fun h10 => ?_)
      · refine r_goto (tgt := 58) dX12_letter_27 rfl ?_
        refine r_iconst dX12_letter_58 ⟨by decide, by decide⟩ ?_
        exact r_iret rfl rfl (Or.inl rfl) dX12_letter_59
      · exact tj_X12_letter_60 hu a1 a2 a3 M8
    · refine r_aload_n 0 dX12_letter_30 rfl rfl ?_
      refine r_iload_n 1 dX12_letter_31 rfl rfl ?_
      refine r_inv (a := 337) hu ⟨Nat.le_refl _, Nat.le_refl _⟩ dX12_letter_32 kM_X12_459 (ci := 12) rfl kd_337 rfl rfl (by decide) (by decide) [(0, a1)] rfl (sk := []) rfl (Nat.le_of_ble_eq_true rfl) rfl rfl (m_X12_isLaw hu M2 a1) (fun r39 M40 => ?_)
      refine r_if_eq (tgt := 58) dX12_letter_35 rfl (fun h41 => ?_) (fun h42 => ?_)
      · refine r_iconst dX12_letter_58 ⟨by decide, by decide⟩ ?_
        exact r_iret rfl rfl (Or.inl rfl) dX12_letter_59
      · refine r_iload_n 2 dX12_letter_38 rfl rfl ?_
        refine r_i2l dX12_letter_39 ?_
        refine r_lconst (v := 0) dX12_letter_40 (by decide) ⟨by decide, by decide⟩ ?_
        refine r_aload_n 0 dX12_letter_41 rfl rfl ?_
        refine r_gx (kz := 41) rfl hu dX12_letter_42 kF_X12_99 kd_337 rfl rfl rfl fx_337_41 ?_
        refine r_iconst dX12_letter_45 ⟨by decide, by decide⟩ ?_
        refine r_iload_n 1 dX12_letter_46 rfl rfl ?_
        refine r_ok (fun h43 => ?_)
        refine r_iadd dX12_letter_47 h43 ?_
        refine r_ok (fun h44 => ?_)
        refine r_iald hu dX12_letter_48 kd_366 rfl (Or.inl rfl) rfl ln_366 h44 ?_
        refine r_iconst dX12_letter_49 ⟨by decide, by decide⟩ ?_
        refine r_ok (fun h45 => ?_)
        refine r_isub dX12_letter_50 h45 ?_
        refine r_i2l dX12_letter_51 ?_
        refine r_ins (a := 0) ⟨Nat.le_refl _, Nat.le_refl _⟩ dX12_letter_52 kM_X12_267 (by decide) (by decide) [(1, a2), (1, 0), (1, (M40 366 (2 + a1)) - 1)] rfl (sk := []) rfl (Nat.le_of_ble_eq_true rfl) rfl rfl (m_X12_isIn hu M40 a2 0 ((M40 366 (2 + a1)) - 1)) (fun r46 M47 => ?_)
        refine r_if_ne (tgt := 60) dX12_letter_55 rfl (fun h48 => ?_) (fun h49 => ?_)
        · refine r_iconst dX12_letter_58 ⟨by decide, by decide⟩ ?_
          exact r_iret rfl rfl (Or.inl rfl) dX12_letter_59
        · exact tj_X12_letter_60 hu a1 a2 a3 M47
theorem dX12_sight_0 : decode cX12_sight 0 = .ok (.iload_n 1, 1) := by decide +kernel
theorem dX12_sight_1 : decode cX12_sight 1 = .ok (.iload_n 2, 1) := by decide +kernel
theorem dX12_sight_2 : decode cX12_sight 2 = .ok (.invokestatic 518, 3) := by decide +kernel
theorem dX12_sight_5 : decode cX12_sight 5 = .ok (.ifCond .eq 17, 3) := by decide +kernel
theorem dX12_sight_8 : decode cX12_sight 8 = .ok (.aload_n 0, 1) := by decide +kernel
theorem dX12_sight_9 : decode cX12_sight 9 = .ok (.getfield 167, 3) := by decide +kernel
theorem dX12_sight_12 : decode cX12_sight 12 = .ok (.bipush 12, 2) := by decide +kernel
theorem dX12_sight_14 : decode cX12_sight 14 = .ok (.iload_n 2, 1) := by decide +kernel
theorem dX12_sight_15 : decode cX12_sight 15 = .ok (.imul, 1) := by decide +kernel
theorem dX12_sight_16 : decode cX12_sight 16 = .ok (.iload_n 1, 1) := by decide +kernel
theorem dX12_sight_17 : decode cX12_sight 17 = .ok (.iadd, 1) := by decide +kernel
theorem dX12_sight_18 : decode cX12_sight 18 = .ok (.iaload, 1) := by decide +kernel
theorem dX12_sight_19 : decode cX12_sight 19 = .ok (.goto 4, 3) := by decide +kernel
theorem dX12_sight_22 : decode cX12_sight 22 = .ok (.iconst (-1), 1) := by decide +kernel
theorem dX12_sight_23 : decode cX12_sight 23 = .ok (.ireturn, 1) := by decide +kernel
set_option maxRecDepth 100000 in
theorem m_X12_sight {g : GT} {n nf : Int} (hu : Up false nf n) (M : Mem) (a1 a2 : Int) : AM g false yX12_sight cX12_sight 3 (some .int) (2) n n nf [(2, 337), (0, a1), (0, a2)] M (f_X12_sight M a1 a2) := by
  refine AM_of (by decide +kernel) (Nat.le_of_ble_eq_true rfl) (fun h => absurd h (Int.lt_irrefl n)) ?_
  show AW g false RX12 cX12_sight 3 (some .int) (2) n n nf 0 [(0, 2, 337), (1, 0, a1), (2, 0, a2)] [] n M (f_X12_sight M a1 a2)
  unfold f_X12_sight
  refine r_iload_n 1 dX12_sight_0 rfl rfl ?_
  refine r_iload_n 2 dX12_sight_1 rfl rfl ?_
  refine r_ins (a := 0) ⟨Nat.le_refl _, Nat.le_refl _⟩ dX12_sight_2 kM_X12_518 (by decide) (by decide) [(0, a1), (0, a2)] rfl (sk := []) rfl (Nat.le_of_ble_eq_true rfl) rfl rfl (m_X12_isSquare hu M a1 a2) (fun r1 M2 => ?_)
  refine r_if_eq (tgt := 22) dX12_sight_5 rfl (fun h3 => ?_) (fun h4 => ?_)
  · refine r_iconst dX12_sight_22 ⟨by decide, by decide⟩ ?_
    exact r_iret rfl rfl (Or.inl rfl) dX12_sight_23
  · refine r_aload_n 0 dX12_sight_8 rfl rfl ?_
    refine r_gx (kz := 74) rfl hu dX12_sight_9 kF_X12_167 kd_337 rfl rfl rfl fx_337_74 ?_
    refine r_bipush dX12_sight_12 (by decide) ⟨by decide, by decide⟩ ?_
    refine r_iload_n 2 dX12_sight_14 rfl rfl ?_
    refine r_ok (fun h5 => ?_)
    refine r_imul dX12_sight_15 h5 ?_
    refine r_iload_n 1 dX12_sight_16 rfl rfl ?_
    refine r_ok (fun h6 => ?_)
    refine r_iadd dX12_sight_17 h6 ?_
    refine r_ok (fun h7 => ?_)
    refine r_iald hu dX12_sight_18 kd_388 rfl (Or.inl rfl) rfl ln_388 h7 ?_
    refine r_goto (tgt := 23) dX12_sight_19 rfl ?_
    exact r_iret rfl rfl (Or.inl rfl) dX12_sight_23
theorem dX12_seenSide_0 : decode cX12_seenSide 0 = .ok (.iconst 0, 1) := by decide +kernel
theorem dX12_seenSide_1 : decode cX12_seenSide 1 = .ok (.istore_n 1, 1) := by decide +kernel
theorem dX12_seenSide_2 : decode cX12_seenSide 2 = .ok (.iconst 1, 1) := by decide +kernel
theorem dX12_seenSide_3 : decode cX12_seenSide 3 = .ok (.istore_n 2, 1) := by decide +kernel
theorem dX12_seenSide_4 : decode cX12_seenSide 4 = .ok (.iload_n 2, 1) := by decide +kernel
theorem dX12_seenSide_5 : decode cX12_seenSide 5 = .ok (.aload_n 0, 1) := by decide +kernel
theorem dX12_seenSide_6 : decode cX12_seenSide 6 = .ok (.getfield 522, 3) := by decide +kernel
theorem dX12_seenSide_9 : decode cX12_seenSide 9 = .ok (.if_icmp .ge 26, 3) := by decide +kernel
theorem dX12_seenSide_12 : decode cX12_seenSide 12 = .ok (.aload_n 0, 1) := by decide +kernel
theorem dX12_seenSide_13 : decode cX12_seenSide 13 = .ok (.getfield 173, 3) := by decide +kernel
theorem dX12_seenSide_16 : decode cX12_seenSide 16 = .ok (.iload_n 2, 1) := by decide +kernel
theorem dX12_seenSide_17 : decode cX12_seenSide 17 = .ok (.iaload, 1) := by decide +kernel
theorem dX12_seenSide_18 : decode cX12_seenSide 18 = .ok (.aload_n 0, 1) := by decide +kernel
theorem dX12_seenSide_19 : decode cX12_seenSide 19 = .ok (.getfield 173, 3) := by decide +kernel
theorem dX12_seenSide_22 : decode cX12_seenSide 22 = .ok (.iload_n 1, 1) := by decide +kernel
theorem dX12_seenSide_23 : decode cX12_seenSide 23 = .ok (.iaload, 1) := by decide +kernel
theorem dX12_seenSide_24 : decode cX12_seenSide 24 = .ok (.if_icmp .le 5, 3) := by decide +kernel
theorem dX12_seenSide_27 : decode cX12_seenSide 27 = .ok (.iload_n 2, 1) := by decide +kernel
theorem dX12_seenSide_28 : decode cX12_seenSide 28 = .ok (.istore_n 1, 1) := by decide +kernel
theorem dX12_seenSide_29 : decode cX12_seenSide 29 = .ok (.iinc 2 1, 3) := by decide +kernel
theorem dX12_seenSide_32 : decode cX12_seenSide 32 = .ok (.goto (-28), 3) := by decide +kernel
theorem dX12_seenSide_35 : decode cX12_seenSide 35 = .ok (.iload_n 1, 1) := by decide +kernel
theorem dX12_seenSide_36 : decode cX12_seenSide 36 = .ok (.ireturn, 1) := by decide +kernel
set_option maxRecDepth 100000 in
theorem tb_X12_seenSide_4 {g : GT} {n nf : Int} (hu : Up false nf n) (w4 : Mem → Int → Int → Res) (hw4 : ∀ (M : Mem) (x1 x2 : Int), AW g false RX12 cX12_seenSide 3 (some .int) (0) n n nf 4 [(0, 2, 337), (1, 0, x1), (2, 0, x2)] [] n M (w4 M x1 x2)) (M : Mem) (x1 x2 : Int) : AW g false RX12 cX12_seenSide 3 (some .int) (0) n n nf 4 [(0, 2, 337), (1, 0, x1), (2, 0, x2)] [] n M (b_X12_seenSide_4 w4 M x1 x2) := by
  unfold b_X12_seenSide_4
  refine r_iload_n 2 dX12_seenSide_4 rfl rfl ?_
  refine r_aload_n 0 dX12_seenSide_5 rfl rfl ?_
  refine r_gf (t := 0) (kz := 78) rfl hu dX12_seenSide_6 kF_X12_522 kd_337 rfl rfl rfl ?_
  refine r_icmp_ge (tgt := 35) dX12_seenSide_9 rfl (fun h1 => ?_) (fun h2 => ?_)
  · refine r_iload_n 1 dX12_seenSide_35 rfl rfl ?_
    exact r_iret rfl rfl (Or.inl rfl) dX12_seenSide_36
  · refine r_aload_n 0 dX12_seenSide_12 rfl rfl ?_
    refine r_gx (kz := 76) rfl hu dX12_seenSide_13 kF_X12_173 kd_337 rfl rfl rfl fx_337_76 ?_
    refine r_iload_n 2 dX12_seenSide_16 rfl rfl ?_
    refine r_ok (fun h3 => ?_)
    refine r_iald hu dX12_seenSide_17 kd_390 rfl (Or.inl rfl) rfl ln_390 h3 ?_
    refine r_aload_n 0 dX12_seenSide_18 rfl rfl ?_
    refine r_gx (kz := 76) rfl hu dX12_seenSide_19 kF_X12_173 kd_337 rfl rfl rfl fx_337_76 ?_
    refine r_iload_n 1 dX12_seenSide_22 rfl rfl ?_
    refine r_ok (fun h4 => ?_)
    refine r_iald hu dX12_seenSide_23 kd_390 rfl (Or.inl rfl) rfl ln_390 h4 ?_
    refine r_icmp_le (tgt := 29) dX12_seenSide_24 rfl (fun h5 => ?_) (fun h6 => ?_)
    · refine r_iincB 2 dX12_seenSide_29 rfl ⟨by have := h3; omega, by have := h3; omega⟩ (by decide) (lf := fun y7 => [(2, 0, y7), (0, 2, 337), (1, 0, x1)]) (fun _ => rfl) (fun y7 ey7 => ?_)
      refine r_goto (tgt := 4) dX12_seenSide_32 rfl ?_
      refine r_sub [1, 2, 0] (ls' := [(0, 2, 337), (1, 0, x1), (2, 0, y7)]) rfl ?_
      exact hw4 M x1 y7
    · refine r_iload_n 2 dX12_seenSide_27 rfl rfl ?_
      refine r_istore_n dX12_seenSide_28 rfl (by decide) (ls' := [(1, 0, x2), (0, 2, 337), (2, 0, x2)]) rfl ?_
      refine r_iincB 2 dX12_seenSide_29 rfl ⟨by have := h3; omega, by have := h3; omega⟩ (by decide) (lf := fun y8 => [(2, 0, y8), (1, 0, x2), (0, 2, 337)]) (fun _ => rfl) (fun y8 ey8 => ?_)
      refine r_goto (tgt := 4) dX12_seenSide_32 rfl ?_
      refine r_sub [2, 1, 0] (ls' := [(0, 2, 337), (1, 0, x2), (2, 0, y8)]) rfl ?_
      exact hw4 M x2 y8
set_option maxRecDepth 100000 in
theorem m_X12_seenSide {g : GT} {n nf : Int} (hu : Up false nf n) (M : Mem) : AM g false yX12_seenSide cX12_seenSide 3 (some .int) (0) n n nf [(2, 337)] M (f_X12_seenSide M) := by
  refine AM_of (by decide +kernel) (Nat.le_of_ble_eq_true rfl) (fun h => absurd h (Int.lt_irrefl n)) ?_
  show AW g false RX12 cX12_seenSide 3 (some .int) (0) n n nf 0 [(0, 2, 337)] [] n M (f_X12_seenSide M)
  unfold f_X12_seenSide
  refine r_iconst dX12_seenSide_0 ⟨by decide, by decide⟩ ?_
  refine r_istore_n dX12_seenSide_1 rfl (by decide) (ls' := [(1, 0, 0), (0, 2, 337)]) rfl ?_
  refine r_iconst dX12_seenSide_2 ⟨by decide, by decide⟩ ?_
  refine r_istore_n dX12_seenSide_3 rfl (by decide) (ls' := [(2, 0, 1), (1, 0, 0), (0, 2, 337)]) rfl ?_
  refine r_sub [2, 1, 0] (ls' := [(0, 2, 337), (1, 0, 0), (2, 0, 1)]) rfl ?_
  exact wl2_aw (P := fun M x1 x2 o => AW g false RX12 cX12_seenSide 3 (some .int) (0) n n nf 4 [(0, 2, 337), (1, 0, x1), (2, 0, x2)] [] n M (o)) (fun M x1 x2 => aw_none) (fun w hw M x1 x2 => tb_X12_seenSide_4 hu w hw M x1 x2) FU M 0 1
