theorem dX12_walked_0 : decode cX12_walked 0 = .ok (.iconst 0, 1) := by decide +kernel
theorem dX12_walked_1 : decode cX12_walked 1 = .ok (.istore_n 3, 1) := by decide +kernel
theorem dX12_walked_2 : decode cX12_walked 2 = .ok (.iload_n 3, 1) := by decide +kernel
theorem dX12_walked_3 : decode cX12_walked 3 = .ok (.bipush 8, 2) := by decide +kernel
theorem dX12_walked_5 : decode cX12_walked 5 = .ok (.if_icmp .ge 37, 3) := by decide +kernel
theorem dX12_walked_8 : decode cX12_walked 8 = .ok (.aload_n 0, 1) := by decide +kernel
theorem dX12_walked_9 : decode cX12_walked 9 = .ok (.getfield 215, 3) := by decide +kernel
theorem dX12_walked_12 : decode cX12_walked 12 = .ok (.iload_n 3, 1) := by decide +kernel
theorem dX12_walked_13 : decode cX12_walked 13 = .ok (.iload_n 3, 1) := by decide +kernel
theorem dX12_walked_14 : decode cX12_walked 14 = .ok (.iload_n 1, 1) := by decide +kernel
theorem dX12_walked_15 : decode cX12_walked 15 = .ok (.if_icmp .ne 19, 3) := by decide +kernel
theorem dX12_walked_18 : decode cX12_walked 18 = .ok (.aload_n 0, 1) := by decide +kernel
theorem dX12_walked_19 : decode cX12_walked 19 = .ok (.getfield 212, 3) := by decide +kernel
theorem dX12_walked_22 : decode cX12_walked 22 = .ok (.bipush 12, 2) := by decide +kernel
theorem dX12_walked_24 : decode cX12_walked 24 = .ok (.iload_n 3, 1) := by decide +kernel
theorem dX12_walked_25 : decode cX12_walked 25 = .ok (.imul, 1) := by decide +kernel
theorem dX12_walked_26 : decode cX12_walked 26 = .ok (.baload, 1) := by decide +kernel
theorem dX12_walked_27 : decode cX12_walked 27 = .ok (.ifCond .ne 7, 3) := by decide +kernel
theorem dX12_walked_30 : decode cX12_walked 30 = .ok (.lconst 1, 1) := by decide +kernel
theorem dX12_walked_31 : decode cX12_walked 31 = .ok (.goto 4, 3) := by decide +kernel
theorem dX12_walked_34 : decode cX12_walked 34 = .ok (.lconst 0, 1) := by decide +kernel
theorem dX12_walked_35 : decode cX12_walked 35 = .ok (.lastore, 1) := by decide +kernel
theorem dX12_walked_36 : decode cX12_walked 36 = .ok (.iinc 3 1, 3) := by decide +kernel
theorem dX12_walked_39 : decode cX12_walked 39 = .ok (.goto (-37), 3) := by decide +kernel
theorem dX12_walked_42 : decode cX12_walked 42 = .ok (.iconst 1, 1) := by decide +kernel
theorem dX12_walked_43 : decode cX12_walked 43 = .ok (.istore_n 3, 1) := by decide +kernel
theorem dX12_walked_44 : decode cX12_walked 44 = .ok (.iload_n 3, 1) := by decide +kernel
theorem dX12_walked_45 : decode cX12_walked 45 = .ok (.bipush 12, 2) := by decide +kernel
theorem dX12_walked_47 : decode cX12_walked 47 = .ok (.if_icmp .ge 179, 3) := by decide +kernel
theorem dX12_walked_50 : decode cX12_walked 50 = .ok (.iconst 0, 1) := by decide +kernel
theorem dX12_walked_51 : decode cX12_walked 51 = .ok (.istore 4, 2) := by decide +kernel
theorem dX12_walked_53 : decode cX12_walked 53 = .ok (.iload 4, 2) := by decide +kernel
theorem dX12_walked_55 : decode cX12_walked 55 = .ok (.bipush 8, 2) := by decide +kernel
theorem dX12_walked_57 : decode cX12_walked 57 = .ok (.if_icmp .ge 17, 3) := by decide +kernel
theorem dX12_walked_60 : decode cX12_walked 60 = .ok (.aload_n 0, 1) := by decide +kernel
theorem dX12_walked_61 : decode cX12_walked 61 = .ok (.getfield 218, 3) := by decide +kernel
theorem dX12_walked_64 : decode cX12_walked 64 = .ok (.iload 4, 2) := by decide +kernel
theorem dX12_walked_66 : decode cX12_walked 66 = .ok (.lconst 0, 1) := by decide +kernel
theorem dX12_walked_67 : decode cX12_walked 67 = .ok (.lastore, 1) := by decide +kernel
theorem dX12_walked_68 : decode cX12_walked 68 = .ok (.iinc 4 1, 3) := by decide +kernel
theorem dX12_walked_71 : decode cX12_walked 71 = .ok (.goto (-18), 3) := by decide +kernel
theorem dX12_walked_74 : decode cX12_walked 74 = .ok (.iconst 0, 1) := by decide +kernel
theorem dX12_walked_75 : decode cX12_walked 75 = .ok (.istore 4, 2) := by decide +kernel
theorem dX12_walked_77 : decode cX12_walked 77 = .ok (.iload 4, 2) := by decide +kernel
theorem dX12_walked_79 : decode cX12_walked 79 = .ok (.bipush 8, 2) := by decide +kernel
theorem dX12_walked_81 : decode cX12_walked 81 = .ok (.if_icmp .ge 109, 3) := by decide +kernel
theorem dX12_walked_84 : decode cX12_walked 84 = .ok (.aload_n 0, 1) := by decide +kernel
theorem dX12_walked_85 : decode cX12_walked 85 = .ok (.getfield 215, 3) := by decide +kernel
theorem dX12_walked_88 : decode cX12_walked 88 = .ok (.iload 4, 2) := by decide +kernel
theorem dX12_walked_90 : decode cX12_walked 90 = .ok (.laload, 1) := by decide +kernel
theorem dX12_walked_91 : decode cX12_walked 91 = .ok (.iload_n 2, 1) := by decide +kernel
theorem dX12_walked_92 : decode cX12_walked 92 = .ok (.ifCond .ne 7, 3) := by decide +kernel
theorem dX12_walked_95 : decode cX12_walked 95 = .ok (.lconst 1, 1) := by decide +kernel
theorem dX12_walked_96 : decode cX12_walked 96 = .ok (.goto 24, 3) := by decide +kernel
theorem dX12_walked_99 : decode cX12_walked 99 = .ok (.iload 4, 2) := by decide +kernel
theorem dX12_walked_101 : decode cX12_walked 101 = .ok (.ifCond .eq 10, 3) := by decide +kernel
theorem dX12_walked_104 : decode cX12_walked 104 = .ok (.iload 4, 2) := by decide +kernel
theorem dX12_walked_106 : decode cX12_walked 106 = .ok (.bipush 7, 2) := by decide +kernel
theorem dX12_walked_108 : decode cX12_walked 108 = .ok (.if_icmp .ne 9, 3) := by decide +kernel
theorem dX12_walked_111 : decode cX12_walked 111 = .ok (.ldc2_w 625, 3) := by decide +kernel
theorem dX12_walked_114 : decode cX12_walked 114 = .ok (.goto 6, 3) := by decide +kernel
theorem dX12_walked_117 : decode cX12_walked 117 = .ok (.ldc2_w 481, 3) := by decide +kernel
theorem dX12_walked_120 : decode cX12_walked 120 = .ok (.lmul, 1) := by decide +kernel
theorem dX12_walked_121 : decode cX12_walked 121 = .ok (.lstore 5, 2) := by decide +kernel
theorem dX12_walked_123 : decode cX12_walked 123 = .ok (.iload 4, 2) := by decide +kernel
theorem dX12_walked_125 : decode cX12_walked 125 = .ok (.iconst 1, 1) := by decide +kernel
theorem dX12_walked_126 : decode cX12_walked 126 = .ok (.isub, 1) := by decide +kernel
theorem dX12_walked_127 : decode cX12_walked 127 = .ok (.istore 7, 2) := by decide +kernel
theorem dX12_walked_129 : decode cX12_walked 129 = .ok (.iload 7, 2) := by decide +kernel
theorem dX12_walked_131 : decode cX12_walked 131 = .ok (.iload 4, 2) := by decide +kernel
theorem dX12_walked_133 : decode cX12_walked 133 = .ok (.iconst 1, 1) := by decide +kernel
theorem dX12_walked_134 : decode cX12_walked 134 = .ok (.iadd, 1) := by decide +kernel
theorem dX12_walked_135 : decode cX12_walked 135 = .ok (.if_icmp .gt 49, 3) := by decide +kernel
theorem dX12_walked_138 : decode cX12_walked 138 = .ok (.iload 7, 2) := by decide +kernel
theorem dX12_walked_140 : decode cX12_walked 140 = .ok (.i2l, 1) := by decide +kernel
theorem dX12_walked_141 : decode cX12_walked 141 = .ok (.lconst 0, 1) := by decide +kernel
theorem dX12_walked_142 : decode cX12_walked 142 = .ok (.ldc2_w 485, 3) := by decide +kernel
theorem dX12_walked_145 : decode cX12_walked 145 = .ok (.invokestatic 267, 3) := by decide +kernel
theorem dX12_walked_148 : decode cX12_walked 148 = .ok (.ifCond .eq 30, 3) := by decide +kernel
theorem dX12_walked_151 : decode cX12_walked 151 = .ok (.aload_n 0, 1) := by decide +kernel
theorem dX12_walked_152 : decode cX12_walked 152 = .ok (.getfield 212, 3) := by decide +kernel
theorem dX12_walked_155 : decode cX12_walked 155 = .ok (.bipush 12, 2) := by decide +kernel
theorem dX12_walked_157 : decode cX12_walked 157 = .ok (.iload 7, 2) := by decide +kernel
theorem dX12_walked_159 : decode cX12_walked 159 = .ok (.imul, 1) := by decide +kernel
theorem dX12_walked_160 : decode cX12_walked 160 = .ok (.iload_n 3, 1) := by decide +kernel
theorem dX12_walked_161 : decode cX12_walked 161 = .ok (.iadd, 1) := by decide +kernel
theorem dX12_walked_162 : decode cX12_walked 162 = .ok (.baload, 1) := by decide +kernel
theorem dX12_walked_163 : decode cX12_walked 163 = .ok (.ifCond .ne 15, 3) := by decide +kernel
theorem dX12_walked_166 : decode cX12_walked 166 = .ok (.aload_n 0, 1) := by decide +kernel
theorem dX12_walked_167 : decode cX12_walked 167 = .ok (.getfield 218, 3) := by decide +kernel
theorem dX12_walked_170 : decode cX12_walked 170 = .ok (.iload 7, 2) := by decide +kernel
theorem dX12_walked_172 : decode cX12_walked 172 = .ok (.dup2, 1) := by decide +kernel
theorem dX12_walked_173 : decode cX12_walked 173 = .ok (.laload, 1) := by decide +kernel
theorem dX12_walked_174 : decode cX12_walked 174 = .ok (.lload 5, 2) := by decide +kernel
theorem dX12_walked_176 : decode cX12_walked 176 = .ok (.ladd, 1) := by decide +kernel
theorem dX12_walked_177 : decode cX12_walked 177 = .ok (.lastore, 1) := by decide +kernel
theorem dX12_walked_178 : decode cX12_walked 178 = .ok (.iinc 7 1, 3) := by decide +kernel
theorem dX12_walked_181 : decode cX12_walked 181 = .ok (.goto (-52), 3) := by decide +kernel
theorem dX12_walked_184 : decode cX12_walked 184 = .ok (.iinc 4 1, 3) := by decide +kernel
theorem dX12_walked_187 : decode cX12_walked 187 = .ok (.goto (-110), 3) := by decide +kernel
theorem dX12_walked_190 : decode cX12_walked 190 = .ok (.iconst 0, 1) := by decide +kernel
theorem dX12_walked_191 : decode cX12_walked 191 = .ok (.istore 4, 2) := by decide +kernel
theorem dX12_walked_193 : decode cX12_walked 193 = .ok (.iload 4, 2) := by decide +kernel
theorem dX12_walked_195 : decode cX12_walked 195 = .ok (.bipush 8, 2) := by decide +kernel
theorem dX12_walked_197 : decode cX12_walked 197 = .ok (.if_icmp .ge 23, 3) := by decide +kernel
theorem dX12_walked_200 : decode cX12_walked 200 = .ok (.aload_n 0, 1) := by decide +kernel
theorem dX12_walked_201 : decode cX12_walked 201 = .ok (.getfield 215, 3) := by decide +kernel
theorem dX12_walked_204 : decode cX12_walked 204 = .ok (.iload 4, 2) := by decide +kernel
theorem dX12_walked_206 : decode cX12_walked 206 = .ok (.aload_n 0, 1) := by decide +kernel
theorem dX12_walked_207 : decode cX12_walked 207 = .ok (.getfield 218, 3) := by decide +kernel
theorem dX12_walked_210 : decode cX12_walked 210 = .ok (.iload 4, 2) := by decide +kernel
theorem dX12_walked_212 : decode cX12_walked 212 = .ok (.laload, 1) := by decide +kernel
theorem dX12_walked_213 : decode cX12_walked 213 = .ok (.lastore, 1) := by decide +kernel
theorem dX12_walked_214 : decode cX12_walked 214 = .ok (.iinc 4 1, 3) := by decide +kernel
theorem dX12_walked_217 : decode cX12_walked 217 = .ok (.goto (-24), 3) := by decide +kernel
theorem dX12_walked_220 : decode cX12_walked 220 = .ok (.iinc 3 1, 3) := by decide +kernel
theorem dX12_walked_223 : decode cX12_walked 223 = .ok (.goto (-179), 3) := by decide +kernel
theorem dX12_walked_226 : decode cX12_walked 226 = .ok (.lconst 0, 1) := by decide +kernel
theorem dX12_walked_227 : decode cX12_walked 227 = .ok (.lstore_n 3, 1) := by decide +kernel
theorem dX12_walked_228 : decode cX12_walked 228 = .ok (.iconst 0, 1) := by decide +kernel
theorem dX12_walked_229 : decode cX12_walked 229 = .ok (.istore 5, 2) := by decide +kernel
theorem dX12_walked_231 : decode cX12_walked 231 = .ok (.iload 5, 2) := by decide +kernel
theorem dX12_walked_233 : decode cX12_walked 233 = .ok (.bipush 8, 2) := by decide +kernel
theorem dX12_walked_235 : decode cX12_walked 235 = .ok (.if_icmp .ge 19, 3) := by decide +kernel
theorem dX12_walked_238 : decode cX12_walked 238 = .ok (.lload_n 3, 1) := by decide +kernel
theorem dX12_walked_239 : decode cX12_walked 239 = .ok (.aload_n 0, 1) := by decide +kernel
theorem dX12_walked_240 : decode cX12_walked 240 = .ok (.getfield 215, 3) := by decide +kernel
theorem dX12_walked_243 : decode cX12_walked 243 = .ok (.iload 5, 2) := by decide +kernel
theorem dX12_walked_245 : decode cX12_walked 245 = .ok (.laload, 1) := by decide +kernel
theorem dX12_walked_246 : decode cX12_walked 246 = .ok (.ladd, 1) := by decide +kernel
theorem dX12_walked_247 : decode cX12_walked 247 = .ok (.lstore_n 3, 1) := by decide +kernel
theorem dX12_walked_248 : decode cX12_walked 248 = .ok (.iinc 5 1, 3) := by decide +kernel
theorem dX12_walked_251 : decode cX12_walked 251 = .ok (.goto (-20), 3) := by decide +kernel
theorem dX12_walked_254 : decode cX12_walked 254 = .ok (.lload_n 3, 1) := by decide +kernel
theorem dX12_walked_255 : decode cX12_walked 255 = .ok (.lreturn, 1) := by decide +kernel
set_option maxRecDepth 100000 in
theorem tb_X12_walked_231 {g : GT} {n nf : Int} (hu : Up false nf n) (w231 : Mem → Int → Int → Res) (hw231 : ∀ (M : Mem) (x3 x5 : Int), AW g false RX12 cX12_walked 8 (some .long) (1) n n nf 231 [(0, 2, 337), (3, 1, x3), (5, 0, x5)] [] n M (w231 M x3 x5)) (M : Mem) (x3 x5 : Int) : AW g false RX12 cX12_walked 8 (some .long) (1) n n nf 231 [(0, 2, 337), (3, 1, x3), (5, 0, x5)] [] n M (b_X12_walked_231 w231 M x3 x5) := by
  unfold b_X12_walked_231
  refine r_iload 2 dX12_walked_231 rfl ?_
  refine r_bipush dX12_walked_233 (by decide) ⟨by decide, by decide⟩ ?_
  refine r_icmp_ge (tgt := 254) dX12_walked_235 rfl (fun h5 => ?_) (fun h6 => ?_)
  · refine r_lload_n 1 dX12_walked_254 rfl rfl ?_
    exact r_lret rfl rfl dX12_walked_255
  · refine r_lload_n 1 dX12_walked_238 rfl rfl ?_
    refine r_aload_n 0 dX12_walked_239 rfl rfl ?_
    refine r_gx (kz := 92) rfl hu dX12_walked_240 kF_X12_215 kd_337 rfl rfl rfl fx_337_92 ?_
    refine r_iload 2 dX12_walked_243 rfl ?_
    refine r_ok (fun h7 => ?_)
    refine r_lald hu dX12_walked_245 kd_404 rfl rfl rfl ln_404 h7 ?_
    refine r_ok (fun h8 => ?_)
    refine r_ladd dX12_walked_246 h8 ?_
    refine r_lstore_nB dX12_walked_247 rfl (by decide) (lf := fun y9 => [(3, 1, y9), (0, 2, 337), (5, 0, x5)]) (fun _ => rfl) (fun y9 ey9 => ?_)
    refine r_iincB 2 dX12_walked_248 rfl ⟨by have := h7; omega, by have := h7; omega⟩ (by decide) (lf := fun y10 => [(5, 0, y10), (3, 1, y9), (0, 2, 337)]) (fun _ => rfl) (fun y10 ey10 => ?_)
    refine r_goto (tgt := 231) dX12_walked_251 rfl ?_
    refine r_sub [2, 1, 0] (ls' := [(0, 2, 337), (3, 1, y9), (5, 0, y10)]) rfl ?_
    exact hw231 M y9 y10
set_option maxRecDepth 100000 in
theorem tb_X12_walked_193 {g : GT} {n nf : Int} (hu : Up false nf n) (a2 : Int) (w44 : Mem → Int → Res) (w193 : Mem → Int → Int → Res) (hw44 : ∀ (M : Mem) (x3 : Int), AW g false RX12 cX12_walked 8 (some .long) (1) n n nf 44 [(0, 2, 337), (2, 0, a2), (3, 0, x3)] [] n M (w44 M x3)) (hw193 : ∀ (M : Mem) (x3 x4 : Int), AW g false RX12 cX12_walked 8 (some .long) (1) n n nf 193 [(0, 2, 337), (2, 0, a2), (3, 0, x3), (4, 0, x4)] [] n M (w193 M x3 x4)) (M : Mem) (x3 x4 : Int) : AW g false RX12 cX12_walked 8 (some .long) (1) n n nf 193 [(0, 2, 337), (2, 0, a2), (3, 0, x3), (4, 0, x4)] [] n M (b_X12_walked_193 a2 w44 w193 M x3 x4) := by
  unfold b_X12_walked_193
  refine r_iload 3 dX12_walked_193 rfl ?_
  refine r_bipush dX12_walked_195 (by decide) ⟨by decide, by decide⟩ ?_
  refine r_icmp_ge (tgt := 220) dX12_walked_197 rfl (fun h15 => ?_) (fun h16 => ?_)
  · refine r_ok (fun h17 => ?_)
    refine r_iincB 2 dX12_walked_220 rfl h17 (by decide) (lf := fun y18 => [(3, 0, y18), (0, 2, 337), (2, 0, a2), (4, 0, x4)]) (fun _ => rfl) (fun y18 ey18 => ?_)
    refine r_goto (tgt := 44) dX12_walked_223 rfl ?_
    refine r_sub [1, 2, 0] (ls' := [(0, 2, 337), (2, 0, a2), (3, 0, y18)]) rfl ?_
    exact hw44 M y18
  · refine r_aload_n 0 dX12_walked_200 rfl rfl ?_
    refine r_gx (kz := 92) rfl hu dX12_walked_201 kF_X12_215 kd_337 rfl rfl rfl fx_337_92 ?_
    refine r_iload 3 dX12_walked_204 rfl ?_
    refine r_aload_n 0 dX12_walked_206 rfl rfl ?_
    refine r_gx (kz := 93) rfl hu dX12_walked_207 kF_X12_218 kd_337 rfl rfl rfl fx_337_93 ?_
    refine r_iload 3 dX12_walked_210 rfl ?_
    refine r_ok (fun h19 => ?_)
    refine r_lald hu dX12_walked_212 kd_405 rfl rfl rfl ln_405 h19 ?_
    refine r_last hu dX12_walked_213 kd_404 rfl rfl rfl ln_404 h19 rfl (fun M20 eM20 => ?_)
    refine r_iincB 3 dX12_walked_214 rfl ⟨by have := h19; omega, by have := h19; omega⟩ (by decide) (lf := fun y21 => [(4, 0, y21), (0, 2, 337), (2, 0, a2), (3, 0, x3)]) (fun _ => rfl) (fun y21 ey21 => ?_)
    refine r_goto (tgt := 193) dX12_walked_217 rfl ?_
    refine r_sub [1, 2, 3, 0] (ls' := [(0, 2, 337), (2, 0, a2), (3, 0, x3), (4, 0, y21)]) rfl ?_
    exact hw193 M20 x3 y21
set_option maxRecDepth 100000 in
theorem tb_X12_walked_129 {g : GT} {n nf : Int} (hu : Up false nf n) (a2 : Int) (w44 : Mem → Int → Res) (w77 : Mem → Int → Int → Res) (w129 : Mem → Int → Int → Int → Int → Res) (hw44 : ∀ (M : Mem) (x3 : Int), AW g false RX12 cX12_walked 8 (some .long) (1) n n nf 44 [(0, 2, 337), (2, 0, a2), (3, 0, x3)] [] n M (w44 M x3)) (hw77 : ∀ (M : Mem) (x3 x4 : Int), AW g false RX12 cX12_walked 8 (some .long) (1) n n nf 77 [(0, 2, 337), (2, 0, a2), (3, 0, x3), (4, 0, x4)] [] n M (w77 M x3 x4)) (hw129 : ∀ (M : Mem) (x3 x4 x5 x7 : Int), AW g false RX12 cX12_walked 8 (some .long) (1) n n nf 129 [(0, 2, 337), (2, 0, a2), (3, 0, x3), (4, 0, x4), (5, 1, x5), (7, 0, x7)] [] n M (w129 M x3 x4 x5 x7)) (M : Mem) (x3 x4 x5 x7 : Int) : AW g false RX12 cX12_walked 8 (some .long) (1) n n nf 129 [(0, 2, 337), (2, 0, a2), (3, 0, x3), (4, 0, x4), (5, 1, x5), (7, 0, x7)] [] n M (b_X12_walked_129 a2 w44 w77 w129 M x3 x4 x5 x7) := by
  unfold b_X12_walked_129
  refine r_iload 5 dX12_walked_129 rfl ?_
  refine r_iload 3 dX12_walked_131 rfl ?_
  refine r_iconst dX12_walked_133 ⟨by decide, by decide⟩ ?_
  refine r_ok (fun h28 => ?_)
  refine r_iadd dX12_walked_134 h28 ?_
  refine r_icmp_gt (tgt := 184) dX12_walked_135 rfl (fun h29 => ?_) (fun h30 => ?_)
  · refine r_iincB 3 dX12_walked_184 rfl h28 (by decide) (lf := fun y31 => [(4, 0, y31), (0, 2, 337), (2, 0, a2), (3, 0, x3), (5, 1, x5), (7, 0, x7)]) (fun _ => rfl) (fun y31 ey31 => ?_)
    refine r_goto (tgt := 77) dX12_walked_187 rfl ?_
    refine r_sub [1, 2, 3, 0] (ls' := [(0, 2, 337), (2, 0, a2), (3, 0, x3), (4, 0, y31)]) rfl ?_
    exact hw77 M x3 y31
  · refine r_iload 5 dX12_walked_138 rfl ?_
    refine r_i2l dX12_walked_140 ?_
    refine r_lconst (v := 0) dX12_walked_141 (by decide) ⟨by decide, by decide⟩ ?_
    refine r_ldc2 (v := 7) dX12_walked_142 kC_X12_485 rfl ⟨by decide, by decide⟩ ?_
    refine r_ins (a := 0) ⟨Nat.le_refl _, Nat.le_refl _⟩ dX12_walked_145 kM_X12_267 (by decide) (by decide) [(1, x7), (1, 0), (1, 7)] rfl (sk := []) rfl (Nat.le_of_ble_eq_true rfl) rfl rfl (m_X12_isIn hu M x7 0 7) (fun r32 M33 => ?_)
    refine r_if_eq (tgt := 178) dX12_walked_148 rfl (fun h34 => ?_) (fun h35 => ?_)
    · refine r_ok (fun h36 => ?_)
      refine r_iincB 5 dX12_walked_178 rfl h36 (by decide) (lf := fun y37 => [(7, 0, y37), (0, 2, 337), (2, 0, a2), (3, 0, x3), (4, 0, x4), (5, 1, x5)]) (fun _ => rfl) (fun y37 ey37 => ?_)
      refine r_goto (tgt := 129) dX12_walked_181 rfl ?_
      refine r_sub [1, 2, 3, 4, 5, 0] (ls' := [(0, 2, 337), (2, 0, a2), (3, 0, x3), (4, 0, x4), (5, 1, x5), (7, 0, y37)]) rfl ?_
      exact hw129 M33 x3 x4 x5 y37
    · refine r_aload_n 0 dX12_walked_151 rfl rfl ?_
      refine r_gx (kz := 91) rfl hu dX12_walked_152 kF_X12_212 kd_337 rfl rfl rfl fx_337_91 ?_
      refine r_bipush dX12_walked_155 (by decide) ⟨by decide, by decide⟩ ?_
      refine r_iload 5 dX12_walked_157 rfl ?_
      refine r_ok (fun h38 => ?_)
      refine r_imul dX12_walked_159 h38 ?_
      refine r_iload_n 2 dX12_walked_160 rfl rfl ?_
      refine r_ok (fun h39 => ?_)
      refine r_iadd dX12_walked_161 h39 ?_
      refine r_ok (fun h40 => ?_)
      refine r_zald hu dX12_walked_162 kd_403 rfl rfl rfl ln_403 h40 ?_
      refine r_if_ne (tgt := 178) dX12_walked_163 rfl (fun h41 => ?_) (fun h42 => ?_)
      · refine r_aload_n 0 dX12_walked_166 rfl rfl ?_
        refine r_gx (kz := 93) rfl hu dX12_walked_167 kF_X12_218 kd_337 rfl rfl rfl fx_337_93 ?_
        refine r_iload 5 dX12_walked_170 rfl ?_
        refine r_dup2 dX12_walked_172 (nz0 _) (nz2 _) ?_
        refine r_ok (fun h43 => ?_)
        refine r_lald hu dX12_walked_173 kd_405 rfl rfl rfl ln_405 h43 ?_
        refine r_lload 4 dX12_walked_174 rfl ?_
        refine r_ok (fun h44 => ?_)
        refine r_ladd dX12_walked_176 h44 ?_
        refine r_last hu dX12_walked_177 kd_405 rfl rfl rfl ln_405 h43 rfl (fun M45 eM45 => ?_)
        refine r_iincB 5 dX12_walked_178 rfl ⟨by have := h43; omega, by have := h43; omega⟩ (by decide) (lf := fun y46 => [(7, 0, y46), (0, 2, 337), (2, 0, a2), (3, 0, x3), (4, 0, x4), (5, 1, x5)]) (fun _ => rfl) (fun y46 ey46 => ?_)
        refine r_goto (tgt := 129) dX12_walked_181 rfl ?_
        refine r_sub [1, 2, 3, 4, 5, 0] (ls' := [(0, 2, 337), (2, 0, a2), (3, 0, x3), (4, 0, x4), (5, 1, x5), (7, 0, y46)]) rfl ?_
        exact hw129 M45 x3 x4 x5 y46
      · refine r_ok (fun h47 => ?_)
        refine r_iincB 5 dX12_walked_178 rfl h47 (by decide) (lf := fun y48 => [(7, 0, y48), (0, 2, 337), (2, 0, a2), (3, 0, x3), (4, 0, x4), (5, 1, x5)]) (fun _ => rfl) (fun y48 ey48 => ?_)
        refine r_goto (tgt := 129) dX12_walked_181 rfl ?_
        refine r_sub [1, 2, 3, 4, 5, 0] (ls' := [(0, 2, 337), (2, 0, a2), (3, 0, x3), (4, 0, x4), (5, 1, x5), (7, 0, y48)]) rfl ?_
        exact hw129 M33 x3 x4 x5 y48
set_option maxRecDepth 100000 in
theorem tb_X12_walked_77 {g : GT} {n nf : Int} (hu : Up false nf n) (a2 : Int) (w44 : Mem → Int → Res) (w77 : Mem → Int → Int → Res) (hw44 : ∀ (M : Mem) (x3 : Int), AW g false RX12 cX12_walked 8 (some .long) (1) n n nf 44 [(0, 2, 337), (2, 0, a2), (3, 0, x3)] [] n M (w44 M x3)) (hw77 : ∀ (M : Mem) (x3 x4 : Int), AW g false RX12 cX12_walked 8 (some .long) (1) n n nf 77 [(0, 2, 337), (2, 0, a2), (3, 0, x3), (4, 0, x4)] [] n M (w77 M x3 x4)) (M : Mem) (x3 x4 : Int) : AW g false RX12 cX12_walked 8 (some .long) (1) n n nf 77 [(0, 2, 337), (2, 0, a2), (3, 0, x3), (4, 0, x4)] [] n M (b_X12_walked_77 a2 w44 w77 M x3 x4) := by
  unfold b_X12_walked_77
  refine r_iload 3 dX12_walked_77 rfl ?_
  refine r_bipush dX12_walked_79 (by decide) ⟨by decide, by decide⟩ ?_
  refine r_icmp_ge (tgt := 190) dX12_walked_81 rfl (fun h13 => ?_) (fun h14 => ?_)
  · refine r_iconst dX12_walked_190 ⟨by decide, by decide⟩ ?_
    refine r_istore dX12_walked_191 (by decide) (ls' := [(4, 0, 0), (0, 2, 337), (2, 0, a2), (3, 0, x3)]) rfl ?_
    refine r_sub [1, 2, 3, 0] (ls' := [(0, 2, 337), (2, 0, a2), (3, 0, x3), (4, 0, 0)]) rfl ?_
    exact wl2_aw (P := fun M x3 x4 o => AW g false RX12 cX12_walked 8 (some .long) (1) n n nf 193 [(0, 2, 337), (2, 0, a2), (3, 0, x3), (4, 0, x4)] [] n M (o)) (fun M x3 x4 => aw_none) (fun w hw M x3 x4 => tb_X12_walked_193 hu a2 w44 w hw44 hw M x3 x4) FU M x3 0
  · refine r_aload_n 0 dX12_walked_84 rfl rfl ?_
    refine r_gx (kz := 92) rfl hu dX12_walked_85 kF_X12_215 kd_337 rfl rfl rfl fx_337_92 ?_
    refine r_iload 3 dX12_walked_88 rfl ?_
    refine r_ok (fun h22 => ?_)
    refine r_lald hu dX12_walked_90 kd_404 rfl rfl rfl ln_404 h22 ?_
    refine r_iload_n 1 dX12_walked_91 rfl rfl ?_
    refine r_if_ne (tgt := 99) dX12_walked_92 rfl (fun h23 => ?_) (fun h24 => ?_)
    · refine r_lconst (v := 1) dX12_walked_95 (by decide) ⟨by decide, by decide⟩ ?_
      refine r_goto (tgt := 120) dX12_walked_96 rfl ?_
      refine r_ok (fun h25 => ?_)
      refine r_lmul dX12_walked_120 h25 ?_
      refine r_lstoreB dX12_walked_121 (by decide) (lf := fun y26 => [(5, 1, y26), (0, 2, 337), (2, 0, a2), (3, 0, x3), (4, 0, x4)]) (fun _ => rfl) (fun y26 ey26 => ?_)
      refine r_iload 4 dX12_walked_123 rfl ?_
      refine r_iconst dX12_walked_125 ⟨by decide, by decide⟩ ?_
      refine r_isub dX12_walked_126 ⟨by have := h22; omega, by have := h22; omega⟩ ?_
      refine r_istoreB dX12_walked_127 (by decide) (lf := fun y27 => [(7, 0, y27), (5, 1, y26), (0, 2, 337), (2, 0, a2), (3, 0, x3), (4, 0, x4)]) (fun _ => rfl) (fun y27 ey27 => ?_)
      refine r_sub [2, 3, 4, 5, 1, 0] (ls' := [(0, 2, 337), (2, 0, a2), (3, 0, x3), (4, 0, x4), (5, 1, y26), (7, 0, y27)]) rfl ?_
      exact wl4_aw (P := fun M x3 x4 x5 x7 o => AW g false RX12 cX12_walked 8 (some .long) (1) n n nf 129 [(0, 2, 337), (2, 0, a2), (3, 0, x3), (4, 0, x4), (5, 1, x5), (7, 0, x7)] [] n M (o)) (fun M x3 x4 x5 x7 => aw_none) (fun w hw M x3 x4 x5 x7 => tb_X12_walked_129 hu a2 w44 w77 w hw44 hw77 hw M x3 x4 x5 x7) FU M x3 x4 y26 y27
    · refine r_iload 3 dX12_walked_99 rfl ?_
      refine r_if_eq (tgt := 111) dX12_walked_101 rfl (fun h49 => ?_) (fun h50 => ?_)
      · refine r_ldc2 (v := 3) dX12_walked_111 kC_X12_625 rfl ⟨by decide, by decide⟩ ?_
        refine r_goto (tgt := 120) dX12_walked_114 rfl ?_
        refine r_ok (fun h51 => ?_)
        refine r_lmul dX12_walked_120 h51 ?_
        refine r_lstoreB dX12_walked_121 (by decide) (lf := fun y52 => [(5, 1, y52), (0, 2, 337), (2, 0, a2), (3, 0, x3), (4, 0, x4)]) (fun _ => rfl) (fun y52 ey52 => ?_)
        refine r_iload 4 dX12_walked_123 rfl ?_
        refine r_iconst dX12_walked_125 ⟨by decide, by decide⟩ ?_
        refine r_isub dX12_walked_126 ⟨by have := h22; omega, by have := h22; omega⟩ ?_
        refine r_istoreB dX12_walked_127 (by decide) (lf := fun y53 => [(7, 0, y53), (5, 1, y52), (0, 2, 337), (2, 0, a2), (3, 0, x3), (4, 0, x4)]) (fun _ => rfl) (fun y53 ey53 => ?_)
        refine r_sub [2, 3, 4, 5, 1, 0] (ls' := [(0, 2, 337), (2, 0, a2), (3, 0, x3), (4, 0, x4), (5, 1, y52), (7, 0, y53)]) rfl ?_
        exact wl4_aw (P := fun M x3 x4 x5 x7 o => AW g false RX12 cX12_walked 8 (some .long) (1) n n nf 129 [(0, 2, 337), (2, 0, a2), (3, 0, x3), (4, 0, x4), (5, 1, x5), (7, 0, x7)] [] n M (o)) (fun M x3 x4 x5 x7 => aw_none) (fun w hw M x3 x4 x5 x7 => tb_X12_walked_129 hu a2 w44 w77 w hw44 hw77 hw M x3 x4 x5 x7) FU M x3 x4 y52 y53
      · refine r_iload 3 dX12_walked_104 rfl ?_
        refine r_bipush dX12_walked_106 (by decide) ⟨by decide, by decide⟩ ?_
        refine r_icmp_ne (tgt := 117) dX12_walked_108 rfl (fun h54 => ?_) (fun h55 => ?_)
        · refine r_ldc2 (v := 3) dX12_walked_111 kC_X12_625 rfl ⟨by decide, by decide⟩ ?_
          refine r_goto (tgt := 120) dX12_walked_114 rfl ?_
          refine r_ok (fun h56 => ?_)
          refine r_lmul dX12_walked_120 h56 ?_
          refine r_lstoreB dX12_walked_121 (by decide) (lf := fun y57 => [(5, 1, y57), (0, 2, 337), (2, 0, a2), (3, 0, x3), (4, 0, x4)]) (fun _ => rfl) (fun y57 ey57 => ?_)
          refine r_iload 4 dX12_walked_123 rfl ?_
          refine r_iconst dX12_walked_125 ⟨by decide, by decide⟩ ?_
          refine r_isub dX12_walked_126 ⟨by have := h22; omega, by have := h22; omega⟩ ?_
          refine r_istoreB dX12_walked_127 (by decide) (lf := fun y58 => [(7, 0, y58), (5, 1, y57), (0, 2, 337), (2, 0, a2), (3, 0, x3), (4, 0, x4)]) (fun _ => rfl) (fun y58 ey58 => ?_)
          refine r_sub [2, 3, 4, 5, 1, 0] (ls' := [(0, 2, 337), (2, 0, a2), (3, 0, x3), (4, 0, x4), (5, 1, y57), (7, 0, y58)]) rfl ?_
          exact wl4_aw (P := fun M x3 x4 x5 x7 o => AW g false RX12 cX12_walked 8 (some .long) (1) n n nf 129 [(0, 2, 337), (2, 0, a2), (3, 0, x3), (4, 0, x4), (5, 1, x5), (7, 0, x7)] [] n M (o)) (fun M x3 x4 x5 x7 => aw_none) (fun w hw M x3 x4 x5 x7 => tb_X12_walked_129 hu a2 w44 w77 w hw44 hw77 hw M x3 x4 x5 x7) FU M x3 x4 y57 y58
        · refine r_ldc2 (v := 2) dX12_walked_117 kC_X12_481 rfl ⟨by decide, by decide⟩ ?_
          refine r_ok (fun h59 => ?_)
          refine r_lmul dX12_walked_120 h59 ?_
          refine r_lstoreB dX12_walked_121 (by decide) (lf := fun y60 => [(5, 1, y60), (0, 2, 337), (2, 0, a2), (3, 0, x3), (4, 0, x4)]) (fun _ => rfl) (fun y60 ey60 => ?_)
          refine r_iload 4 dX12_walked_123 rfl ?_
          refine r_iconst dX12_walked_125 ⟨by decide, by decide⟩ ?_
          refine r_isub dX12_walked_126 ⟨by have := h22; omega, by have := h22; omega⟩ ?_
          refine r_istoreB dX12_walked_127 (by decide) (lf := fun y61 => [(7, 0, y61), (5, 1, y60), (0, 2, 337), (2, 0, a2), (3, 0, x3), (4, 0, x4)]) (fun _ => rfl) (fun y61 ey61 => ?_)
          refine r_sub [2, 3, 4, 5, 1, 0] (ls' := [(0, 2, 337), (2, 0, a2), (3, 0, x3), (4, 0, x4), (5, 1, y60), (7, 0, y61)]) rfl ?_
          exact wl4_aw (P := fun M x3 x4 x5 x7 o => AW g false RX12 cX12_walked 8 (some .long) (1) n n nf 129 [(0, 2, 337), (2, 0, a2), (3, 0, x3), (4, 0, x4), (5, 1, x5), (7, 0, x7)] [] n M (o)) (fun M x3 x4 x5 x7 => aw_none) (fun w hw M x3 x4 x5 x7 => tb_X12_walked_129 hu a2 w44 w77 w hw44 hw77 hw M x3 x4 x5 x7) FU M x3 x4 y60 y61
set_option maxRecDepth 100000 in
theorem tb_X12_walked_53 {g : GT} {n nf : Int} (hu : Up false nf n) (a2 : Int) (w44 : Mem → Int → Res) (w53 : Mem → Int → Int → Res) (hw44 : ∀ (M : Mem) (x3 : Int), AW g false RX12 cX12_walked 8 (some .long) (1) n n nf 44 [(0, 2, 337), (2, 0, a2), (3, 0, x3)] [] n M (w44 M x3)) (hw53 : ∀ (M : Mem) (x3 x4 : Int), AW g false RX12 cX12_walked 8 (some .long) (1) n n nf 53 [(0, 2, 337), (2, 0, a2), (3, 0, x3), (4, 0, x4)] [] n M (w53 M x3 x4)) (M : Mem) (x3 x4 : Int) : AW g false RX12 cX12_walked 8 (some .long) (1) n n nf 53 [(0, 2, 337), (2, 0, a2), (3, 0, x3), (4, 0, x4)] [] n M (b_X12_walked_53 a2 w44 w53 M x3 x4) := by
  unfold b_X12_walked_53
  refine r_iload 3 dX12_walked_53 rfl ?_
  refine r_bipush dX12_walked_55 (by decide) ⟨by decide, by decide⟩ ?_
  refine r_icmp_ge (tgt := 74) dX12_walked_57 rfl (fun h11 => ?_) (fun h12 => ?_)
  · refine r_iconst dX12_walked_74 ⟨by decide, by decide⟩ ?_
    refine r_istore dX12_walked_75 (by decide) (ls' := [(4, 0, 0), (0, 2, 337), (2, 0, a2), (3, 0, x3)]) rfl ?_
    refine r_sub [1, 2, 3, 0] (ls' := [(0, 2, 337), (2, 0, a2), (3, 0, x3), (4, 0, 0)]) rfl ?_
    exact wl2_aw (P := fun M x3 x4 o => AW g false RX12 cX12_walked 8 (some .long) (1) n n nf 77 [(0, 2, 337), (2, 0, a2), (3, 0, x3), (4, 0, x4)] [] n M (o)) (fun M x3 x4 => aw_none) (fun w hw M x3 x4 => tb_X12_walked_77 hu a2 w44 w hw44 hw M x3 x4) FU M x3 0
  · refine r_aload_n 0 dX12_walked_60 rfl rfl ?_
    refine r_gx (kz := 93) rfl hu dX12_walked_61 kF_X12_218 kd_337 rfl rfl rfl fx_337_93 ?_
    refine r_iload 3 dX12_walked_64 rfl ?_
    refine r_lconst (v := 0) dX12_walked_66 (by decide) ⟨by decide, by decide⟩ ?_
    refine r_ok (fun h62 => ?_)
    refine r_last hu dX12_walked_67 kd_405 rfl rfl rfl ln_405 h62 rfl (fun M63 eM63 => ?_)
    refine r_iincB 3 dX12_walked_68 rfl ⟨by have := h62; omega, by have := h62; omega⟩ (by decide) (lf := fun y64 => [(4, 0, y64), (0, 2, 337), (2, 0, a2), (3, 0, x3)]) (fun _ => rfl) (fun y64 ey64 => ?_)
    refine r_goto (tgt := 53) dX12_walked_71 rfl ?_
    refine r_sub [1, 2, 3, 0] (ls' := [(0, 2, 337), (2, 0, a2), (3, 0, x3), (4, 0, y64)]) rfl ?_
    exact hw53 M63 x3 y64
set_option maxRecDepth 100000 in
theorem tb_X12_walked_44 {g : GT} {n nf : Int} (hu : Up false nf n) (a2 : Int) (w44 : Mem → Int → Res) (hw44 : ∀ (M : Mem) (x3 : Int), AW g false RX12 cX12_walked 8 (some .long) (1) n n nf 44 [(0, 2, 337), (2, 0, a2), (3, 0, x3)] [] n M (w44 M x3)) (M : Mem) (x3 : Int) : AW g false RX12 cX12_walked 8 (some .long) (1) n n nf 44 [(0, 2, 337), (2, 0, a2), (3, 0, x3)] [] n M (b_X12_walked_44 a2 w44 M x3) := by
  unfold b_X12_walked_44
  refine r_iload_n 2 dX12_walked_44 rfl rfl ?_
  refine r_bipush dX12_walked_45 (by decide) ⟨by decide, by decide⟩ ?_
  refine r_icmp_ge (tgt := 226) dX12_walked_47 rfl (fun h3 => ?_) (fun h4 => ?_)
  · refine r_lconst (v := 0) dX12_walked_226 (by decide) ⟨by decide, by decide⟩ ?_
    refine r_lstore_n dX12_walked_227 rfl (by decide) (ls' := [(3, 1, 0), (0, 2, 337), (2, 0, a2)]) rfl ?_
    refine r_iconst dX12_walked_228 ⟨by decide, by decide⟩ ?_
    refine r_istore dX12_walked_229 (by decide) (ls' := [(5, 0, 0), (3, 1, 0), (0, 2, 337), (2, 0, a2)]) rfl ?_
    refine r_sub [2, 1, 0] (ls' := [(0, 2, 337), (3, 1, 0), (5, 0, 0)]) rfl ?_
    exact wl2_aw (P := fun M x3 x5 o => AW g false RX12 cX12_walked 8 (some .long) (1) n n nf 231 [(0, 2, 337), (3, 1, x3), (5, 0, x5)] [] n M (o)) (fun M x3 x5 => aw_none) (fun w hw M x3 x5 => tb_X12_walked_231 hu w hw M x3 x5) FU M 0 0
  · refine r_iconst dX12_walked_50 ⟨by decide, by decide⟩ ?_
    refine r_istore dX12_walked_51 (by decide) (ls' := [(4, 0, 0), (0, 2, 337), (2, 0, a2), (3, 0, x3)]) rfl ?_
    refine r_sub [1, 2, 3, 0] (ls' := [(0, 2, 337), (2, 0, a2), (3, 0, x3), (4, 0, 0)]) rfl ?_
    exact wl2_aw (P := fun M x3 x4 o => AW g false RX12 cX12_walked 8 (some .long) (1) n n nf 53 [(0, 2, 337), (2, 0, a2), (3, 0, x3), (4, 0, x4)] [] n M (o)) (fun M x3 x4 => aw_none) (fun w hw M x3 x4 => tb_X12_walked_53 hu a2 w44 w hw44 hw M x3 x4) FU M x3 0
set_option maxRecDepth 100000 in
theorem tb_X12_walked_2 {g : GT} {n nf : Int} (hu : Up false nf n) (a1 a2 : Int) (w2 : Mem → Int → Res) (hw2 : ∀ (M : Mem) (x3 : Int), AW g false RX12 cX12_walked 8 (some .long) (1) n n nf 2 [(0, 2, 337), (1, 0, a1), (2, 0, a2), (3, 0, x3)] [] n M (w2 M x3)) (M : Mem) (x3 : Int) : AW g false RX12 cX12_walked 8 (some .long) (1) n n nf 2 [(0, 2, 337), (1, 0, a1), (2, 0, a2), (3, 0, x3)] [] n M (b_X12_walked_2 a1 a2 w2 M x3) := by
  unfold b_X12_walked_2
  refine r_iload_n 3 dX12_walked_2 rfl rfl ?_
  refine r_bipush dX12_walked_3 (by decide) ⟨by decide, by decide⟩ ?_
  refine r_icmp_ge (tgt := 42) dX12_walked_5 rfl (fun h1 => ?_) (fun h2 => ?_)
  · refine r_iconst dX12_walked_42 ⟨by decide, by decide⟩ ?_
    refine r_istore_n dX12_walked_43 rfl (by decide) (ls' := [(3, 0, 1), (0, 2, 337), (1, 0, a1), (2, 0, a2)]) rfl ?_
    refine r_sub [1, 3, 0] (ls' := [(0, 2, 337), (2, 0, a2), (3, 0, 1)]) rfl ?_
    exact wl1_aw (P := fun M x3 o => AW g false RX12 cX12_walked 8 (some .long) (1) n n nf 44 [(0, 2, 337), (2, 0, a2), (3, 0, x3)] [] n M (o)) (fun M x3 => aw_none) (fun w hw M x3 => tb_X12_walked_44 hu a2 w hw M x3) FU M 1
  · refine r_aload_n 0 dX12_walked_8 rfl rfl ?_
    refine r_gx (kz := 92) rfl hu dX12_walked_9 kF_X12_215 kd_337 rfl rfl rfl fx_337_92 ?_
    refine r_iload_n 3 dX12_walked_12 rfl rfl ?_
    refine r_iload_n 3 dX12_walked_13 rfl rfl ?_
    refine r_iload_n 1 dX12_walked_14 rfl rfl ?_
    refine r_icmp_ne (tgt := 34) dX12_walked_15 rfl (fun h65 => ?_) (fun h66 => ?_)
    · refine r_aload_n 0 dX12_walked_18 rfl rfl ?_
      refine r_gx (kz := 91) rfl hu dX12_walked_19 kF_X12_212 kd_337 rfl rfl rfl fx_337_91 ?_
      refine r_bipush dX12_walked_22 (by decide) ⟨by decide, by decide⟩ ?_
      refine r_iload_n 3 dX12_walked_24 rfl rfl ?_
      refine r_ok (fun h67 => ?_)
      refine r_imul dX12_walked_25 h67 ?_
      refine r_ok (fun h68 => ?_)
      refine r_zald hu dX12_walked_26 kd_403 rfl rfl rfl ln_403 h68 ?_
      refine r_if_ne (tgt := 34) dX12_walked_27 rfl (fun h69 => ?_) (fun h70 => ?_)
      · refine r_lconst (v := 1) dX12_walked_30 (by decide) ⟨by decide, by decide⟩ ?_
        refine r_goto (tgt := 35) dX12_walked_31 rfl ?_
        refine r_ok (fun h71 => ?_)
        refine r_last hu dX12_walked_35 kd_404 rfl rfl rfl ln_404 h71 rfl (fun M72 eM72 => ?_)
        refine r_iincB 3 dX12_walked_36 rfl ⟨by have := h71; omega, by have := h71; omega⟩ (by decide) (lf := fun y73 => [(3, 0, y73), (0, 2, 337), (1, 0, a1), (2, 0, a2)]) (fun _ => rfl) (fun y73 ey73 => ?_)
        refine r_goto (tgt := 2) dX12_walked_39 rfl ?_
        refine r_sub [1, 2, 3, 0] (ls' := [(0, 2, 337), (1, 0, a1), (2, 0, a2), (3, 0, y73)]) rfl ?_
        exact hw2 M72 y73
      · refine r_lconst (v := 0) dX12_walked_34 (by decide) ⟨by decide, by decide⟩ ?_
        refine r_ok (fun h74 => ?_)
        refine r_last hu dX12_walked_35 kd_404 rfl rfl rfl ln_404 h74 rfl (fun M75 eM75 => ?_)
        refine r_iincB 3 dX12_walked_36 rfl ⟨by have := h74; omega, by have := h74; omega⟩ (by decide) (lf := fun y76 => [(3, 0, y76), (0, 2, 337), (1, 0, a1), (2, 0, a2)]) (fun _ => rfl) (fun y76 ey76 => ?_)
        refine r_goto (tgt := 2) dX12_walked_39 rfl ?_
        refine r_sub [1, 2, 3, 0] (ls' := [(0, 2, 337), (1, 0, a1), (2, 0, a2), (3, 0, y76)]) rfl ?_
        exact hw2 M75 y76
    · refine r_lconst (v := 0) dX12_walked_34 (by decide) ⟨by decide, by decide⟩ ?_
      refine r_ok (fun h77 => ?_)
      refine r_last hu dX12_walked_35 kd_404 rfl rfl rfl ln_404 h77 rfl (fun M78 eM78 => ?_)
      refine r_iincB 3 dX12_walked_36 rfl ⟨by have := h77; omega, by have := h77; omega⟩ (by decide) (lf := fun y79 => [(3, 0, y79), (0, 2, 337), (1, 0, a1), (2, 0, a2)]) (fun _ => rfl) (fun y79 ey79 => ?_)
      refine r_goto (tgt := 2) dX12_walked_39 rfl ?_
      refine r_sub [1, 2, 3, 0] (ls' := [(0, 2, 337), (1, 0, a1), (2, 0, a2), (3, 0, y79)]) rfl ?_
      exact hw2 M78 y79
set_option maxRecDepth 100000 in
theorem m_X12_walked {g : GT} {n nf : Int} (hu : Up false nf n) (M : Mem) (a1 a2 : Int) : AM g false yX12_walked cX12_walked 8 (some .long) (1) n n nf [(2, 337), (0, a1), (0, a2)] M (f_X12_walked M a1 a2) := by
  refine AM_of (by decide +kernel) (Nat.le_of_ble_eq_true rfl) (fun h => absurd h (Int.lt_irrefl n)) ?_
  show AW g false RX12 cX12_walked 8 (some .long) (1) n n nf 0 [(0, 2, 337), (1, 0, a1), (2, 0, a2)] [] n M (f_X12_walked M a1 a2)
  unfold f_X12_walked
  refine r_iconst dX12_walked_0 ⟨by decide, by decide⟩ ?_
  refine r_istore_n dX12_walked_1 rfl (by decide) (ls' := [(3, 0, 0), (0, 2, 337), (1, 0, a1), (2, 0, a2)]) rfl ?_
  refine r_sub [1, 2, 3, 0] (ls' := [(0, 2, 337), (1, 0, a1), (2, 0, a2), (3, 0, 0)]) rfl ?_
  exact wl1_aw (P := fun M x3 o => AW g false RX12 cX12_walked 8 (some .long) (1) n n nf 2 [(0, 2, 337), (1, 0, a1), (2, 0, a2), (3, 0, x3)] [] n M (o)) (fun M x3 => aw_none) (fun w hw M x3 => tb_X12_walked_2 hu a1 a2 w hw M x3) FU M 0
theorem dX12_walks_0 : decode cX12_walks 0 = .ok (.iload_n 1, 1) := by decide +kernel
theorem dX12_walks_1 : decode cX12_walks 1 = .ok (.i2l, 1) := by decide +kernel
theorem dX12_walks_2 : decode cX12_walks 2 = .ok (.lconst 0, 1) := by decide +kernel
theorem dX12_walks_3 : decode cX12_walks 3 = .ok (.ldc2_w 485, 3) := by decide +kernel
theorem dX12_walks_6 : decode cX12_walks 6 = .ok (.invokestatic 267, 3) := by decide +kernel
theorem dX12_walks_9 : decode cX12_walks 9 = .ok (.ifCond .eq 13, 3) := by decide +kernel
theorem dX12_walks_12 : decode cX12_walks 12 = .ok (.aload_n 0, 1) := by decide +kernel
theorem dX12_walks_13 : decode cX12_walks 13 = .ok (.iload_n 1, 1) := by decide +kernel
theorem dX12_walks_14 : decode cX12_walks 14 = .ok (.iconst 0, 1) := by decide +kernel
theorem dX12_walks_15 : decode cX12_walks 15 = .ok (.invokevirtual 630, 3) := by decide +kernel
theorem dX12_walks_18 : decode cX12_walks 18 = .ok (.l2i, 1) := by decide +kernel
theorem dX12_walks_19 : decode cX12_walks 19 = .ok (.goto 4, 3) := by decide +kernel
theorem dX12_walks_22 : decode cX12_walks 22 = .ok (.iconst (-1), 1) := by decide +kernel
theorem dX12_walks_23 : decode cX12_walks 23 = .ok (.ireturn, 1) := by decide +kernel
set_option maxRecDepth 100000 in
theorem m_X12_walks {g : GT} {n nf : Int} (hu : Up false nf n) (M : Mem) (a1 : Int) : AM g false yX12_walks cX12_walks 2 (some .int) (2) n n nf [(2, 337), (0, a1)] M (f_X12_walks M a1) := by
  refine AM_of (by decide +kernel) (Nat.le_of_ble_eq_true rfl) (fun h => absurd h (Int.lt_irrefl n)) ?_
  show AW g false RX12 cX12_walks 2 (some .int) (2) n n nf 0 [(0, 2, 337), (1, 0, a1)] [] n M (f_X12_walks M a1)
  unfold f_X12_walks
  refine r_iload_n 1 dX12_walks_0 rfl rfl ?_
  refine r_i2l dX12_walks_1 ?_
  refine r_lconst (v := 0) dX12_walks_2 (by decide) ⟨by decide, by decide⟩ ?_
  refine r_ldc2 (v := 7) dX12_walks_3 kC_X12_485 rfl ⟨by decide, by decide⟩ ?_
  refine r_ins (a := 0) ⟨Nat.le_refl _, Nat.le_refl _⟩ dX12_walks_6 kM_X12_267 (by decide) (by decide) [(1, a1), (1, 0), (1, 7)] rfl (sk := []) rfl (Nat.le_of_ble_eq_true rfl) rfl rfl (m_X12_isIn hu M a1 0 7) (fun r1 M2 => ?_)
  refine r_if_eq (tgt := 22) dX12_walks_9 rfl (fun h3 => ?_) (fun h4 => ?_)
  · refine r_iconst dX12_walks_22 ⟨by decide, by decide⟩ ?_
    exact r_iret rfl rfl (Or.inl rfl) dX12_walks_23
  · refine r_aload_n 0 dX12_walks_12 rfl rfl ?_
    refine r_iload_n 1 dX12_walks_13 rfl rfl ?_
    refine r_iconst dX12_walks_14 ⟨by decide, by decide⟩ ?_
    refine r_inv (a := 337) hu ⟨Nat.le_refl _, Nat.le_refl _⟩ dX12_walks_15 kM_X12_630 (ci := 12) rfl kd_337 rfl rfl (by decide) (by decide) [(0, a1), (0, 0)] rfl (sk := []) rfl (Nat.le_of_ble_eq_true rfl) rfl rfl (m_X12_walked hu M2 a1 0) (fun r5 M6 => ?_)
    refine r_ok (fun h7 => ?_)
    refine r_l2i dX12_walks_18 h7 ?_
    refine r_goto (tgt := 23) dX12_walks_19 rfl ?_
    exact r_iret rfl rfl (Or.inl rfl) dX12_walks_23
theorem dX12_walk_0 : decode cX12_walk 0 = .ok (.iload_n 1, 1) := by decide +kernel
theorem dX12_walk_1 : decode cX12_walk 1 = .ok (.i2l, 1) := by decide +kernel
theorem dX12_walk_2 : decode cX12_walk 2 = .ok (.lconst 0, 1) := by decide +kernel
theorem dX12_walk_3 : decode cX12_walk 3 = .ok (.ldc2_w 485, 3) := by decide +kernel
theorem dX12_walk_6 : decode cX12_walk 6 = .ok (.invokestatic 267, 3) := by decide +kernel
theorem dX12_walk_9 : decode cX12_walk 9 = .ok (.ifCond .ne 7, 3) := by decide +kernel
theorem dX12_walk_12 : decode cX12_walk 12 = .ok (.ldc2_w 597, 3) := by decide +kernel
theorem dX12_walk_15 : decode cX12_walk 15 = .ok (.lreturn, 1) := by decide +kernel
theorem dX12_walk_16 : decode cX12_walk 16 = .ok (.aload_n 0, 1) := by decide +kernel
theorem dX12_walk_17 : decode cX12_walk 17 = .ok (.iload_n 1, 1) := by decide +kernel
theorem dX12_walk_18 : decode cX12_walk 18 = .ok (.iconst 1, 1) := by decide +kernel
theorem dX12_walk_19 : decode cX12_walk 19 = .ok (.invokevirtual 630, 3) := by decide +kernel
theorem dX12_walk_22 : decode cX12_walk 22 = .ok (.lstore_n 3, 1) := by decide +kernel
theorem dX12_walk_23 : decode cX12_walk 23 = .ok (.ldc2_w 633, 3) := by decide +kernel
theorem dX12_walk_26 : decode cX12_walk 26 = .ok (.lstore 5, 2) := by decide +kernel
theorem dX12_walk_28 : decode cX12_walk 28 = .ok (.lload_n 3, 1) := by decide +kernel
theorem dX12_walk_29 : decode cX12_walk 29 = .ok (.lload 5, 2) := by decide +kernel
theorem dX12_walk_31 : decode cX12_walk 31 = .ok (.invokestatic 551, 3) := by decide +kernel
theorem dX12_walk_34 : decode cX12_walk 34 = .ok (.lstore 7, 2) := by decide +kernel
theorem dX12_walk_36 : decode cX12_walk 36 = .ok (.iload_n 2, 1) := by decide +kernel
theorem dX12_walk_37 : decode cX12_walk 37 = .ok (.ifCond .eq 7, 3) := by decide +kernel
theorem dX12_walk_40 : decode cX12_walk 40 = .ok (.lload_n 3, 1) := by decide +kernel
theorem dX12_walk_41 : decode cX12_walk 41 = .ok (.goto 5, 3) := by decide +kernel
theorem dX12_walk_44 : decode cX12_walk 44 = .ok (.lload 5, 2) := by decide +kernel
theorem dX12_walk_46 : decode cX12_walk 46 = .ok (.lload 7, 2) := by decide +kernel
theorem dX12_walk_48 : decode cX12_walk 48 = .ok (.ldiv, 1) := by decide +kernel
theorem dX12_walk_49 : decode cX12_walk 49 = .ok (.lreturn, 1) := by decide +kernel
set_option maxRecDepth 100000 in
theorem m_X12_walk {g : GT} {n nf : Int} (hu : Up false nf n) (M : Mem) (a1 a2 : Int) : AM g false yX12_walk cX12_walk 9 (some .long) (2) n n nf [(2, 337), (0, a1), (0, a2)] M (f_X12_walk M a1 a2) := by
  refine AM_of (by decide +kernel) (Nat.le_of_ble_eq_true rfl) (fun h => absurd h (Int.lt_irrefl n)) ?_
  show AW g false RX12 cX12_walk 9 (some .long) (2) n n nf 0 [(0, 2, 337), (1, 0, a1), (2, 0, a2)] [] n M (f_X12_walk M a1 a2)
  unfold f_X12_walk
  refine r_iload_n 1 dX12_walk_0 rfl rfl ?_
  refine r_i2l dX12_walk_1 ?_
  refine r_lconst (v := 0) dX12_walk_2 (by decide) ⟨by decide, by decide⟩ ?_
  refine r_ldc2 (v := 7) dX12_walk_3 kC_X12_485 rfl ⟨by decide, by decide⟩ ?_
  refine r_ins (a := 0) ⟨Nat.le_refl _, Nat.le_refl _⟩ dX12_walk_6 kM_X12_267 (by decide) (by decide) [(1, a1), (1, 0), (1, 7)] rfl (sk := []) rfl (Nat.le_of_ble_eq_true rfl) rfl rfl (m_X12_isIn hu M a1 0 7) (fun r1 M2 => ?_)
  refine r_if_ne (tgt := 16) dX12_walk_9 rfl (fun h3 => ?_) (fun h4 => ?_)
  · refine r_ldc2 (v := (-1)) dX12_walk_12 kC_X12_597 rfl ⟨by decide, by decide⟩ ?_
    exact r_lret rfl rfl dX12_walk_15
  · refine r_aload_n 0 dX12_walk_16 rfl rfl ?_
    refine r_iload_n 1 dX12_walk_17 rfl rfl ?_
    refine r_iconst dX12_walk_18 ⟨by decide, by decide⟩ ?_
    refine r_inv (a := 337) hu ⟨Nat.le_refl _, Nat.le_refl _⟩ dX12_walk_19 kM_X12_630 (ci := 12) rfl kd_337 rfl rfl (by decide) (by decide) [(0, a1), (0, 1)] rfl (sk := []) rfl (Nat.le_of_ble_eq_true rfl) rfl rfl (m_X12_walked hu M2 a1 1) (fun r5 M6 => ?_)
    refine r_lstore_n dX12_walk_22 rfl (by decide) (ls' := [(3, 1, r5), (0, 2, 337), (1, 0, a1), (2, 0, a2)]) rfl ?_
    refine r_ldc2 (v := 362797056) dX12_walk_23 kC_X12_633 rfl ⟨by decide, by decide⟩ ?_
    refine r_lstore dX12_walk_26 (by decide) (ls' := [(5, 1, 362797056), (3, 1, r5), (0, 2, 337), (1, 0, a1), (2, 0, a2)]) rfl ?_
    refine r_lload_n 1 dX12_walk_28 rfl rfl ?_
    refine r_lload 0 dX12_walk_29 rfl ?_
    refine r_ins (a := 0) ⟨Nat.le_refl _, Nat.le_refl _⟩ dX12_walk_31 kM_X12_551 (by decide) (by decide) [(1, r5), (1, 362797056)] rfl (sk := []) rfl (Nat.le_of_ble_eq_true rfl) rfl rfl (m_X12_common hu M6 r5 362797056) (fun r7 M8 => ?_)
    refine r_lstore dX12_walk_34 (by decide) (ls' := [(7, 1, r7), (5, 1, 362797056), (3, 1, r5), (0, 2, 337), (1, 0, a1), (2, 0, a2)]) rfl ?_
    refine r_iload_n 5 dX12_walk_36 rfl rfl ?_
    refine r_if_eq (tgt := 44) dX12_walk_37 rfl (fun h9 => ?_) (fun h10 => ?_)
    · refine r_lload 1 dX12_walk_44 rfl ?_
      refine r_lload 0 dX12_walk_46 rfl ?_
      refine r_ok (fun h11 => ?_)
      refine r_ldivP dX12_walk_48 ⟨by decide, h11.2⟩ ?_
      exact r_lret rfl rfl dX12_walk_49
    · refine r_lload_n 2 dX12_walk_40 rfl rfl ?_
      refine r_goto (tgt := 46) dX12_walk_41 rfl ?_
      refine r_lload 0 dX12_walk_46 rfl ?_
      refine r_ok (fun h12 => ?_)
      refine r_ldivP dX12_walk_48 h12 ?_
      exact r_lret rfl rfl dX12_walk_49
theorem dX12_writes_0 : decode cX12_writes 0 = .ok (.aload_n 0, 1) := by decide +kernel
theorem dX12_writes_1 : decode cX12_writes 1 = .ok (.getfield 221, 3) := by decide +kernel
theorem dX12_writes_4 : decode cX12_writes 4 = .ok (.aload_n 0, 1) := by decide +kernel
theorem dX12_writes_5 : decode cX12_writes 5 = .ok (.getfield 635, 3) := by decide +kernel
theorem dX12_writes_8 : decode cX12_writes 8 = .ok (.iload_n 1, 1) := by decide +kernel
theorem dX12_writes_9 : decode cX12_writes 9 = .ok (.iastore, 1) := by decide +kernel
theorem dX12_writes_10 : decode cX12_writes 10 = .ok (.aload_n 0, 1) := by decide +kernel
theorem dX12_writes_11 : decode cX12_writes 11 = .ok (.dup, 1) := by decide +kernel
theorem dX12_writes_12 : decode cX12_writes 12 = .ok (.getfield 635, 3) := by decide +kernel
theorem dX12_writes_15 : decode cX12_writes 15 = .ok (.iconst 1, 1) := by decide +kernel
theorem dX12_writes_16 : decode cX12_writes 16 = .ok (.iadd, 1) := by decide +kernel
theorem dX12_writes_17 : decode cX12_writes 17 = .ok (.putfield 635, 3) := by decide +kernel
theorem dX12_writes_20 : decode cX12_writes 20 = .ok (.return_, 1) := by decide +kernel
set_option maxRecDepth 100000 in
theorem m_X12_writes {g : GT} {n nf : Int} (hu : Up false nf n) (M : Mem) (a1 : Int) : AM g false yX12_writes cX12_writes 2 none (0) n n nf [(2, 337), (0, a1)] M (f_X12_writes M a1) := by
  refine AM_of (by decide +kernel) (Nat.le_of_ble_eq_true rfl) (fun h => absurd h (Int.lt_irrefl n)) ?_
  show AW g false RX12 cX12_writes 2 none (0) n n nf 0 [(0, 2, 337), (1, 0, a1)] [] n M (f_X12_writes M a1)
  unfold f_X12_writes
  refine r_aload_n 0 dX12_writes_0 rfl rfl ?_
  refine r_gx (kz := 94) rfl hu dX12_writes_1 kF_X12_221 kd_337 rfl rfl rfl fx_337_94 ?_
  refine r_aload_n 0 dX12_writes_4 rfl rfl ?_
  refine r_gf (t := 0) (kz := 95) rfl hu dX12_writes_5 kF_X12_635 kd_337 rfl rfl rfl ?_
  refine r_iload_n 1 dX12_writes_8 rfl rfl ?_
  refine r_ok (fun h1 => ?_)
  refine r_iast hu dX12_writes_9 kd_406 rfl (Or.inl rfl) rfl ln_406 h1 rfl (fun M2 eM2 => ?_)
  refine r_aload_n 0 dX12_writes_10 rfl rfl ?_
  refine r_dup dX12_writes_11 (nz2 _) ?_
  refine r_gf (t := 0) (kz := 95) rfl hu dX12_writes_12 kF_X12_635 kd_337 rfl rfl rfl ?_
  refine r_iconst dX12_writes_15 ⟨by decide, by decide⟩ ?_
  refine r_ok (fun h3 => ?_)
  refine r_iadd dX12_writes_16 h3 ?_
  refine r_pf (t := 0) (kz := 95) rfl hu dX12_writes_17 kF_X12_635 kd_337 rfl rfl rfl (fun h => absurd h (by decide)) rfl kX_12_95 (fun M4 eM4 => ?_)
  exact r_vret rfl rfl dX12_writes_20
theorem dX12_checked_0 : decode cX12_checked 0 = .ok (.iconst 5, 1) := by decide +kernel
theorem dX12_checked_1 : decode cX12_checked 1 = .ok (.istore_n 2, 1) := by decide +kernel
theorem dX12_checked_2 : decode cX12_checked 2 = .ok (.iconst 0, 1) := by decide +kernel
theorem dX12_checked_3 : decode cX12_checked 3 = .ok (.istore_n 3, 1) := by decide +kernel
theorem dX12_checked_4 : decode cX12_checked 4 = .ok (.iload_n 3, 1) := by decide +kernel
theorem dX12_checked_5 : decode cX12_checked 5 = .ok (.iload_n 1, 1) := by decide +kernel
theorem dX12_checked_6 : decode cX12_checked 6 = .ok (.if_icmp .ge 21, 3) := by decide +kernel
theorem dX12_checked_9 : decode cX12_checked 9 = .ok (.iconst 3, 1) := by decide +kernel
theorem dX12_checked_10 : decode cX12_checked 10 = .ok (.iload_n 2, 1) := by decide +kernel
theorem dX12_checked_11 : decode cX12_checked 11 = .ok (.imul, 1) := by decide +kernel
theorem dX12_checked_12 : decode cX12_checked 12 = .ok (.aload_n 0, 1) := by decide +kernel
theorem dX12_checked_13 : decode cX12_checked 13 = .ok (.iload_n 3, 1) := by decide +kernel
theorem dX12_checked_14 : decode cX12_checked 14 = .ok (.iaload, 1) := by decide +kernel
theorem dX12_checked_15 : decode cX12_checked 15 = .ok (.iadd, 1) := by decide +kernel
theorem dX12_checked_16 : decode cX12_checked 16 = .ok (.sipush 233, 3) := by decide +kernel
theorem dX12_checked_19 : decode cX12_checked 19 = .ok (.irem, 1) := by decide +kernel
theorem dX12_checked_20 : decode cX12_checked 20 = .ok (.istore_n 2, 1) := by decide +kernel
theorem dX12_checked_21 : decode cX12_checked 21 = .ok (.iinc 3 1, 3) := by decide +kernel
theorem dX12_checked_24 : decode cX12_checked 24 = .ok (.goto (-20), 3) := by decide +kernel
theorem dX12_checked_27 : decode cX12_checked 27 = .ok (.iload_n 2, 1) := by decide +kernel
theorem dX12_checked_28 : decode cX12_checked 28 = .ok (.ireturn, 1) := by decide +kernel
set_option maxRecDepth 100000 in
theorem tb_X12_checked_4 {g : GT} {n nf : Int} (hu : Up false nf n) (a0 a1 : Int) (hk0 : kd a0 = 51) (w4 : Mem → Int → Int → Res) (hw4 : ∀ (M : Mem) (x2 x3 : Int), AW g false RX12 cX12_checked 4 (some .int) (0) n n nf 4 [(0, 2, a0), (1, 0, a1), (2, 0, x2), (3, 0, x3)] [] n M (w4 M x2 x3)) (M : Mem) (x2 x3 : Int) : AW g false RX12 cX12_checked 4 (some .int) (0) n n nf 4 [(0, 2, a0), (1, 0, a1), (2, 0, x2), (3, 0, x3)] [] n M (b_X12_checked_4 a0 a1 w4 M x2 x3) := by
  unfold b_X12_checked_4
  refine r_iload_n 3 dX12_checked_4 rfl rfl ?_
  refine r_iload_n 1 dX12_checked_5 rfl rfl ?_
  refine r_icmp_ge (tgt := 27) dX12_checked_6 rfl (fun h1 => ?_) (fun h2 => ?_)
  · refine r_iload_n 2 dX12_checked_27 rfl rfl ?_
    exact r_iret rfl rfl (Or.inl rfl) dX12_checked_28
  · refine r_iconst dX12_checked_9 ⟨by decide, by decide⟩ ?_
    refine r_iload_n 2 dX12_checked_10 rfl rfl ?_
    refine r_ok (fun h3 => ?_)
    refine r_imul dX12_checked_11 h3 ?_
    refine r_aload_n 0 dX12_checked_12 rfl rfl ?_
    refine r_iload_n 3 dX12_checked_13 rfl rfl ?_
    refine r_ok (fun h4 => ?_)
    refine r_iald hu dX12_checked_14 hk0 rfl (Or.inl rfl) rfl rfl h4 ?_
    refine r_ok (fun h5 => ?_)
    refine r_iadd dX12_checked_15 h5 ?_
    refine r_sipush dX12_checked_16 (by decide) ⟨by decide, by decide⟩ ?_
    refine r_ok (fun h6 => ?_)
    refine r_iremP dX12_checked_19 ⟨h6, by decide⟩ ?_
    refine r_istore_nB dX12_checked_20 rfl (by decide) (lf := fun y7 => [(2, 0, y7), (0, 2, a0), (1, 0, a1), (3, 0, x3)]) (fun _ => rfl) (fun y7 ey7 => ?_)
    refine r_ok (fun h8 => ?_)
    refine r_iincB 3 dX12_checked_21 rfl h8 (by decide) (lf := fun y9 => [(3, 0, y9), (2, 0, y7), (0, 2, a0), (1, 0, a1)]) (fun _ => rfl) (fun y9 ey9 => ?_)
    refine r_goto (tgt := 4) dX12_checked_24 rfl ?_
    refine r_sub [2, 3, 1, 0] (ls' := [(0, 2, a0), (1, 0, a1), (2, 0, y7), (3, 0, y9)]) rfl ?_
    exact hw4 M y7 y9
set_option maxRecDepth 100000 in
theorem m_X12_checked {g : GT} {n nf : Int} (hu : Up false nf n) (M : Mem) (a0 a1 : Int) (hk0 : kd a0 = 51) : AM g false yX12_checked cX12_checked 4 (some .int) (0) n n nf [(2, a0), (0, a1)] M (f_X12_checked M a0 a1) := by
  refine AM_of (by decide +kernel) (Nat.le_of_ble_eq_true rfl) (fun h => absurd h (Int.lt_irrefl n)) ?_
  show AW g false RX12 cX12_checked 4 (some .int) (0) n n nf 0 [(0, 2, a0), (1, 0, a1)] [] n M (f_X12_checked M a0 a1)
  unfold f_X12_checked
  refine r_iconst dX12_checked_0 ⟨by decide, by decide⟩ ?_
  refine r_istore_n dX12_checked_1 rfl (by decide) (ls' := [(2, 0, 5), (0, 2, a0), (1, 0, a1)]) rfl ?_
  refine r_iconst dX12_checked_2 ⟨by decide, by decide⟩ ?_
  refine r_istore_n dX12_checked_3 rfl (by decide) (ls' := [(3, 0, 0), (2, 0, 5), (0, 2, a0), (1, 0, a1)]) rfl ?_
  refine r_sub [2, 3, 1, 0] (ls' := [(0, 2, a0), (1, 0, a1), (2, 0, 5), (3, 0, 0)]) rfl ?_
  exact wl2_aw (P := fun M x2 x3 o => AW g false RX12 cX12_checked 4 (some .int) (0) n n nf 4 [(0, 2, a0), (1, 0, a1), (2, 0, x2), (3, 0, x3)] [] n M (o)) (fun M x2 x3 => aw_none) (fun w hw M x2 x3 => tb_X12_checked_4 hu a0 a1 hk0 w hw M x2 x3) FU M 5 0
theorem dX12_image_0 : decode cX12_image 0 = .ok (.aload_n 0, 1) := by decide +kernel
theorem dX12_image_1 : decode cX12_image 1 = .ok (.iconst 0, 1) := by decide +kernel
theorem dX12_image_2 : decode cX12_image 2 = .ok (.putfield 635, 3) := by decide +kernel
theorem dX12_image_5 : decode cX12_image 5 = .ok (.aload_n 0, 1) := by decide +kernel
theorem dX12_image_6 : decode cX12_image 6 = .ok (.aload_n 0, 1) := by decide +kernel
theorem dX12_image_7 : decode cX12_image 7 = .ok (.getfield 452, 3) := by decide +kernel
theorem dX12_image_10 : decode cX12_image 10 = .ok (.invokevirtual 638, 3) := by decide +kernel
theorem dX12_image_13 : decode cX12_image 13 = .ok (.iconst 0, 1) := by decide +kernel
theorem dX12_image_14 : decode cX12_image 14 = .ok (.istore_n 1, 1) := by decide +kernel
theorem dX12_image_15 : decode cX12_image 15 = .ok (.iload_n 1, 1) := by decide +kernel
theorem dX12_image_16 : decode cX12_image 16 = .ok (.aload_n 0, 1) := by decide +kernel
theorem dX12_image_17 : decode cX12_image 17 = .ok (.getfield 452, 3) := by decide +kernel
theorem dX12_image_20 : decode cX12_image 20 = .ok (.if_icmp .ge 128, 3) := by decide +kernel
theorem dX12_image_23 : decode cX12_image 23 = .ok (.aload_n 0, 1) := by decide +kernel
theorem dX12_image_24 : decode cX12_image 24 = .ok (.aload_n 0, 1) := by decide +kernel
theorem dX12_image_25 : decode cX12_image 25 = .ok (.getfield 179, 3) := by decide +kernel
theorem dX12_image_28 : decode cX12_image 28 = .ok (.iload_n 1, 1) := by decide +kernel
theorem dX12_image_29 : decode cX12_image 29 = .ok (.iaload, 1) := by decide +kernel
theorem dX12_image_30 : decode cX12_image 30 = .ok (.invokevirtual 638, 3) := by decide +kernel
theorem dX12_image_33 : decode cX12_image 33 = .ok (.aload_n 0, 1) := by decide +kernel
theorem dX12_image_34 : decode cX12_image 34 = .ok (.aload_n 0, 1) := by decide +kernel
theorem dX12_image_35 : decode cX12_image 35 = .ok (.getfield 182, 3) := by decide +kernel
theorem dX12_image_38 : decode cX12_image 38 = .ok (.iload_n 1, 1) := by decide +kernel
theorem dX12_image_39 : decode cX12_image 39 = .ok (.iaload, 1) := by decide +kernel
theorem dX12_image_40 : decode cX12_image 40 = .ok (.invokevirtual 638, 3) := by decide +kernel
theorem dX12_image_43 : decode cX12_image 43 = .ok (.aload_n 0, 1) := by decide +kernel
theorem dX12_image_44 : decode cX12_image 44 = .ok (.aload_n 0, 1) := by decide +kernel
theorem dX12_image_45 : decode cX12_image 45 = .ok (.getfield 185, 3) := by decide +kernel
theorem dX12_image_48 : decode cX12_image 48 = .ok (.iload_n 1, 1) := by decide +kernel
theorem dX12_image_49 : decode cX12_image 49 = .ok (.iaload, 1) := by decide +kernel
theorem dX12_image_50 : decode cX12_image 50 = .ok (.invokevirtual 638, 3) := by decide +kernel
theorem dX12_image_53 : decode cX12_image 53 = .ok (.aload_n 0, 1) := by decide +kernel
theorem dX12_image_54 : decode cX12_image 54 = .ok (.aload_n 0, 1) := by decide +kernel
theorem dX12_image_55 : decode cX12_image 55 = .ok (.getfield 188, 3) := by decide +kernel
theorem dX12_image_58 : decode cX12_image 58 = .ok (.iload_n 1, 1) := by decide +kernel
theorem dX12_image_59 : decode cX12_image 59 = .ok (.iaload, 1) := by decide +kernel
theorem dX12_image_60 : decode cX12_image 60 = .ok (.invokevirtual 638, 3) := by decide +kernel
theorem dX12_image_63 : decode cX12_image 63 = .ok (.aload_n 0, 1) := by decide +kernel
theorem dX12_image_64 : decode cX12_image 64 = .ok (.aload_n 0, 1) := by decide +kernel
theorem dX12_image_65 : decode cX12_image 65 = .ok (.getfield 191, 3) := by decide +kernel
theorem dX12_image_68 : decode cX12_image 68 = .ok (.iload_n 1, 1) := by decide +kernel
theorem dX12_image_69 : decode cX12_image 69 = .ok (.iaload, 1) := by decide +kernel
theorem dX12_image_70 : decode cX12_image 70 = .ok (.invokevirtual 638, 3) := by decide +kernel
theorem dX12_image_73 : decode cX12_image 73 = .ok (.aload_n 0, 1) := by decide +kernel
theorem dX12_image_74 : decode cX12_image 74 = .ok (.aload_n 0, 1) := by decide +kernel
theorem dX12_image_75 : decode cX12_image 75 = .ok (.getfield 194, 3) := by decide +kernel
theorem dX12_image_78 : decode cX12_image 78 = .ok (.iload_n 1, 1) := by decide +kernel
theorem dX12_image_79 : decode cX12_image 79 = .ok (.baload, 1) := by decide +kernel
theorem dX12_image_80 : decode cX12_image 80 = .ok (.ifCond .eq 7, 3) := by decide +kernel
theorem dX12_image_83 : decode cX12_image 83 = .ok (.iconst 1, 1) := by decide +kernel
theorem dX12_image_84 : decode cX12_image 84 = .ok (.goto 4, 3) := by decide +kernel
theorem dX12_image_87 : decode cX12_image 87 = .ok (.iconst 0, 1) := by decide +kernel
theorem dX12_image_88 : decode cX12_image 88 = .ok (.aload_n 0, 1) := by decide +kernel
theorem dX12_image_89 : decode cX12_image 89 = .ok (.getfield 197, 3) := by decide +kernel
theorem dX12_image_92 : decode cX12_image 92 = .ok (.iload_n 1, 1) := by decide +kernel
theorem dX12_image_93 : decode cX12_image 93 = .ok (.baload, 1) := by decide +kernel
theorem dX12_image_94 : decode cX12_image 94 = .ok (.ifCond .eq 7, 3) := by decide +kernel
theorem dX12_image_97 : decode cX12_image 97 = .ok (.iconst 2, 1) := by decide +kernel
theorem dX12_image_98 : decode cX12_image 98 = .ok (.goto 4, 3) := by decide +kernel
theorem dX12_image_101 : decode cX12_image 101 = .ok (.iconst 0, 1) := by decide +kernel
theorem dX12_image_102 : decode cX12_image 102 = .ok (.iadd, 1) := by decide +kernel
theorem dX12_image_103 : decode cX12_image 103 = .ok (.invokevirtual 638, 3) := by decide +kernel
theorem dX12_image_106 : decode cX12_image 106 = .ok (.aload_n 0, 1) := by decide +kernel
theorem dX12_image_107 : decode cX12_image 107 = .ok (.aload_n 0, 1) := by decide +kernel
theorem dX12_image_108 : decode cX12_image 108 = .ok (.getfield 203, 3) := by decide +kernel
theorem dX12_image_111 : decode cX12_image 111 = .ok (.iload_n 1, 1) := by decide +kernel
theorem dX12_image_112 : decode cX12_image 112 = .ok (.iaload, 1) := by decide +kernel
theorem dX12_image_113 : decode cX12_image 113 = .ok (.invokevirtual 638, 3) := by decide +kernel
theorem dX12_image_116 : decode cX12_image 116 = .ok (.aload_n 0, 1) := by decide +kernel
theorem dX12_image_117 : decode cX12_image 117 = .ok (.aload_n 0, 1) := by decide +kernel
theorem dX12_image_118 : decode cX12_image 118 = .ok (.getfield 200, 3) := by decide +kernel
theorem dX12_image_121 : decode cX12_image 121 = .ok (.iload_n 1, 1) := by decide +kernel
theorem dX12_image_122 : decode cX12_image 122 = .ok (.iaload, 1) := by decide +kernel
theorem dX12_image_123 : decode cX12_image 123 = .ok (.iconst (-1), 1) := by decide +kernel
theorem dX12_image_124 : decode cX12_image 124 = .ok (.if_icmp .ne 9, 3) := by decide +kernel
theorem dX12_image_127 : decode cX12_image 127 = .ok (.sipush 255, 3) := by decide +kernel
theorem dX12_image_130 : decode cX12_image 130 = .ok (.goto 9, 3) := by decide +kernel
theorem dX12_image_133 : decode cX12_image 133 = .ok (.aload_n 0, 1) := by decide +kernel
theorem dX12_image_134 : decode cX12_image 134 = .ok (.getfield 200, 3) := by decide +kernel
theorem dX12_image_137 : decode cX12_image 137 = .ok (.iload_n 1, 1) := by decide +kernel
theorem dX12_image_138 : decode cX12_image 138 = .ok (.iaload, 1) := by decide +kernel
theorem dX12_image_139 : decode cX12_image 139 = .ok (.invokevirtual 638, 3) := by decide +kernel
theorem dX12_image_142 : decode cX12_image 142 = .ok (.iinc 1 1, 3) := by decide +kernel
theorem dX12_image_145 : decode cX12_image 145 = .ok (.goto (-130), 3) := by decide +kernel
theorem dX12_image_148 : decode cX12_image 148 = .ok (.aload_n 0, 1) := by decide +kernel
theorem dX12_image_149 : decode cX12_image 149 = .ok (.aload_n 0, 1) := by decide +kernel
theorem dX12_image_150 : decode cX12_image 150 = .ok (.getfield 221, 3) := by decide +kernel
theorem dX12_image_153 : decode cX12_image 153 = .ok (.aload_n 0, 1) := by decide +kernel
theorem dX12_image_154 : decode cX12_image 154 = .ok (.getfield 635, 3) := by decide +kernel
theorem dX12_image_157 : decode cX12_image 157 = .ok (.invokestatic 641, 3) := by decide +kernel
theorem dX12_image_160 : decode cX12_image 160 = .ok (.invokevirtual 638, 3) := by decide +kernel
theorem dX12_image_163 : decode cX12_image 163 = .ok (.aload_n 0, 1) := by decide +kernel
theorem dX12_image_164 : decode cX12_image 164 = .ok (.getfield 635, 3) := by decide +kernel
theorem dX12_image_167 : decode cX12_image 167 = .ok (.ireturn, 1) := by decide +kernel
set_option maxRecDepth 100000 in
theorem tj_X12_image_102 {g : GT} {n nf : Int} (hu : Up false nf n) (w15 : Mem → Int → Res) (hw15 : ∀ (M : Mem) (x1 : Int), AW g false RX12 cX12_image 2 (some .int) (1) n n nf 15 [(0, 2, 337), (1, 0, x1)] [] n M (w15 M x1)) (M : Mem) (x1 s0 s1 : Int) : AW g false RX12 cX12_image 2 (some .int) (1) n n nf 102 [(0, 2, 337), (1, 0, x1)] [(0, s0), (0, s1), (2, 337)] n M (j_X12_image_102 w15 M x1 s0 s1) := by
  unfold j_X12_image_102
  refine r_ok (fun h26 => ?_)
  refine r_iadd dX12_image_102 h26 ?_
  refine r_invv (a := 337) hu ⟨Nat.le_refl _, Nat.le_refl _⟩ dX12_image_103 kM_X12_638 (ci := 12) rfl kd_337 rfl rfl (by decide) (by decide) [(0, s1 + s0)] rfl (sk := []) rfl (Nat.le_of_ble_eq_true rfl) rfl (m_X12_writes hu M (s1 + s0)) (fun r27 M28 => ?_)
  refine r_aload_n 0 dX12_image_106 rfl rfl ?_
  refine r_aload_n 0 dX12_image_107 rfl rfl ?_
  refine r_gx (kz := 88) rfl hu dX12_image_108 kF_X12_203 kd_337 rfl rfl rfl fx_337_88 ?_
  refine r_iload_n 1 dX12_image_111 rfl rfl ?_
  refine r_ok (fun h29 => ?_)
  refine r_iald hu dX12_image_112 kd_400 rfl (Or.inl rfl) rfl ln_400 h29 ?_
  refine r_invv (a := 337) hu ⟨Nat.le_refl _, Nat.le_refl _⟩ dX12_image_113 kM_X12_638 (ci := 12) rfl kd_337 rfl rfl (by decide) (by decide) [(0, M28 400 x1)] rfl (sk := []) rfl (Nat.le_of_ble_eq_true rfl) rfl (m_X12_writes hu M28 (M28 400 x1)) (fun r30 M31 => ?_)
  refine r_aload_n 0 dX12_image_116 rfl rfl ?_
  refine r_aload_n 0 dX12_image_117 rfl rfl ?_
  refine r_gx (kz := 87) rfl hu dX12_image_118 kF_X12_200 kd_337 rfl rfl rfl fx_337_87 ?_
  refine r_iload_n 1 dX12_image_121 rfl rfl ?_
  refine r_iald hu dX12_image_122 kd_399 rfl (Or.inl rfl) rfl ln_399 h29 ?_
  refine r_iconst dX12_image_123 ⟨by decide, by decide⟩ ?_
  refine r_icmp_ne (tgt := 133) dX12_image_124 rfl (fun h32 => ?_) (fun h33 => ?_)
  · refine r_sipush dX12_image_127 (by decide) ⟨by decide, by decide⟩ ?_
    refine r_goto (tgt := 139) dX12_image_130 rfl ?_
    refine r_invv (a := 337) hu ⟨Nat.le_refl _, Nat.le_refl _⟩ dX12_image_139 kM_X12_638 (ci := 12) rfl kd_337 rfl rfl (by decide) (by decide) [(0, 255)] rfl (sk := []) rfl (Nat.le_of_ble_eq_true rfl) rfl (m_X12_writes hu M31 255) (fun r34 M35 => ?_)
    refine r_iincB 1 dX12_image_142 rfl ⟨by have := h29; omega, by have := h29; omega⟩ (by decide) (lf := fun y36 => [(1, 0, y36), (0, 2, 337)]) (fun _ => rfl) (fun y36 ey36 => ?_)
    refine r_goto (tgt := 15) dX12_image_145 rfl ?_
    refine r_sub [1, 0] (ls' := [(0, 2, 337), (1, 0, y36)]) rfl ?_
    exact hw15 M35 y36
  · refine r_aload_n 0 dX12_image_133 rfl rfl ?_
    refine r_gx (kz := 87) rfl hu dX12_image_134 kF_X12_200 kd_337 rfl rfl rfl fx_337_87 ?_
    refine r_iload_n 1 dX12_image_137 rfl rfl ?_
    refine r_iald hu dX12_image_138 kd_399 rfl (Or.inl rfl) rfl ln_399 h29 ?_
    refine r_invv (a := 337) hu ⟨Nat.le_refl _, Nat.le_refl _⟩ dX12_image_139 kM_X12_638 (ci := 12) rfl kd_337 rfl rfl (by decide) (by decide) [(0, M31 399 x1)] rfl (sk := []) rfl (Nat.le_of_ble_eq_true rfl) rfl (m_X12_writes hu M31 (M31 399 x1)) (fun r37 M38 => ?_)
    refine r_iincB 1 dX12_image_142 rfl ⟨by have := h29; omega, by have := h29; omega⟩ (by decide) (lf := fun y39 => [(1, 0, y39), (0, 2, 337)]) (fun _ => rfl) (fun y39 ey39 => ?_)
    refine r_goto (tgt := 15) dX12_image_145 rfl ?_
    refine r_sub [1, 0] (ls' := [(0, 2, 337), (1, 0, y39)]) rfl ?_
    exact hw15 M38 y39
set_option maxRecDepth 100000 in
theorem tj_X12_image_88 {g : GT} {n nf : Int} (hu : Up false nf n) (w15 : Mem → Int → Res) (hw15 : ∀ (M : Mem) (x1 : Int), AW g false RX12 cX12_image 2 (some .int) (1) n n nf 15 [(0, 2, 337), (1, 0, x1)] [] n M (w15 M x1)) (M : Mem) (x1 s0 : Int) : AW g false RX12 cX12_image 2 (some .int) (1) n n nf 88 [(0, 2, 337), (1, 0, x1)] [(0, s0), (2, 337)] n M (j_X12_image_88 w15 M x1 s0) := by
  unfold j_X12_image_88
  refine r_aload_n 0 dX12_image_88 rfl rfl ?_
  refine r_gx (kz := 86) rfl hu dX12_image_89 kF_X12_197 kd_337 rfl rfl rfl fx_337_86 ?_
  refine r_iload_n 1 dX12_image_92 rfl rfl ?_
  refine r_ok (fun h23 => ?_)
  refine r_zald hu dX12_image_93 kd_398 rfl rfl rfl ln_398 h23 ?_
  refine r_if_eq (tgt := 101) dX12_image_94 rfl (fun h24 => ?_) (fun h25 => ?_)
  · refine r_iconst dX12_image_101 ⟨by decide, by decide⟩ ?_
    exact tj_X12_image_102 hu w15 hw15 M x1 0 s0
  · refine r_iconst dX12_image_97 ⟨by decide, by decide⟩ ?_
    refine r_goto (tgt := 102) dX12_image_98 rfl ?_
    exact tj_X12_image_102 hu w15 hw15 M x1 2 s0
set_option maxRecDepth 100000 in
theorem tb_X12_image_15 {g : GT} {n nf : Int} (hu : Up false nf n) (w15 : Mem → Int → Res) (hw15 : ∀ (M : Mem) (x1 : Int), AW g false RX12 cX12_image 2 (some .int) (1) n n nf 15 [(0, 2, 337), (1, 0, x1)] [] n M (w15 M x1)) (M : Mem) (x1 : Int) : AW g false RX12 cX12_image 2 (some .int) (1) n n nf 15 [(0, 2, 337), (1, 0, x1)] [] n M (b_X12_image_15 w15 M x1) := by
  unfold b_X12_image_15
  refine r_iload_n 1 dX12_image_15 rfl rfl ?_
  refine r_aload_n 0 dX12_image_16 rfl rfl ?_
  refine r_gf (t := 0) (kz := 79) rfl hu dX12_image_17 kF_X12_452 kd_337 rfl rfl rfl ?_
  refine r_icmp_ge (tgt := 148) dX12_image_20 rfl (fun h4 => ?_) (fun h5 => ?_)
  · refine r_aload_n 0 dX12_image_148 rfl rfl ?_
    refine r_aload_n 0 dX12_image_149 rfl rfl ?_
    refine r_gx (kz := 94) rfl hu dX12_image_150 kF_X12_221 kd_337 rfl rfl rfl fx_337_94 ?_
    refine r_aload_n 0 dX12_image_153 rfl rfl ?_
    refine r_gf (t := 0) (kz := 95) rfl hu dX12_image_154 kF_X12_635 kd_337 rfl rfl rfl ?_
    refine r_ins (a := 0) ⟨Nat.le_refl _, Nat.le_refl _⟩ dX12_image_157 kM_X12_641 (by decide) (by decide) [(2, 406), (0, M 337 95)] rfl (sk := [(2, 337)]) rfl (Nat.le_of_ble_eq_true rfl) rfl rfl (m_X12_checked hu M 406 (M 337 95) kd_406) (fun r6 M7 => ?_)
    refine r_invv (a := 337) hu ⟨Nat.le_refl _, Nat.le_refl _⟩ dX12_image_160 kM_X12_638 (ci := 12) rfl kd_337 rfl rfl (by decide) (by decide) [(0, r6)] rfl (sk := []) rfl (Nat.le_of_ble_eq_true rfl) rfl (m_X12_writes hu M7 r6) (fun r8 M9 => ?_)
    refine r_aload_n 0 dX12_image_163 rfl rfl ?_
    refine r_gf (t := 0) (kz := 95) rfl hu dX12_image_164 kF_X12_635 kd_337 rfl rfl rfl ?_
    exact r_iret rfl rfl (Or.inl rfl) dX12_image_167
  · refine r_aload_n 0 dX12_image_23 rfl rfl ?_
    refine r_aload_n 0 dX12_image_24 rfl rfl ?_
    refine r_gx (kz := 80) rfl hu dX12_image_25 kF_X12_179 kd_337 rfl rfl rfl fx_337_80 ?_
    refine r_iload_n 1 dX12_image_28 rfl rfl ?_
    refine r_ok (fun h10 => ?_)
    refine r_iald hu dX12_image_29 kd_392 rfl (Or.inl rfl) rfl ln_392 h10 ?_
    refine r_invv (a := 337) hu ⟨Nat.le_refl _, Nat.le_refl _⟩ dX12_image_30 kM_X12_638 (ci := 12) rfl kd_337 rfl rfl (by decide) (by decide) [(0, M 392 x1)] rfl (sk := []) rfl (Nat.le_of_ble_eq_true rfl) rfl (m_X12_writes hu M (M 392 x1)) (fun r11 M12 => ?_)
    refine r_aload_n 0 dX12_image_33 rfl rfl ?_
    refine r_aload_n 0 dX12_image_34 rfl rfl ?_
    refine r_gx (kz := 81) rfl hu dX12_image_35 kF_X12_182 kd_337 rfl rfl rfl fx_337_81 ?_
    refine r_iload_n 1 dX12_image_38 rfl rfl ?_
    refine r_iald hu dX12_image_39 kd_393 rfl (Or.inl rfl) rfl ln_393 h10 ?_
    refine r_invv (a := 337) hu ⟨Nat.le_refl _, Nat.le_refl _⟩ dX12_image_40 kM_X12_638 (ci := 12) rfl kd_337 rfl rfl (by decide) (by decide) [(0, M12 393 x1)] rfl (sk := []) rfl (Nat.le_of_ble_eq_true rfl) rfl (m_X12_writes hu M12 (M12 393 x1)) (fun r13 M14 => ?_)
    refine r_aload_n 0 dX12_image_43 rfl rfl ?_
    refine r_aload_n 0 dX12_image_44 rfl rfl ?_
    refine r_gx (kz := 82) rfl hu dX12_image_45 kF_X12_185 kd_337 rfl rfl rfl fx_337_82 ?_
    refine r_iload_n 1 dX12_image_48 rfl rfl ?_
    refine r_iald hu dX12_image_49 kd_394 rfl (Or.inl rfl) rfl ln_394 h10 ?_
    refine r_invv (a := 337) hu ⟨Nat.le_refl _, Nat.le_refl _⟩ dX12_image_50 kM_X12_638 (ci := 12) rfl kd_337 rfl rfl (by decide) (by decide) [(0, M14 394 x1)] rfl (sk := []) rfl (Nat.le_of_ble_eq_true rfl) rfl (m_X12_writes hu M14 (M14 394 x1)) (fun r15 M16 => ?_)
    refine r_aload_n 0 dX12_image_53 rfl rfl ?_
    refine r_aload_n 0 dX12_image_54 rfl rfl ?_
    refine r_gx (kz := 83) rfl hu dX12_image_55 kF_X12_188 kd_337 rfl rfl rfl fx_337_83 ?_
    refine r_iload_n 1 dX12_image_58 rfl rfl ?_
    refine r_iald hu dX12_image_59 kd_395 rfl (Or.inl rfl) rfl ln_395 h10 ?_
    refine r_invv (a := 337) hu ⟨Nat.le_refl _, Nat.le_refl _⟩ dX12_image_60 kM_X12_638 (ci := 12) rfl kd_337 rfl rfl (by decide) (by decide) [(0, M16 395 x1)] rfl (sk := []) rfl (Nat.le_of_ble_eq_true rfl) rfl (m_X12_writes hu M16 (M16 395 x1)) (fun r17 M18 => ?_)
    refine r_aload_n 0 dX12_image_63 rfl rfl ?_
    refine r_aload_n 0 dX12_image_64 rfl rfl ?_
    refine r_gx (kz := 84) rfl hu dX12_image_65 kF_X12_191 kd_337 rfl rfl rfl fx_337_84 ?_
    refine r_iload_n 1 dX12_image_68 rfl rfl ?_
    refine r_iald hu dX12_image_69 kd_396 rfl (Or.inl rfl) rfl ln_396 h10 ?_
    refine r_invv (a := 337) hu ⟨Nat.le_refl _, Nat.le_refl _⟩ dX12_image_70 kM_X12_638 (ci := 12) rfl kd_337 rfl rfl (by decide) (by decide) [(0, M18 396 x1)] rfl (sk := []) rfl (Nat.le_of_ble_eq_true rfl) rfl (m_X12_writes hu M18 (M18 396 x1)) (fun r19 M20 => ?_)
    refine r_aload_n 0 dX12_image_73 rfl rfl ?_
    refine r_aload_n 0 dX12_image_74 rfl rfl ?_
    refine r_gx (kz := 85) rfl hu dX12_image_75 kF_X12_194 kd_337 rfl rfl rfl fx_337_85 ?_
    refine r_iload_n 1 dX12_image_78 rfl rfl ?_
    refine r_zald hu dX12_image_79 kd_397 rfl rfl rfl ln_397 h10 ?_
    refine r_if_eq (tgt := 87) dX12_image_80 rfl (fun h21 => ?_) (fun h22 => ?_)
    · refine r_iconst dX12_image_87 ⟨by decide, by decide⟩ ?_
      exact tj_X12_image_88 hu w15 hw15 M20 x1 0
    · refine r_iconst dX12_image_83 ⟨by decide, by decide⟩ ?_
      refine r_goto (tgt := 88) dX12_image_84 rfl ?_
      exact tj_X12_image_88 hu w15 hw15 M20 x1 1
set_option maxRecDepth 100000 in
theorem m_X12_image {g : GT} {n nf : Int} (hu : Up false nf n) (M : Mem) : AM g false yX12_image cX12_image 2 (some .int) (1) n n nf [(2, 337)] M (f_X12_image M) := by
  refine AM_of (by decide +kernel) (Nat.le_of_ble_eq_true rfl) (fun h => absurd h (Int.lt_irrefl n)) ?_
  show AW g false RX12 cX12_image 2 (some .int) (1) n n nf 0 [(0, 2, 337)] [] n M (f_X12_image M)
  unfold f_X12_image
  refine r_aload_n 0 dX12_image_0 rfl rfl ?_
  refine r_iconst dX12_image_1 ⟨by decide, by decide⟩ ?_
  refine r_pf (t := 0) (kz := 95) rfl hu dX12_image_2 kF_X12_635 kd_337 rfl rfl rfl (fun h => absurd h (by decide)) rfl kX_12_95 (fun M1 eM1 => ?_)
  refine r_aload_n 0 dX12_image_5 rfl rfl ?_
  refine r_aload_n 0 dX12_image_6 rfl rfl ?_
  refine r_gf (t := 0) (kz := 79) rfl hu dX12_image_7 kF_X12_452 kd_337 rfl rfl rfl ?_
  refine r_invv (a := 337) hu ⟨Nat.le_refl _, Nat.le_refl _⟩ dX12_image_10 kM_X12_638 (ci := 12) rfl kd_337 rfl rfl (by decide) (by decide) [(0, M1 337 79)] rfl (sk := []) rfl (Nat.le_of_ble_eq_true rfl) rfl (m_X12_writes hu M1 (M1 337 79)) (fun r2 M3 => ?_)
  refine r_iconst dX12_image_13 ⟨by decide, by decide⟩ ?_
  refine r_istore_n dX12_image_14 rfl (by decide) (ls' := [(1, 0, 0), (0, 2, 337)]) rfl ?_
  refine r_sub [1, 0] (ls' := [(0, 2, 337), (1, 0, 0)]) rfl ?_
  exact wl1_aw (P := fun M x1 o => AW g false RX12 cX12_image 2 (some .int) (1) n n nf 15 [(0, 2, 337), (1, 0, x1)] [] n M (o)) (fun M x1 => aw_none) (fun w hw M x1 => tb_X12_image_15 hu w hw M x1) FU M3 0
theorem dX12_octet_0 : decode cX12_octet 0 = .ok (.iload_n 1, 1) := by decide +kernel
theorem dX12_octet_1 : decode cX12_octet 1 = .ok (.ifCond .lt 20, 3) := by decide +kernel
theorem dX12_octet_4 : decode cX12_octet 4 = .ok (.iload_n 1, 1) := by decide +kernel
theorem dX12_octet_5 : decode cX12_octet 5 = .ok (.aload_n 0, 1) := by decide +kernel
theorem dX12_octet_6 : decode cX12_octet 6 = .ok (.getfield 635, 3) := by decide +kernel
theorem dX12_octet_9 : decode cX12_octet 9 = .ok (.if_icmp .ge 12, 3) := by decide +kernel
theorem dX12_octet_12 : decode cX12_octet 12 = .ok (.aload_n 0, 1) := by decide +kernel
theorem dX12_octet_13 : decode cX12_octet 13 = .ok (.getfield 221, 3) := by decide +kernel
theorem dX12_octet_16 : decode cX12_octet 16 = .ok (.iload_n 1, 1) := by decide +kernel
theorem dX12_octet_17 : decode cX12_octet 17 = .ok (.iaload, 1) := by decide +kernel
theorem dX12_octet_18 : decode cX12_octet 18 = .ok (.goto 4, 3) := by decide +kernel
theorem dX12_octet_21 : decode cX12_octet 21 = .ok (.iconst (-1), 1) := by decide +kernel
theorem dX12_octet_22 : decode cX12_octet 22 = .ok (.ireturn, 1) := by decide +kernel
set_option maxRecDepth 100000 in
theorem m_X12_octet {g : GT} {n nf : Int} (hu : Up false nf n) (M : Mem) (a1 : Int) : AM g false yX12_octet cX12_octet 2 (some .int) (0) n n nf [(2, 337), (0, a1)] M (f_X12_octet M a1) := by
  refine AM_of (by decide +kernel) (Nat.le_of_ble_eq_true rfl) (fun h => absurd h (Int.lt_irrefl n)) ?_
  show AW g false RX12 cX12_octet 2 (some .int) (0) n n nf 0 [(0, 2, 337), (1, 0, a1)] [] n M (f_X12_octet M a1)
  unfold f_X12_octet
  refine r_iload_n 1 dX12_octet_0 rfl rfl ?_
  refine r_if_lt (tgt := 21) dX12_octet_1 rfl (fun h1 => ?_) (fun h2 => ?_)
  · refine r_iconst dX12_octet_21 ⟨by decide, by decide⟩ ?_
    exact r_iret rfl rfl (Or.inl rfl) dX12_octet_22
  · refine r_iload_n 1 dX12_octet_4 rfl rfl ?_
    refine r_aload_n 0 dX12_octet_5 rfl rfl ?_
    refine r_gf (t := 0) (kz := 95) rfl hu dX12_octet_6 kF_X12_635 kd_337 rfl rfl rfl ?_
    refine r_icmp_ge (tgt := 21) dX12_octet_9 rfl (fun h3 => ?_) (fun h4 => ?_)
    · refine r_iconst dX12_octet_21 ⟨by decide, by decide⟩ ?_
      exact r_iret rfl rfl (Or.inl rfl) dX12_octet_22
    · refine r_aload_n 0 dX12_octet_12 rfl rfl ?_
      refine r_gx (kz := 94) rfl hu dX12_octet_13 kF_X12_221 kd_337 rfl rfl rfl fx_337_94 ?_
      refine r_iload_n 1 dX12_octet_16 rfl rfl ?_
      refine r_ok (fun h5 => ?_)
      refine r_iald hu dX12_octet_17 kd_406 rfl (Or.inl rfl) rfl ln_406 h5 ?_
      refine r_goto (tgt := 22) dX12_octet_18 rfl ?_
      exact r_iret rfl rfl (Or.inl rfl) dX12_octet_22
theorem dX12_isTold_0 : decode cX12_isTold 0 = .ok (.aload_n 0, 1) := by decide +kernel
theorem dX12_isTold_1 : decode cX12_isTold 1 = .ok (.getfield 7, 3) := by decide +kernel
theorem dX12_isTold_4 : decode cX12_isTold 4 = .ok (.iload_n 1, 1) := by decide +kernel
theorem dX12_isTold_5 : decode cX12_isTold 5 = .ok (.iconst 1, 1) := by decide +kernel
theorem dX12_isTold_6 : decode cX12_isTold 6 = .ok (.iadd, 1) := by decide +kernel
theorem dX12_isTold_7 : decode cX12_isTold 7 = .ok (.iaload, 1) := by decide +kernel
theorem dX12_isTold_8 : decode cX12_isTold 8 = .ok (.bipush 96, 2) := by decide +kernel
theorem dX12_isTold_10 : decode cX12_isTold 10 = .ok (.if_icmp .ge 66, 3) := by decide +kernel
theorem dX12_isTold_13 : decode cX12_isTold 13 = .ok (.aload_n 0, 1) := by decide +kernel
theorem dX12_isTold_14 : decode cX12_isTold 14 = .ok (.getfield 7, 3) := by decide +kernel
theorem dX12_isTold_17 : decode cX12_isTold 17 = .ok (.iload_n 1, 1) := by decide +kernel
theorem dX12_isTold_18 : decode cX12_isTold 18 = .ok (.iconst 2, 1) := by decide +kernel
theorem dX12_isTold_19 : decode cX12_isTold 19 = .ok (.iadd, 1) := by decide +kernel
theorem dX12_isTold_20 : decode cX12_isTold 20 = .ok (.iaload, 1) := by decide +kernel
theorem dX12_isTold_21 : decode cX12_isTold 21 = .ok (.bipush 99, 2) := by decide +kernel
theorem dX12_isTold_23 : decode cX12_isTold 23 = .ok (.if_icmp .gt 53, 3) := by decide +kernel
theorem dX12_isTold_26 : decode cX12_isTold 26 = .ok (.aload_n 0, 1) := by decide +kernel
theorem dX12_isTold_27 : decode cX12_isTold 27 = .ok (.getfield 7, 3) := by decide +kernel
theorem dX12_isTold_30 : decode cX12_isTold 30 = .ok (.iload_n 1, 1) := by decide +kernel
theorem dX12_isTold_31 : decode cX12_isTold 31 = .ok (.iconst 5, 1) := by decide +kernel
theorem dX12_isTold_32 : decode cX12_isTold 32 = .ok (.iadd, 1) := by decide +kernel
theorem dX12_isTold_33 : decode cX12_isTold 33 = .ok (.iaload, 1) := by decide +kernel
theorem dX12_isTold_34 : decode cX12_isTold 34 = .ok (.iconst 3, 1) := by decide +kernel
theorem dX12_isTold_35 : decode cX12_isTold 35 = .ok (.if_icmp .gt 41, 3) := by decide +kernel
theorem dX12_isTold_38 : decode cX12_isTold 38 = .ok (.aload_n 0, 1) := by decide +kernel
theorem dX12_isTold_39 : decode cX12_isTold 39 = .ok (.aload_n 0, 1) := by decide +kernel
theorem dX12_isTold_40 : decode cX12_isTold 40 = .ok (.getfield 7, 3) := by decide +kernel
theorem dX12_isTold_43 : decode cX12_isTold 43 = .ok (.iload_n 1, 1) := by decide +kernel
theorem dX12_isTold_44 : decode cX12_isTold 44 = .ok (.iaload, 1) := by decide +kernel
theorem dX12_isTold_45 : decode cX12_isTold 45 = .ok (.aload_n 0, 1) := by decide +kernel
theorem dX12_isTold_46 : decode cX12_isTold 46 = .ok (.getfield 7, 3) := by decide +kernel
theorem dX12_isTold_49 : decode cX12_isTold 49 = .ok (.iload_n 1, 1) := by decide +kernel
theorem dX12_isTold_50 : decode cX12_isTold 50 = .ok (.iconst 3, 1) := by decide +kernel
theorem dX12_isTold_51 : decode cX12_isTold 51 = .ok (.iadd, 1) := by decide +kernel
theorem dX12_isTold_52 : decode cX12_isTold 52 = .ok (.iaload, 1) := by decide +kernel
theorem dX12_isTold_53 : decode cX12_isTold 53 = .ok (.aload_n 0, 1) := by decide +kernel
theorem dX12_isTold_54 : decode cX12_isTold 54 = .ok (.getfield 7, 3) := by decide +kernel
theorem dX12_isTold_57 : decode cX12_isTold 57 = .ok (.iload_n 1, 1) := by decide +kernel
theorem dX12_isTold_58 : decode cX12_isTold 58 = .ok (.iconst 4, 1) := by decide +kernel
theorem dX12_isTold_59 : decode cX12_isTold 59 = .ok (.iadd, 1) := by decide +kernel
theorem dX12_isTold_60 : decode cX12_isTold 60 = .ok (.iaload, 1) := by decide +kernel
theorem dX12_isTold_61 : decode cX12_isTold 61 = .ok (.aload_n 0, 1) := by decide +kernel
theorem dX12_isTold_62 : decode cX12_isTold 62 = .ok (.getfield 7, 3) := by decide +kernel
theorem dX12_isTold_65 : decode cX12_isTold 65 = .ok (.iload_n 1, 1) := by decide +kernel
theorem dX12_isTold_66 : decode cX12_isTold 66 = .ok (.bipush 6, 2) := by decide +kernel
theorem dX12_isTold_68 : decode cX12_isTold 68 = .ok (.iadd, 1) := by decide +kernel
theorem dX12_isTold_69 : decode cX12_isTold 69 = .ok (.iaload, 1) := by decide +kernel
theorem dX12_isTold_70 : decode cX12_isTold 70 = .ok (.invokevirtual 585, 3) := by decide +kernel
theorem dX12_isTold_73 : decode cX12_isTold 73 = .ok (.ifCond .ne 5, 3) := by decide +kernel
theorem dX12_isTold_76 : decode cX12_isTold 76 = .ok (.iconst 0, 1) := by decide +kernel
theorem dX12_isTold_77 : decode cX12_isTold 77 = .ok (.ireturn, 1) := by decide +kernel
theorem dX12_isTold_78 : decode cX12_isTold 78 = .ok (.aload_n 0, 1) := by decide +kernel
theorem dX12_isTold_79 : decode cX12_isTold 79 = .ok (.getfield 7, 3) := by decide +kernel
theorem dX12_isTold_82 : decode cX12_isTold 82 = .ok (.iload_n 1, 1) := by decide +kernel
theorem dX12_isTold_83 : decode cX12_isTold 83 = .ok (.bipush 7, 2) := by decide +kernel
theorem dX12_isTold_85 : decode cX12_isTold 85 = .ok (.iadd, 1) := by decide +kernel
theorem dX12_isTold_86 : decode cX12_isTold 86 = .ok (.iaload, 1) := by decide +kernel
theorem dX12_isTold_87 : decode cX12_isTold 87 = .ok (.sipush 255, 3) := by decide +kernel
theorem dX12_isTold_90 : decode cX12_isTold 90 = .ok (.if_icmp .eq 28, 3) := by decide +kernel
theorem dX12_isTold_93 : decode cX12_isTold 93 = .ok (.aload_n 0, 1) := by decide +kernel
theorem dX12_isTold_94 : decode cX12_isTold 94 = .ok (.getfield 7, 3) := by decide +kernel
theorem dX12_isTold_97 : decode cX12_isTold 97 = .ok (.iload_n 1, 1) := by decide +kernel
theorem dX12_isTold_98 : decode cX12_isTold 98 = .ok (.bipush 7, 2) := by decide +kernel
theorem dX12_isTold_100 : decode cX12_isTold 100 = .ok (.iadd, 1) := by decide +kernel
theorem dX12_isTold_101 : decode cX12_isTold 101 = .ok (.iaload, 1) := by decide +kernel
theorem dX12_isTold_102 : decode cX12_isTold 102 = .ok (.aload_n 0, 1) := by decide +kernel
theorem dX12_isTold_103 : decode cX12_isTold 103 = .ok (.getfield 125, 3) := by decide +kernel
theorem dX12_isTold_106 : decode cX12_isTold 106 = .ok (.iconst 5, 1) := by decide +kernel
theorem dX12_isTold_107 : decode cX12_isTold 107 = .ok (.aload_n 0, 1) := by decide +kernel
theorem dX12_isTold_108 : decode cX12_isTold 108 = .ok (.getfield 7, 3) := by decide +kernel
theorem dX12_isTold_111 : decode cX12_isTold 111 = .ok (.iload_n 1, 1) := by decide +kernel
theorem dX12_isTold_112 : decode cX12_isTold 112 = .ok (.iaload, 1) := by decide +kernel
theorem dX12_isTold_113 : decode cX12_isTold 113 = .ok (.iadd, 1) := by decide +kernel
theorem dX12_isTold_114 : decode cX12_isTold 114 = .ok (.iaload, 1) := by decide +kernel
theorem dX12_isTold_115 : decode cX12_isTold 115 = .ok (.if_icmp .ge 7, 3) := by decide +kernel
theorem dX12_isTold_118 : decode cX12_isTold 118 = .ok (.iconst 1, 1) := by decide +kernel
theorem dX12_isTold_119 : decode cX12_isTold 119 = .ok (.goto 4, 3) := by decide +kernel
theorem dX12_isTold_122 : decode cX12_isTold 122 = .ok (.iconst 0, 1) := by decide +kernel
theorem dX12_isTold_123 : decode cX12_isTold 123 = .ok (.ireturn, 1) := by decide +kernel
set_option maxRecDepth 100000 in
theorem m_X12_isTold {g : GT} {n nf : Int} (hu : Up false nf n) (M : Mem) (a1 : Int) : AM g false yX12_isTold cX12_isTold 2 (some .boolean) (3) n n nf [(2, 337), (0, a1)] M (f_X12_isTold M a1) := by
  refine AM_of (by decide +kernel) (Nat.le_of_ble_eq_true rfl) (fun h => absurd h (Int.lt_irrefl n)) ?_
  show AW g false RX12 cX12_isTold 2 (some .boolean) (3) n n nf 0 [(0, 2, 337), (1, 0, a1)] [] n M (f_X12_isTold M a1)
  unfold f_X12_isTold
  refine r_aload_n 0 dX12_isTold_0 rfl rfl ?_
  refine r_gx (kz := 0) rfl hu dX12_isTold_1 kF_X12_7 kd_337 rfl rfl rfl fx_337_0 ?_
  refine r_iload_n 1 dX12_isTold_4 rfl rfl ?_
  refine r_iconst dX12_isTold_5 ⟨by decide, by decide⟩ ?_
  refine r_ok (fun h1 => ?_)
  refine r_iadd dX12_isTold_6 h1 ?_
  refine r_ok (fun h2 => ?_)
  refine r_iald hu dX12_isTold_7 kd_338 rfl (Or.inl rfl) rfl ln_338 h2 ?_
  refine r_bipush dX12_isTold_8 (by decide) ⟨by decide, by decide⟩ ?_
  refine r_icmp_ge (tgt := 76) dX12_isTold_10 rfl (fun h3 => ?_) (fun h4 => ?_)
  · refine r_iconst dX12_isTold_76 ⟨by decide, by decide⟩ ?_
    exact r_iret rfl rfl (Or.inr ⟨rfl, Or.inl rfl⟩) dX12_isTold_77
  · refine r_aload_n 0 dX12_isTold_13 rfl rfl ?_
    refine r_gx (kz := 0) rfl hu dX12_isTold_14 kF_X12_7 kd_337 rfl rfl rfl fx_337_0 ?_
    refine r_iload_n 1 dX12_isTold_17 rfl rfl ?_
    refine r_iconst dX12_isTold_18 ⟨by decide, by decide⟩ ?_
    refine r_ok (fun h5 => ?_)
    refine r_iadd dX12_isTold_19 h5 ?_
    refine r_ok (fun h6 => ?_)
    refine r_iald hu dX12_isTold_20 kd_338 rfl (Or.inl rfl) rfl ln_338 h6 ?_
    refine r_bipush dX12_isTold_21 (by decide) ⟨by decide, by decide⟩ ?_
    refine r_icmp_gt (tgt := 76) dX12_isTold_23 rfl (fun h7 => ?_) (fun h8 => ?_)
    · refine r_iconst dX12_isTold_76 ⟨by decide, by decide⟩ ?_
      exact r_iret rfl rfl (Or.inr ⟨rfl, Or.inl rfl⟩) dX12_isTold_77
    · refine r_aload_n 0 dX12_isTold_26 rfl rfl ?_
      refine r_gx (kz := 0) rfl hu dX12_isTold_27 kF_X12_7 kd_337 rfl rfl rfl fx_337_0 ?_
      refine r_iload_n 1 dX12_isTold_30 rfl rfl ?_
      refine r_iconst dX12_isTold_31 ⟨by decide, by decide⟩ ?_
      refine r_ok (fun h9 => ?_)
      refine r_iadd dX12_isTold_32 h9 ?_
      refine r_ok (fun h10 => ?_)
      refine r_iald hu dX12_isTold_33 kd_338 rfl (Or.inl rfl) rfl ln_338 h10 ?_
      refine r_iconst dX12_isTold_34 ⟨by decide, by decide⟩ ?_
      refine r_icmp_gt (tgt := 76) dX12_isTold_35 rfl (fun h11 => ?_) (fun h12 => ?_)
      · refine r_iconst dX12_isTold_76 ⟨by decide, by decide⟩ ?_
        exact r_iret rfl rfl (Or.inr ⟨rfl, Or.inl rfl⟩) dX12_isTold_77
      · refine r_aload_n 0 dX12_isTold_38 rfl rfl ?_
        refine r_aload_n 0 dX12_isTold_39 rfl rfl ?_
        refine r_gx (kz := 0) rfl hu dX12_isTold_40 kF_X12_7 kd_337 rfl rfl rfl fx_337_0 ?_
        refine r_iload_n 1 dX12_isTold_43 rfl rfl ?_
        refine r_ok (fun h13 => ?_)
        refine r_iald hu dX12_isTold_44 kd_338 rfl (Or.inl rfl) rfl ln_338 h13 ?_
        refine r_aload_n 0 dX12_isTold_45 rfl rfl ?_
        refine r_gx (kz := 0) rfl hu dX12_isTold_46 kF_X12_7 kd_337 rfl rfl rfl fx_337_0 ?_
        refine r_iload_n 1 dX12_isTold_49 rfl rfl ?_
        refine r_iconst dX12_isTold_50 ⟨by decide, by decide⟩ ?_
        refine r_iadd dX12_isTold_51 ⟨by have := h13; omega, by have := h13; omega⟩ ?_
        refine r_ok (fun h14 => ?_)
        refine r_iald hu dX12_isTold_52 kd_338 rfl (Or.inl rfl) rfl ln_338 h14 ?_
        refine r_aload_n 0 dX12_isTold_53 rfl rfl ?_
        refine r_gx (kz := 0) rfl hu dX12_isTold_54 kF_X12_7 kd_337 rfl rfl rfl fx_337_0 ?_
        refine r_iload_n 1 dX12_isTold_57 rfl rfl ?_
        refine r_iconst dX12_isTold_58 ⟨by decide, by decide⟩ ?_
        refine r_iadd dX12_isTold_59 ⟨by have := h13; omega, by have := h13; omega⟩ ?_
        refine r_ok (fun h15 => ?_)
        refine r_iald hu dX12_isTold_60 kd_338 rfl (Or.inl rfl) rfl ln_338 h15 ?_
        refine r_aload_n 0 dX12_isTold_61 rfl rfl ?_
        refine r_gx (kz := 0) rfl hu dX12_isTold_62 kF_X12_7 kd_337 rfl rfl rfl fx_337_0 ?_
        refine r_iload_n 1 dX12_isTold_65 rfl rfl ?_
        refine r_bipush dX12_isTold_66 (by decide) ⟨by decide, by decide⟩ ?_
        refine r_iadd dX12_isTold_68 ⟨by have := h13; omega, by have := h13; omega⟩ ?_
        refine r_ok (fun h16 => ?_)
        refine r_iald hu dX12_isTold_69 kd_338 rfl (Or.inl rfl) rfl ln_338 h16 ?_
        refine r_inv (a := 337) hu ⟨Nat.le_refl _, Nat.le_refl _⟩ dX12_isTold_70 kM_X12_585 (ci := 12) rfl kd_337 rfl rfl (by decide) (by decide) [(0, M 338 a1), (0, M 338 (a1 + 3)), (0, M 338 (a1 + 4)), (0, M 338 (a1 + 6))] rfl (sk := []) rfl (Nat.le_of_ble_eq_true rfl) rfl rfl (m_X12_isTrial hu M (M 338 a1) (M 338 (a1 + 3)) (M 338 (a1 + 4)) (M 338 (a1 + 6))) (fun r17 M18 => ?_)
        refine r_if_ne (tgt := 78) dX12_isTold_73 rfl (fun h19 => ?_) (fun h20 => ?_)
        · refine r_iconst dX12_isTold_76 ⟨by decide, by decide⟩ ?_
          exact r_iret rfl rfl (Or.inr ⟨rfl, Or.inl rfl⟩) dX12_isTold_77
        · refine r_aload_n 0 dX12_isTold_78 rfl rfl ?_
          refine r_gx (kz := 0) rfl hu dX12_isTold_79 kF_X12_7 kd_337 rfl rfl rfl fx_337_0 ?_
          refine r_iload_n 1 dX12_isTold_82 rfl rfl ?_
          refine r_bipush dX12_isTold_83 (by decide) ⟨by decide, by decide⟩ ?_
          refine r_iadd dX12_isTold_85 ⟨by have := h13; omega, by have := h13; omega⟩ ?_
          refine r_ok (fun h21 => ?_)
          refine r_iald hu dX12_isTold_86 kd_338 rfl (Or.inl rfl) rfl ln_338 h21 ?_
          refine r_sipush dX12_isTold_87 (by decide) ⟨by decide, by decide⟩ ?_
          refine r_icmp_eq (tgt := 118) dX12_isTold_90 rfl (fun h22 => ?_) (fun h23 => ?_)
          · refine r_iconst dX12_isTold_118 ⟨by decide, by decide⟩ ?_
            refine r_goto (tgt := 123) dX12_isTold_119 rfl ?_
            exact r_iret rfl rfl (Or.inr ⟨rfl, Or.inr rfl⟩) dX12_isTold_123
          · refine r_aload_n 0 dX12_isTold_93 rfl rfl ?_
            refine r_gx (kz := 0) rfl hu dX12_isTold_94 kF_X12_7 kd_337 rfl rfl rfl fx_337_0 ?_
            refine r_iload_n 1 dX12_isTold_97 rfl rfl ?_
            refine r_bipush dX12_isTold_98 (by decide) ⟨by decide, by decide⟩ ?_
            refine r_iadd dX12_isTold_100 ⟨by have := h13; omega, by have := h13; omega⟩ ?_
            refine r_iald hu dX12_isTold_101 kd_338 rfl (Or.inl rfl) rfl ln_338 h21 ?_
            refine r_aload_n 0 dX12_isTold_102 rfl rfl ?_
            refine r_gx (kz := 49) rfl hu dX12_isTold_103 kF_X12_125 kd_337 rfl rfl rfl fx_337_49 ?_
            refine r_iconst dX12_isTold_106 ⟨by decide, by decide⟩ ?_
            refine r_aload_n 0 dX12_isTold_107 rfl rfl ?_
            refine r_gx (kz := 0) rfl hu dX12_isTold_108 kF_X12_7 kd_337 rfl rfl rfl fx_337_0 ?_
            refine r_iload_n 1 dX12_isTold_111 rfl rfl ?_
            refine r_iald hu dX12_isTold_112 kd_338 rfl (Or.inl rfl) rfl ln_338 h13 ?_
            refine r_ok (fun h24 => ?_)
            refine r_iadd dX12_isTold_113 h24 ?_
            refine r_ok (fun h25 => ?_)
            refine r_iald hu dX12_isTold_114 kd_374 rfl (Or.inl rfl) rfl ln_374 h25 ?_
            refine r_icmp_ge (tgt := 122) dX12_isTold_115 rfl (fun h26 => ?_) (fun h27 => ?_)
            · refine r_iconst dX12_isTold_122 ⟨by decide, by decide⟩ ?_
              exact r_iret rfl rfl (Or.inr ⟨rfl, Or.inl rfl⟩) dX12_isTold_123
            · refine r_iconst dX12_isTold_118 ⟨by decide, by decide⟩ ?_
              refine r_goto (tgt := 123) dX12_isTold_119 rfl ?_
              exact r_iret rfl rfl (Or.inr ⟨rfl, Or.inr rfl⟩) dX12_isTold_123
theorem dX12_on_0 : decode cX12_on 0 = .ok (.aload_n 0, 1) := by decide +kernel
theorem dX12_on_1 : decode cX12_on 1 = .ok (.getfield 224, 3) := by decide +kernel
theorem dX12_on_4 : decode cX12_on 4 = .ok (.istore_n 1, 1) := by decide +kernel
theorem dX12_on_5 : decode cX12_on 5 = .ok (.aload_n 0, 1) := by decide +kernel
theorem dX12_on_6 : decode cX12_on 6 = .ok (.iconst 0, 1) := by decide +kernel
theorem dX12_on_7 : decode cX12_on 7 = .ok (.putfield 224, 3) := by decide +kernel
theorem dX12_on_10 : decode cX12_on 10 = .ok (.iload_n 1, 1) := by decide +kernel
theorem dX12_on_11 : decode cX12_on 11 = .ok (.iconst 2, 1) := by decide +kernel
theorem dX12_on_12 : decode cX12_on 12 = .ok (.if_icmp .lt 50, 3) := by decide +kernel
theorem dX12_on_15 : decode cX12_on 15 = .ok (.aload_n 0, 1) := by decide +kernel
theorem dX12_on_16 : decode cX12_on 16 = .ok (.getfield 7, 3) := by decide +kernel
theorem dX12_on_19 : decode cX12_on 19 = .ok (.iconst 0, 1) := by decide +kernel
theorem dX12_on_20 : decode cX12_on 20 = .ok (.iaload, 1) := by decide +kernel
theorem dX12_on_21 : decode cX12_on 21 = .ok (.bipush 40, 2) := by decide +kernel
theorem dX12_on_23 : decode cX12_on 23 = .ok (.if_icmp .gt 39, 3) := by decide +kernel
theorem dX12_on_26 : decode cX12_on 26 = .ok (.iload_n 1, 1) := by decide +kernel
theorem dX12_on_27 : decode cX12_on 27 = .ok (.iconst 2, 1) := by decide +kernel
theorem dX12_on_28 : decode cX12_on 28 = .ok (.bipush 8, 2) := by decide +kernel
theorem dX12_on_30 : decode cX12_on 30 = .ok (.aload_n 0, 1) := by decide +kernel
theorem dX12_on_31 : decode cX12_on 31 = .ok (.getfield 7, 3) := by decide +kernel
theorem dX12_on_34 : decode cX12_on 34 = .ok (.iconst 0, 1) := by decide +kernel
theorem dX12_on_35 : decode cX12_on 35 = .ok (.iaload, 1) := by decide +kernel
theorem dX12_on_36 : decode cX12_on 36 = .ok (.imul, 1) := by decide +kernel
theorem dX12_on_37 : decode cX12_on 37 = .ok (.iadd, 1) := by decide +kernel
theorem dX12_on_38 : decode cX12_on 38 = .ok (.if_icmp .ne 24, 3) := by decide +kernel
theorem dX12_on_41 : decode cX12_on 41 = .ok (.aload_n 0, 1) := by decide +kernel
theorem dX12_on_42 : decode cX12_on 42 = .ok (.getfield 7, 3) := by decide +kernel
theorem dX12_on_45 : decode cX12_on 45 = .ok (.iload_n 1, 1) := by decide +kernel
theorem dX12_on_46 : decode cX12_on 46 = .ok (.iconst 1, 1) := by decide +kernel
theorem dX12_on_47 : decode cX12_on 47 = .ok (.isub, 1) := by decide +kernel
theorem dX12_on_48 : decode cX12_on 48 = .ok (.iaload, 1) := by decide +kernel
theorem dX12_on_49 : decode cX12_on 49 = .ok (.aload_n 0, 1) := by decide +kernel
theorem dX12_on_50 : decode cX12_on 50 = .ok (.getfield 7, 3) := by decide +kernel
theorem dX12_on_53 : decode cX12_on 53 = .ok (.iload_n 1, 1) := by decide +kernel
theorem dX12_on_54 : decode cX12_on 54 = .ok (.iconst 1, 1) := by decide +kernel
theorem dX12_on_55 : decode cX12_on 55 = .ok (.isub, 1) := by decide +kernel
theorem dX12_on_56 : decode cX12_on 56 = .ok (.invokestatic 641, 3) := by decide +kernel
theorem dX12_on_59 : decode cX12_on 59 = .ok (.if_icmp .eq 5, 3) := by decide +kernel
theorem dX12_on_62 : decode cX12_on 62 = .ok (.iconst 0, 1) := by decide +kernel
theorem dX12_on_63 : decode cX12_on 63 = .ok (.ireturn, 1) := by decide +kernel
theorem dX12_on_64 : decode cX12_on 64 = .ok (.iconst 1, 1) := by decide +kernel
theorem dX12_on_65 : decode cX12_on 65 = .ok (.istore_n 2, 1) := by decide +kernel
theorem dX12_on_66 : decode cX12_on 66 = .ok (.iload_n 2, 1) := by decide +kernel
theorem dX12_on_67 : decode cX12_on 67 = .ok (.iload_n 1, 1) := by decide +kernel
theorem dX12_on_68 : decode cX12_on 68 = .ok (.iconst 1, 1) := by decide +kernel
theorem dX12_on_69 : decode cX12_on 69 = .ok (.isub, 1) := by decide +kernel
theorem dX12_on_70 : decode cX12_on 70 = .ok (.if_icmp .ge 19, 3) := by decide +kernel
theorem dX12_on_73 : decode cX12_on 73 = .ok (.aload_n 0, 1) := by decide +kernel
theorem dX12_on_74 : decode cX12_on 74 = .ok (.iload_n 2, 1) := by decide +kernel
theorem dX12_on_75 : decode cX12_on 75 = .ok (.invokevirtual 645, 3) := by decide +kernel
theorem dX12_on_78 : decode cX12_on 78 = .ok (.ifCond .ne 5, 3) := by decide +kernel
theorem dX12_on_81 : decode cX12_on 81 = .ok (.iconst 0, 1) := by decide +kernel
theorem dX12_on_82 : decode cX12_on 82 = .ok (.ireturn, 1) := by decide +kernel
theorem dX12_on_83 : decode cX12_on 83 = .ok (.iinc 2 8, 3) := by decide +kernel
theorem dX12_on_86 : decode cX12_on 86 = .ok (.goto (-20), 3) := by decide +kernel
theorem dX12_on_89 : decode cX12_on 89 = .ok (.aload_n 0, 1) := by decide +kernel
theorem dX12_on_90 : decode cX12_on 90 = .ok (.aload_n 0, 1) := by decide +kernel
theorem dX12_on_91 : decode cX12_on 91 = .ok (.getfield 7, 3) := by decide +kernel
theorem dX12_on_94 : decode cX12_on 94 = .ok (.iconst 0, 1) := by decide +kernel
theorem dX12_on_95 : decode cX12_on 95 = .ok (.iaload, 1) := by decide +kernel
theorem dX12_on_96 : decode cX12_on 96 = .ok (.putfield 452, 3) := by decide +kernel
theorem dX12_on_99 : decode cX12_on 99 = .ok (.iconst 0, 1) := by decide +kernel
theorem dX12_on_100 : decode cX12_on 100 = .ok (.istore_n 2, 1) := by decide +kernel
theorem dX12_on_101 : decode cX12_on 101 = .ok (.iload_n 2, 1) := by decide +kernel
theorem dX12_on_102 : decode cX12_on 102 = .ok (.aload_n 0, 1) := by decide +kernel
theorem dX12_on_103 : decode cX12_on 103 = .ok (.getfield 452, 3) := by decide +kernel
theorem dX12_on_106 : decode cX12_on 106 = .ok (.if_icmp .ge 144, 3) := by decide +kernel
theorem dX12_on_109 : decode cX12_on 109 = .ok (.iconst 1, 1) := by decide +kernel
theorem dX12_on_110 : decode cX12_on 110 = .ok (.bipush 8, 2) := by decide +kernel
theorem dX12_on_112 : decode cX12_on 112 = .ok (.iload_n 2, 1) := by decide +kernel
theorem dX12_on_113 : decode cX12_on 113 = .ok (.imul, 1) := by decide +kernel
theorem dX12_on_114 : decode cX12_on 114 = .ok (.iadd, 1) := by decide +kernel
theorem dX12_on_115 : decode cX12_on 115 = .ok (.istore_n 3, 1) := by decide +kernel
theorem dX12_on_116 : decode cX12_on 116 = .ok (.aload_n 0, 1) := by decide +kernel
theorem dX12_on_117 : decode cX12_on 117 = .ok (.iload_n 2, 1) := by decide +kernel
theorem dX12_on_118 : decode cX12_on 118 = .ok (.aload_n 0, 1) := by decide +kernel
theorem dX12_on_119 : decode cX12_on 119 = .ok (.getfield 7, 3) := by decide +kernel
theorem dX12_on_122 : decode cX12_on 122 = .ok (.iload_n 3, 1) := by decide +kernel
theorem dX12_on_123 : decode cX12_on 123 = .ok (.iaload, 1) := by decide +kernel
theorem dX12_on_124 : decode cX12_on 124 = .ok (.aload_n 0, 1) := by decide +kernel
theorem dX12_on_125 : decode cX12_on 125 = .ok (.getfield 7, 3) := by decide +kernel
theorem dX12_on_128 : decode cX12_on 128 = .ok (.iload_n 3, 1) := by decide +kernel
theorem dX12_on_129 : decode cX12_on 129 = .ok (.iconst 1, 1) := by decide +kernel
theorem dX12_on_130 : decode cX12_on 130 = .ok (.iadd, 1) := by decide +kernel
theorem dX12_on_131 : decode cX12_on 131 = .ok (.iaload, 1) := by decide +kernel
theorem dX12_on_132 : decode cX12_on 132 = .ok (.aload_n 0, 1) := by decide +kernel
theorem dX12_on_133 : decode cX12_on 133 = .ok (.getfield 7, 3) := by decide +kernel
theorem dX12_on_136 : decode cX12_on 136 = .ok (.iload_n 3, 1) := by decide +kernel
theorem dX12_on_137 : decode cX12_on 137 = .ok (.iconst 2, 1) := by decide +kernel
theorem dX12_on_138 : decode cX12_on 138 = .ok (.iadd, 1) := by decide +kernel
theorem dX12_on_139 : decode cX12_on 139 = .ok (.iaload, 1) := by decide +kernel
theorem dX12_on_140 : decode cX12_on 140 = .ok (.aload_n 0, 1) := by decide +kernel
theorem dX12_on_141 : decode cX12_on 141 = .ok (.getfield 7, 3) := by decide +kernel
theorem dX12_on_144 : decode cX12_on 144 = .ok (.iload_n 3, 1) := by decide +kernel
theorem dX12_on_145 : decode cX12_on 145 = .ok (.iconst 3, 1) := by decide +kernel
theorem dX12_on_146 : decode cX12_on 146 = .ok (.iadd, 1) := by decide +kernel
theorem dX12_on_147 : decode cX12_on 147 = .ok (.iaload, 1) := by decide +kernel
theorem dX12_on_148 : decode cX12_on 148 = .ok (.aload_n 0, 1) := by decide +kernel
theorem dX12_on_149 : decode cX12_on 149 = .ok (.getfield 7, 3) := by decide +kernel
theorem dX12_on_152 : decode cX12_on 152 = .ok (.iload_n 3, 1) := by decide +kernel
theorem dX12_on_153 : decode cX12_on 153 = .ok (.iconst 4, 1) := by decide +kernel
theorem dX12_on_154 : decode cX12_on 154 = .ok (.iadd, 1) := by decide +kernel
theorem dX12_on_155 : decode cX12_on 155 = .ok (.iaload, 1) := by decide +kernel
theorem dX12_on_156 : decode cX12_on 156 = .ok (.aload_n 0, 1) := by decide +kernel
theorem dX12_on_157 : decode cX12_on 157 = .ok (.getfield 7, 3) := by decide +kernel
theorem dX12_on_160 : decode cX12_on 160 = .ok (.iload_n 3, 1) := by decide +kernel
theorem dX12_on_161 : decode cX12_on 161 = .ok (.iconst 5, 1) := by decide +kernel
theorem dX12_on_162 : decode cX12_on 162 = .ok (.iadd, 1) := by decide +kernel
theorem dX12_on_163 : decode cX12_on 163 = .ok (.iaload, 1) := by decide +kernel
theorem dX12_on_164 : decode cX12_on 164 = .ok (.iconst 2, 1) := by decide +kernel
theorem dX12_on_165 : decode cX12_on 165 = .ok (.irem, 1) := by decide +kernel
theorem dX12_on_166 : decode cX12_on 166 = .ok (.iconst 1, 1) := by decide +kernel
theorem dX12_on_167 : decode cX12_on 167 = .ok (.if_icmp .ne 7, 3) := by decide +kernel
theorem dX12_on_170 : decode cX12_on 170 = .ok (.iconst 1, 1) := by decide +kernel
theorem dX12_on_171 : decode cX12_on 171 = .ok (.goto 4, 3) := by decide +kernel
theorem dX12_on_174 : decode cX12_on 174 = .ok (.iconst 0, 1) := by decide +kernel
theorem dX12_on_175 : decode cX12_on 175 = .ok (.aload_n 0, 1) := by decide +kernel
theorem dX12_on_176 : decode cX12_on 176 = .ok (.getfield 7, 3) := by decide +kernel
theorem dX12_on_179 : decode cX12_on 179 = .ok (.iload_n 3, 1) := by decide +kernel
theorem dX12_on_180 : decode cX12_on 180 = .ok (.bipush 6, 2) := by decide +kernel
theorem dX12_on_182 : decode cX12_on 182 = .ok (.iadd, 1) := by decide +kernel
theorem dX12_on_183 : decode cX12_on 183 = .ok (.iaload, 1) := by decide +kernel
theorem dX12_on_184 : decode cX12_on 184 = .ok (.invokevirtual 455, 3) := by decide +kernel
theorem dX12_on_187 : decode cX12_on 187 = .ok (.aload_n 0, 1) := by decide +kernel
theorem dX12_on_188 : decode cX12_on 188 = .ok (.getfield 197, 3) := by decide +kernel
theorem dX12_on_191 : decode cX12_on 191 = .ok (.iload_n 2, 1) := by decide +kernel
theorem dX12_on_192 : decode cX12_on 192 = .ok (.aload_n 0, 1) := by decide +kernel
theorem dX12_on_193 : decode cX12_on 193 = .ok (.getfield 7, 3) := by decide +kernel
theorem dX12_on_196 : decode cX12_on 196 = .ok (.iload_n 3, 1) := by decide +kernel
theorem dX12_on_197 : decode cX12_on 197 = .ok (.iconst 5, 1) := by decide +kernel
theorem dX12_on_198 : decode cX12_on 198 = .ok (.iadd, 1) := by decide +kernel
theorem dX12_on_199 : decode cX12_on 199 = .ok (.iaload, 1) := by decide +kernel
theorem dX12_on_200 : decode cX12_on 200 = .ok (.iconst 1, 1) := by decide +kernel
theorem dX12_on_201 : decode cX12_on 201 = .ok (.if_icmp .le 7, 3) := by decide +kernel
theorem dX12_on_204 : decode cX12_on 204 = .ok (.iconst 1, 1) := by decide +kernel
theorem dX12_on_205 : decode cX12_on 205 = .ok (.goto 4, 3) := by decide +kernel
theorem dX12_on_208 : decode cX12_on 208 = .ok (.iconst 0, 1) := by decide +kernel
theorem dX12_on_209 : decode cX12_on 209 = .ok (.bastore, 1) := by decide +kernel
theorem dX12_on_210 : decode cX12_on 210 = .ok (.aload_n 0, 1) := by decide +kernel
theorem dX12_on_211 : decode cX12_on 211 = .ok (.getfield 200, 3) := by decide +kernel
theorem dX12_on_214 : decode cX12_on 214 = .ok (.iload_n 2, 1) := by decide +kernel
theorem dX12_on_215 : decode cX12_on 215 = .ok (.aload_n 0, 1) := by decide +kernel
theorem dX12_on_216 : decode cX12_on 216 = .ok (.getfield 7, 3) := by decide +kernel
theorem dX12_on_219 : decode cX12_on 219 = .ok (.iload_n 3, 1) := by decide +kernel
theorem dX12_on_220 : decode cX12_on 220 = .ok (.bipush 7, 2) := by decide +kernel
theorem dX12_on_222 : decode cX12_on 222 = .ok (.iadd, 1) := by decide +kernel
theorem dX12_on_223 : decode cX12_on 223 = .ok (.iaload, 1) := by decide +kernel
theorem dX12_on_224 : decode cX12_on 224 = .ok (.sipush 255, 3) := by decide +kernel
theorem dX12_on_227 : decode cX12_on 227 = .ok (.if_icmp .ne 7, 3) := by decide +kernel
theorem dX12_on_230 : decode cX12_on 230 = .ok (.iconst (-1), 1) := by decide +kernel
theorem dX12_on_231 : decode cX12_on 231 = .ok (.goto 12, 3) := by decide +kernel
theorem dX12_on_234 : decode cX12_on 234 = .ok (.aload_n 0, 1) := by decide +kernel
theorem dX12_on_235 : decode cX12_on 235 = .ok (.getfield 7, 3) := by decide +kernel
theorem dX12_on_238 : decode cX12_on 238 = .ok (.iload_n 3, 1) := by decide +kernel
theorem dX12_on_239 : decode cX12_on 239 = .ok (.bipush 7, 2) := by decide +kernel
theorem dX12_on_241 : decode cX12_on 241 = .ok (.iadd, 1) := by decide +kernel
theorem dX12_on_242 : decode cX12_on 242 = .ok (.iaload, 1) := by decide +kernel
theorem dX12_on_243 : decode cX12_on 243 = .ok (.iastore, 1) := by decide +kernel
theorem dX12_on_244 : decode cX12_on 244 = .ok (.iinc 2 1, 3) := by decide +kernel
theorem dX12_on_247 : decode cX12_on 247 = .ok (.goto (-146), 3) := by decide +kernel
theorem dX12_on_250 : decode cX12_on 250 = .ok (.iconst 1, 1) := by decide +kernel
theorem dX12_on_251 : decode cX12_on 251 = .ok (.ireturn, 1) := by decide +kernel
set_option maxRecDepth 100000 in
theorem tj_X12_on_209 {g : GT} {n nf : Int} (hu : Up false nf n) (w101 : Mem → Int → Res) (hw101 : ∀ (M : Mem) (x2 : Int), AW g false RX12 cX12_on 4 (some .boolean) (4) n n nf 101 [(0, 2, 337), (2, 0, x2)] [] n M (w101 M x2)) (M : Mem) (x2 x3 s0 s1 : Int) : AW g false RX12 cX12_on 4 (some .boolean) (4) n n nf 209 [(0, 2, 337), (2, 0, x2), (3, 0, x3)] [(0, s0), (0, s1), (2, 398)] n M (j_X12_on_209 w101 M x2 x3 s0 s1) := by
  unfold j_X12_on_209
  refine r_ok (fun h43 => ?_)
  refine r_ok (fun h44 => ?_)
  refine r_zast hu dX12_on_209 kd_398 rfl rfl rfl ln_398 h43 h44 rfl (fun M45 eM45 => ?_)
  refine r_aload_n 0 dX12_on_210 rfl rfl ?_
  refine r_gx (kz := 87) rfl hu dX12_on_211 kF_X12_200 kd_337 rfl rfl rfl fx_337_87 ?_
  refine r_iload_n 1 dX12_on_214 rfl rfl ?_
  refine r_aload_n 0 dX12_on_215 rfl rfl ?_
  refine r_gx (kz := 0) rfl hu dX12_on_216 kF_X12_7 kd_337 rfl rfl rfl fx_337_0 ?_
  refine r_iload_n 2 dX12_on_219 rfl rfl ?_
  refine r_bipush dX12_on_220 (by decide) ⟨by decide, by decide⟩ ?_
  refine r_ok (fun h46 => ?_)
  refine r_iadd dX12_on_222 h46 ?_
  refine r_ok (fun h47 => ?_)
  refine r_iald hu dX12_on_223 kd_338 rfl (Or.inl rfl) rfl ln_338 h47 ?_
  refine r_sipush dX12_on_224 (by decide) ⟨by decide, by decide⟩ ?_
  refine r_icmp_ne (tgt := 234) dX12_on_227 rfl (fun h48 => ?_) (fun h49 => ?_)
  · refine r_iconst dX12_on_230 ⟨by decide, by decide⟩ ?_
    refine r_goto (tgt := 243) dX12_on_231 rfl ?_
    refine r_ok (fun h50 => ?_)
    refine r_iast hu dX12_on_243 kd_399 rfl (Or.inl rfl) rfl ln_399 h50 rfl (fun M51 eM51 => ?_)
    refine r_iincB 1 dX12_on_244 rfl ⟨by have := h50; omega, by have := h50; omega⟩ (by decide) (lf := fun y52 => [(2, 0, y52), (0, 2, 337), (3, 0, x3)]) (fun _ => rfl) (fun y52 ey52 => ?_)
    refine r_goto (tgt := 101) dX12_on_247 rfl ?_
    refine r_sub [1, 0] (ls' := [(0, 2, 337), (2, 0, y52)]) rfl ?_
    exact hw101 M51 y52
  · refine r_aload_n 0 dX12_on_234 rfl rfl ?_
    refine r_gx (kz := 0) rfl hu dX12_on_235 kF_X12_7 kd_337 rfl rfl rfl fx_337_0 ?_
    refine r_iload_n 2 dX12_on_238 rfl rfl ?_
    refine r_bipush dX12_on_239 (by decide) ⟨by decide, by decide⟩ ?_
    refine r_iadd dX12_on_241 h46 ?_
    refine r_iald hu dX12_on_242 kd_338 rfl (Or.inl rfl) rfl ln_338 h47 ?_
    refine r_ok (fun h53 => ?_)
    refine r_iast hu dX12_on_243 kd_399 rfl (Or.inl rfl) rfl ln_399 h53 rfl (fun M54 eM54 => ?_)
    refine r_iincB 1 dX12_on_244 rfl ⟨by have := h53; omega, by have := h53; omega⟩ (by decide) (lf := fun y55 => [(2, 0, y55), (0, 2, 337), (3, 0, x3)]) (fun _ => rfl) (fun y55 ey55 => ?_)
    refine r_goto (tgt := 101) dX12_on_247 rfl ?_
    refine r_sub [1, 0] (ls' := [(0, 2, 337), (2, 0, y55)]) rfl ?_
    exact hw101 M54 y55
set_option maxRecDepth 100000 in
theorem tj_X12_on_175 {g : GT} {n nf : Int} (hu : Up false nf n) (w101 : Mem → Int → Res) (hw101 : ∀ (M : Mem) (x2 : Int), AW g false RX12 cX12_on 4 (some .boolean) (4) n n nf 101 [(0, 2, 337), (2, 0, x2)] [] n M (w101 M x2)) (M : Mem) (x2 x3 s0 s1 s2 s3 s4 s5 s6 : Int) : AW g false RX12 cX12_on 4 (some .boolean) (4) n n nf 175 [(0, 2, 337), (2, 0, x2), (3, 0, x3)] [(0, s0), (0, s1), (0, s2), (0, s3), (0, s4), (0, s5), (0, s6), (2, 337)] n M (j_X12_on_175 w101 M x2 x3 s0 s1 s2 s3 s4 s5 s6) := by
  unfold j_X12_on_175
  refine r_aload_n 0 dX12_on_175 rfl rfl ?_
  refine r_gx (kz := 0) rfl hu dX12_on_176 kF_X12_7 kd_337 rfl rfl rfl fx_337_0 ?_
  refine r_iload_n 2 dX12_on_179 rfl rfl ?_
  refine r_bipush dX12_on_180 (by decide) ⟨by decide, by decide⟩ ?_
  refine r_ok (fun h35 => ?_)
  refine r_iadd dX12_on_182 h35 ?_
  refine r_ok (fun h36 => ?_)
  refine r_iald hu dX12_on_183 kd_338 rfl (Or.inl rfl) rfl ln_338 h36 ?_
  refine r_invv (a := 337) hu ⟨Nat.le_refl _, Nat.le_refl _⟩ dX12_on_184 kM_X12_455 (ci := 12) rfl kd_337 rfl rfl (by decide) (by decide) [(0, s6), (0, s5), (0, s4), (0, s3), (0, s2), (0, s1), (0, s0), (0, M 338 (x3 + 6))] rfl (sk := []) rfl (Nat.le_of_ble_eq_true rfl) rfl (m_X12_lays hu M s6 s5 s4 s3 s2 s1 s0 (M 338 (x3 + 6))) (fun r37 M38 => ?_)
  refine r_aload_n 0 dX12_on_187 rfl rfl ?_
  refine r_gx (kz := 86) rfl hu dX12_on_188 kF_X12_197 kd_337 rfl rfl rfl fx_337_86 ?_
  refine r_iload_n 1 dX12_on_191 rfl rfl ?_
  refine r_aload_n 0 dX12_on_192 rfl rfl ?_
  refine r_gx (kz := 0) rfl hu dX12_on_193 kF_X12_7 kd_337 rfl rfl rfl fx_337_0 ?_
  refine r_iload_n 2 dX12_on_196 rfl rfl ?_
  refine r_iconst dX12_on_197 ⟨by decide, by decide⟩ ?_
  refine r_ok (fun h39 => ?_)
  refine r_iadd dX12_on_198 h39 ?_
  refine r_ok (fun h40 => ?_)
  refine r_iald hu dX12_on_199 kd_338 rfl (Or.inl rfl) rfl ln_338 h40 ?_
  refine r_iconst dX12_on_200 ⟨by decide, by decide⟩ ?_
  refine r_icmp_le (tgt := 208) dX12_on_201 rfl (fun h41 => ?_) (fun h42 => ?_)
  · refine r_iconst dX12_on_208 ⟨by decide, by decide⟩ ?_
    exact tj_X12_on_209 hu w101 hw101 M38 x2 x3 0 x2
  · refine r_iconst dX12_on_204 ⟨by decide, by decide⟩ ?_
    refine r_goto (tgt := 209) dX12_on_205 rfl ?_
    exact tj_X12_on_209 hu w101 hw101 M38 x2 x3 1 x2
set_option maxRecDepth 100000 in
theorem tb_X12_on_101 {g : GT} {n nf : Int} (hu : Up false nf n) (w101 : Mem → Int → Res) (hw101 : ∀ (M : Mem) (x2 : Int), AW g false RX12 cX12_on 4 (some .boolean) (4) n n nf 101 [(0, 2, 337), (2, 0, x2)] [] n M (w101 M x2)) (M : Mem) (x2 : Int) : AW g false RX12 cX12_on 4 (some .boolean) (4) n n nf 101 [(0, 2, 337), (2, 0, x2)] [] n M (b_X12_on_101 w101 M x2) := by
  unfold b_X12_on_101
  refine r_iload_n 1 dX12_on_101 rfl rfl ?_
  refine r_aload_n 0 dX12_on_102 rfl rfl ?_
  refine r_gf (t := 0) (kz := 79) rfl hu dX12_on_103 kF_X12_452 kd_337 rfl rfl rfl ?_
  refine r_icmp_ge (tgt := 250) dX12_on_106 rfl (fun h21 => ?_) (fun h22 => ?_)
  · refine r_iconst dX12_on_250 ⟨by decide, by decide⟩ ?_
    exact r_iret rfl rfl (Or.inr ⟨rfl, Or.inr rfl⟩) dX12_on_251
  · refine r_iconst dX12_on_109 ⟨by decide, by decide⟩ ?_
    refine r_bipush dX12_on_110 (by decide) ⟨by decide, by decide⟩ ?_
    refine r_iload_n 1 dX12_on_112 rfl rfl ?_
    refine r_ok (fun h23 => ?_)
    refine r_imul dX12_on_113 h23 ?_
    refine r_ok (fun h24 => ?_)
    refine r_iadd dX12_on_114 h24 ?_
    refine r_istore_nB dX12_on_115 rfl (by decide) (lf := fun y25 => [(3, 0, y25), (0, 2, 337), (2, 0, x2)]) (fun _ => rfl) (fun y25 ey25 => ?_)
    refine r_aload_n 1 dX12_on_116 rfl rfl ?_
    refine r_iload_n 2 dX12_on_117 rfl rfl ?_
    refine r_aload_n 1 dX12_on_118 rfl rfl ?_
    refine r_gx (kz := 0) rfl hu dX12_on_119 kF_X12_7 kd_337 rfl rfl rfl fx_337_0 ?_
    refine r_iload_n 0 dX12_on_122 rfl rfl ?_
    refine r_ok (fun h26 => ?_)
    refine r_iald hu dX12_on_123 kd_338 rfl (Or.inl rfl) rfl ln_338 h26 ?_
    refine r_aload_n 1 dX12_on_124 rfl rfl ?_
    refine r_gx (kz := 0) rfl hu dX12_on_125 kF_X12_7 kd_337 rfl rfl rfl fx_337_0 ?_
    refine r_iload_n 0 dX12_on_128 rfl rfl ?_
    refine r_iconst dX12_on_129 ⟨by decide, by decide⟩ ?_
    refine r_iadd dX12_on_130 ⟨by have := h26; omega, by have := h26; omega⟩ ?_
    refine r_ok (fun h27 => ?_)
    refine r_iald hu dX12_on_131 kd_338 rfl (Or.inl rfl) rfl ln_338 h27 ?_
    refine r_aload_n 1 dX12_on_132 rfl rfl ?_
    refine r_gx (kz := 0) rfl hu dX12_on_133 kF_X12_7 kd_337 rfl rfl rfl fx_337_0 ?_
    refine r_iload_n 0 dX12_on_136 rfl rfl ?_
    refine r_iconst dX12_on_137 ⟨by decide, by decide⟩ ?_
    refine r_iadd dX12_on_138 ⟨by have := h26; omega, by have := h26; omega⟩ ?_
    refine r_ok (fun h28 => ?_)
    refine r_iald hu dX12_on_139 kd_338 rfl (Or.inl rfl) rfl ln_338 h28 ?_
    refine r_aload_n 1 dX12_on_140 rfl rfl ?_
    refine r_gx (kz := 0) rfl hu dX12_on_141 kF_X12_7 kd_337 rfl rfl rfl fx_337_0 ?_
    refine r_iload_n 0 dX12_on_144 rfl rfl ?_
    refine r_iconst dX12_on_145 ⟨by decide, by decide⟩ ?_
    refine r_iadd dX12_on_146 ⟨by have := h26; omega, by have := h26; omega⟩ ?_
    refine r_ok (fun h29 => ?_)
    refine r_iald hu dX12_on_147 kd_338 rfl (Or.inl rfl) rfl ln_338 h29 ?_
    refine r_aload_n 1 dX12_on_148 rfl rfl ?_
    refine r_gx (kz := 0) rfl hu dX12_on_149 kF_X12_7 kd_337 rfl rfl rfl fx_337_0 ?_
    refine r_iload_n 0 dX12_on_152 rfl rfl ?_
    refine r_iconst dX12_on_153 ⟨by decide, by decide⟩ ?_
    refine r_iadd dX12_on_154 ⟨by have := h26; omega, by have := h26; omega⟩ ?_
    refine r_ok (fun h30 => ?_)
    refine r_iald hu dX12_on_155 kd_338 rfl (Or.inl rfl) rfl ln_338 h30 ?_
    refine r_aload_n 1 dX12_on_156 rfl rfl ?_
    refine r_gx (kz := 0) rfl hu dX12_on_157 kF_X12_7 kd_337 rfl rfl rfl fx_337_0 ?_
    refine r_iload_n 0 dX12_on_160 rfl rfl ?_
    refine r_iconst dX12_on_161 ⟨by decide, by decide⟩ ?_
    refine r_iadd dX12_on_162 ⟨by have := h26; omega, by have := h26; omega⟩ ?_
    refine r_ok (fun h31 => ?_)
    refine r_iald hu dX12_on_163 kd_338 rfl (Or.inl rfl) rfl ln_338 h31 ?_
    refine r_iconst dX12_on_164 ⟨by decide, by decide⟩ ?_
    refine r_ok (fun h32 => ?_)
    refine r_iremP dX12_on_165 ⟨h32, by decide⟩ ?_
    refine r_iconst dX12_on_166 ⟨by decide, by decide⟩ ?_
    refine r_icmp_ne (tgt := 174) dX12_on_167 rfl (fun h33 => ?_) (fun h34 => ?_)
    · refine r_iconst dX12_on_170 ⟨by decide, by decide⟩ ?_
      refine r_goto (tgt := 175) dX12_on_171 rfl ?_
      refine r_sub [1, 2, 0] (ls' := [(0, 2, 337), (2, 0, x2), (3, 0, y25)]) rfl ?_
      exact tj_X12_on_175 hu w101 hw101 M x2 y25 1 (M 338 (y25 + 4)) (M 338 (y25 + 3)) (M 338 (y25 + 2)) (M 338 (y25 + 1)) (M 338 y25) x2
    · refine r_iconst dX12_on_174 ⟨by decide, by decide⟩ ?_
      refine r_sub [1, 2, 0] (ls' := [(0, 2, 337), (2, 0, x2), (3, 0, y25)]) rfl ?_
      exact tj_X12_on_175 hu w101 hw101 M x2 y25 0 (M 338 (y25 + 4)) (M 338 (y25 + 3)) (M 338 (y25 + 2)) (M 338 (y25 + 1)) (M 338 y25) x2
set_option maxRecDepth 100000 in
theorem tb_X12_on_66 {g : GT} {n nf : Int} (hu : Up false nf n) (w66 : Mem → Int → Int → Res) (hw66 : ∀ (M : Mem) (x1 x2 : Int), AW g false RX12 cX12_on 4 (some .boolean) (4) n n nf 66 [(0, 2, 337), (1, 0, x1), (2, 0, x2)] [] n M (w66 M x1 x2)) (M : Mem) (x1 x2 : Int) : AW g false RX12 cX12_on 4 (some .boolean) (4) n n nf 66 [(0, 2, 337), (1, 0, x1), (2, 0, x2)] [] n M (b_X12_on_66 w66 M x1 x2) := by
  unfold b_X12_on_66
  refine r_iload_n 2 dX12_on_66 rfl rfl ?_
  refine r_iload_n 1 dX12_on_67 rfl rfl ?_
  refine r_iconst dX12_on_68 ⟨by decide, by decide⟩ ?_
  refine r_ok (fun h17 => ?_)
  refine r_isub dX12_on_69 h17 ?_
  refine r_icmp_ge (tgt := 89) dX12_on_70 rfl (fun h18 => ?_) (fun h19 => ?_)
  · refine r_aload_n 0 dX12_on_89 rfl rfl ?_
    refine r_aload_n 0 dX12_on_90 rfl rfl ?_
    refine r_gx (kz := 0) rfl hu dX12_on_91 kF_X12_7 kd_337 rfl rfl rfl fx_337_0 ?_
    refine r_iconst dX12_on_94 ⟨by decide, by decide⟩ ?_
    refine r_iald hu dX12_on_95 kd_338 rfl (Or.inl rfl) rfl ln_338 ⟨by decide, by decide⟩ ?_
    refine r_pf (t := 0) (kz := 79) rfl hu dX12_on_96 kF_X12_452 kd_337 rfl rfl rfl (fun h => absurd h (by decide)) rfl kX_12_79 (fun M20 eM20 => ?_)
    refine r_iconst dX12_on_99 ⟨by decide, by decide⟩ ?_
    refine r_istore_n dX12_on_100 rfl (by decide) (ls' := [(2, 0, 0), (0, 2, 337), (1, 0, x1)]) rfl ?_
    refine r_sub [1, 0] (ls' := [(0, 2, 337), (2, 0, 0)]) rfl ?_
    exact wl1_aw (P := fun M x2 o => AW g false RX12 cX12_on 4 (some .boolean) (4) n n nf 101 [(0, 2, 337), (2, 0, x2)] [] n M (o)) (fun M x2 => aw_none) (fun w hw M x2 => tb_X12_on_101 hu w hw M x2) FU M20 0
  · refine r_aload_n 0 dX12_on_73 rfl rfl ?_
    refine r_iload_n 2 dX12_on_74 rfl rfl ?_
    refine r_inv (a := 337) hu ⟨Nat.le_refl _, Nat.le_refl _⟩ dX12_on_75 kM_X12_645 (ci := 12) rfl kd_337 rfl rfl (by decide) (by decide) [(0, x2)] rfl (sk := []) rfl (Nat.le_of_ble_eq_true rfl) rfl rfl (m_X12_isTold hu M x2) (fun r56 M57 => ?_)
    refine r_if_ne (tgt := 83) dX12_on_78 rfl (fun h58 => ?_) (fun h59 => ?_)
    · refine r_iconst dX12_on_81 ⟨by decide, by decide⟩ ?_
      exact r_iret rfl rfl (Or.inr ⟨rfl, Or.inl rfl⟩) dX12_on_82
    · refine r_ok (fun h60 => ?_)
      refine r_iincB 2 dX12_on_83 rfl h60 (by decide) (lf := fun y61 => [(2, 0, y61), (0, 2, 337), (1, 0, x1)]) (fun _ => rfl) (fun y61 ey61 => ?_)
      refine r_goto (tgt := 66) dX12_on_86 rfl ?_
      refine r_sub [1, 2, 0] (ls' := [(0, 2, 337), (1, 0, x1), (2, 0, y61)]) rfl ?_
      exact hw66 M57 x1 y61
set_option maxRecDepth 100000 in
theorem m_X12_on {g : GT} {n nf : Int} (hu : Up false nf n) (M : Mem) : AM g false yX12_on cX12_on 4 (some .boolean) (4) n n nf [(2, 337)] M (f_X12_on M) := by
  refine AM_of (by decide +kernel) (Nat.le_of_ble_eq_true rfl) (fun h => absurd h (Int.lt_irrefl n)) ?_
  show AW g false RX12 cX12_on 4 (some .boolean) (4) n n nf 0 [(0, 2, 337)] [] n M (f_X12_on M)
  unfold f_X12_on
  refine r_aload_n 0 dX12_on_0 rfl rfl ?_
  refine r_gf (t := 0) (kz := 1) rfl hu dX12_on_1 kF_X12_224 kd_337 rfl rfl rfl ?_
  refine r_istore_nB dX12_on_4 rfl (by decide) (lf := fun y1 => [(1, 0, y1), (0, 2, 337)]) (fun _ => rfl) (fun y1 ey1 => ?_)
  refine r_aload_n 1 dX12_on_5 rfl rfl ?_
  refine r_iconst dX12_on_6 ⟨by decide, by decide⟩ ?_
  refine r_pf (t := 0) (kz := 1) rfl hu dX12_on_7 kF_X12_224 kd_337 rfl rfl rfl (fun h => absurd h (by decide)) rfl kX_12_1 (fun M2 eM2 => ?_)
  refine r_iload_n 0 dX12_on_10 rfl rfl ?_
  refine r_iconst dX12_on_11 ⟨by decide, by decide⟩ ?_
  refine r_icmp_lt (tgt := 62) dX12_on_12 rfl (fun h3 => ?_) (fun h4 => ?_)
  · refine r_iconst dX12_on_62 ⟨by decide, by decide⟩ ?_
    exact r_iret rfl rfl (Or.inr ⟨rfl, Or.inl rfl⟩) dX12_on_63
  · refine r_aload_n 1 dX12_on_15 rfl rfl ?_
    refine r_gx (kz := 0) rfl hu dX12_on_16 kF_X12_7 kd_337 rfl rfl rfl fx_337_0 ?_
    refine r_iconst dX12_on_19 ⟨by decide, by decide⟩ ?_
    refine r_iald hu dX12_on_20 kd_338 rfl (Or.inl rfl) rfl ln_338 ⟨by decide, by decide⟩ ?_
    refine r_bipush dX12_on_21 (by decide) ⟨by decide, by decide⟩ ?_
    refine r_icmp_gt (tgt := 62) dX12_on_23 rfl (fun h5 => ?_) (fun h6 => ?_)
    · refine r_iconst dX12_on_62 ⟨by decide, by decide⟩ ?_
      exact r_iret rfl rfl (Or.inr ⟨rfl, Or.inl rfl⟩) dX12_on_63
    · refine r_iload_n 0 dX12_on_26 rfl rfl ?_
      refine r_iconst dX12_on_27 ⟨by decide, by decide⟩ ?_
      refine r_bipush dX12_on_28 (by decide) ⟨by decide, by decide⟩ ?_
      refine r_aload_n 1 dX12_on_30 rfl rfl ?_
      refine r_gx (kz := 0) rfl hu dX12_on_31 kF_X12_7 kd_337 rfl rfl rfl fx_337_0 ?_
      refine r_iconst dX12_on_34 ⟨by decide, by decide⟩ ?_
      refine r_iald hu dX12_on_35 kd_338 rfl (Or.inl rfl) rfl ln_338 ⟨by decide, by decide⟩ ?_
      refine r_ok (fun h7 => ?_)
      refine r_imul dX12_on_36 h7 ?_
      refine r_ok (fun h8 => ?_)
      refine r_iadd dX12_on_37 h8 ?_
      refine r_icmp_ne (tgt := 62) dX12_on_38 rfl (fun h9 => ?_) (fun h10 => ?_)
      · refine r_aload_n 1 dX12_on_41 rfl rfl ?_
        refine r_gx (kz := 0) rfl hu dX12_on_42 kF_X12_7 kd_337 rfl rfl rfl fx_337_0 ?_
        refine r_iload_n 0 dX12_on_45 rfl rfl ?_
        refine r_iconst dX12_on_46 ⟨by decide, by decide⟩ ?_
        refine r_ok (fun h11 => ?_)
        refine r_isub dX12_on_47 h11 ?_
        refine r_ok (fun h12 => ?_)
        refine r_iald hu dX12_on_48 kd_338 rfl (Or.inl rfl) rfl ln_338 h12 ?_
        refine r_aload_n 1 dX12_on_49 rfl rfl ?_
        refine r_gx (kz := 0) rfl hu dX12_on_50 kF_X12_7 kd_337 rfl rfl rfl fx_337_0 ?_
        refine r_iload_n 0 dX12_on_53 rfl rfl ?_
        refine r_iconst dX12_on_54 ⟨by decide, by decide⟩ ?_
        refine r_isub dX12_on_55 h11 ?_
        refine r_ins (a := 0) ⟨Nat.le_refl _, Nat.le_refl _⟩ dX12_on_56 kM_X12_641 (by decide) (by decide) [(2, 338), (0, y1 - 1)] rfl (sk := [(0, M2 338 (y1 - 1))]) rfl (Nat.le_of_ble_eq_true rfl) rfl rfl (m_X12_checked hu M2 338 (y1 - 1) kd_338) (fun r13 M14 => ?_)
        refine r_icmp_eq (tgt := 64) dX12_on_59 rfl (fun h15 => ?_) (fun h16 => ?_)
        · refine r_iconst dX12_on_64 ⟨by decide, by decide⟩ ?_
          refine r_istore_n dX12_on_65 rfl (by decide) (ls' := [(2, 0, 1), (1, 0, y1), (0, 2, 337)]) rfl ?_
          refine r_sub [2, 1, 0] (ls' := [(0, 2, 337), (1, 0, y1), (2, 0, 1)]) rfl ?_
          exact wl2_aw (P := fun M x1 x2 o => AW g false RX12 cX12_on 4 (some .boolean) (4) n n nf 66 [(0, 2, 337), (1, 0, x1), (2, 0, x2)] [] n M (o)) (fun M x1 x2 => aw_none) (fun w hw M x1 x2 => tb_X12_on_66 hu w hw M x1 x2) FU M14 y1 1
        · refine r_iconst dX12_on_62 ⟨by decide, by decide⟩ ?_
          exact r_iret rfl rfl (Or.inr ⟨rfl, Or.inl rfl⟩) dX12_on_63
      · refine r_iconst dX12_on_62 ⟨by decide, by decide⟩ ?_
        exact r_iret rfl rfl (Or.inr ⟨rfl, Or.inl rfl⟩) dX12_on_63
