theorem dX12_onePart_0 : decode cX12_onePart 0 = .ok (.iconst 1, 1) := by decide +kernel
theorem dX12_onePart_1 : decode cX12_onePart 1 = .ok (.istore_n 1, 1) := by decide +kernel
theorem dX12_onePart_2 : decode cX12_onePart 2 = .ok (.iload_n 1, 1) := by decide +kernel
theorem dX12_onePart_3 : decode cX12_onePart 3 = .ok (.ifCond .eq 143, 3) := by decide +kernel
theorem dX12_onePart_6 : decode cX12_onePart 6 = .ok (.aload_n 0, 1) := by decide +kernel
theorem dX12_onePart_7 : decode cX12_onePart 7 = .ok (.getfield 227, 3) := by decide +kernel
theorem dX12_onePart_10 : decode cX12_onePart 10 = .ok (.ifCond .ne 136, 3) := by decide +kernel
theorem dX12_onePart_13 : decode cX12_onePart 13 = .ok (.aload_n 0, 1) := by decide +kernel
theorem dX12_onePart_14 : decode cX12_onePart 14 = .ok (.invokevirtual 239, 3) := by decide +kernel
theorem dX12_onePart_17 : decode cX12_onePart 17 = .ok (.istore_n 2, 1) := by decide +kernel
theorem dX12_onePart_18 : decode cX12_onePart 18 = .ok (.iload_n 2, 1) := by decide +kernel
theorem dX12_onePart_19 : decode cX12_onePart 19 = .ok (.bipush 40, 2) := by decide +kernel
theorem dX12_onePart_21 : decode cX12_onePart 21 = .ok (.if_icmp .ne 26, 3) := by decide +kernel
theorem dX12_onePart_24 : decode cX12_onePart 24 = .ok (.aload_n 0, 1) := by decide +kernel
theorem dX12_onePart_25 : decode cX12_onePart 25 = .ok (.bipush 20, 2) := by decide +kernel
theorem dX12_onePart_27 : decode cX12_onePart 27 = .ok (.aload_n 0, 1) := by decide +kernel
theorem dX12_onePart_28 : decode cX12_onePart 28 = .ok (.getfield 233, 3) := by decide +kernel
theorem dX12_onePart_31 : decode cX12_onePart 31 = .ok (.invokevirtual 304, 3) := by decide +kernel
theorem dX12_onePart_34 : decode cX12_onePart 34 = .ok (.aload_n 0, 1) := by decide +kernel
theorem dX12_onePart_35 : decode cX12_onePart 35 = .ok (.dup, 1) := by decide +kernel
theorem dX12_onePart_36 : decode cX12_onePart 36 = .ok (.getfield 233, 3) := by decide +kernel
theorem dX12_onePart_39 : decode cX12_onePart 39 = .ok (.iconst 1, 1) := by decide +kernel
theorem dX12_onePart_40 : decode cX12_onePart 40 = .ok (.iadd, 1) := by decide +kernel
theorem dX12_onePart_41 : decode cX12_onePart 41 = .ok (.putfield 233, 3) := by decide +kernel
theorem dX12_onePart_44 : decode cX12_onePart 44 = .ok (.goto 99, 3) := by decide +kernel
theorem dX12_onePart_47 : decode cX12_onePart 47 = .ok (.aload_n 0, 1) := by decide +kernel
theorem dX12_onePart_48 : decode cX12_onePart 48 = .ok (.aload_n 0, 1) := by decide +kernel
theorem dX12_onePart_49 : decode cX12_onePart 49 = .ok (.getfield 75, 3) := by decide +kernel
theorem dX12_onePart_52 : decode cX12_onePart 52 = .ok (.invokevirtual 250, 3) := by decide +kernel
theorem dX12_onePart_55 : decode cX12_onePart 55 = .ok (.ifCond .ne 14, 3) := by decide +kernel
theorem dX12_onePart_58 : decode cX12_onePart 58 = .ok (.aload_n 0, 1) := by decide +kernel
theorem dX12_onePart_59 : decode cX12_onePart 59 = .ok (.aload_n 0, 1) := by decide +kernel
theorem dX12_onePart_60 : decode cX12_onePart 60 = .ok (.getfield 78, 3) := by decide +kernel
theorem dX12_onePart_63 : decode cX12_onePart 63 = .ok (.invokevirtual 250, 3) := by decide +kernel
theorem dX12_onePart_66 : decode cX12_onePart 66 = .ok (.ifCond .eq 75, 3) := by decide +kernel
theorem dX12_onePart_69 : decode cX12_onePart 69 = .ok (.aload_n 0, 1) := by decide +kernel
theorem dX12_onePart_70 : decode cX12_onePart 70 = .ok (.aload_n 0, 1) := by decide +kernel
theorem dX12_onePart_71 : decode cX12_onePart 71 = .ok (.getfield 75, 3) := by decide +kernel
theorem dX12_onePart_74 : decode cX12_onePart 74 = .ok (.invokevirtual 254, 3) := by decide +kernel
theorem dX12_onePart_77 : decode cX12_onePart 77 = .ok (.istore_n 3, 1) := by decide +kernel
theorem dX12_onePart_78 : decode cX12_onePart 78 = .ok (.iload_n 3, 1) := by decide +kernel
theorem dX12_onePart_79 : decode cX12_onePart 79 = .ok (.ifCond .ne 11, 3) := by decide +kernel
theorem dX12_onePart_82 : decode cX12_onePart 82 = .ok (.aload_n 0, 1) := by decide +kernel
theorem dX12_onePart_83 : decode cX12_onePart 83 = .ok (.aload_n 0, 1) := by decide +kernel
theorem dX12_onePart_84 : decode cX12_onePart 84 = .ok (.getfield 78, 3) := by decide +kernel
theorem dX12_onePart_87 : decode cX12_onePart 87 = .ok (.invokevirtual 307, 3) := by decide +kernel
theorem dX12_onePart_90 : decode cX12_onePart 90 = .ok (.aload_n 0, 1) := by decide +kernel
theorem dX12_onePart_91 : decode cX12_onePart 91 = .ok (.invokevirtual 239, 3) := by decide +kernel
theorem dX12_onePart_94 : decode cX12_onePart 94 = .ok (.bipush 40, 2) := by decide +kernel
theorem dX12_onePart_96 : decode cX12_onePart 96 = .ok (.if_icmp .ne 10, 3) := by decide +kernel
theorem dX12_onePart_99 : decode cX12_onePart 99 = .ok (.aload_n 0, 1) := by decide +kernel
theorem dX12_onePart_100 : decode cX12_onePart 100 = .ok (.getfield 233, 3) := by decide +kernel
theorem dX12_onePart_103 : decode cX12_onePart 103 = .ok (.goto 4, 3) := by decide +kernel
theorem dX12_onePart_106 : decode cX12_onePart 106 = .ok (.iconst (-1), 1) := by decide +kernel
theorem dX12_onePart_107 : decode cX12_onePart 107 = .ok (.istore 4, 2) := by decide +kernel
theorem dX12_onePart_109 : decode cX12_onePart 109 = .ok (.iload 4, 2) := by decide +kernel
theorem dX12_onePart_111 : decode cX12_onePart 111 = .ok (.iconst (-1), 1) := by decide +kernel
theorem dX12_onePart_112 : decode cX12_onePart 112 = .ok (.if_icmp .eq 20, 3) := by decide +kernel
theorem dX12_onePart_115 : decode cX12_onePart 115 = .ok (.aload_n 0, 1) := by decide +kernel
theorem dX12_onePart_116 : decode cX12_onePart 116 = .ok (.iload_n 3, 1) := by decide +kernel
theorem dX12_onePart_117 : decode cX12_onePart 117 = .ok (.ifCond .eq 8, 3) := by decide +kernel
theorem dX12_onePart_120 : decode cX12_onePart 120 = .ok (.bipush 21, 2) := by decide +kernel
theorem dX12_onePart_122 : decode cX12_onePart 122 = .ok (.goto 5, 3) := by decide +kernel
theorem dX12_onePart_125 : decode cX12_onePart 125 = .ok (.bipush 22, 2) := by decide +kernel
theorem dX12_onePart_127 : decode cX12_onePart 127 = .ok (.iload 4, 2) := by decide +kernel
theorem dX12_onePart_129 : decode cX12_onePart 129 = .ok (.invokevirtual 304, 3) := by decide +kernel
theorem dX12_onePart_132 : decode cX12_onePart 132 = .ok (.aload_n 0, 1) := by decide +kernel
theorem dX12_onePart_133 : decode cX12_onePart 133 = .ok (.bipush 40, 2) := by decide +kernel
theorem dX12_onePart_135 : decode cX12_onePart 135 = .ok (.invokevirtual 311, 3) := by decide +kernel
theorem dX12_onePart_138 : decode cX12_onePart 138 = .ok (.goto 5, 3) := by decide +kernel
theorem dX12_onePart_141 : decode cX12_onePart 141 = .ok (.iconst 0, 1) := by decide +kernel
theorem dX12_onePart_142 : decode cX12_onePart 142 = .ok (.istore_n 1, 1) := by decide +kernel
theorem dX12_onePart_143 : decode cX12_onePart 143 = .ok (.goto (-141), 3) := by decide +kernel
theorem dX12_onePart_146 : decode cX12_onePart 146 = .ok (.aload_n 0, 1) := by decide +kernel
theorem dX12_onePart_147 : decode cX12_onePart 147 = .ok (.getfield 227, 3) := by decide +kernel
theorem dX12_onePart_150 : decode cX12_onePart 150 = .ok (.ifCond .eq 4, 3) := by decide +kernel
theorem dX12_onePart_153 : decode cX12_onePart 153 = .ok (.return_, 1) := by decide +kernel
theorem dX12_onePart_154 : decode cX12_onePart 154 = .ok (.aload_n 0, 1) := by decide +kernel
theorem dX12_onePart_155 : decode cX12_onePart 155 = .ok (.aload_n 0, 1) := by decide +kernel
theorem dX12_onePart_156 : decode cX12_onePart 156 = .ok (.getfield 60, 3) := by decide +kernel
theorem dX12_onePart_159 : decode cX12_onePart 159 = .ok (.invokevirtual 254, 3) := by decide +kernel
theorem dX12_onePart_162 : decode cX12_onePart 162 = .ok (.ifCond .eq 8, 3) := by decide +kernel
theorem dX12_onePart_165 : decode cX12_onePart 165 = .ok (.bipush 7, 2) := by decide +kernel
theorem dX12_onePart_167 : decode cX12_onePart 167 = .ok (.goto 84, 3) := by decide +kernel
theorem dX12_onePart_170 : decode cX12_onePart 170 = .ok (.aload_n 0, 1) := by decide +kernel
theorem dX12_onePart_171 : decode cX12_onePart 171 = .ok (.aload_n 0, 1) := by decide +kernel
theorem dX12_onePart_172 : decode cX12_onePart 172 = .ok (.getfield 63, 3) := by decide +kernel
theorem dX12_onePart_175 : decode cX12_onePart 175 = .ok (.invokevirtual 254, 3) := by decide +kernel
theorem dX12_onePart_178 : decode cX12_onePart 178 = .ok (.ifCond .eq 8, 3) := by decide +kernel
theorem dX12_onePart_181 : decode cX12_onePart 181 = .ok (.bipush 8, 2) := by decide +kernel
theorem dX12_onePart_183 : decode cX12_onePart 183 = .ok (.goto 68, 3) := by decide +kernel
theorem dX12_onePart_186 : decode cX12_onePart 186 = .ok (.aload_n 0, 1) := by decide +kernel
theorem dX12_onePart_187 : decode cX12_onePart 187 = .ok (.aload_n 0, 1) := by decide +kernel
theorem dX12_onePart_188 : decode cX12_onePart 188 = .ok (.getfield 66, 3) := by decide +kernel
theorem dX12_onePart_191 : decode cX12_onePart 191 = .ok (.invokevirtual 254, 3) := by decide +kernel
theorem dX12_onePart_194 : decode cX12_onePart 194 = .ok (.ifCond .eq 8, 3) := by decide +kernel
theorem dX12_onePart_197 : decode cX12_onePart 197 = .ok (.bipush 9, 2) := by decide +kernel
theorem dX12_onePart_199 : decode cX12_onePart 199 = .ok (.goto 52, 3) := by decide +kernel
theorem dX12_onePart_202 : decode cX12_onePart 202 = .ok (.aload_n 0, 1) := by decide +kernel
theorem dX12_onePart_203 : decode cX12_onePart 203 = .ok (.aload_n 0, 1) := by decide +kernel
theorem dX12_onePart_204 : decode cX12_onePart 204 = .ok (.getfield 17, 3) := by decide +kernel
theorem dX12_onePart_207 : decode cX12_onePart 207 = .ok (.invokevirtual 254, 3) := by decide +kernel
theorem dX12_onePart_210 : decode cX12_onePart 210 = .ok (.ifCond .eq 8, 3) := by decide +kernel
theorem dX12_onePart_213 : decode cX12_onePart 213 = .ok (.bipush 10, 2) := by decide +kernel
theorem dX12_onePart_215 : decode cX12_onePart 215 = .ok (.goto 36, 3) := by decide +kernel
theorem dX12_onePart_218 : decode cX12_onePart 218 = .ok (.aload_n 0, 1) := by decide +kernel
theorem dX12_onePart_219 : decode cX12_onePart 219 = .ok (.aload_n 0, 1) := by decide +kernel
theorem dX12_onePart_220 : decode cX12_onePart 220 = .ok (.getfield 69, 3) := by decide +kernel
theorem dX12_onePart_223 : decode cX12_onePart 223 = .ok (.invokevirtual 254, 3) := by decide +kernel
theorem dX12_onePart_226 : decode cX12_onePart 226 = .ok (.ifCond .eq 8, 3) := by decide +kernel
theorem dX12_onePart_229 : decode cX12_onePart 229 = .ok (.bipush 18, 2) := by decide +kernel
theorem dX12_onePart_231 : decode cX12_onePart 231 = .ok (.goto 20, 3) := by decide +kernel
theorem dX12_onePart_234 : decode cX12_onePart 234 = .ok (.aload_n 0, 1) := by decide +kernel
theorem dX12_onePart_235 : decode cX12_onePart 235 = .ok (.aload_n 0, 1) := by decide +kernel
theorem dX12_onePart_236 : decode cX12_onePart 236 = .ok (.getfield 72, 3) := by decide +kernel
theorem dX12_onePart_239 : decode cX12_onePart 239 = .ok (.invokevirtual 254, 3) := by decide +kernel
theorem dX12_onePart_242 : decode cX12_onePart 242 = .ok (.ifCond .eq 8, 3) := by decide +kernel
theorem dX12_onePart_245 : decode cX12_onePart 245 = .ok (.bipush 30, 2) := by decide +kernel
theorem dX12_onePart_247 : decode cX12_onePart 247 = .ok (.goto 4, 3) := by decide +kernel
theorem dX12_onePart_250 : decode cX12_onePart 250 = .ok (.iconst (-1), 1) := by decide +kernel
theorem dX12_onePart_251 : decode cX12_onePart 251 = .ok (.istore_n 2, 1) := by decide +kernel
theorem dX12_onePart_252 : decode cX12_onePart 252 = .ok (.aload_n 0, 1) := by decide +kernel
theorem dX12_onePart_253 : decode cX12_onePart 253 = .ok (.iload_n 2, 1) := by decide +kernel
theorem dX12_onePart_254 : decode cX12_onePart 254 = .ok (.iconst (-1), 1) := by decide +kernel
theorem dX12_onePart_255 : decode cX12_onePart 255 = .ok (.if_icmp .eq 7, 3) := by decide +kernel
theorem dX12_onePart_258 : decode cX12_onePart 258 = .ok (.iload_n 2, 1) := by decide +kernel
theorem dX12_onePart_259 : decode cX12_onePart 259 = .ok (.goto 15, 3) := by decide +kernel
theorem dX12_onePart_262 : decode cX12_onePart 262 = .ok (.sipush 1000, 3) := by decide +kernel
theorem dX12_onePart_265 : decode cX12_onePart 265 = .ok (.aload_n 0, 1) := by decide +kernel
theorem dX12_onePart_266 : decode cX12_onePart 266 = .ok (.iconst 0, 1) := by decide +kernel
theorem dX12_onePart_267 : decode cX12_onePart 267 = .ok (.sipush 9999, 3) := by decide +kernel
theorem dX12_onePart_270 : decode cX12_onePart 270 = .ok (.invokevirtual 314, 3) := by decide +kernel
theorem dX12_onePart_273 : decode cX12_onePart 273 = .ok (.iadd, 1) := by decide +kernel
theorem dX12_onePart_274 : decode cX12_onePart 274 = .ok (.invokevirtual 291, 3) := by decide +kernel
theorem dX12_onePart_277 : decode cX12_onePart 277 = .ok (.return_, 1) := by decide +kernel
set_option maxRecDepth 100000 in
theorem tj_X12_onePart_251 {g : GT} {n nf : Int} (hu : Up false nf n) (M : Mem) (s0 : Int) : AW g false RX12 cX12_onePart 5 none (4) n n nf 251 [(0, 2, 337)] [(0, s0)] n M (j_X12_onePart_251 M s0) := by
  unfold j_X12_onePart_251
  refine r_istore_n dX12_onePart_251 rfl (by decide) (ls' := [(2, 0, s0), (0, 2, 337)]) rfl ?_
  refine r_aload_n 1 dX12_onePart_252 rfl rfl ?_
  refine r_iload_n 0 dX12_onePart_253 rfl rfl ?_
  refine r_iconst dX12_onePart_254 ⟨by decide, by decide⟩ ?_
  refine r_icmp_eq (tgt := 262) dX12_onePart_255 rfl (fun h29 => ?_) (fun h30 => ?_)
  · refine r_sipush dX12_onePart_262 (by decide) ⟨by decide, by decide⟩ ?_
    refine r_aload_n 1 dX12_onePart_265 rfl rfl ?_
    refine r_iconst dX12_onePart_266 ⟨by decide, by decide⟩ ?_
    refine r_sipush dX12_onePart_267 (by decide) ⟨by decide, by decide⟩ ?_
    refine r_inv (a := 337) hu ⟨Nat.le_refl _, Nat.le_refl _⟩ dX12_onePart_270 kM_X12_314 (ci := 12) rfl kd_337 rfl rfl (by decide) (by decide) [(0, 0), (0, 9999)] rfl (sk := [(0, 1000), (2, 337)]) rfl (Nat.le_of_ble_eq_true rfl) rfl rfl (m_X12_number hu M 0 9999) (fun r31 M32 => ?_)
    refine r_ok (fun h33 => ?_)
    refine r_iadd dX12_onePart_273 h33 ?_
    refine r_invv (a := 337) hu ⟨Nat.le_refl _, Nat.le_refl _⟩ dX12_onePart_274 kM_X12_291 (ci := 12) rfl kd_337 rfl rfl (by decide) (by decide) [(0, 1000 + r31)] rfl (sk := []) rfl (Nat.le_of_ble_eq_true rfl) rfl (m_X12_code hu M32 (1000 + r31)) (fun r34 M35 => ?_)
    exact r_vret rfl rfl dX12_onePart_277
  · refine r_iload_n 0 dX12_onePart_258 rfl rfl ?_
    refine r_goto (tgt := 274) dX12_onePart_259 rfl ?_
    refine r_invv (a := 337) hu ⟨Nat.le_refl _, Nat.le_refl _⟩ dX12_onePart_274 kM_X12_291 (ci := 12) rfl kd_337 rfl rfl (by decide) (by decide) [(0, s0)] rfl (sk := []) rfl (Nat.le_of_ble_eq_true rfl) rfl (m_X12_code hu M s0) (fun r36 M37 => ?_)
    exact r_vret rfl rfl dX12_onePart_277
set_option maxRecDepth 100000 in
theorem tj_X12_onePart_146 {g : GT} {n nf : Int} (hu : Up false nf n) (M : Mem) : AW g false RX12 cX12_onePart 5 none (4) n n nf 146 [(0, 2, 337)] [] n M (j_X12_onePart_146 M) := by
  unfold j_X12_onePart_146
  refine r_aload_n 0 dX12_onePart_146 rfl rfl ?_
  refine r_gf (t := 0) (kz := 5) rfl hu dX12_onePart_147 kF_X12_227 kd_337 rfl rfl rfl ?_
  refine r_if_eq (tgt := 154) dX12_onePart_150 rfl (fun h3 => ?_) (fun h4 => ?_)
  · refine r_aload_n 0 dX12_onePart_154 rfl rfl ?_
    refine r_aload_n 0 dX12_onePart_155 rfl rfl ?_
    refine r_gx (kz := 23) rfl hu dX12_onePart_156 kF_X12_60 kd_337 rfl rfl rfl fx_337_23 ?_
    refine r_inv (a := 337) hu ⟨Nat.le_refl _, Nat.le_refl _⟩ dX12_onePart_159 kM_X12_254 (ci := 12) rfl kd_337 rfl rfl (by decide) (by decide) [(2, 353)] rfl (sk := []) rfl (Nat.le_of_ble_eq_true rfl) rfl rfl (m_X12_takes hu M 353 kd_353) (fun r5 M6 => ?_)
    refine r_if_eq (tgt := 170) dX12_onePart_162 rfl (fun h7 => ?_) (fun h8 => ?_)
    · refine r_aload_n 0 dX12_onePart_170 rfl rfl ?_
      refine r_aload_n 0 dX12_onePart_171 rfl rfl ?_
      refine r_gx (kz := 24) rfl hu dX12_onePart_172 kF_X12_63 kd_337 rfl rfl rfl fx_337_24 ?_
      refine r_inv (a := 337) hu ⟨Nat.le_refl _, Nat.le_refl _⟩ dX12_onePart_175 kM_X12_254 (ci := 12) rfl kd_337 rfl rfl (by decide) (by decide) [(2, 354)] rfl (sk := []) rfl (Nat.le_of_ble_eq_true rfl) rfl rfl (m_X12_takes hu M6 354 kd_354) (fun r9 M10 => ?_)
      refine r_if_eq (tgt := 186) dX12_onePart_178 rfl (fun h11 => ?_) (fun h12 => ?_)
      · refine r_aload_n 0 dX12_onePart_186 rfl rfl ?_
        refine r_aload_n 0 dX12_onePart_187 rfl rfl ?_
        refine r_gx (kz := 25) rfl hu dX12_onePart_188 kF_X12_66 kd_337 rfl rfl rfl fx_337_25 ?_
        refine r_inv (a := 337) hu ⟨Nat.le_refl _, Nat.le_refl _⟩ dX12_onePart_191 kM_X12_254 (ci := 12) rfl kd_337 rfl rfl (by decide) (by decide) [(2, 355)] rfl (sk := []) rfl (Nat.le_of_ble_eq_true rfl) rfl rfl (m_X12_takes hu M10 355 kd_355) (fun r13 M14 => ?_)
        refine r_if_eq (tgt := 202) dX12_onePart_194 rfl (fun h15 => ?_) (fun h16 => ?_)
        · refine r_aload_n 0 dX12_onePart_202 rfl rfl ?_
          refine r_aload_n 0 dX12_onePart_203 rfl rfl ?_
          refine r_gx (kz := 9) rfl hu dX12_onePart_204 kF_X12_17 kd_337 rfl rfl rfl fx_337_9 ?_
          refine r_inv (a := 337) hu ⟨Nat.le_refl _, Nat.le_refl _⟩ dX12_onePart_207 kM_X12_254 (ci := 12) rfl kd_337 rfl rfl (by decide) (by decide) [(2, 339)] rfl (sk := []) rfl (Nat.le_of_ble_eq_true rfl) rfl rfl (m_X12_takes hu M14 339 kd_339) (fun r17 M18 => ?_)
          refine r_if_eq (tgt := 218) dX12_onePart_210 rfl (fun h19 => ?_) (fun h20 => ?_)
          · refine r_aload_n 0 dX12_onePart_218 rfl rfl ?_
            refine r_aload_n 0 dX12_onePart_219 rfl rfl ?_
            refine r_gx (kz := 26) rfl hu dX12_onePart_220 kF_X12_69 kd_337 rfl rfl rfl fx_337_26 ?_
            refine r_inv (a := 337) hu ⟨Nat.le_refl _, Nat.le_refl _⟩ dX12_onePart_223 kM_X12_254 (ci := 12) rfl kd_337 rfl rfl (by decide) (by decide) [(2, 356)] rfl (sk := []) rfl (Nat.le_of_ble_eq_true rfl) rfl rfl (m_X12_takes hu M18 356 kd_356) (fun r21 M22 => ?_)
            refine r_if_eq (tgt := 234) dX12_onePart_226 rfl (fun h23 => ?_) (fun h24 => ?_)
            · refine r_aload_n 0 dX12_onePart_234 rfl rfl ?_
              refine r_aload_n 0 dX12_onePart_235 rfl rfl ?_
              refine r_gx (kz := 27) rfl hu dX12_onePart_236 kF_X12_72 kd_337 rfl rfl rfl fx_337_27 ?_
              refine r_inv (a := 337) hu ⟨Nat.le_refl _, Nat.le_refl _⟩ dX12_onePart_239 kM_X12_254 (ci := 12) rfl kd_337 rfl rfl (by decide) (by decide) [(2, 357)] rfl (sk := []) rfl (Nat.le_of_ble_eq_true rfl) rfl rfl (m_X12_takes hu M22 357 kd_357) (fun r25 M26 => ?_)
              refine r_if_eq (tgt := 250) dX12_onePart_242 rfl (fun h27 => ?_) (fun h28 => ?_)
              · refine r_iconst dX12_onePart_250 ⟨by decide, by decide⟩ ?_
                exact tj_X12_onePart_251 hu M26 (-1)
              · refine r_bipush dX12_onePart_245 (by decide) ⟨by decide, by decide⟩ ?_
                refine r_goto (tgt := 251) dX12_onePart_247 rfl ?_
                exact tj_X12_onePart_251 hu M26 30
            · refine r_bipush dX12_onePart_229 (by decide) ⟨by decide, by decide⟩ ?_
              refine r_goto (tgt := 251) dX12_onePart_231 rfl ?_
              exact tj_X12_onePart_251 hu M22 18
          · refine r_bipush dX12_onePart_213 (by decide) ⟨by decide, by decide⟩ ?_
            refine r_goto (tgt := 251) dX12_onePart_215 rfl ?_
            exact tj_X12_onePart_251 hu M18 10
        · refine r_bipush dX12_onePart_197 (by decide) ⟨by decide, by decide⟩ ?_
          refine r_goto (tgt := 251) dX12_onePart_199 rfl ?_
          exact tj_X12_onePart_251 hu M14 9
      · refine r_bipush dX12_onePart_181 (by decide) ⟨by decide, by decide⟩ ?_
        refine r_goto (tgt := 251) dX12_onePart_183 rfl ?_
        exact tj_X12_onePart_251 hu M10 8
    · refine r_bipush dX12_onePart_165 (by decide) ⟨by decide, by decide⟩ ?_
      refine r_goto (tgt := 251) dX12_onePart_167 rfl ?_
      exact tj_X12_onePart_251 hu M6 7
  · exact r_vret rfl rfl dX12_onePart_153
set_option maxRecDepth 100000 in
theorem tj_X12_onePart_132 {g : GT} {n nf : Int} (hu : Up false nf n) (w2 : Mem → Int → Res) (hw2 : ∀ (M : Mem) (x1 : Int), AW g false RX12 cX12_onePart 5 none (4) n n nf 2 [(0, 2, 337), (1, 0, x1)] [] n M (w2 M x1)) (M : Mem) (x1 : Int) : AW g false RX12 cX12_onePart 5 none (4) n n nf 132 [(0, 2, 337), (1, 0, x1)] [] n M (j_X12_onePart_132 w2 M x1) := by
  unfold j_X12_onePart_132
  refine r_aload_n 0 dX12_onePart_132 rfl rfl ?_
  refine r_bipush dX12_onePart_133 (by decide) ⟨by decide, by decide⟩ ?_
  refine r_invv (a := 337) hu ⟨Nat.le_refl _, Nat.le_refl _⟩ dX12_onePart_135 kM_X12_311 (ci := 12) rfl kd_337 rfl rfl (by decide) (by decide) [(0, 40)] rfl (sk := []) rfl (Nat.le_of_ble_eq_true rfl) rfl (m_X12_asksSign hu M 40) (fun r68 M69 => ?_)
  refine r_goto (tgt := 143) dX12_onePart_138 rfl ?_
  refine r_goto (tgt := 2) dX12_onePart_143 rfl ?_
  exact hw2 M69 x1
set_option maxRecDepth 100000 in
theorem tj_X12_onePart_127 {g : GT} {n nf : Int} (hu : Up false nf n) (w2 : Mem → Int → Res) (hw2 : ∀ (M : Mem) (x1 : Int), AW g false RX12 cX12_onePart 5 none (4) n n nf 2 [(0, 2, 337), (1, 0, x1)] [] n M (w2 M x1)) (M : Mem) (x1 x4 s0 : Int) : AW g false RX12 cX12_onePart 5 none (4) n n nf 127 [(0, 2, 337), (1, 0, x1), (4, 0, x4)] [(0, s0), (2, 337)] n M (j_X12_onePart_127 w2 M x1 x4 s0) := by
  unfold j_X12_onePart_127
  refine r_iload 2 dX12_onePart_127 rfl ?_
  refine r_invv (a := 337) hu ⟨Nat.le_refl _, Nat.le_refl _⟩ dX12_onePart_129 kM_X12_304 (ci := 12) rfl kd_337 rfl rfl (by decide) (by decide) [(0, s0), (0, x4)] rfl (sk := []) rfl (Nat.le_of_ble_eq_true rfl) rfl (m_X12_opens hu M s0 x4) (fun r72 M73 => ?_)
  refine r_sub [0, 1] (ls' := [(0, 2, 337), (1, 0, x1)]) rfl ?_
  exact tj_X12_onePart_132 hu w2 hw2 M73 x1
set_option maxRecDepth 100000 in
theorem tj_X12_onePart_107 {g : GT} {n nf : Int} (hu : Up false nf n) (w2 : Mem → Int → Res) (hw2 : ∀ (M : Mem) (x1 : Int), AW g false RX12 cX12_onePart 5 none (4) n n nf 2 [(0, 2, 337), (1, 0, x1)] [] n M (w2 M x1)) (M : Mem) (x1 x3 s0 : Int) : AW g false RX12 cX12_onePart 5 none (4) n n nf 107 [(0, 2, 337), (1, 0, x1), (3, 0, x3)] [(0, s0)] n M (j_X12_onePart_107 w2 M x1 x3 s0) := by
  unfold j_X12_onePart_107
  refine r_istore dX12_onePart_107 (by decide) (ls' := [(4, 0, s0), (0, 2, 337), (1, 0, x1), (3, 0, x3)]) rfl ?_
  refine r_iload 0 dX12_onePart_109 rfl ?_
  refine r_iconst dX12_onePart_111 ⟨by decide, by decide⟩ ?_
  refine r_icmp_eq (tgt := 132) dX12_onePart_112 rfl (fun h66 => ?_) (fun h67 => ?_)
  · refine r_sub [1, 2] (ls' := [(0, 2, 337), (1, 0, x1)]) rfl ?_
    exact tj_X12_onePart_132 hu w2 hw2 M x1
  · refine r_aload_n 1 dX12_onePart_115 rfl rfl ?_
    refine r_iload_n 3 dX12_onePart_116 rfl rfl ?_
    refine r_if_eq (tgt := 125) dX12_onePart_117 rfl (fun h70 => ?_) (fun h71 => ?_)
    · refine r_bipush dX12_onePart_125 (by decide) ⟨by decide, by decide⟩ ?_
      refine r_sub [1, 2, 0] (ls' := [(0, 2, 337), (1, 0, x1), (4, 0, s0)]) rfl ?_
      exact tj_X12_onePart_127 hu w2 hw2 M x1 s0 22
    · refine r_bipush dX12_onePart_120 (by decide) ⟨by decide, by decide⟩ ?_
      refine r_goto (tgt := 127) dX12_onePart_122 rfl ?_
      refine r_sub [1, 2, 0] (ls' := [(0, 2, 337), (1, 0, x1), (4, 0, s0)]) rfl ?_
      exact tj_X12_onePart_127 hu w2 hw2 M x1 s0 21
set_option maxRecDepth 100000 in
theorem tj_X12_onePart_90 {g : GT} {n nf : Int} (hu : Up false nf n) (w2 : Mem → Int → Res) (hw2 : ∀ (M : Mem) (x1 : Int), AW g false RX12 cX12_onePart 5 none (4) n n nf 2 [(0, 2, 337), (1, 0, x1)] [] n M (w2 M x1)) (M : Mem) (x1 x3 : Int) : AW g false RX12 cX12_onePart 5 none (4) n n nf 90 [(0, 2, 337), (1, 0, x1), (3, 0, x3)] [] n M (j_X12_onePart_90 w2 M x1 x3) := by
  unfold j_X12_onePart_90
  refine r_aload_n 0 dX12_onePart_90 rfl rfl ?_
  refine r_inv (a := 337) hu ⟨Nat.le_refl _, Nat.le_refl _⟩ dX12_onePart_91 kM_X12_239 (ci := 12) rfl kd_337 rfl rfl (by decide) (by decide) [] rfl (sk := []) rfl (Nat.le_of_ble_eq_true rfl) rfl rfl (m_X12_look hu M) (fun r62 M63 => ?_)
  refine r_bipush dX12_onePart_94 (by decide) ⟨by decide, by decide⟩ ?_
  refine r_icmp_ne (tgt := 106) dX12_onePart_96 rfl (fun h64 => ?_) (fun h65 => ?_)
  · refine r_aload_n 0 dX12_onePart_99 rfl rfl ?_
    refine r_gf (t := 0) (kz := 2) rfl hu dX12_onePart_100 kF_X12_233 kd_337 rfl rfl rfl ?_
    refine r_goto (tgt := 107) dX12_onePart_103 rfl ?_
    exact tj_X12_onePart_107 hu w2 hw2 M63 x1 x3 (M63 337 2)
  · refine r_iconst dX12_onePart_106 ⟨by decide, by decide⟩ ?_
    exact tj_X12_onePart_107 hu w2 hw2 M63 x1 x3 (-1)
set_option maxRecDepth 100000 in
theorem tj_X12_onePart_69 {g : GT} {n nf : Int} (hu : Up false nf n) (w2 : Mem → Int → Res) (hw2 : ∀ (M : Mem) (x1 : Int), AW g false RX12 cX12_onePart 5 none (4) n n nf 2 [(0, 2, 337), (1, 0, x1)] [] n M (w2 M x1)) (M : Mem) (x1 : Int) : AW g false RX12 cX12_onePart 5 none (4) n n nf 69 [(0, 2, 337), (1, 0, x1)] [] n M (j_X12_onePart_69 w2 M x1) := by
  unfold j_X12_onePart_69
  refine r_aload_n 0 dX12_onePart_69 rfl rfl ?_
  refine r_aload_n 0 dX12_onePart_70 rfl rfl ?_
  refine r_gx (kz := 28) rfl hu dX12_onePart_71 kF_X12_75 kd_337 rfl rfl rfl fx_337_28 ?_
  refine r_inv (a := 337) hu ⟨Nat.le_refl _, Nat.le_refl _⟩ dX12_onePart_74 kM_X12_254 (ci := 12) rfl kd_337 rfl rfl (by decide) (by decide) [(2, 358)] rfl (sk := []) rfl (Nat.le_of_ble_eq_true rfl) rfl rfl (m_X12_takes hu M 358 kd_358) (fun r56 M57 => ?_)
  refine r_istore_n dX12_onePart_77 rfl (by decide) (ls' := [(3, 0, r56), (0, 2, 337), (1, 0, x1)]) rfl ?_
  refine r_iload_n 0 dX12_onePart_78 rfl rfl ?_
  refine r_if_ne (tgt := 90) dX12_onePart_79 rfl (fun h58 => ?_) (fun h59 => ?_)
  · refine r_aload_n 1 dX12_onePart_82 rfl rfl ?_
    refine r_aload_n 1 dX12_onePart_83 rfl rfl ?_
    refine r_gx (kz := 29) rfl hu dX12_onePart_84 kF_X12_78 kd_337 rfl rfl rfl fx_337_29 ?_
    refine r_invv (a := 337) hu ⟨Nat.le_refl _, Nat.le_refl _⟩ dX12_onePart_87 kM_X12_307 (ci := 12) rfl kd_337 rfl rfl (by decide) (by decide) [(2, 359)] rfl (sk := []) rfl (Nat.le_of_ble_eq_true rfl) rfl (m_X12_asks hu M57 359 kd_359) (fun r60 M61 => ?_)
    refine r_sub [1, 2, 0] (ls' := [(0, 2, 337), (1, 0, x1), (3, 0, r56)]) rfl ?_
    exact tj_X12_onePart_90 hu w2 hw2 M61 x1 r56
  · refine r_sub [1, 2, 0] (ls' := [(0, 2, 337), (1, 0, x1), (3, 0, r56)]) rfl ?_
    exact tj_X12_onePart_90 hu w2 hw2 M57 x1 r56
set_option maxRecDepth 100000 in
theorem tb_X12_onePart_2 {g : GT} {n nf : Int} (hu : Up false nf n) (w2 : Mem → Int → Res) (hw2 : ∀ (M : Mem) (x1 : Int), AW g false RX12 cX12_onePart 5 none (4) n n nf 2 [(0, 2, 337), (1, 0, x1)] [] n M (w2 M x1)) (M : Mem) (x1 : Int) : AW g false RX12 cX12_onePart 5 none (4) n n nf 2 [(0, 2, 337), (1, 0, x1)] [] n M (b_X12_onePart_2 w2 M x1) := by
  unfold b_X12_onePart_2
  refine r_iload_n 1 dX12_onePart_2 rfl rfl ?_
  refine r_if_eq (tgt := 146) dX12_onePart_3 rfl (fun h1 => ?_) (fun h2 => ?_)
  · refine r_sub [0] (ls' := [(0, 2, 337)]) rfl ?_
    exact tj_X12_onePart_146 hu M
  · refine r_aload_n 0 dX12_onePart_6 rfl rfl ?_
    refine r_gf (t := 0) (kz := 5) rfl hu dX12_onePart_7 kF_X12_227 kd_337 rfl rfl rfl ?_
    refine r_if_ne (tgt := 146) dX12_onePart_10 rfl (fun h38 => ?_) (fun h39 => ?_)
    · refine r_aload_n 0 dX12_onePart_13 rfl rfl ?_
      refine r_inv (a := 337) hu ⟨Nat.le_refl _, Nat.le_refl _⟩ dX12_onePart_14 kM_X12_239 (ci := 12) rfl kd_337 rfl rfl (by decide) (by decide) [] rfl (sk := []) rfl (Nat.le_of_ble_eq_true rfl) rfl rfl (m_X12_look hu M) (fun r40 M41 => ?_)
      refine r_istore_n dX12_onePart_17 rfl (by decide) (ls' := [(2, 0, r40), (0, 2, 337), (1, 0, x1)]) rfl ?_
      refine r_iload_n 0 dX12_onePart_18 rfl rfl ?_
      refine r_bipush dX12_onePart_19 (by decide) ⟨by decide, by decide⟩ ?_
      refine r_icmp_ne (tgt := 47) dX12_onePart_21 rfl (fun h42 => ?_) (fun h43 => ?_)
      · refine r_aload_n 1 dX12_onePart_24 rfl rfl ?_
        refine r_bipush dX12_onePart_25 (by decide) ⟨by decide, by decide⟩ ?_
        refine r_aload_n 1 dX12_onePart_27 rfl rfl ?_
        refine r_gf (t := 0) (kz := 2) rfl hu dX12_onePart_28 kF_X12_233 kd_337 rfl rfl rfl ?_
        refine r_invv (a := 337) hu ⟨Nat.le_refl _, Nat.le_refl _⟩ dX12_onePart_31 kM_X12_304 (ci := 12) rfl kd_337 rfl rfl (by decide) (by decide) [(0, 20), (0, M41 337 2)] rfl (sk := []) rfl (Nat.le_of_ble_eq_true rfl) rfl (m_X12_opens hu M41 20 (M41 337 2)) (fun r44 M45 => ?_)
        refine r_aload_n 1 dX12_onePart_34 rfl rfl ?_
        refine r_dup dX12_onePart_35 (nz2 _) ?_
        refine r_gf (t := 0) (kz := 2) rfl hu dX12_onePart_36 kF_X12_233 kd_337 rfl rfl rfl ?_
        refine r_iconst dX12_onePart_39 ⟨by decide, by decide⟩ ?_
        refine r_ok (fun h46 => ?_)
        refine r_iadd dX12_onePart_40 h46 ?_
        refine r_pf (t := 0) (kz := 2) rfl hu dX12_onePart_41 kF_X12_233 kd_337 rfl rfl rfl (fun h => absurd h (by decide)) rfl kX_12_2 (fun M47 eM47 => ?_)
        refine r_goto (tgt := 143) dX12_onePart_44 rfl ?_
        refine r_goto (tgt := 2) dX12_onePart_143 rfl ?_
        refine r_sub [1, 2] (ls' := [(0, 2, 337), (1, 0, x1)]) rfl ?_
        exact hw2 M47 x1
      · refine r_aload_n 1 dX12_onePart_47 rfl rfl ?_
        refine r_aload_n 1 dX12_onePart_48 rfl rfl ?_
        refine r_gx (kz := 28) rfl hu dX12_onePart_49 kF_X12_75 kd_337 rfl rfl rfl fx_337_28 ?_
        refine r_inv (a := 337) hu ⟨Nat.le_refl _, Nat.le_refl _⟩ dX12_onePart_52 kM_X12_250 (ci := 12) rfl kd_337 rfl rfl (by decide) (by decide) [(2, 358)] rfl (sk := []) rfl (Nat.le_of_ble_eq_true rfl) rfl rfl (m_X12_isHere hu M41 358 kd_358) (fun r48 M49 => ?_)
        refine r_if_ne (tgt := 69) dX12_onePart_55 rfl (fun h50 => ?_) (fun h51 => ?_)
        · refine r_aload_n 1 dX12_onePart_58 rfl rfl ?_
          refine r_aload_n 1 dX12_onePart_59 rfl rfl ?_
          refine r_gx (kz := 29) rfl hu dX12_onePart_60 kF_X12_78 kd_337 rfl rfl rfl fx_337_29 ?_
          refine r_inv (a := 337) hu ⟨Nat.le_refl _, Nat.le_refl _⟩ dX12_onePart_63 kM_X12_250 (ci := 12) rfl kd_337 rfl rfl (by decide) (by decide) [(2, 359)] rfl (sk := []) rfl (Nat.le_of_ble_eq_true rfl) rfl rfl (m_X12_isHere hu M49 359 kd_359) (fun r52 M53 => ?_)
          refine r_if_eq (tgt := 141) dX12_onePart_66 rfl (fun h54 => ?_) (fun h55 => ?_)
          · refine r_iconst dX12_onePart_141 ⟨by decide, by decide⟩ ?_
            refine r_istore_n dX12_onePart_142 rfl (by decide) (ls' := [(1, 0, 0), (2, 0, r40), (0, 2, 337)]) rfl ?_
            refine r_goto (tgt := 2) dX12_onePart_143 rfl ?_
            refine r_sub [2, 0] (ls' := [(0, 2, 337), (1, 0, 0)]) rfl ?_
            exact hw2 M53 0
          · refine r_sub [1, 2] (ls' := [(0, 2, 337), (1, 0, x1)]) rfl ?_
            exact tj_X12_onePart_69 hu w2 hw2 M53 x1
        · refine r_sub [1, 2] (ls' := [(0, 2, 337), (1, 0, x1)]) rfl ?_
          exact tj_X12_onePart_69 hu w2 hw2 M49 x1
    · refine r_sub [0] (ls' := [(0, 2, 337)]) rfl ?_
      exact tj_X12_onePart_146 hu M
set_option maxRecDepth 100000 in
theorem m_X12_onePart {g : GT} {n nf : Int} (hu : Up false nf n) (M : Mem) : AM g false yX12_onePart cX12_onePart 5 none (4) n n nf [(2, 337)] M (f_X12_onePart M) := by
  refine AM_of (by decide +kernel) (Nat.le_of_ble_eq_true rfl) (fun h => absurd h (Int.lt_irrefl n)) ?_
  show AW g false RX12 cX12_onePart 5 none (4) n n nf 0 [(0, 2, 337)] [] n M (f_X12_onePart M)
  unfold f_X12_onePart
  refine r_iconst dX12_onePart_0 ⟨by decide, by decide⟩ ?_
  refine r_istore_n dX12_onePart_1 rfl (by decide) (ls' := [(1, 0, 1), (0, 2, 337)]) rfl ?_
  refine r_sub [1, 0] (ls' := [(0, 2, 337), (1, 0, 1)]) rfl ?_
  exact wl1_aw (P := fun M x1 o => AW g false RX12 cX12_onePart 5 none (4) n n nf 2 [(0, 2, 337), (1, 0, x1)] [] n M (o)) (fun M x1 => aw_none) (fun w hw M x1 => tb_X12_onePart_2 hu w hw M x1) FU M 1
theorem dX12_goesOn_0 : decode cX12_goesOn 0 = .ok (.aload_n 0, 1) := by decide +kernel
theorem dX12_goesOn_1 : decode cX12_goesOn 1 = .ok (.getfield 227, 3) := by decide +kernel
theorem dX12_goesOn_4 : decode cX12_goesOn 4 = .ok (.ifCond .ne 114, 3) := by decide +kernel
theorem dX12_goesOn_7 : decode cX12_goesOn 7 = .ok (.aload_n 0, 1) := by decide +kernel
theorem dX12_goesOn_8 : decode cX12_goesOn 8 = .ok (.invokevirtual 239, 3) := by decide +kernel
theorem dX12_goesOn_11 : decode cX12_goesOn 11 = .ok (.bipush 41, 2) := by decide +kernel
theorem dX12_goesOn_13 : decode cX12_goesOn 13 = .ok (.if_icmp .ne 105, 3) := by decide +kernel
theorem dX12_goesOn_16 : decode cX12_goesOn 16 = .ok (.aload_n 0, 1) := by decide +kernel
theorem dX12_goesOn_17 : decode cX12_goesOn 17 = .ok (.invokevirtual 318, 3) := by decide +kernel
theorem dX12_goesOn_20 : decode cX12_goesOn 20 = .ok (.bipush 20, 2) := by decide +kernel
theorem dX12_goesOn_22 : decode cX12_goesOn 22 = .ok (.if_icmp .eq 21, 3) := by decide +kernel
theorem dX12_goesOn_25 : decode cX12_goesOn 25 = .ok (.aload_n 0, 1) := by decide +kernel
theorem dX12_goesOn_26 : decode cX12_goesOn 26 = .ok (.invokevirtual 318, 3) := by decide +kernel
theorem dX12_goesOn_29 : decode cX12_goesOn 29 = .ok (.bipush 23, 2) := by decide +kernel
theorem dX12_goesOn_31 : decode cX12_goesOn 31 = .ok (.if_icmp .eq 12, 3) := by decide +kernel
theorem dX12_goesOn_34 : decode cX12_goesOn 34 = .ok (.aload_n 0, 1) := by decide +kernel
theorem dX12_goesOn_35 : decode cX12_goesOn 35 = .ok (.invokevirtual 318, 3) := by decide +kernel
theorem dX12_goesOn_38 : decode cX12_goesOn 38 = .ok (.bipush 24, 2) := by decide +kernel
theorem dX12_goesOn_40 : decode cX12_goesOn 40 = .ok (.if_icmp .ne 78, 3) := by decide +kernel
theorem dX12_goesOn_43 : decode cX12_goesOn 43 = .ok (.aload_n 0, 1) := by decide +kernel
theorem dX12_goesOn_44 : decode cX12_goesOn 44 = .ok (.dup, 1) := by decide +kernel
theorem dX12_goesOn_45 : decode cX12_goesOn 45 = .ok (.getfield 233, 3) := by decide +kernel
theorem dX12_goesOn_48 : decode cX12_goesOn 48 = .ok (.iconst 1, 1) := by decide +kernel
theorem dX12_goesOn_49 : decode cX12_goesOn 49 = .ok (.iadd, 1) := by decide +kernel
theorem dX12_goesOn_50 : decode cX12_goesOn 50 = .ok (.putfield 233, 3) := by decide +kernel
theorem dX12_goesOn_53 : decode cX12_goesOn 53 = .ok (.aload_n 0, 1) := by decide +kernel
theorem dX12_goesOn_54 : decode cX12_goesOn 54 = .ok (.invokevirtual 321, 3) := by decide +kernel
theorem dX12_goesOn_57 : decode cX12_goesOn 57 = .ok (.aload_n 0, 1) := by decide +kernel
theorem dX12_goesOn_58 : decode cX12_goesOn 58 = .ok (.dup, 1) := by decide +kernel
theorem dX12_goesOn_59 : decode cX12_goesOn 59 = .ok (.getfield 288, 3) := by decide +kernel
theorem dX12_goesOn_62 : decode cX12_goesOn 62 = .ok (.iconst 1, 1) := by decide +kernel
theorem dX12_goesOn_63 : decode cX12_goesOn 63 = .ok (.isub, 1) := by decide +kernel
theorem dX12_goesOn_64 : decode cX12_goesOn 64 = .ok (.putfield 288, 3) := by decide +kernel
theorem dX12_goesOn_67 : decode cX12_goesOn 67 = .ok (.aload_n 0, 1) := by decide +kernel
theorem dX12_goesOn_68 : decode cX12_goesOn 68 = .ok (.dup, 1) := by decide +kernel
theorem dX12_goesOn_69 : decode cX12_goesOn 69 = .ok (.getfield 285, 3) := by decide +kernel
theorem dX12_goesOn_72 : decode cX12_goesOn 72 = .ok (.iconst 1, 1) := by decide +kernel
theorem dX12_goesOn_73 : decode cX12_goesOn 73 = .ok (.isub, 1) := by decide +kernel
theorem dX12_goesOn_74 : decode cX12_goesOn 74 = .ok (.putfield 285, 3) := by decide +kernel
theorem dX12_goesOn_77 : decode cX12_goesOn 77 = .ok (.aload_n 0, 1) := by decide +kernel
theorem dX12_goesOn_78 : decode cX12_goesOn 78 = .ok (.getfield 84, 3) := by decide +kernel
theorem dX12_goesOn_81 : decode cX12_goesOn 81 = .ok (.aload_n 0, 1) := by decide +kernel
theorem dX12_goesOn_82 : decode cX12_goesOn 82 = .ok (.getfield 288, 3) := by decide +kernel
theorem dX12_goesOn_85 : decode cX12_goesOn 85 = .ok (.iaload, 1) := by decide +kernel
theorem dX12_goesOn_86 : decode cX12_goesOn 86 = .ok (.bipush 20, 2) := by decide +kernel
theorem dX12_goesOn_88 : decode cX12_goesOn 88 = .ok (.if_icmp .eq (-88), 3) := by decide +kernel
theorem dX12_goesOn_91 : decode cX12_goesOn 91 = .ok (.aload_n 0, 1) := by decide +kernel
theorem dX12_goesOn_92 : decode cX12_goesOn 92 = .ok (.aload_n 0, 1) := by decide +kernel
theorem dX12_goesOn_93 : decode cX12_goesOn 93 = .ok (.getfield 84, 3) := by decide +kernel
theorem dX12_goesOn_96 : decode cX12_goesOn 96 = .ok (.aload_n 0, 1) := by decide +kernel
theorem dX12_goesOn_97 : decode cX12_goesOn 97 = .ok (.getfield 288, 3) := by decide +kernel
theorem dX12_goesOn_100 : decode cX12_goesOn 100 = .ok (.iaload, 1) := by decide +kernel
theorem dX12_goesOn_101 : decode cX12_goesOn 101 = .ok (.bipush 23, 2) := by decide +kernel
theorem dX12_goesOn_103 : decode cX12_goesOn 103 = .ok (.if_icmp .ne 7, 3) := by decide +kernel
theorem dX12_goesOn_106 : decode cX12_goesOn 106 = .ok (.iconst 5, 1) := by decide +kernel
theorem dX12_goesOn_107 : decode cX12_goesOn 107 = .ok (.goto 5, 3) := by decide +kernel
theorem dX12_goesOn_110 : decode cX12_goesOn 110 = .ok (.bipush 6, 2) := by decide +kernel
theorem dX12_goesOn_112 : decode cX12_goesOn 112 = .ok (.invokevirtual 291, 3) := by decide +kernel
theorem dX12_goesOn_115 : decode cX12_goesOn 115 = .ok (.goto (-115), 3) := by decide +kernel
theorem dX12_goesOn_118 : decode cX12_goesOn 118 = .ok (.aload_n 0, 1) := by decide +kernel
theorem dX12_goesOn_119 : decode cX12_goesOn 119 = .ok (.bipush 42, 2) := by decide +kernel
theorem dX12_goesOn_121 : decode cX12_goesOn 121 = .ok (.invokevirtual 261, 3) := by decide +kernel
theorem dX12_goesOn_124 : decode cX12_goesOn 124 = .ok (.ifCond .ne 12, 3) := by decide +kernel
theorem dX12_goesOn_127 : decode cX12_goesOn 127 = .ok (.aload_n 0, 1) := by decide +kernel
theorem dX12_goesOn_128 : decode cX12_goesOn 128 = .ok (.bipush 47, 2) := by decide +kernel
theorem dX12_goesOn_130 : decode cX12_goesOn 130 = .ok (.invokevirtual 261, 3) := by decide +kernel
theorem dX12_goesOn_133 : decode cX12_goesOn 133 = .ok (.ifCond .eq 70, 3) := by decide +kernel
theorem dX12_goesOn_136 : decode cX12_goesOn 136 = .ok (.aload_n 0, 1) := by decide +kernel
theorem dX12_goesOn_137 : decode cX12_goesOn 137 = .ok (.getfield 7, 3) := by decide +kernel
theorem dX12_goesOn_140 : decode cX12_goesOn 140 = .ok (.aload_n 0, 1) := by decide +kernel
theorem dX12_goesOn_141 : decode cX12_goesOn 141 = .ok (.getfield 233, 3) := by decide +kernel
theorem dX12_goesOn_144 : decode cX12_goesOn 144 = .ok (.iconst 1, 1) := by decide +kernel
theorem dX12_goesOn_145 : decode cX12_goesOn 145 = .ok (.isub, 1) := by decide +kernel
theorem dX12_goesOn_146 : decode cX12_goesOn 146 = .ok (.iaload, 1) := by decide +kernel
theorem dX12_goesOn_147 : decode cX12_goesOn 147 = .ok (.bipush 42, 2) := by decide +kernel
theorem dX12_goesOn_149 : decode cX12_goesOn 149 = .ok (.if_icmp .ne 7, 3) := by decide +kernel
theorem dX12_goesOn_152 : decode cX12_goesOn 152 = .ok (.iconst 3, 1) := by decide +kernel
theorem dX12_goesOn_153 : decode cX12_goesOn 153 = .ok (.goto 4, 3) := by decide +kernel
theorem dX12_goesOn_156 : decode cX12_goesOn 156 = .ok (.iconst 4, 1) := by decide +kernel
theorem dX12_goesOn_157 : decode cX12_goesOn 157 = .ok (.istore_n 1, 1) := by decide +kernel
theorem dX12_goesOn_158 : decode cX12_goesOn 158 = .ok (.aload_n 0, 1) := by decide +kernel
theorem dX12_goesOn_159 : decode cX12_goesOn 159 = .ok (.iconst 3, 1) := by decide +kernel
theorem dX12_goesOn_160 : decode cX12_goesOn 160 = .ok (.invokevirtual 324, 3) := by decide +kernel
theorem dX12_goesOn_163 : decode cX12_goesOn 163 = .ok (.ifCond .ne 11, 3) := by decide +kernel
theorem dX12_goesOn_166 : decode cX12_goesOn 166 = .ok (.aload_n 0, 1) := by decide +kernel
theorem dX12_goesOn_167 : decode cX12_goesOn 167 = .ok (.iconst 4, 1) := by decide +kernel
theorem dX12_goesOn_168 : decode cX12_goesOn 168 = .ok (.invokevirtual 324, 3) := by decide +kernel
theorem dX12_goesOn_171 : decode cX12_goesOn 171 = .ok (.ifCond .eq 10, 3) := by decide +kernel
theorem dX12_goesOn_174 : decode cX12_goesOn 174 = .ok (.aload_n 0, 1) := by decide +kernel
theorem dX12_goesOn_175 : decode cX12_goesOn 175 = .ok (.invokevirtual 301, 3) := by decide +kernel
theorem dX12_goesOn_178 : decode cX12_goesOn 178 = .ok (.goto (-20), 3) := by decide +kernel
theorem dX12_goesOn_181 : decode cX12_goesOn 181 = .ok (.aload_n 0, 1) := by decide +kernel
theorem dX12_goesOn_182 : decode cX12_goesOn 182 = .ok (.getfield 84, 3) := by decide +kernel
theorem dX12_goesOn_185 : decode cX12_goesOn 185 = .ok (.aload_n 0, 1) := by decide +kernel
theorem dX12_goesOn_186 : decode cX12_goesOn 186 = .ok (.getfield 288, 3) := by decide +kernel
theorem dX12_goesOn_189 : decode cX12_goesOn 189 = .ok (.iload_n 1, 1) := by decide +kernel
theorem dX12_goesOn_190 : decode cX12_goesOn 190 = .ok (.iastore, 1) := by decide +kernel
theorem dX12_goesOn_191 : decode cX12_goesOn 191 = .ok (.aload_n 0, 1) := by decide +kernel
theorem dX12_goesOn_192 : decode cX12_goesOn 192 = .ok (.dup, 1) := by decide +kernel
theorem dX12_goesOn_193 : decode cX12_goesOn 193 = .ok (.getfield 288, 3) := by decide +kernel
theorem dX12_goesOn_196 : decode cX12_goesOn 196 = .ok (.iconst 1, 1) := by decide +kernel
theorem dX12_goesOn_197 : decode cX12_goesOn 197 = .ok (.iadd, 1) := by decide +kernel
theorem dX12_goesOn_198 : decode cX12_goesOn 198 = .ok (.putfield 288, 3) := by decide +kernel
theorem dX12_goesOn_201 : decode cX12_goesOn 201 = .ok (.iconst 1, 1) := by decide +kernel
theorem dX12_goesOn_202 : decode cX12_goesOn 202 = .ok (.ireturn, 1) := by decide +kernel
theorem dX12_goesOn_203 : decode cX12_goesOn 203 = .ok (.aload_n 0, 1) := by decide +kernel
theorem dX12_goesOn_204 : decode cX12_goesOn 204 = .ok (.bipush 43, 2) := by decide +kernel
theorem dX12_goesOn_206 : decode cX12_goesOn 206 = .ok (.invokevirtual 261, 3) := by decide +kernel
theorem dX12_goesOn_209 : decode cX12_goesOn 209 = .ok (.ifCond .ne 12, 3) := by decide +kernel
theorem dX12_goesOn_212 : decode cX12_goesOn 212 = .ok (.aload_n 0, 1) := by decide +kernel
theorem dX12_goesOn_213 : decode cX12_goesOn 213 = .ok (.bipush 45, 2) := by decide +kernel
theorem dX12_goesOn_215 : decode cX12_goesOn 215 = .ok (.invokevirtual 261, 3) := by decide +kernel
theorem dX12_goesOn_218 : decode cX12_goesOn 218 = .ok (.ifCond .eq 86, 3) := by decide +kernel
theorem dX12_goesOn_221 : decode cX12_goesOn 221 = .ok (.aload_n 0, 1) := by decide +kernel
theorem dX12_goesOn_222 : decode cX12_goesOn 222 = .ok (.getfield 7, 3) := by decide +kernel
theorem dX12_goesOn_225 : decode cX12_goesOn 225 = .ok (.aload_n 0, 1) := by decide +kernel
theorem dX12_goesOn_226 : decode cX12_goesOn 226 = .ok (.getfield 233, 3) := by decide +kernel
theorem dX12_goesOn_229 : decode cX12_goesOn 229 = .ok (.iconst 1, 1) := by decide +kernel
theorem dX12_goesOn_230 : decode cX12_goesOn 230 = .ok (.isub, 1) := by decide +kernel
theorem dX12_goesOn_231 : decode cX12_goesOn 231 = .ok (.iaload, 1) := by decide +kernel
theorem dX12_goesOn_232 : decode cX12_goesOn 232 = .ok (.bipush 43, 2) := by decide +kernel
theorem dX12_goesOn_234 : decode cX12_goesOn 234 = .ok (.if_icmp .ne 7, 3) := by decide +kernel
theorem dX12_goesOn_237 : decode cX12_goesOn 237 = .ok (.iconst 1, 1) := by decide +kernel
theorem dX12_goesOn_238 : decode cX12_goesOn 238 = .ok (.goto 4, 3) := by decide +kernel
theorem dX12_goesOn_241 : decode cX12_goesOn 241 = .ok (.iconst 2, 1) := by decide +kernel
theorem dX12_goesOn_242 : decode cX12_goesOn 242 = .ok (.istore_n 1, 1) := by decide +kernel
theorem dX12_goesOn_243 : decode cX12_goesOn 243 = .ok (.aload_n 0, 1) := by decide +kernel
theorem dX12_goesOn_244 : decode cX12_goesOn 244 = .ok (.iconst 3, 1) := by decide +kernel
theorem dX12_goesOn_245 : decode cX12_goesOn 245 = .ok (.invokevirtual 324, 3) := by decide +kernel
theorem dX12_goesOn_248 : decode cX12_goesOn 248 = .ok (.ifCond .ne 27, 3) := by decide +kernel
theorem dX12_goesOn_251 : decode cX12_goesOn 251 = .ok (.aload_n 0, 1) := by decide +kernel
theorem dX12_goesOn_252 : decode cX12_goesOn 252 = .ok (.iconst 4, 1) := by decide +kernel
theorem dX12_goesOn_253 : decode cX12_goesOn 253 = .ok (.invokevirtual 324, 3) := by decide +kernel
theorem dX12_goesOn_256 : decode cX12_goesOn 256 = .ok (.ifCond .ne 19, 3) := by decide +kernel
theorem dX12_goesOn_259 : decode cX12_goesOn 259 = .ok (.aload_n 0, 1) := by decide +kernel
theorem dX12_goesOn_260 : decode cX12_goesOn 260 = .ok (.iconst 1, 1) := by decide +kernel
theorem dX12_goesOn_261 : decode cX12_goesOn 261 = .ok (.invokevirtual 324, 3) := by decide +kernel
theorem dX12_goesOn_264 : decode cX12_goesOn 264 = .ok (.ifCond .ne 11, 3) := by decide +kernel
theorem dX12_goesOn_267 : decode cX12_goesOn 267 = .ok (.aload_n 0, 1) := by decide +kernel
theorem dX12_goesOn_268 : decode cX12_goesOn 268 = .ok (.iconst 2, 1) := by decide +kernel
theorem dX12_goesOn_269 : decode cX12_goesOn 269 = .ok (.invokevirtual 324, 3) := by decide +kernel
theorem dX12_goesOn_272 : decode cX12_goesOn 272 = .ok (.ifCond .eq 10, 3) := by decide +kernel
theorem dX12_goesOn_275 : decode cX12_goesOn 275 = .ok (.aload_n 0, 1) := by decide +kernel
theorem dX12_goesOn_276 : decode cX12_goesOn 276 = .ok (.invokevirtual 301, 3) := by decide +kernel
theorem dX12_goesOn_279 : decode cX12_goesOn 279 = .ok (.goto (-36), 3) := by decide +kernel
theorem dX12_goesOn_282 : decode cX12_goesOn 282 = .ok (.aload_n 0, 1) := by decide +kernel
theorem dX12_goesOn_283 : decode cX12_goesOn 283 = .ok (.getfield 84, 3) := by decide +kernel
theorem dX12_goesOn_286 : decode cX12_goesOn 286 = .ok (.aload_n 0, 1) := by decide +kernel
theorem dX12_goesOn_287 : decode cX12_goesOn 287 = .ok (.getfield 288, 3) := by decide +kernel
theorem dX12_goesOn_290 : decode cX12_goesOn 290 = .ok (.iload_n 1, 1) := by decide +kernel
theorem dX12_goesOn_291 : decode cX12_goesOn 291 = .ok (.iastore, 1) := by decide +kernel
theorem dX12_goesOn_292 : decode cX12_goesOn 292 = .ok (.aload_n 0, 1) := by decide +kernel
theorem dX12_goesOn_293 : decode cX12_goesOn 293 = .ok (.dup, 1) := by decide +kernel
theorem dX12_goesOn_294 : decode cX12_goesOn 294 = .ok (.getfield 288, 3) := by decide +kernel
theorem dX12_goesOn_297 : decode cX12_goesOn 297 = .ok (.iconst 1, 1) := by decide +kernel
theorem dX12_goesOn_298 : decode cX12_goesOn 298 = .ok (.iadd, 1) := by decide +kernel
theorem dX12_goesOn_299 : decode cX12_goesOn 299 = .ok (.putfield 288, 3) := by decide +kernel
theorem dX12_goesOn_302 : decode cX12_goesOn 302 = .ok (.iconst 1, 1) := by decide +kernel
theorem dX12_goesOn_303 : decode cX12_goesOn 303 = .ok (.ireturn, 1) := by decide +kernel
theorem dX12_goesOn_304 : decode cX12_goesOn 304 = .ok (.aload_n 0, 1) := by decide +kernel
theorem dX12_goesOn_305 : decode cX12_goesOn 305 = .ok (.invokevirtual 318, 3) := by decide +kernel
theorem dX12_goesOn_308 : decode cX12_goesOn 308 = .ok (.bipush 21, 2) := by decide +kernel
theorem dX12_goesOn_310 : decode cX12_goesOn 310 = .ok (.if_icmp .eq 12, 3) := by decide +kernel
theorem dX12_goesOn_313 : decode cX12_goesOn 313 = .ok (.aload_n 0, 1) := by decide +kernel
theorem dX12_goesOn_314 : decode cX12_goesOn 314 = .ok (.invokevirtual 318, 3) := by decide +kernel
theorem dX12_goesOn_317 : decode cX12_goesOn 317 = .ok (.bipush 22, 2) := by decide +kernel
theorem dX12_goesOn_319 : decode cX12_goesOn 319 = .ok (.if_icmp .ne 39, 3) := by decide +kernel
theorem dX12_goesOn_322 : decode cX12_goesOn 322 = .ok (.aload_n 0, 1) := by decide +kernel
theorem dX12_goesOn_323 : decode cX12_goesOn 323 = .ok (.bipush 44, 2) := by decide +kernel
theorem dX12_goesOn_325 : decode cX12_goesOn 325 = .ok (.invokevirtual 311, 3) := by decide +kernel
theorem dX12_goesOn_328 : decode cX12_goesOn 328 = .ok (.aload_n 0, 1) := by decide +kernel
theorem dX12_goesOn_329 : decode cX12_goesOn 329 = .ok (.getfield 227, 3) := by decide +kernel
theorem dX12_goesOn_332 : decode cX12_goesOn 332 = .ok (.ifCond .eq 5, 3) := by decide +kernel
theorem dX12_goesOn_335 : decode cX12_goesOn 335 = .ok (.iconst 0, 1) := by decide +kernel
theorem dX12_goesOn_336 : decode cX12_goesOn 336 = .ok (.ireturn, 1) := by decide +kernel
theorem dX12_goesOn_337 : decode cX12_goesOn 337 = .ok (.aload_n 0, 1) := by decide +kernel
theorem dX12_goesOn_338 : decode cX12_goesOn 338 = .ok (.invokevirtual 321, 3) := by decide +kernel
theorem dX12_goesOn_341 : decode cX12_goesOn 341 = .ok (.aload_n 0, 1) := by decide +kernel
theorem dX12_goesOn_342 : decode cX12_goesOn 342 = .ok (.getfield 84, 3) := by decide +kernel
theorem dX12_goesOn_345 : decode cX12_goesOn 345 = .ok (.aload_n 0, 1) := by decide +kernel
theorem dX12_goesOn_346 : decode cX12_goesOn 346 = .ok (.getfield 288, 3) := by decide +kernel
theorem dX12_goesOn_349 : decode cX12_goesOn 349 = .ok (.iconst 1, 1) := by decide +kernel
theorem dX12_goesOn_350 : decode cX12_goesOn 350 = .ok (.isub, 1) := by decide +kernel
theorem dX12_goesOn_351 : decode cX12_goesOn 351 = .ok (.dup2, 1) := by decide +kernel
theorem dX12_goesOn_352 : decode cX12_goesOn 352 = .ok (.iaload, 1) := by decide +kernel
theorem dX12_goesOn_353 : decode cX12_goesOn 353 = .ok (.iconst 2, 1) := by decide +kernel
theorem dX12_goesOn_354 : decode cX12_goesOn 354 = .ok (.iadd, 1) := by decide +kernel
theorem dX12_goesOn_355 : decode cX12_goesOn 355 = .ok (.iastore, 1) := by decide +kernel
theorem dX12_goesOn_356 : decode cX12_goesOn 356 = .ok (.iconst 1, 1) := by decide +kernel
theorem dX12_goesOn_357 : decode cX12_goesOn 357 = .ok (.ireturn, 1) := by decide +kernel
theorem dX12_goesOn_358 : decode cX12_goesOn 358 = .ok (.aload_n 0, 1) := by decide +kernel
theorem dX12_goesOn_359 : decode cX12_goesOn 359 = .ok (.invokevirtual 318, 3) := by decide +kernel
theorem dX12_goesOn_362 : decode cX12_goesOn 362 = .ok (.iconst (-1), 1) := by decide +kernel
theorem dX12_goesOn_363 : decode cX12_goesOn 363 = .ok (.if_icmp .eq 19, 3) := by decide +kernel
theorem dX12_goesOn_366 : decode cX12_goesOn 366 = .ok (.aload_n 0, 1) := by decide +kernel
theorem dX12_goesOn_367 : decode cX12_goesOn 367 = .ok (.getfield 227, 3) := by decide +kernel
theorem dX12_goesOn_370 : decode cX12_goesOn 370 = .ok (.ifCond .ne 12, 3) := by decide +kernel
theorem dX12_goesOn_373 : decode cX12_goesOn 373 = .ok (.aload_n 0, 1) := by decide +kernel
theorem dX12_goesOn_374 : decode cX12_goesOn 374 = .ok (.iconst 1, 1) := by decide +kernel
theorem dX12_goesOn_375 : decode cX12_goesOn 375 = .ok (.aload_n 0, 1) := by decide +kernel
theorem dX12_goesOn_376 : decode cX12_goesOn 376 = .ok (.getfield 233, 3) := by decide +kernel
theorem dX12_goesOn_379 : decode cX12_goesOn 379 = .ok (.invokevirtual 257, 3) := by decide +kernel
theorem dX12_goesOn_382 : decode cX12_goesOn 382 = .ok (.iconst 0, 1) := by decide +kernel
theorem dX12_goesOn_383 : decode cX12_goesOn 383 = .ok (.ireturn, 1) := by decide +kernel
set_option maxRecDepth 100000 in
theorem tj_X12_goesOn_43 {g : GT} {n nf : Int} (hu : Up false nf n) (w0 : Mem → Res) (hw0 : ∀ (M : Mem), AW g false RX12 cX12_goesOn 2 (some .boolean) (3) n n nf 0 [(0, 2, 337)] [] n M (w0 M)) (M : Mem) : AW g false RX12 cX12_goesOn 2 (some .boolean) (3) n n nf 43 [(0, 2, 337)] [] n M (j_X12_goesOn_43 w0 M) := by
  unfold j_X12_goesOn_43
  refine r_aload_n 0 dX12_goesOn_43 rfl rfl ?_
  refine r_dup dX12_goesOn_44 (nz2 _) ?_
  refine r_gf (t := 0) (kz := 2) rfl hu dX12_goesOn_45 kF_X12_233 kd_337 rfl rfl rfl ?_
  refine r_iconst dX12_goesOn_48 ⟨by decide, by decide⟩ ?_
  refine r_ok (fun h11 => ?_)
  refine r_iadd dX12_goesOn_49 h11 ?_
  refine r_pf (t := 0) (kz := 2) rfl hu dX12_goesOn_50 kF_X12_233 kd_337 rfl rfl rfl (fun h => absurd h (by decide)) rfl kX_12_2 (fun M12 eM12 => ?_)
  refine r_aload_n 0 dX12_goesOn_53 rfl rfl ?_
  refine r_invv (a := 337) hu ⟨Nat.le_refl _, Nat.le_refl _⟩ dX12_goesOn_54 kM_X12_321 (ci := 12) rfl kd_337 rfl rfl (by decide) (by decide) [] rfl (sk := []) rfl (Nat.le_of_ble_eq_true rfl) rfl (m_X12_dropsToMark hu M12) (fun r13 M14 => ?_)
  refine r_aload_n 0 dX12_goesOn_57 rfl rfl ?_
  refine r_dup dX12_goesOn_58 (nz2 _) ?_
  refine r_gf (t := 0) (kz := 34) rfl hu dX12_goesOn_59 kF_X12_288 kd_337 rfl rfl rfl ?_
  refine r_iconst dX12_goesOn_62 ⟨by decide, by decide⟩ ?_
  refine r_ok (fun h15 => ?_)
  refine r_isub dX12_goesOn_63 h15 ?_
  refine r_pf (t := 0) (kz := 34) rfl hu dX12_goesOn_64 kF_X12_288 kd_337 rfl rfl rfl (fun h => absurd h (by decide)) rfl kX_12_34 (fun M16 eM16 => ?_)
  refine r_aload_n 0 dX12_goesOn_67 rfl rfl ?_
  refine r_dup dX12_goesOn_68 (nz2 _) ?_
  refine r_gf (t := 0) (kz := 35) rfl hu dX12_goesOn_69 kF_X12_285 kd_337 rfl rfl rfl ?_
  refine r_iconst dX12_goesOn_72 ⟨by decide, by decide⟩ ?_
  refine r_ok (fun h17 => ?_)
  refine r_isub dX12_goesOn_73 h17 ?_
  refine r_pf (t := 0) (kz := 35) rfl hu dX12_goesOn_74 kF_X12_285 kd_337 rfl rfl rfl (fun h => absurd h (by decide)) rfl kX_12_35 (fun M18 eM18 => ?_)
  refine r_aload_n 0 dX12_goesOn_77 rfl rfl ?_
  refine r_gx (kz := 33) rfl hu dX12_goesOn_78 kF_X12_84 kd_337 rfl rfl rfl fx_337_33 ?_
  refine r_aload_n 0 dX12_goesOn_81 rfl rfl ?_
  refine r_gf (t := 0) (kz := 34) rfl hu dX12_goesOn_82 kF_X12_288 kd_337 rfl rfl rfl ?_
  refine r_ok (fun h19 => ?_)
  refine r_iald hu dX12_goesOn_85 kd_361 rfl (Or.inl rfl) rfl ln_361 h19 ?_
  refine r_bipush dX12_goesOn_86 (by decide) ⟨by decide, by decide⟩ ?_
  refine r_icmp_eq (tgt := 0) dX12_goesOn_88 rfl (fun h20 => ?_) (fun h21 => ?_)
  · exact hw0 M18
  · refine r_aload_n 0 dX12_goesOn_91 rfl rfl ?_
    refine r_aload_n 0 dX12_goesOn_92 rfl rfl ?_
    refine r_gx (kz := 33) rfl hu dX12_goesOn_93 kF_X12_84 kd_337 rfl rfl rfl fx_337_33 ?_
    refine r_aload_n 0 dX12_goesOn_96 rfl rfl ?_
    refine r_gf (t := 0) (kz := 34) rfl hu dX12_goesOn_97 kF_X12_288 kd_337 rfl rfl rfl ?_
    refine r_iald hu dX12_goesOn_100 kd_361 rfl (Or.inl rfl) rfl ln_361 h19 ?_
    refine r_bipush dX12_goesOn_101 (by decide) ⟨by decide, by decide⟩ ?_
    refine r_icmp_ne (tgt := 110) dX12_goesOn_103 rfl (fun h22 => ?_) (fun h23 => ?_)
    · refine r_iconst dX12_goesOn_106 ⟨by decide, by decide⟩ ?_
      refine r_goto (tgt := 112) dX12_goesOn_107 rfl ?_
      refine r_invv (a := 337) hu ⟨Nat.le_refl _, Nat.le_refl _⟩ dX12_goesOn_112 kM_X12_291 (ci := 12) rfl kd_337 rfl rfl (by decide) (by decide) [(0, 5)] rfl (sk := []) rfl (Nat.le_of_ble_eq_true rfl) rfl (m_X12_code hu M18 5) (fun r24 M25 => ?_)
      refine r_goto (tgt := 0) dX12_goesOn_115 rfl ?_
      exact hw0 M25
    · refine r_bipush dX12_goesOn_110 (by decide) ⟨by decide, by decide⟩ ?_
      refine r_invv (a := 337) hu ⟨Nat.le_refl _, Nat.le_refl _⟩ dX12_goesOn_112 kM_X12_291 (ci := 12) rfl kd_337 rfl rfl (by decide) (by decide) [(0, 6)] rfl (sk := []) rfl (Nat.le_of_ble_eq_true rfl) rfl (m_X12_code hu M18 6) (fun r26 M27 => ?_)
      refine r_goto (tgt := 0) dX12_goesOn_115 rfl ?_
      exact hw0 M27
set_option maxRecDepth 100000 in
theorem tj_X12_goesOn_322 {g : GT} {n nf : Int} (hu : Up false nf n) (M : Mem) : AW g false RX12 cX12_goesOn 2 (some .boolean) (3) n n nf 322 [(0, 2, 337)] [] n M (j_X12_goesOn_322 M) := by
  unfold j_X12_goesOn_322
  refine r_aload_n 0 dX12_goesOn_322 rfl rfl ?_
  refine r_bipush dX12_goesOn_323 (by decide) ⟨by decide, by decide⟩ ?_
  refine r_invv (a := 337) hu ⟨Nat.le_refl _, Nat.le_refl _⟩ dX12_goesOn_325 kM_X12_311 (ci := 12) rfl kd_337 rfl rfl (by decide) (by decide) [(0, 44)] rfl (sk := []) rfl (Nat.le_of_ble_eq_true rfl) rfl (m_X12_asksSign hu M 44) (fun r56 M57 => ?_)
  refine r_aload_n 0 dX12_goesOn_328 rfl rfl ?_
  refine r_gf (t := 0) (kz := 5) rfl hu dX12_goesOn_329 kF_X12_227 kd_337 rfl rfl rfl ?_
  refine r_if_eq (tgt := 337) dX12_goesOn_332 rfl (fun h58 => ?_) (fun h59 => ?_)
  · refine r_aload_n 0 dX12_goesOn_337 rfl rfl ?_
    refine r_invv (a := 337) hu ⟨Nat.le_refl _, Nat.le_refl _⟩ dX12_goesOn_338 kM_X12_321 (ci := 12) rfl kd_337 rfl rfl (by decide) (by decide) [] rfl (sk := []) rfl (Nat.le_of_ble_eq_true rfl) rfl (m_X12_dropsToMark hu M57) (fun r60 M61 => ?_)
    refine r_aload_n 0 dX12_goesOn_341 rfl rfl ?_
    refine r_gx (kz := 33) rfl hu dX12_goesOn_342 kF_X12_84 kd_337 rfl rfl rfl fx_337_33 ?_
    refine r_aload_n 0 dX12_goesOn_345 rfl rfl ?_
    refine r_gf (t := 0) (kz := 34) rfl hu dX12_goesOn_346 kF_X12_288 kd_337 rfl rfl rfl ?_
    refine r_iconst dX12_goesOn_349 ⟨by decide, by decide⟩ ?_
    refine r_ok (fun h62 => ?_)
    refine r_isub dX12_goesOn_350 h62 ?_
    refine r_dup2 dX12_goesOn_351 (nz0 _) (nz2 _) ?_
    refine r_ok (fun h63 => ?_)
    refine r_iald hu dX12_goesOn_352 kd_361 rfl (Or.inl rfl) rfl ln_361 h63 ?_
    refine r_iconst dX12_goesOn_353 ⟨by decide, by decide⟩ ?_
    refine r_ok (fun h64 => ?_)
    refine r_iadd dX12_goesOn_354 h64 ?_
    refine r_iast hu dX12_goesOn_355 kd_361 rfl (Or.inl rfl) rfl ln_361 h63 rfl (fun M65 eM65 => ?_)
    refine r_iconst dX12_goesOn_356 ⟨by decide, by decide⟩ ?_
    exact r_iret rfl rfl (Or.inr ⟨rfl, Or.inr rfl⟩) dX12_goesOn_357
  · refine r_iconst dX12_goesOn_335 ⟨by decide, by decide⟩ ?_
    exact r_iret rfl rfl (Or.inr ⟨rfl, Or.inl rfl⟩) dX12_goesOn_336
set_option maxRecDepth 100000 in
theorem tj_X12_goesOn_275 {g : GT} {n nf : Int} (hu : Up false nf n) (w243 : Mem → Int → Res) (hw243 : ∀ (M : Mem) (x1 : Int), AW g false RX12 cX12_goesOn 2 (some .boolean) (3) n n nf 243 [(0, 2, 337), (1, 0, x1)] [] n M (w243 M x1)) (M : Mem) (x1 : Int) : AW g false RX12 cX12_goesOn 2 (some .boolean) (3) n n nf 275 [(0, 2, 337), (1, 0, x1)] [] n M (j_X12_goesOn_275 w243 M x1) := by
  unfold j_X12_goesOn_275
  refine r_aload_n 0 dX12_goesOn_275 rfl rfl ?_
  refine r_invv (a := 337) hu ⟨Nat.le_refl _, Nat.le_refl _⟩ dX12_goesOn_276 kM_X12_301 (ci := 12) rfl kd_337 rfl rfl (by decide) (by decide) [] rfl (sk := []) rfl (Nat.le_of_ble_eq_true rfl) rfl (m_X12_drops hu M) (fun r102 M103 => ?_)
  refine r_goto (tgt := 243) dX12_goesOn_279 rfl ?_
  exact hw243 M103 x1
set_option maxRecDepth 100000 in
theorem tb_X12_goesOn_243 {g : GT} {n nf : Int} (hu : Up false nf n) (w243 : Mem → Int → Res) (hw243 : ∀ (M : Mem) (x1 : Int), AW g false RX12 cX12_goesOn 2 (some .boolean) (3) n n nf 243 [(0, 2, 337), (1, 0, x1)] [] n M (w243 M x1)) (M : Mem) (x1 : Int) : AW g false RX12 cX12_goesOn 2 (some .boolean) (3) n n nf 243 [(0, 2, 337), (1, 0, x1)] [] n M (b_X12_goesOn_243 w243 M x1) := by
  unfold b_X12_goesOn_243
  refine r_aload_n 0 dX12_goesOn_243 rfl rfl ?_
  refine r_iconst dX12_goesOn_244 ⟨by decide, by decide⟩ ?_
  refine r_inv (a := 337) hu ⟨Nat.le_refl _, Nat.le_refl _⟩ dX12_goesOn_245 kM_X12_324 (ci := 12) rfl kd_337 rfl rfl (by decide) (by decide) [(0, 3)] rfl (sk := []) rfl (Nat.le_of_ble_eq_true rfl) rfl rfl (m_X12_isOn hu M 3) (fun r82 M83 => ?_)
  refine r_if_ne (tgt := 275) dX12_goesOn_248 rfl (fun h84 => ?_) (fun h85 => ?_)
  · refine r_aload_n 0 dX12_goesOn_251 rfl rfl ?_
    refine r_iconst dX12_goesOn_252 ⟨by decide, by decide⟩ ?_
    refine r_inv (a := 337) hu ⟨Nat.le_refl _, Nat.le_refl _⟩ dX12_goesOn_253 kM_X12_324 (ci := 12) rfl kd_337 rfl rfl (by decide) (by decide) [(0, 4)] rfl (sk := []) rfl (Nat.le_of_ble_eq_true rfl) rfl rfl (m_X12_isOn hu M83 4) (fun r86 M87 => ?_)
    refine r_if_ne (tgt := 275) dX12_goesOn_256 rfl (fun h88 => ?_) (fun h89 => ?_)
    · refine r_aload_n 0 dX12_goesOn_259 rfl rfl ?_
      refine r_iconst dX12_goesOn_260 ⟨by decide, by decide⟩ ?_
      refine r_inv (a := 337) hu ⟨Nat.le_refl _, Nat.le_refl _⟩ dX12_goesOn_261 kM_X12_324 (ci := 12) rfl kd_337 rfl rfl (by decide) (by decide) [(0, 1)] rfl (sk := []) rfl (Nat.le_of_ble_eq_true rfl) rfl rfl (m_X12_isOn hu M87 1) (fun r90 M91 => ?_)
      refine r_if_ne (tgt := 275) dX12_goesOn_264 rfl (fun h92 => ?_) (fun h93 => ?_)
      · refine r_aload_n 0 dX12_goesOn_267 rfl rfl ?_
        refine r_iconst dX12_goesOn_268 ⟨by decide, by decide⟩ ?_
        refine r_inv (a := 337) hu ⟨Nat.le_refl _, Nat.le_refl _⟩ dX12_goesOn_269 kM_X12_324 (ci := 12) rfl kd_337 rfl rfl (by decide) (by decide) [(0, 2)] rfl (sk := []) rfl (Nat.le_of_ble_eq_true rfl) rfl rfl (m_X12_isOn hu M91 2) (fun r94 M95 => ?_)
        refine r_if_eq (tgt := 282) dX12_goesOn_272 rfl (fun h96 => ?_) (fun h97 => ?_)
        · refine r_aload_n 0 dX12_goesOn_282 rfl rfl ?_
          refine r_gx (kz := 33) rfl hu dX12_goesOn_283 kF_X12_84 kd_337 rfl rfl rfl fx_337_33 ?_
          refine r_aload_n 0 dX12_goesOn_286 rfl rfl ?_
          refine r_gf (t := 0) (kz := 34) rfl hu dX12_goesOn_287 kF_X12_288 kd_337 rfl rfl rfl ?_
          refine r_iload_n 1 dX12_goesOn_290 rfl rfl ?_
          refine r_ok (fun h98 => ?_)
          refine r_iast hu dX12_goesOn_291 kd_361 rfl (Or.inl rfl) rfl ln_361 h98 rfl (fun M99 eM99 => ?_)
          refine r_aload_n 0 dX12_goesOn_292 rfl rfl ?_
          refine r_dup dX12_goesOn_293 (nz2 _) ?_
          refine r_gf (t := 0) (kz := 34) rfl hu dX12_goesOn_294 kF_X12_288 kd_337 rfl rfl rfl ?_
          refine r_iconst dX12_goesOn_297 ⟨by decide, by decide⟩ ?_
          refine r_ok (fun h100 => ?_)
          refine r_iadd dX12_goesOn_298 h100 ?_
          refine r_pf (t := 0) (kz := 34) rfl hu dX12_goesOn_299 kF_X12_288 kd_337 rfl rfl rfl (fun h => absurd h (by decide)) rfl kX_12_34 (fun M101 eM101 => ?_)
          refine r_iconst dX12_goesOn_302 ⟨by decide, by decide⟩ ?_
          exact r_iret rfl rfl (Or.inr ⟨rfl, Or.inr rfl⟩) dX12_goesOn_303
        · exact tj_X12_goesOn_275 hu w243 hw243 M95 x1
      · exact tj_X12_goesOn_275 hu w243 hw243 M91 x1
    · exact tj_X12_goesOn_275 hu w243 hw243 M87 x1
  · exact tj_X12_goesOn_275 hu w243 hw243 M83 x1
set_option maxRecDepth 100000 in
theorem tj_X12_goesOn_221 {g : GT} {n nf : Int} (hu : Up false nf n) (M : Mem) : AW g false RX12 cX12_goesOn 2 (some .boolean) (3) n n nf 221 [(0, 2, 337)] [] n M (j_X12_goesOn_221 M) := by
  unfold j_X12_goesOn_221
  refine r_aload_n 0 dX12_goesOn_221 rfl rfl ?_
  refine r_gx (kz := 0) rfl hu dX12_goesOn_222 kF_X12_7 kd_337 rfl rfl rfl fx_337_0 ?_
  refine r_aload_n 0 dX12_goesOn_225 rfl rfl ?_
  refine r_gf (t := 0) (kz := 2) rfl hu dX12_goesOn_226 kF_X12_233 kd_337 rfl rfl rfl ?_
  refine r_iconst dX12_goesOn_229 ⟨by decide, by decide⟩ ?_
  refine r_ok (fun h78 => ?_)
  refine r_isub dX12_goesOn_230 h78 ?_
  refine r_ok (fun h79 => ?_)
  refine r_iald hu dX12_goesOn_231 kd_338 rfl (Or.inl rfl) rfl ln_338 h79 ?_
  refine r_bipush dX12_goesOn_232 (by decide) ⟨by decide, by decide⟩ ?_
  refine r_icmp_ne (tgt := 241) dX12_goesOn_234 rfl (fun h80 => ?_) (fun h81 => ?_)
  · refine r_iconst dX12_goesOn_237 ⟨by decide, by decide⟩ ?_
    refine r_goto (tgt := 242) dX12_goesOn_238 rfl ?_
    refine r_istore_n dX12_goesOn_242 rfl (by decide) (ls' := [(1, 0, 1), (0, 2, 337)]) rfl ?_
    refine r_sub [1, 0] (ls' := [(0, 2, 337), (1, 0, 1)]) rfl ?_
    exact wl1_aw (P := fun M x1 o => AW g false RX12 cX12_goesOn 2 (some .boolean) (3) n n nf 243 [(0, 2, 337), (1, 0, x1)] [] n M (o)) (fun M x1 => aw_none) (fun w hw M x1 => tb_X12_goesOn_243 hu w hw M x1) FU M 1
  · refine r_iconst dX12_goesOn_241 ⟨by decide, by decide⟩ ?_
    refine r_istore_n dX12_goesOn_242 rfl (by decide) (ls' := [(1, 0, 2), (0, 2, 337)]) rfl ?_
    refine r_sub [1, 0] (ls' := [(0, 2, 337), (1, 0, 2)]) rfl ?_
    exact wl1_aw (P := fun M x1 o => AW g false RX12 cX12_goesOn 2 (some .boolean) (3) n n nf 243 [(0, 2, 337), (1, 0, x1)] [] n M (o)) (fun M x1 => aw_none) (fun w hw M x1 => tb_X12_goesOn_243 hu w hw M x1) FU M 2
set_option maxRecDepth 100000 in
theorem tj_X12_goesOn_174 {g : GT} {n nf : Int} (hu : Up false nf n) (w158 : Mem → Int → Res) (hw158 : ∀ (M : Mem) (x1 : Int), AW g false RX12 cX12_goesOn 2 (some .boolean) (3) n n nf 158 [(0, 2, 337), (1, 0, x1)] [] n M (w158 M x1)) (M : Mem) (x1 : Int) : AW g false RX12 cX12_goesOn 2 (some .boolean) (3) n n nf 174 [(0, 2, 337), (1, 0, x1)] [] n M (j_X12_goesOn_174 w158 M x1) := by
  unfold j_X12_goesOn_174
  refine r_aload_n 0 dX12_goesOn_174 rfl rfl ?_
  refine r_invv (a := 337) hu ⟨Nat.le_refl _, Nat.le_refl _⟩ dX12_goesOn_175 kM_X12_301 (ci := 12) rfl kd_337 rfl rfl (by decide) (by decide) [] rfl (sk := []) rfl (Nat.le_of_ble_eq_true rfl) rfl (m_X12_drops hu M) (fun r120 M121 => ?_)
  refine r_goto (tgt := 158) dX12_goesOn_178 rfl ?_
  exact hw158 M121 x1
set_option maxRecDepth 100000 in
theorem tb_X12_goesOn_158 {g : GT} {n nf : Int} (hu : Up false nf n) (w158 : Mem → Int → Res) (hw158 : ∀ (M : Mem) (x1 : Int), AW g false RX12 cX12_goesOn 2 (some .boolean) (3) n n nf 158 [(0, 2, 337), (1, 0, x1)] [] n M (w158 M x1)) (M : Mem) (x1 : Int) : AW g false RX12 cX12_goesOn 2 (some .boolean) (3) n n nf 158 [(0, 2, 337), (1, 0, x1)] [] n M (b_X12_goesOn_158 w158 M x1) := by
  unfold b_X12_goesOn_158
  refine r_aload_n 0 dX12_goesOn_158 rfl rfl ?_
  refine r_iconst dX12_goesOn_159 ⟨by decide, by decide⟩ ?_
  refine r_inv (a := 337) hu ⟨Nat.le_refl _, Nat.le_refl _⟩ dX12_goesOn_160 kM_X12_324 (ci := 12) rfl kd_337 rfl rfl (by decide) (by decide) [(0, 3)] rfl (sk := []) rfl (Nat.le_of_ble_eq_true rfl) rfl rfl (m_X12_isOn hu M 3) (fun r108 M109 => ?_)
  refine r_if_ne (tgt := 174) dX12_goesOn_163 rfl (fun h110 => ?_) (fun h111 => ?_)
  · refine r_aload_n 0 dX12_goesOn_166 rfl rfl ?_
    refine r_iconst dX12_goesOn_167 ⟨by decide, by decide⟩ ?_
    refine r_inv (a := 337) hu ⟨Nat.le_refl _, Nat.le_refl _⟩ dX12_goesOn_168 kM_X12_324 (ci := 12) rfl kd_337 rfl rfl (by decide) (by decide) [(0, 4)] rfl (sk := []) rfl (Nat.le_of_ble_eq_true rfl) rfl rfl (m_X12_isOn hu M109 4) (fun r112 M113 => ?_)
    refine r_if_eq (tgt := 181) dX12_goesOn_171 rfl (fun h114 => ?_) (fun h115 => ?_)
    · refine r_aload_n 0 dX12_goesOn_181 rfl rfl ?_
      refine r_gx (kz := 33) rfl hu dX12_goesOn_182 kF_X12_84 kd_337 rfl rfl rfl fx_337_33 ?_
      refine r_aload_n 0 dX12_goesOn_185 rfl rfl ?_
      refine r_gf (t := 0) (kz := 34) rfl hu dX12_goesOn_186 kF_X12_288 kd_337 rfl rfl rfl ?_
      refine r_iload_n 1 dX12_goesOn_189 rfl rfl ?_
      refine r_ok (fun h116 => ?_)
      refine r_iast hu dX12_goesOn_190 kd_361 rfl (Or.inl rfl) rfl ln_361 h116 rfl (fun M117 eM117 => ?_)
      refine r_aload_n 0 dX12_goesOn_191 rfl rfl ?_
      refine r_dup dX12_goesOn_192 (nz2 _) ?_
      refine r_gf (t := 0) (kz := 34) rfl hu dX12_goesOn_193 kF_X12_288 kd_337 rfl rfl rfl ?_
      refine r_iconst dX12_goesOn_196 ⟨by decide, by decide⟩ ?_
      refine r_ok (fun h118 => ?_)
      refine r_iadd dX12_goesOn_197 h118 ?_
      refine r_pf (t := 0) (kz := 34) rfl hu dX12_goesOn_198 kF_X12_288 kd_337 rfl rfl rfl (fun h => absurd h (by decide)) rfl kX_12_34 (fun M119 eM119 => ?_)
      refine r_iconst dX12_goesOn_201 ⟨by decide, by decide⟩ ?_
      exact r_iret rfl rfl (Or.inr ⟨rfl, Or.inr rfl⟩) dX12_goesOn_202
    · exact tj_X12_goesOn_174 hu w158 hw158 M113 x1
  · exact tj_X12_goesOn_174 hu w158 hw158 M109 x1
set_option maxRecDepth 100000 in
theorem tj_X12_goesOn_136 {g : GT} {n nf : Int} (hu : Up false nf n) (M : Mem) : AW g false RX12 cX12_goesOn 2 (some .boolean) (3) n n nf 136 [(0, 2, 337)] [] n M (j_X12_goesOn_136 M) := by
  unfold j_X12_goesOn_136
  refine r_aload_n 0 dX12_goesOn_136 rfl rfl ?_
  refine r_gx (kz := 0) rfl hu dX12_goesOn_137 kF_X12_7 kd_337 rfl rfl rfl fx_337_0 ?_
  refine r_aload_n 0 dX12_goesOn_140 rfl rfl ?_
  refine r_gf (t := 0) (kz := 2) rfl hu dX12_goesOn_141 kF_X12_233 kd_337 rfl rfl rfl ?_
  refine r_iconst dX12_goesOn_144 ⟨by decide, by decide⟩ ?_
  refine r_ok (fun h104 => ?_)
  refine r_isub dX12_goesOn_145 h104 ?_
  refine r_ok (fun h105 => ?_)
  refine r_iald hu dX12_goesOn_146 kd_338 rfl (Or.inl rfl) rfl ln_338 h105 ?_
  refine r_bipush dX12_goesOn_147 (by decide) ⟨by decide, by decide⟩ ?_
  refine r_icmp_ne (tgt := 156) dX12_goesOn_149 rfl (fun h106 => ?_) (fun h107 => ?_)
  · refine r_iconst dX12_goesOn_152 ⟨by decide, by decide⟩ ?_
    refine r_goto (tgt := 157) dX12_goesOn_153 rfl ?_
    refine r_istore_n dX12_goesOn_157 rfl (by decide) (ls' := [(1, 0, 3), (0, 2, 337)]) rfl ?_
    refine r_sub [1, 0] (ls' := [(0, 2, 337), (1, 0, 3)]) rfl ?_
    exact wl1_aw (P := fun M x1 o => AW g false RX12 cX12_goesOn 2 (some .boolean) (3) n n nf 158 [(0, 2, 337), (1, 0, x1)] [] n M (o)) (fun M x1 => aw_none) (fun w hw M x1 => tb_X12_goesOn_158 hu w hw M x1) FU M 3
  · refine r_iconst dX12_goesOn_156 ⟨by decide, by decide⟩ ?_
    refine r_istore_n dX12_goesOn_157 rfl (by decide) (ls' := [(1, 0, 4), (0, 2, 337)]) rfl ?_
    refine r_sub [1, 0] (ls' := [(0, 2, 337), (1, 0, 4)]) rfl ?_
    exact wl1_aw (P := fun M x1 o => AW g false RX12 cX12_goesOn 2 (some .boolean) (3) n n nf 158 [(0, 2, 337), (1, 0, x1)] [] n M (o)) (fun M x1 => aw_none) (fun w hw M x1 => tb_X12_goesOn_158 hu w hw M x1) FU M 4
set_option maxRecDepth 100000 in
theorem tj_X12_goesOn_118 {g : GT} {n nf : Int} (hu : Up false nf n) (M : Mem) : AW g false RX12 cX12_goesOn 2 (some .boolean) (3) n n nf 118 [(0, 2, 337)] [] n M (j_X12_goesOn_118 M) := by
  unfold j_X12_goesOn_118
  refine r_aload_n 0 dX12_goesOn_118 rfl rfl ?_
  refine r_bipush dX12_goesOn_119 (by decide) ⟨by decide, by decide⟩ ?_
  refine r_inv (a := 337) hu ⟨Nat.le_refl _, Nat.le_refl _⟩ dX12_goesOn_121 kM_X12_261 (ci := 12) rfl kd_337 rfl rfl (by decide) (by decide) [(0, 42)] rfl (sk := []) rfl (Nat.le_of_ble_eq_true rfl) rfl rfl (m_X12_takesSign hu M 42) (fun r36 M37 => ?_)
  refine r_if_ne (tgt := 136) dX12_goesOn_124 rfl (fun h38 => ?_) (fun h39 => ?_)
  · refine r_aload_n 0 dX12_goesOn_127 rfl rfl ?_
    refine r_bipush dX12_goesOn_128 (by decide) ⟨by decide, by decide⟩ ?_
    refine r_inv (a := 337) hu ⟨Nat.le_refl _, Nat.le_refl _⟩ dX12_goesOn_130 kM_X12_261 (ci := 12) rfl kd_337 rfl rfl (by decide) (by decide) [(0, 47)] rfl (sk := []) rfl (Nat.le_of_ble_eq_true rfl) rfl rfl (m_X12_takesSign hu M37 47) (fun r40 M41 => ?_)
    refine r_if_eq (tgt := 203) dX12_goesOn_133 rfl (fun h42 => ?_) (fun h43 => ?_)
    · refine r_aload_n 0 dX12_goesOn_203 rfl rfl ?_
      refine r_bipush dX12_goesOn_204 (by decide) ⟨by decide, by decide⟩ ?_
      refine r_inv (a := 337) hu ⟨Nat.le_refl _, Nat.le_refl _⟩ dX12_goesOn_206 kM_X12_261 (ci := 12) rfl kd_337 rfl rfl (by decide) (by decide) [(0, 43)] rfl (sk := []) rfl (Nat.le_of_ble_eq_true rfl) rfl rfl (m_X12_takesSign hu M41 43) (fun r44 M45 => ?_)
      refine r_if_ne (tgt := 221) dX12_goesOn_209 rfl (fun h46 => ?_) (fun h47 => ?_)
      · refine r_aload_n 0 dX12_goesOn_212 rfl rfl ?_
        refine r_bipush dX12_goesOn_213 (by decide) ⟨by decide, by decide⟩ ?_
        refine r_inv (a := 337) hu ⟨Nat.le_refl _, Nat.le_refl _⟩ dX12_goesOn_215 kM_X12_261 (ci := 12) rfl kd_337 rfl rfl (by decide) (by decide) [(0, 45)] rfl (sk := []) rfl (Nat.le_of_ble_eq_true rfl) rfl rfl (m_X12_takesSign hu M45 45) (fun r48 M49 => ?_)
        refine r_if_eq (tgt := 304) dX12_goesOn_218 rfl (fun h50 => ?_) (fun h51 => ?_)
        · refine r_aload_n 0 dX12_goesOn_304 rfl rfl ?_
          refine r_inv (a := 337) hu ⟨Nat.le_refl _, Nat.le_refl _⟩ dX12_goesOn_305 kM_X12_318 (ci := 12) rfl kd_337 rfl rfl (by decide) (by decide) [] rfl (sk := []) rfl (Nat.le_of_ble_eq_true rfl) rfl rfl (m_X12_mark hu M49) (fun r52 M53 => ?_)
          refine r_bipush dX12_goesOn_308 (by decide) ⟨by decide, by decide⟩ ?_
          refine r_icmp_eq (tgt := 322) dX12_goesOn_310 rfl (fun h54 => ?_) (fun h55 => ?_)
          · exact tj_X12_goesOn_322 hu M53
          · refine r_aload_n 0 dX12_goesOn_313 rfl rfl ?_
            refine r_inv (a := 337) hu ⟨Nat.le_refl _, Nat.le_refl _⟩ dX12_goesOn_314 kM_X12_318 (ci := 12) rfl kd_337 rfl rfl (by decide) (by decide) [] rfl (sk := []) rfl (Nat.le_of_ble_eq_true rfl) rfl rfl (m_X12_mark hu M53) (fun r66 M67 => ?_)
            refine r_bipush dX12_goesOn_317 (by decide) ⟨by decide, by decide⟩ ?_
            refine r_icmp_ne (tgt := 358) dX12_goesOn_319 rfl (fun h68 => ?_) (fun h69 => ?_)
            · exact tj_X12_goesOn_322 hu M67
            · refine r_aload_n 0 dX12_goesOn_358 rfl rfl ?_
              refine r_inv (a := 337) hu ⟨Nat.le_refl _, Nat.le_refl _⟩ dX12_goesOn_359 kM_X12_318 (ci := 12) rfl kd_337 rfl rfl (by decide) (by decide) [] rfl (sk := []) rfl (Nat.le_of_ble_eq_true rfl) rfl rfl (m_X12_mark hu M67) (fun r70 M71 => ?_)
              refine r_iconst dX12_goesOn_362 ⟨by decide, by decide⟩ ?_
              refine r_icmp_eq (tgt := 382) dX12_goesOn_363 rfl (fun h72 => ?_) (fun h73 => ?_)
              · refine r_iconst dX12_goesOn_382 ⟨by decide, by decide⟩ ?_
                exact r_iret rfl rfl (Or.inr ⟨rfl, Or.inl rfl⟩) dX12_goesOn_383
              · refine r_aload_n 0 dX12_goesOn_366 rfl rfl ?_
                refine r_gf (t := 0) (kz := 5) rfl hu dX12_goesOn_367 kF_X12_227 kd_337 rfl rfl rfl ?_
                refine r_if_ne (tgt := 382) dX12_goesOn_370 rfl (fun h74 => ?_) (fun h75 => ?_)
                · refine r_aload_n 0 dX12_goesOn_373 rfl rfl ?_
                  refine r_iconst dX12_goesOn_374 ⟨by decide, by decide⟩ ?_
                  refine r_aload_n 0 dX12_goesOn_375 rfl rfl ?_
                  refine r_gf (t := 0) (kz := 2) rfl hu dX12_goesOn_376 kF_X12_233 kd_337 rfl rfl rfl ?_
                  refine r_invv (a := 337) hu ⟨Nat.le_refl _, Nat.le_refl _⟩ dX12_goesOn_379 kM_X12_257 (ci := 12) rfl kd_337 rfl rfl (by decide) (by decide) [(0, 1), (0, M71 337 2)] rfl (sk := []) rfl (Nat.le_of_ble_eq_true rfl) rfl (m_X12_fail hu M71 1 (M71 337 2)) (fun r76 M77 => ?_)
                  refine r_iconst dX12_goesOn_382 ⟨by decide, by decide⟩ ?_
                  exact r_iret rfl rfl (Or.inr ⟨rfl, Or.inl rfl⟩) dX12_goesOn_383
                · refine r_iconst dX12_goesOn_382 ⟨by decide, by decide⟩ ?_
                  exact r_iret rfl rfl (Or.inr ⟨rfl, Or.inl rfl⟩) dX12_goesOn_383
        · exact tj_X12_goesOn_221 hu M49
      · exact tj_X12_goesOn_221 hu M45
    · exact tj_X12_goesOn_136 hu M41
  · exact tj_X12_goesOn_136 hu M37
set_option maxRecDepth 100000 in
theorem tb_X12_goesOn_0 {g : GT} {n nf : Int} (hu : Up false nf n) (w0 : Mem → Res) (hw0 : ∀ (M : Mem), AW g false RX12 cX12_goesOn 2 (some .boolean) (3) n n nf 0 [(0, 2, 337)] [] n M (w0 M)) (M : Mem) : AW g false RX12 cX12_goesOn 2 (some .boolean) (3) n n nf 0 [(0, 2, 337)] [] n M (b_X12_goesOn_0 w0 M) := by
  unfold b_X12_goesOn_0
  refine r_aload_n 0 dX12_goesOn_0 rfl rfl ?_
  refine r_gf (t := 0) (kz := 5) rfl hu dX12_goesOn_1 kF_X12_227 kd_337 rfl rfl rfl ?_
  refine r_if_ne (tgt := 118) dX12_goesOn_4 rfl (fun h1 => ?_) (fun h2 => ?_)
  · refine r_aload_n 0 dX12_goesOn_7 rfl rfl ?_
    refine r_inv (a := 337) hu ⟨Nat.le_refl _, Nat.le_refl _⟩ dX12_goesOn_8 kM_X12_239 (ci := 12) rfl kd_337 rfl rfl (by decide) (by decide) [] rfl (sk := []) rfl (Nat.le_of_ble_eq_true rfl) rfl rfl (m_X12_look hu M) (fun r3 M4 => ?_)
    refine r_bipush dX12_goesOn_11 (by decide) ⟨by decide, by decide⟩ ?_
    refine r_icmp_ne (tgt := 118) dX12_goesOn_13 rfl (fun h5 => ?_) (fun h6 => ?_)
    · refine r_aload_n 0 dX12_goesOn_16 rfl rfl ?_
      refine r_inv (a := 337) hu ⟨Nat.le_refl _, Nat.le_refl _⟩ dX12_goesOn_17 kM_X12_318 (ci := 12) rfl kd_337 rfl rfl (by decide) (by decide) [] rfl (sk := []) rfl (Nat.le_of_ble_eq_true rfl) rfl rfl (m_X12_mark hu M4) (fun r7 M8 => ?_)
      refine r_bipush dX12_goesOn_20 (by decide) ⟨by decide, by decide⟩ ?_
      refine r_icmp_eq (tgt := 43) dX12_goesOn_22 rfl (fun h9 => ?_) (fun h10 => ?_)
      · exact tj_X12_goesOn_43 hu w0 hw0 M8
      · refine r_aload_n 0 dX12_goesOn_25 rfl rfl ?_
        refine r_inv (a := 337) hu ⟨Nat.le_refl _, Nat.le_refl _⟩ dX12_goesOn_26 kM_X12_318 (ci := 12) rfl kd_337 rfl rfl (by decide) (by decide) [] rfl (sk := []) rfl (Nat.le_of_ble_eq_true rfl) rfl rfl (m_X12_mark hu M8) (fun r28 M29 => ?_)
        refine r_bipush dX12_goesOn_29 (by decide) ⟨by decide, by decide⟩ ?_
        refine r_icmp_eq (tgt := 43) dX12_goesOn_31 rfl (fun h30 => ?_) (fun h31 => ?_)
        · exact tj_X12_goesOn_43 hu w0 hw0 M29
        · refine r_aload_n 0 dX12_goesOn_34 rfl rfl ?_
          refine r_inv (a := 337) hu ⟨Nat.le_refl _, Nat.le_refl _⟩ dX12_goesOn_35 kM_X12_318 (ci := 12) rfl kd_337 rfl rfl (by decide) (by decide) [] rfl (sk := []) rfl (Nat.le_of_ble_eq_true rfl) rfl rfl (m_X12_mark hu M29) (fun r32 M33 => ?_)
          refine r_bipush dX12_goesOn_38 (by decide) ⟨by decide, by decide⟩ ?_
          refine r_icmp_ne (tgt := 118) dX12_goesOn_40 rfl (fun h34 => ?_) (fun h35 => ?_)
          · exact tj_X12_goesOn_43 hu w0 hw0 M33
          · exact tj_X12_goesOn_118 hu M33
    · exact tj_X12_goesOn_118 hu M4
  · exact tj_X12_goesOn_118 hu M
set_option maxRecDepth 100000 in
theorem m_X12_goesOn {g : GT} {n nf : Int} (hu : Up false nf n) (M : Mem) : AM g false yX12_goesOn cX12_goesOn 2 (some .boolean) (3) n n nf [(2, 337)] M (f_X12_goesOn M) := by
  refine AM_of (by decide +kernel) (Nat.le_of_ble_eq_true rfl) (fun h => absurd h (Int.lt_irrefl n)) ?_
  show AW g false RX12 cX12_goesOn 2 (some .boolean) (3) n n nf 0 [(0, 2, 337)] [] n M (f_X12_goesOn M)
  unfold f_X12_goesOn
  exact wl0_aw (P := fun M o => AW g false RX12 cX12_goesOn 2 (some .boolean) (3) n n nf 0 [(0, 2, 337)] [] n M (o)) (fun M => aw_none) (fun w hw M => tb_X12_goesOn_0 hu w hw M) FU M
theorem dX12_sums_0 : decode cX12_sums 0 = .ok (.aload_n 0, 1) := by decide +kernel
theorem dX12_sums_1 : decode cX12_sums 1 = .ok (.getfield 295, 3) := by decide +kernel
theorem dX12_sums_4 : decode cX12_sums 4 = .ok (.istore_n 1, 1) := by decide +kernel
theorem dX12_sums_5 : decode cX12_sums 5 = .ok (.aload_n 0, 1) := by decide +kernel
theorem dX12_sums_6 : decode cX12_sums 6 = .ok (.aload_n 0, 1) := by decide +kernel
theorem dX12_sums_7 : decode cX12_sums 7 = .ok (.getfield 288, 3) := by decide +kernel
theorem dX12_sums_10 : decode cX12_sums 10 = .ok (.putfield 295, 3) := by decide +kernel
theorem dX12_sums_13 : decode cX12_sums 13 = .ok (.iconst 1, 1) := by decide +kernel
theorem dX12_sums_14 : decode cX12_sums 14 = .ok (.istore_n 2, 1) := by decide +kernel
theorem dX12_sums_15 : decode cX12_sums 15 = .ok (.iload_n 2, 1) := by decide +kernel
theorem dX12_sums_16 : decode cX12_sums 16 = .ok (.ifCond .eq 37, 3) := by decide +kernel
theorem dX12_sums_19 : decode cX12_sums 19 = .ok (.aload_n 0, 1) := by decide +kernel
theorem dX12_sums_20 : decode cX12_sums 20 = .ok (.getfield 227, 3) := by decide +kernel
theorem dX12_sums_23 : decode cX12_sums 23 = .ok (.ifCond .ne 30, 3) := by decide +kernel
theorem dX12_sums_26 : decode cX12_sums 26 = .ok (.aload_n 0, 1) := by decide +kernel
theorem dX12_sums_27 : decode cX12_sums 27 = .ok (.invokevirtual 327, 3) := by decide +kernel
theorem dX12_sums_30 : decode cX12_sums 30 = .ok (.aload_n 0, 1) := by decide +kernel
theorem dX12_sums_31 : decode cX12_sums 31 = .ok (.getfield 227, 3) := by decide +kernel
theorem dX12_sums_34 : decode cX12_sums 34 = .ok (.ifCond .ne 14, 3) := by decide +kernel
theorem dX12_sums_37 : decode cX12_sums 37 = .ok (.aload_n 0, 1) := by decide +kernel
theorem dX12_sums_38 : decode cX12_sums 38 = .ok (.invokevirtual 330, 3) := by decide +kernel
theorem dX12_sums_41 : decode cX12_sums 41 = .ok (.ifCond .eq 7, 3) := by decide +kernel
theorem dX12_sums_44 : decode cX12_sums 44 = .ok (.iconst 1, 1) := by decide +kernel
theorem dX12_sums_45 : decode cX12_sums 45 = .ok (.goto 4, 3) := by decide +kernel
theorem dX12_sums_48 : decode cX12_sums 48 = .ok (.iconst 0, 1) := by decide +kernel
theorem dX12_sums_49 : decode cX12_sums 49 = .ok (.istore_n 2, 1) := by decide +kernel
theorem dX12_sums_50 : decode cX12_sums 50 = .ok (.goto (-35), 3) := by decide +kernel
theorem dX12_sums_53 : decode cX12_sums 53 = .ok (.aload_n 0, 1) := by decide +kernel
theorem dX12_sums_54 : decode cX12_sums 54 = .ok (.getfield 227, 3) := by decide +kernel
theorem dX12_sums_57 : decode cX12_sums 57 = .ok (.ifCond .ne 21, 3) := by decide +kernel
theorem dX12_sums_60 : decode cX12_sums 60 = .ok (.aload_n 0, 1) := by decide +kernel
theorem dX12_sums_61 : decode cX12_sums 61 = .ok (.getfield 288, 3) := by decide +kernel
theorem dX12_sums_64 : decode cX12_sums 64 = .ok (.aload_n 0, 1) := by decide +kernel
theorem dX12_sums_65 : decode cX12_sums 65 = .ok (.getfield 295, 3) := by decide +kernel
theorem dX12_sums_68 : decode cX12_sums 68 = .ok (.if_icmp .le 10, 3) := by decide +kernel
theorem dX12_sums_71 : decode cX12_sums 71 = .ok (.aload_n 0, 1) := by decide +kernel
theorem dX12_sums_72 : decode cX12_sums 72 = .ok (.invokevirtual 301, 3) := by decide +kernel
theorem dX12_sums_75 : decode cX12_sums 75 = .ok (.goto (-22), 3) := by decide +kernel
theorem dX12_sums_78 : decode cX12_sums 78 = .ok (.aload_n 0, 1) := by decide +kernel
theorem dX12_sums_79 : decode cX12_sums 79 = .ok (.iload_n 1, 1) := by decide +kernel
theorem dX12_sums_80 : decode cX12_sums 80 = .ok (.putfield 295, 3) := by decide +kernel
theorem dX12_sums_83 : decode cX12_sums 83 = .ok (.return_, 1) := by decide +kernel
set_option maxRecDepth 100000 in
theorem tb_X12_sums_53 {g : GT} {n nf : Int} (hu : Up false nf n) (w53 : Mem → Int → Res) (hw53 : ∀ (M : Mem) (x1 : Int), AW g false RX12 cX12_sums 3 none (5) n n nf 53 [(0, 2, 337), (1, 0, x1)] [] n M (w53 M x1)) (M : Mem) (x1 : Int) : AW g false RX12 cX12_sums 3 none (5) n n nf 53 [(0, 2, 337), (1, 0, x1)] [] n M (b_X12_sums_53 w53 M x1) := by
  unfold b_X12_sums_53
  refine r_aload_n 0 dX12_sums_53 rfl rfl ?_
  refine r_gf (t := 0) (kz := 5) rfl hu dX12_sums_54 kF_X12_227 kd_337 rfl rfl rfl ?_
  refine r_if_ne (tgt := 78) dX12_sums_57 rfl (fun h5 => ?_) (fun h6 => ?_)
  · refine r_aload_n 0 dX12_sums_60 rfl rfl ?_
    refine r_gf (t := 0) (kz := 34) rfl hu dX12_sums_61 kF_X12_288 kd_337 rfl rfl rfl ?_
    refine r_aload_n 0 dX12_sums_64 rfl rfl ?_
    refine r_gf (t := 0) (kz := 51) rfl hu dX12_sums_65 kF_X12_295 kd_337 rfl rfl rfl ?_
    refine r_icmp_le (tgt := 78) dX12_sums_68 rfl (fun h7 => ?_) (fun h8 => ?_)
    · refine r_aload_n 0 dX12_sums_78 rfl rfl ?_
      refine r_iload_n 1 dX12_sums_79 rfl rfl ?_
      refine r_pf (t := 0) (kz := 51) rfl hu dX12_sums_80 kF_X12_295 kd_337 rfl rfl rfl (fun h => absurd h (by decide)) rfl kX_12_51 (fun M9 eM9 => ?_)
      exact r_vret rfl rfl dX12_sums_83
    · refine r_aload_n 0 dX12_sums_71 rfl rfl ?_
      refine r_invv (a := 337) hu ⟨Nat.le_refl _, Nat.le_refl _⟩ dX12_sums_72 kM_X12_301 (ci := 12) rfl kd_337 rfl rfl (by decide) (by decide) [] rfl (sk := []) rfl (Nat.le_of_ble_eq_true rfl) rfl (m_X12_drops hu M) (fun r10 M11 => ?_)
      refine r_goto (tgt := 53) dX12_sums_75 rfl ?_
      exact hw53 M11 x1
  · refine r_aload_n 0 dX12_sums_78 rfl rfl ?_
    refine r_iload_n 1 dX12_sums_79 rfl rfl ?_
    refine r_pf (t := 0) (kz := 51) rfl hu dX12_sums_80 kF_X12_295 kd_337 rfl rfl rfl (fun h => absurd h (by decide)) rfl kX_12_51 (fun M12 eM12 => ?_)
    exact r_vret rfl rfl dX12_sums_83
set_option maxRecDepth 100000 in
theorem tb_X12_sums_15 {g : GT} {n nf : Int} (hu : Up false nf n) (w15 : Mem → Int → Int → Res) (hw15 : ∀ (M : Mem) (x1 x2 : Int), AW g false RX12 cX12_sums 3 none (5) n n nf 15 [(0, 2, 337), (1, 0, x1), (2, 0, x2)] [] n M (w15 M x1 x2)) (M : Mem) (x1 x2 : Int) : AW g false RX12 cX12_sums 3 none (5) n n nf 15 [(0, 2, 337), (1, 0, x1), (2, 0, x2)] [] n M (b_X12_sums_15 w15 M x1 x2) := by
  unfold b_X12_sums_15
  refine r_iload_n 2 dX12_sums_15 rfl rfl ?_
  refine r_if_eq (tgt := 53) dX12_sums_16 rfl (fun h3 => ?_) (fun h4 => ?_)
  · refine r_sub [0, 1] (ls' := [(0, 2, 337), (1, 0, x1)]) rfl ?_
    exact wl1_aw (P := fun M x1 o => AW g false RX12 cX12_sums 3 none (5) n n nf 53 [(0, 2, 337), (1, 0, x1)] [] n M (o)) (fun M x1 => aw_none) (fun w hw M x1 => tb_X12_sums_53 hu w hw M x1) FU M x1
  · refine r_aload_n 0 dX12_sums_19 rfl rfl ?_
    refine r_gf (t := 0) (kz := 5) rfl hu dX12_sums_20 kF_X12_227 kd_337 rfl rfl rfl ?_
    refine r_if_ne (tgt := 53) dX12_sums_23 rfl (fun h13 => ?_) (fun h14 => ?_)
    · refine r_aload_n 0 dX12_sums_26 rfl rfl ?_
      refine r_invv (a := 337) hu ⟨Nat.le_refl _, Nat.le_refl _⟩ dX12_sums_27 kM_X12_327 (ci := 12) rfl kd_337 rfl rfl (by decide) (by decide) [] rfl (sk := []) rfl (Nat.le_of_ble_eq_true rfl) rfl (m_X12_onePart hu M) (fun r15 M16 => ?_)
      refine r_aload_n 0 dX12_sums_30 rfl rfl ?_
      refine r_gf (t := 0) (kz := 5) rfl hu dX12_sums_31 kF_X12_227 kd_337 rfl rfl rfl ?_
      refine r_if_ne (tgt := 48) dX12_sums_34 rfl (fun h17 => ?_) (fun h18 => ?_)
      · refine r_aload_n 0 dX12_sums_37 rfl rfl ?_
        refine r_inv (a := 337) hu ⟨Nat.le_refl _, Nat.le_refl _⟩ dX12_sums_38 kM_X12_330 (ci := 12) rfl kd_337 rfl rfl (by decide) (by decide) [] rfl (sk := []) rfl (Nat.le_of_ble_eq_true rfl) rfl rfl (m_X12_goesOn hu M16) (fun r19 M20 => ?_)
        refine r_if_eq (tgt := 48) dX12_sums_41 rfl (fun h21 => ?_) (fun h22 => ?_)
        · refine r_iconst dX12_sums_48 ⟨by decide, by decide⟩ ?_
          refine r_istore_n dX12_sums_49 rfl (by decide) (ls' := [(2, 0, 0), (0, 2, 337), (1, 0, x1)]) rfl ?_
          refine r_goto (tgt := 15) dX12_sums_50 rfl ?_
          refine r_sub [1, 2, 0] (ls' := [(0, 2, 337), (1, 0, x1), (2, 0, 0)]) rfl ?_
          exact hw15 M20 x1 0
        · refine r_iconst dX12_sums_44 ⟨by decide, by decide⟩ ?_
          refine r_goto (tgt := 49) dX12_sums_45 rfl ?_
          refine r_istore_n dX12_sums_49 rfl (by decide) (ls' := [(2, 0, 1), (0, 2, 337), (1, 0, x1)]) rfl ?_
          refine r_goto (tgt := 15) dX12_sums_50 rfl ?_
          refine r_sub [1, 2, 0] (ls' := [(0, 2, 337), (1, 0, x1), (2, 0, 1)]) rfl ?_
          exact hw15 M20 x1 1
      · refine r_iconst dX12_sums_48 ⟨by decide, by decide⟩ ?_
        refine r_istore_n dX12_sums_49 rfl (by decide) (ls' := [(2, 0, 0), (0, 2, 337), (1, 0, x1)]) rfl ?_
        refine r_goto (tgt := 15) dX12_sums_50 rfl ?_
        refine r_sub [1, 2, 0] (ls' := [(0, 2, 337), (1, 0, x1), (2, 0, 0)]) rfl ?_
        exact hw15 M16 x1 0
    · refine r_sub [0, 1] (ls' := [(0, 2, 337), (1, 0, x1)]) rfl ?_
      exact wl1_aw (P := fun M x1 o => AW g false RX12 cX12_sums 3 none (5) n n nf 53 [(0, 2, 337), (1, 0, x1)] [] n M (o)) (fun M x1 => aw_none) (fun w hw M x1 => tb_X12_sums_53 hu w hw M x1) FU M x1
set_option maxRecDepth 100000 in
theorem m_X12_sums {g : GT} {n nf : Int} (hu : Up false nf n) (M : Mem) : AM g false yX12_sums cX12_sums 3 none (5) n n nf [(2, 337)] M (f_X12_sums M) := by
  refine AM_of (by decide +kernel) (Nat.le_of_ble_eq_true rfl) (fun h => absurd h (Int.lt_irrefl n)) ?_
  show AW g false RX12 cX12_sums 3 none (5) n n nf 0 [(0, 2, 337)] [] n M (f_X12_sums M)
  unfold f_X12_sums
  refine r_aload_n 0 dX12_sums_0 rfl rfl ?_
  refine r_gf (t := 0) (kz := 51) rfl hu dX12_sums_1 kF_X12_295 kd_337 rfl rfl rfl ?_
  refine r_istore_nB dX12_sums_4 rfl (by decide) (lf := fun y1 => [(1, 0, y1), (0, 2, 337)]) (fun _ => rfl) (fun y1 ey1 => ?_)
  refine r_aload_n 1 dX12_sums_5 rfl rfl ?_
  refine r_aload_n 1 dX12_sums_6 rfl rfl ?_
  refine r_gf (t := 0) (kz := 34) rfl hu dX12_sums_7 kF_X12_288 kd_337 rfl rfl rfl ?_
  refine r_pf (t := 0) (kz := 51) rfl hu dX12_sums_10 kF_X12_295 kd_337 rfl rfl rfl (fun h => absurd h (by decide)) rfl kX_12_51 (fun M2 eM2 => ?_)
  refine r_iconst dX12_sums_13 ⟨by decide, by decide⟩ ?_
  refine r_istore_n dX12_sums_14 rfl (by decide) (ls' := [(2, 0, 1), (1, 0, y1), (0, 2, 337)]) rfl ?_
  refine r_sub [2, 1, 0] (ls' := [(0, 2, 337), (1, 0, y1), (2, 0, 1)]) rfl ?_
  exact wl2_aw (P := fun M x1 x2 o => AW g false RX12 cX12_sums 3 none (5) n n nf 15 [(0, 2, 337), (1, 0, x1), (2, 0, x2)] [] n M (o)) (fun M x1 x2 => aw_none) (fun w hw M x1 x2 => tb_X12_sums_15 hu w hw M x1 x2) FU M2 y1 1
theorem dX12_fact_0 : decode cX12_fact 0 = .ok (.aload_n 0, 1) := by decide +kernel
theorem dX12_fact_1 : decode cX12_fact 1 = .ok (.aload_n 0, 1) := by decide +kernel
theorem dX12_fact_2 : decode cX12_fact 2 = .ok (.getfield 57, 3) := by decide +kernel
theorem dX12_fact_5 : decode cX12_fact 5 = .ok (.invokevirtual 254, 3) := by decide +kernel
theorem dX12_fact_8 : decode cX12_fact 8 = .ok (.ifCond .eq 10, 3) := by decide +kernel
theorem dX12_fact_11 : decode cX12_fact 11 = .ok (.aload_n 0, 1) := by decide +kernel
theorem dX12_fact_12 : decode cX12_fact 12 = .ok (.bipush 17, 2) := by decide +kernel
theorem dX12_fact_14 : decode cX12_fact 14 = .ok (.invokevirtual 291, 3) := by decide +kernel
theorem dX12_fact_17 : decode cX12_fact 17 = .ok (.return_, 1) := by decide +kernel
theorem dX12_fact_18 : decode cX12_fact 18 = .ok (.aload_n 0, 1) := by decide +kernel
theorem dX12_fact_19 : decode cX12_fact 19 = .ok (.invokevirtual 333, 3) := by decide +kernel
theorem dX12_fact_22 : decode cX12_fact 22 = .ok (.aload_n 0, 1) := by decide +kernel
theorem dX12_fact_23 : decode cX12_fact 23 = .ok (.getfield 227, 3) := by decide +kernel
theorem dX12_fact_26 : decode cX12_fact 26 = .ok (.ifCond .eq 4, 3) := by decide +kernel
theorem dX12_fact_29 : decode cX12_fact 29 = .ok (.return_, 1) := by decide +kernel
theorem dX12_fact_30 : decode cX12_fact 30 = .ok (.aload_n 0, 1) := by decide +kernel
theorem dX12_fact_31 : decode cX12_fact 31 = .ok (.invokevirtual 239, 3) := by decide +kernel
theorem dX12_fact_34 : decode cX12_fact 34 = .ok (.istore_n 1, 1) := by decide +kernel
theorem dX12_fact_35 : decode cX12_fact 35 = .ok (.iload_n 1, 1) := by decide +kernel
theorem dX12_fact_36 : decode cX12_fact 36 = .ok (.bipush 60, 2) := by decide +kernel
theorem dX12_fact_38 : decode cX12_fact 38 = .ok (.if_icmp .eq 25, 3) := by decide +kernel
theorem dX12_fact_41 : decode cX12_fact 41 = .ok (.iload_n 1, 1) := by decide +kernel
theorem dX12_fact_42 : decode cX12_fact 42 = .ok (.bipush 62, 2) := by decide +kernel
theorem dX12_fact_44 : decode cX12_fact 44 = .ok (.if_icmp .eq 19, 3) := by decide +kernel
theorem dX12_fact_47 : decode cX12_fact 47 = .ok (.iload_n 1, 1) := by decide +kernel
theorem dX12_fact_48 : decode cX12_fact 48 = .ok (.bipush 61, 2) := by decide +kernel
theorem dX12_fact_50 : decode cX12_fact 50 = .ok (.if_icmp .eq 13, 3) := by decide +kernel
theorem dX12_fact_53 : decode cX12_fact 53 = .ok (.aload_n 0, 1) := by decide +kernel
theorem dX12_fact_54 : decode cX12_fact 54 = .ok (.iconst 1, 1) := by decide +kernel
theorem dX12_fact_55 : decode cX12_fact 55 = .ok (.aload_n 0, 1) := by decide +kernel
theorem dX12_fact_56 : decode cX12_fact 56 = .ok (.getfield 233, 3) := by decide +kernel
theorem dX12_fact_59 : decode cX12_fact 59 = .ok (.invokevirtual 257, 3) := by decide +kernel
theorem dX12_fact_62 : decode cX12_fact 62 = .ok (.return_, 1) := by decide +kernel
theorem dX12_fact_63 : decode cX12_fact 63 = .ok (.aload_n 0, 1) := by decide +kernel
theorem dX12_fact_64 : decode cX12_fact 64 = .ok (.dup, 1) := by decide +kernel
theorem dX12_fact_65 : decode cX12_fact 65 = .ok (.getfield 233, 3) := by decide +kernel
theorem dX12_fact_68 : decode cX12_fact 68 = .ok (.iconst 1, 1) := by decide +kernel
theorem dX12_fact_69 : decode cX12_fact 69 = .ok (.iadd, 1) := by decide +kernel
theorem dX12_fact_70 : decode cX12_fact 70 = .ok (.putfield 233, 3) := by decide +kernel
theorem dX12_fact_73 : decode cX12_fact 73 = .ok (.aload_n 0, 1) := by decide +kernel
theorem dX12_fact_74 : decode cX12_fact 74 = .ok (.invokevirtual 333, 3) := by decide +kernel
theorem dX12_fact_77 : decode cX12_fact 77 = .ok (.aload_n 0, 1) := by decide +kernel
theorem dX12_fact_78 : decode cX12_fact 78 = .ok (.iload_n 1, 1) := by decide +kernel
theorem dX12_fact_79 : decode cX12_fact 79 = .ok (.bipush 60, 2) := by decide +kernel
theorem dX12_fact_81 : decode cX12_fact 81 = .ok (.if_icmp .ne 8, 3) := by decide +kernel
theorem dX12_fact_84 : decode cX12_fact 84 = .ok (.bipush 11, 2) := by decide +kernel
theorem dX12_fact_86 : decode cX12_fact 86 = .ok (.goto 16, 3) := by decide +kernel
theorem dX12_fact_89 : decode cX12_fact 89 = .ok (.iload_n 1, 1) := by decide +kernel
theorem dX12_fact_90 : decode cX12_fact 90 = .ok (.bipush 62, 2) := by decide +kernel
theorem dX12_fact_92 : decode cX12_fact 92 = .ok (.if_icmp .ne 8, 3) := by decide +kernel
theorem dX12_fact_95 : decode cX12_fact 95 = .ok (.bipush 12, 2) := by decide +kernel
theorem dX12_fact_97 : decode cX12_fact 97 = .ok (.goto 5, 3) := by decide +kernel
theorem dX12_fact_100 : decode cX12_fact 100 = .ok (.bipush 13, 2) := by decide +kernel
theorem dX12_fact_102 : decode cX12_fact 102 = .ok (.invokevirtual 291, 3) := by decide +kernel
theorem dX12_fact_105 : decode cX12_fact 105 = .ok (.return_, 1) := by decide +kernel
set_option maxRecDepth 100000 in
theorem tj_X12_fact_63 {g : GT} {n nf : Int} (hu : Up false nf n) (M : Mem) (x1 : Int) : AW g false RX12 cX12_fact 2 none (6) n n nf 63 [(0, 2, 337), (1, 0, x1)] [] n M (j_X12_fact_63 M x1) := by
  unfold j_X12_fact_63
  refine r_aload_n 0 dX12_fact_63 rfl rfl ?_
  refine r_dup dX12_fact_64 (nz2 _) ?_
  refine r_gf (t := 0) (kz := 2) rfl hu dX12_fact_65 kF_X12_233 kd_337 rfl rfl rfl ?_
  refine r_iconst dX12_fact_68 ⟨by decide, by decide⟩ ?_
  refine r_ok (fun h13 => ?_)
  refine r_iadd dX12_fact_69 h13 ?_
  refine r_pf (t := 0) (kz := 2) rfl hu dX12_fact_70 kF_X12_233 kd_337 rfl rfl rfl (fun h => absurd h (by decide)) rfl kX_12_2 (fun M14 eM14 => ?_)
  refine r_aload_n 0 dX12_fact_73 rfl rfl ?_
  refine r_invv (a := 337) hu ⟨Nat.le_refl _, Nat.le_refl _⟩ dX12_fact_74 kM_X12_333 (ci := 12) rfl kd_337 rfl rfl (by decide) (by decide) [] rfl (sk := []) rfl (Nat.le_of_ble_eq_true rfl) rfl (m_X12_sums hu M14) (fun r15 M16 => ?_)
  refine r_aload_n 0 dX12_fact_77 rfl rfl ?_
  refine r_iload_n 1 dX12_fact_78 rfl rfl ?_
  refine r_bipush dX12_fact_79 (by decide) ⟨by decide, by decide⟩ ?_
  refine r_icmp_ne (tgt := 89) dX12_fact_81 rfl (fun h17 => ?_) (fun h18 => ?_)
  · refine r_bipush dX12_fact_84 (by decide) ⟨by decide, by decide⟩ ?_
    refine r_goto (tgt := 102) dX12_fact_86 rfl ?_
    refine r_invv (a := 337) hu ⟨Nat.le_refl _, Nat.le_refl _⟩ dX12_fact_102 kM_X12_291 (ci := 12) rfl kd_337 rfl rfl (by decide) (by decide) [(0, 11)] rfl (sk := []) rfl (Nat.le_of_ble_eq_true rfl) rfl (m_X12_code hu M16 11) (fun r19 M20 => ?_)
    exact r_vret rfl rfl dX12_fact_105
  · refine r_iload_n 1 dX12_fact_89 rfl rfl ?_
    refine r_bipush dX12_fact_90 (by decide) ⟨by decide, by decide⟩ ?_
    refine r_icmp_ne (tgt := 100) dX12_fact_92 rfl (fun h21 => ?_) (fun h22 => ?_)
    · refine r_bipush dX12_fact_95 (by decide) ⟨by decide, by decide⟩ ?_
      refine r_goto (tgt := 102) dX12_fact_97 rfl ?_
      refine r_invv (a := 337) hu ⟨Nat.le_refl _, Nat.le_refl _⟩ dX12_fact_102 kM_X12_291 (ci := 12) rfl kd_337 rfl rfl (by decide) (by decide) [(0, 12)] rfl (sk := []) rfl (Nat.le_of_ble_eq_true rfl) rfl (m_X12_code hu M16 12) (fun r23 M24 => ?_)
      exact r_vret rfl rfl dX12_fact_105
    · refine r_bipush dX12_fact_100 (by decide) ⟨by decide, by decide⟩ ?_
      refine r_invv (a := 337) hu ⟨Nat.le_refl _, Nat.le_refl _⟩ dX12_fact_102 kM_X12_291 (ci := 12) rfl kd_337 rfl rfl (by decide) (by decide) [(0, 13)] rfl (sk := []) rfl (Nat.le_of_ble_eq_true rfl) rfl (m_X12_code hu M16 13) (fun r25 M26 => ?_)
      exact r_vret rfl rfl dX12_fact_105
set_option maxRecDepth 100000 in
theorem m_X12_fact {g : GT} {n nf : Int} (hu : Up false nf n) (M : Mem) : AM g false yX12_fact cX12_fact 2 none (6) n n nf [(2, 337)] M (f_X12_fact M) := by
  refine AM_of (by decide +kernel) (Nat.le_of_ble_eq_true rfl) (fun h => absurd h (Int.lt_irrefl n)) ?_
  show AW g false RX12 cX12_fact 2 none (6) n n nf 0 [(0, 2, 337)] [] n M (f_X12_fact M)
  unfold f_X12_fact
  refine r_aload_n 0 dX12_fact_0 rfl rfl ?_
  refine r_aload_n 0 dX12_fact_1 rfl rfl ?_
  refine r_gx (kz := 22) rfl hu dX12_fact_2 kF_X12_57 kd_337 rfl rfl rfl fx_337_22 ?_
  refine r_inv (a := 337) hu ⟨Nat.le_refl _, Nat.le_refl _⟩ dX12_fact_5 kM_X12_254 (ci := 12) rfl kd_337 rfl rfl (by decide) (by decide) [(2, 352)] rfl (sk := []) rfl (Nat.le_of_ble_eq_true rfl) rfl rfl (m_X12_takes hu M 352 kd_352) (fun r1 M2 => ?_)
  refine r_if_eq (tgt := 18) dX12_fact_8 rfl (fun h3 => ?_) (fun h4 => ?_)
  · refine r_aload_n 0 dX12_fact_18 rfl rfl ?_
    refine r_invv (a := 337) hu ⟨Nat.le_refl _, Nat.le_refl _⟩ dX12_fact_19 kM_X12_333 (ci := 12) rfl kd_337 rfl rfl (by decide) (by decide) [] rfl (sk := []) rfl (Nat.le_of_ble_eq_true rfl) rfl (m_X12_sums hu M2) (fun r5 M6 => ?_)
    refine r_aload_n 0 dX12_fact_22 rfl rfl ?_
    refine r_gf (t := 0) (kz := 5) rfl hu dX12_fact_23 kF_X12_227 kd_337 rfl rfl rfl ?_
    refine r_if_eq (tgt := 30) dX12_fact_26 rfl (fun h7 => ?_) (fun h8 => ?_)
    · refine r_aload_n 0 dX12_fact_30 rfl rfl ?_
      refine r_inv (a := 337) hu ⟨Nat.le_refl _, Nat.le_refl _⟩ dX12_fact_31 kM_X12_239 (ci := 12) rfl kd_337 rfl rfl (by decide) (by decide) [] rfl (sk := []) rfl (Nat.le_of_ble_eq_true rfl) rfl rfl (m_X12_look hu M6) (fun r9 M10 => ?_)
      refine r_istore_n dX12_fact_34 rfl (by decide) (ls' := [(1, 0, r9), (0, 2, 337)]) rfl ?_
      refine r_iload_n 0 dX12_fact_35 rfl rfl ?_
      refine r_bipush dX12_fact_36 (by decide) ⟨by decide, by decide⟩ ?_
      refine r_icmp_eq (tgt := 63) dX12_fact_38 rfl (fun h11 => ?_) (fun h12 => ?_)
      · refine r_sub [1, 0] (ls' := [(0, 2, 337), (1, 0, r9)]) rfl ?_
        exact tj_X12_fact_63 hu M10 r9
      · refine r_iload_n 0 dX12_fact_41 rfl rfl ?_
        refine r_bipush dX12_fact_42 (by decide) ⟨by decide, by decide⟩ ?_
        refine r_icmp_eq (tgt := 63) dX12_fact_44 rfl (fun h27 => ?_) (fun h28 => ?_)
        · refine r_sub [1, 0] (ls' := [(0, 2, 337), (1, 0, r9)]) rfl ?_
          exact tj_X12_fact_63 hu M10 r9
        · refine r_iload_n 0 dX12_fact_47 rfl rfl ?_
          refine r_bipush dX12_fact_48 (by decide) ⟨by decide, by decide⟩ ?_
          refine r_icmp_eq (tgt := 63) dX12_fact_50 rfl (fun h29 => ?_) (fun h30 => ?_)
          · refine r_sub [1, 0] (ls' := [(0, 2, 337), (1, 0, r9)]) rfl ?_
            exact tj_X12_fact_63 hu M10 r9
          · refine r_aload_n 1 dX12_fact_53 rfl rfl ?_
            refine r_iconst dX12_fact_54 ⟨by decide, by decide⟩ ?_
            refine r_aload_n 1 dX12_fact_55 rfl rfl ?_
            refine r_gf (t := 0) (kz := 2) rfl hu dX12_fact_56 kF_X12_233 kd_337 rfl rfl rfl ?_
            refine r_invv (a := 337) hu ⟨Nat.le_refl _, Nat.le_refl _⟩ dX12_fact_59 kM_X12_257 (ci := 12) rfl kd_337 rfl rfl (by decide) (by decide) [(0, 1), (0, M10 337 2)] rfl (sk := []) rfl (Nat.le_of_ble_eq_true rfl) rfl (m_X12_fail hu M10 1 (M10 337 2)) (fun r31 M32 => ?_)
            exact r_vret rfl rfl dX12_fact_62
    · exact r_vret rfl rfl dX12_fact_29
  · refine r_aload_n 0 dX12_fact_11 rfl rfl ?_
    refine r_bipush dX12_fact_12 (by decide) ⟨by decide, by decide⟩ ?_
    refine r_invv (a := 337) hu ⟨Nat.le_refl _, Nat.le_refl _⟩ dX12_fact_14 kM_X12_291 (ci := 12) rfl kd_337 rfl rfl (by decide) (by decide) [(0, 17)] rfl (sk := []) rfl (Nat.le_of_ble_eq_true rfl) rfl (m_X12_code hu M2 17) (fun r33 M34 => ?_)
    exact r_vret rfl rfl dX12_fact_17
theorem dX12_hasSquare_0 : decode cX12_hasSquare 0 = .ok (.iconst 0, 1) := by decide +kernel
theorem dX12_hasSquare_1 : decode cX12_hasSquare 1 = .ok (.istore_n 1, 1) := by decide +kernel
theorem dX12_hasSquare_2 : decode cX12_hasSquare 2 = .ok (.iload_n 1, 1) := by decide +kernel
theorem dX12_hasSquare_3 : decode cX12_hasSquare 3 = .ok (.aload_n 0, 1) := by decide +kernel
theorem dX12_hasSquare_4 : decode cX12_hasSquare 4 = .ok (.getfield 288, 3) := by decide +kernel
theorem dX12_hasSquare_7 : decode cX12_hasSquare 7 = .ok (.if_icmp .ge 22, 3) := by decide +kernel
theorem dX12_hasSquare_10 : decode cX12_hasSquare 10 = .ok (.aload_n 0, 1) := by decide +kernel
theorem dX12_hasSquare_11 : decode cX12_hasSquare 11 = .ok (.getfield 84, 3) := by decide +kernel
theorem dX12_hasSquare_14 : decode cX12_hasSquare 14 = .ok (.iload_n 1, 1) := by decide +kernel
theorem dX12_hasSquare_15 : decode cX12_hasSquare 15 = .ok (.iaload, 1) := by decide +kernel
theorem dX12_hasSquare_16 : decode cX12_hasSquare 16 = .ok (.bipush 25, 2) := by decide +kernel
theorem dX12_hasSquare_18 : decode cX12_hasSquare 18 = .ok (.if_icmp .ne 5, 3) := by decide +kernel
theorem dX12_hasSquare_21 : decode cX12_hasSquare 21 = .ok (.iconst 1, 1) := by decide +kernel
theorem dX12_hasSquare_22 : decode cX12_hasSquare 22 = .ok (.ireturn, 1) := by decide +kernel
theorem dX12_hasSquare_23 : decode cX12_hasSquare 23 = .ok (.iinc 1 1, 3) := by decide +kernel
theorem dX12_hasSquare_26 : decode cX12_hasSquare 26 = .ok (.goto (-24), 3) := by decide +kernel
theorem dX12_hasSquare_29 : decode cX12_hasSquare 29 = .ok (.iconst 0, 1) := by decide +kernel
theorem dX12_hasSquare_30 : decode cX12_hasSquare 30 = .ok (.ireturn, 1) := by decide +kernel
set_option maxRecDepth 100000 in
theorem tb_X12_hasSquare_2 {g : GT} {n nf : Int} (hu : Up false nf n) (w2 : Mem → Int → Res) (hw2 : ∀ (M : Mem) (x1 : Int), AW g false RX12 cX12_hasSquare 2 (some .boolean) (0) n n nf 2 [(0, 2, 337), (1, 0, x1)] [] n M (w2 M x1)) (M : Mem) (x1 : Int) : AW g false RX12 cX12_hasSquare 2 (some .boolean) (0) n n nf 2 [(0, 2, 337), (1, 0, x1)] [] n M (b_X12_hasSquare_2 w2 M x1) := by
  unfold b_X12_hasSquare_2
  refine r_iload_n 1 dX12_hasSquare_2 rfl rfl ?_
  refine r_aload_n 0 dX12_hasSquare_3 rfl rfl ?_
  refine r_gf (t := 0) (kz := 34) rfl hu dX12_hasSquare_4 kF_X12_288 kd_337 rfl rfl rfl ?_
  refine r_icmp_ge (tgt := 29) dX12_hasSquare_7 rfl (fun h1 => ?_) (fun h2 => ?_)
  · refine r_iconst dX12_hasSquare_29 ⟨by decide, by decide⟩ ?_
    exact r_iret rfl rfl (Or.inr ⟨rfl, Or.inl rfl⟩) dX12_hasSquare_30
  · refine r_aload_n 0 dX12_hasSquare_10 rfl rfl ?_
    refine r_gx (kz := 33) rfl hu dX12_hasSquare_11 kF_X12_84 kd_337 rfl rfl rfl fx_337_33 ?_
    refine r_iload_n 1 dX12_hasSquare_14 rfl rfl ?_
    refine r_ok (fun h3 => ?_)
    refine r_iald hu dX12_hasSquare_15 kd_361 rfl (Or.inl rfl) rfl ln_361 h3 ?_
    refine r_bipush dX12_hasSquare_16 (by decide) ⟨by decide, by decide⟩ ?_
    refine r_icmp_ne (tgt := 23) dX12_hasSquare_18 rfl (fun h4 => ?_) (fun h5 => ?_)
    · refine r_iconst dX12_hasSquare_21 ⟨by decide, by decide⟩ ?_
      exact r_iret rfl rfl (Or.inr ⟨rfl, Or.inr rfl⟩) dX12_hasSquare_22
    · refine r_iincB 1 dX12_hasSquare_23 rfl ⟨by have := h3; omega, by have := h3; omega⟩ (by decide) (lf := fun y6 => [(1, 0, y6), (0, 2, 337)]) (fun _ => rfl) (fun y6 ey6 => ?_)
      refine r_goto (tgt := 2) dX12_hasSquare_26 rfl ?_
      refine r_sub [1, 0] (ls' := [(0, 2, 337), (1, 0, y6)]) rfl ?_
      exact hw2 M y6
set_option maxRecDepth 100000 in
theorem m_X12_hasSquare {g : GT} {n nf : Int} (hu : Up false nf n) (M : Mem) : AM g false yX12_hasSquare cX12_hasSquare 2 (some .boolean) (0) n n nf [(2, 337)] M (f_X12_hasSquare M) := by
  refine AM_of (by decide +kernel) (Nat.le_of_ble_eq_true rfl) (fun h => absurd h (Int.lt_irrefl n)) ?_
  show AW g false RX12 cX12_hasSquare 2 (some .boolean) (0) n n nf 0 [(0, 2, 337)] [] n M (f_X12_hasSquare M)
  unfold f_X12_hasSquare
  refine r_iconst dX12_hasSquare_0 ⟨by decide, by decide⟩ ?_
  refine r_istore_n dX12_hasSquare_1 rfl (by decide) (ls' := [(1, 0, 0), (0, 2, 337)]) rfl ?_
  refine r_sub [1, 0] (ls' := [(0, 2, 337), (1, 0, 0)]) rfl ?_
  exact wl1_aw (P := fun M x1 o => AW g false RX12 cX12_hasSquare 2 (some .boolean) (0) n n nf 2 [(0, 2, 337), (1, 0, x1)] [] n M (o)) (fun M x1 => aw_none) (fun w hw M x1 => tb_X12_hasSquare_2 hu w hw M x1) FU M 0
theorem dX12_dropsNots_0 : decode cX12_dropsNots 0 = .ok (.aload_n 0, 1) := by decide +kernel
theorem dX12_dropsNots_1 : decode cX12_dropsNots 1 = .ok (.getfield 227, 3) := by decide +kernel
theorem dX12_dropsNots_4 : decode cX12_dropsNots 4 = .ok (.ifCond .ne 29, 3) := by decide +kernel
theorem dX12_dropsNots_7 : decode cX12_dropsNots 7 = .ok (.aload_n 0, 1) := by decide +kernel
theorem dX12_dropsNots_8 : decode cX12_dropsNots 8 = .ok (.bipush 16, 2) := by decide +kernel
theorem dX12_dropsNots_10 : decode cX12_dropsNots 10 = .ok (.invokevirtual 324, 3) := by decide +kernel
theorem dX12_dropsNots_13 : decode cX12_dropsNots 13 = .ok (.ifCond .eq 20, 3) := by decide +kernel
theorem dX12_dropsNots_16 : decode cX12_dropsNots 16 = .ok (.aload_n 0, 1) := by decide +kernel
theorem dX12_dropsNots_17 : decode cX12_dropsNots 17 = .ok (.dup, 1) := by decide +kernel
theorem dX12_dropsNots_18 : decode cX12_dropsNots 18 = .ok (.getfield 285, 3) := by decide +kernel
theorem dX12_dropsNots_21 : decode cX12_dropsNots 21 = .ok (.iconst 1, 1) := by decide +kernel
theorem dX12_dropsNots_22 : decode cX12_dropsNots 22 = .ok (.isub, 1) := by decide +kernel
theorem dX12_dropsNots_23 : decode cX12_dropsNots 23 = .ok (.putfield 285, 3) := by decide +kernel
theorem dX12_dropsNots_26 : decode cX12_dropsNots 26 = .ok (.aload_n 0, 1) := by decide +kernel
theorem dX12_dropsNots_27 : decode cX12_dropsNots 27 = .ok (.invokevirtual 301, 3) := by decide +kernel
theorem dX12_dropsNots_30 : decode cX12_dropsNots 30 = .ok (.goto (-30), 3) := by decide +kernel
theorem dX12_dropsNots_33 : decode cX12_dropsNots 33 = .ok (.return_, 1) := by decide +kernel
set_option maxRecDepth 100000 in
theorem tb_X12_dropsNots_0 {g : GT} {n nf : Int} (hu : Up false nf n) (w0 : Mem → Res) (hw0 : ∀ (M : Mem), AW g false RX12 cX12_dropsNots 1 none (2) n n nf 0 [(0, 2, 337)] [] n M (w0 M)) (M : Mem) : AW g false RX12 cX12_dropsNots 1 none (2) n n nf 0 [(0, 2, 337)] [] n M (b_X12_dropsNots_0 w0 M) := by
  unfold b_X12_dropsNots_0
  refine r_aload_n 0 dX12_dropsNots_0 rfl rfl ?_
  refine r_gf (t := 0) (kz := 5) rfl hu dX12_dropsNots_1 kF_X12_227 kd_337 rfl rfl rfl ?_
  refine r_if_ne (tgt := 33) dX12_dropsNots_4 rfl (fun h1 => ?_) (fun h2 => ?_)
  · refine r_aload_n 0 dX12_dropsNots_7 rfl rfl ?_
    refine r_bipush dX12_dropsNots_8 (by decide) ⟨by decide, by decide⟩ ?_
    refine r_inv (a := 337) hu ⟨Nat.le_refl _, Nat.le_refl _⟩ dX12_dropsNots_10 kM_X12_324 (ci := 12) rfl kd_337 rfl rfl (by decide) (by decide) [(0, 16)] rfl (sk := []) rfl (Nat.le_of_ble_eq_true rfl) rfl rfl (m_X12_isOn hu M 16) (fun r3 M4 => ?_)
    refine r_if_eq (tgt := 33) dX12_dropsNots_13 rfl (fun h5 => ?_) (fun h6 => ?_)
    · exact r_vret rfl rfl dX12_dropsNots_33
    · refine r_aload_n 0 dX12_dropsNots_16 rfl rfl ?_
      refine r_dup dX12_dropsNots_17 (nz2 _) ?_
      refine r_gf (t := 0) (kz := 35) rfl hu dX12_dropsNots_18 kF_X12_285 kd_337 rfl rfl rfl ?_
      refine r_iconst dX12_dropsNots_21 ⟨by decide, by decide⟩ ?_
      refine r_ok (fun h7 => ?_)
      refine r_isub dX12_dropsNots_22 h7 ?_
      refine r_pf (t := 0) (kz := 35) rfl hu dX12_dropsNots_23 kF_X12_285 kd_337 rfl rfl rfl (fun h => absurd h (by decide)) rfl kX_12_35 (fun M8 eM8 => ?_)
      refine r_aload_n 0 dX12_dropsNots_26 rfl rfl ?_
      refine r_invv (a := 337) hu ⟨Nat.le_refl _, Nat.le_refl _⟩ dX12_dropsNots_27 kM_X12_301 (ci := 12) rfl kd_337 rfl rfl (by decide) (by decide) [] rfl (sk := []) rfl (Nat.le_of_ble_eq_true rfl) rfl (m_X12_drops hu M8) (fun r9 M10 => ?_)
      refine r_goto (tgt := 0) dX12_dropsNots_30 rfl ?_
      exact hw0 M10
  · exact r_vret rfl rfl dX12_dropsNots_33
set_option maxRecDepth 100000 in
theorem m_X12_dropsNots {g : GT} {n nf : Int} (hu : Up false nf n) (M : Mem) : AM g false yX12_dropsNots cX12_dropsNots 1 none (2) n n nf [(2, 337)] M (f_X12_dropsNots M) := by
  refine AM_of (by decide +kernel) (Nat.le_of_ble_eq_true rfl) (fun h => absurd h (Int.lt_irrefl n)) ?_
  show AW g false RX12 cX12_dropsNots 1 none (2) n n nf 0 [(0, 2, 337)] [] n M (f_X12_dropsNots M)
  unfold f_X12_dropsNots
  exact wl0_aw (P := fun M o => AW g false RX12 cX12_dropsNots 1 none (2) n n nf 0 [(0, 2, 337)] [] n M (o)) (fun M => aw_none) (fun w hw M => tb_X12_dropsNots_0 hu w hw M) FU M
theorem dX12_goesOnTest_0 : decode cX12_goesOnTest 0 = .ok (.aload_n 0, 1) := by decide +kernel
theorem dX12_goesOnTest_1 : decode cX12_goesOnTest 1 = .ok (.getfield 227, 3) := by decide +kernel
theorem dX12_goesOnTest_4 : decode cX12_goesOnTest 4 = .ok (.ifCond .ne 72, 3) := by decide +kernel
theorem dX12_goesOnTest_7 : decode cX12_goesOnTest 7 = .ok (.aload_n 0, 1) := by decide +kernel
theorem dX12_goesOnTest_8 : decode cX12_goesOnTest 8 = .ok (.invokevirtual 239, 3) := by decide +kernel
theorem dX12_goesOnTest_11 : decode cX12_goesOnTest 11 = .ok (.bipush 93, 2) := by decide +kernel
theorem dX12_goesOnTest_13 : decode cX12_goesOnTest 13 = .ok (.if_icmp .ne 63, 3) := by decide +kernel
theorem dX12_goesOnTest_16 : decode cX12_goesOnTest 16 = .ok (.aload_n 0, 1) := by decide +kernel
theorem dX12_goesOnTest_17 : decode cX12_goesOnTest 17 = .ok (.invokevirtual 345, 3) := by decide +kernel
theorem dX12_goesOnTest_20 : decode cX12_goesOnTest 20 = .ok (.ifCond .eq 56, 3) := by decide +kernel
theorem dX12_goesOnTest_23 : decode cX12_goesOnTest 23 = .ok (.aload_n 0, 1) := by decide +kernel
theorem dX12_goesOnTest_24 : decode cX12_goesOnTest 24 = .ok (.dup, 1) := by decide +kernel
theorem dX12_goesOnTest_25 : decode cX12_goesOnTest 25 = .ok (.getfield 233, 3) := by decide +kernel
theorem dX12_goesOnTest_28 : decode cX12_goesOnTest 28 = .ok (.iconst 1, 1) := by decide +kernel
theorem dX12_goesOnTest_29 : decode cX12_goesOnTest 29 = .ok (.iadd, 1) := by decide +kernel
theorem dX12_goesOnTest_30 : decode cX12_goesOnTest 30 = .ok (.putfield 233, 3) := by decide +kernel
theorem dX12_goesOnTest_33 : decode cX12_goesOnTest 33 = .ok (.aload_n 0, 1) := by decide +kernel
theorem dX12_goesOnTest_34 : decode cX12_goesOnTest 34 = .ok (.bipush 25, 2) := by decide +kernel
theorem dX12_goesOnTest_36 : decode cX12_goesOnTest 36 = .ok (.invokevirtual 324, 3) := by decide +kernel
theorem dX12_goesOnTest_39 : decode cX12_goesOnTest 39 = .ok (.ifCond .ne 10, 3) := by decide +kernel
theorem dX12_goesOnTest_42 : decode cX12_goesOnTest 42 = .ok (.aload_n 0, 1) := by decide +kernel
theorem dX12_goesOnTest_43 : decode cX12_goesOnTest 43 = .ok (.invokevirtual 301, 3) := by decide +kernel
theorem dX12_goesOnTest_46 : decode cX12_goesOnTest 46 = .ok (.goto (-13), 3) := by decide +kernel
theorem dX12_goesOnTest_49 : decode cX12_goesOnTest 49 = .ok (.aload_n 0, 1) := by decide +kernel
theorem dX12_goesOnTest_50 : decode cX12_goesOnTest 50 = .ok (.dup, 1) := by decide +kernel
theorem dX12_goesOnTest_51 : decode cX12_goesOnTest 51 = .ok (.getfield 288, 3) := by decide +kernel
theorem dX12_goesOnTest_54 : decode cX12_goesOnTest 54 = .ok (.iconst 1, 1) := by decide +kernel
theorem dX12_goesOnTest_55 : decode cX12_goesOnTest 55 = .ok (.isub, 1) := by decide +kernel
theorem dX12_goesOnTest_56 : decode cX12_goesOnTest 56 = .ok (.putfield 288, 3) := by decide +kernel
theorem dX12_goesOnTest_59 : decode cX12_goesOnTest 59 = .ok (.aload_n 0, 1) := by decide +kernel
theorem dX12_goesOnTest_60 : decode cX12_goesOnTest 60 = .ok (.dup, 1) := by decide +kernel
theorem dX12_goesOnTest_61 : decode cX12_goesOnTest 61 = .ok (.getfield 285, 3) := by decide +kernel
theorem dX12_goesOnTest_64 : decode cX12_goesOnTest 64 = .ok (.iconst 1, 1) := by decide +kernel
theorem dX12_goesOnTest_65 : decode cX12_goesOnTest 65 = .ok (.isub, 1) := by decide +kernel
theorem dX12_goesOnTest_66 : decode cX12_goesOnTest 66 = .ok (.putfield 285, 3) := by decide +kernel
theorem dX12_goesOnTest_69 : decode cX12_goesOnTest 69 = .ok (.aload_n 0, 1) := by decide +kernel
theorem dX12_goesOnTest_70 : decode cX12_goesOnTest 70 = .ok (.invokevirtual 339, 3) := by decide +kernel
theorem dX12_goesOnTest_73 : decode cX12_goesOnTest 73 = .ok (.goto (-73), 3) := by decide +kernel
theorem dX12_goesOnTest_76 : decode cX12_goesOnTest 76 = .ok (.aload_n 0, 1) := by decide +kernel
theorem dX12_goesOnTest_77 : decode cX12_goesOnTest 77 = .ok (.aload_n 0, 1) := by decide +kernel
theorem dX12_goesOnTest_78 : decode cX12_goesOnTest 78 = .ok (.getfield 51, 3) := by decide +kernel
theorem dX12_goesOnTest_81 : decode cX12_goesOnTest 81 = .ok (.invokevirtual 254, 3) := by decide +kernel
theorem dX12_goesOnTest_84 : decode cX12_goesOnTest 84 = .ok (.ifCond .eq 42, 3) := by decide +kernel
theorem dX12_goesOnTest_87 : decode cX12_goesOnTest 87 = .ok (.aload_n 0, 1) := by decide +kernel
theorem dX12_goesOnTest_88 : decode cX12_goesOnTest 88 = .ok (.bipush 14, 2) := by decide +kernel
theorem dX12_goesOnTest_90 : decode cX12_goesOnTest 90 = .ok (.invokevirtual 324, 3) := by decide +kernel
theorem dX12_goesOnTest_93 : decode cX12_goesOnTest 93 = .ok (.ifCond .eq 10, 3) := by decide +kernel
theorem dX12_goesOnTest_96 : decode cX12_goesOnTest 96 = .ok (.aload_n 0, 1) := by decide +kernel
theorem dX12_goesOnTest_97 : decode cX12_goesOnTest 97 = .ok (.invokevirtual 301, 3) := by decide +kernel
theorem dX12_goesOnTest_100 : decode cX12_goesOnTest 100 = .ok (.goto (-13), 3) := by decide +kernel
theorem dX12_goesOnTest_103 : decode cX12_goesOnTest 103 = .ok (.aload_n 0, 1) := by decide +kernel
theorem dX12_goesOnTest_104 : decode cX12_goesOnTest 104 = .ok (.getfield 84, 3) := by decide +kernel
theorem dX12_goesOnTest_107 : decode cX12_goesOnTest 107 = .ok (.aload_n 0, 1) := by decide +kernel
theorem dX12_goesOnTest_108 : decode cX12_goesOnTest 108 = .ok (.getfield 288, 3) := by decide +kernel
theorem dX12_goesOnTest_111 : decode cX12_goesOnTest 111 = .ok (.bipush 14, 2) := by decide +kernel
theorem dX12_goesOnTest_113 : decode cX12_goesOnTest 113 = .ok (.iastore, 1) := by decide +kernel
theorem dX12_goesOnTest_114 : decode cX12_goesOnTest 114 = .ok (.aload_n 0, 1) := by decide +kernel
theorem dX12_goesOnTest_115 : decode cX12_goesOnTest 115 = .ok (.dup, 1) := by decide +kernel
theorem dX12_goesOnTest_116 : decode cX12_goesOnTest 116 = .ok (.getfield 288, 3) := by decide +kernel
theorem dX12_goesOnTest_119 : decode cX12_goesOnTest 119 = .ok (.iconst 1, 1) := by decide +kernel
theorem dX12_goesOnTest_120 : decode cX12_goesOnTest 120 = .ok (.iadd, 1) := by decide +kernel
theorem dX12_goesOnTest_121 : decode cX12_goesOnTest 121 = .ok (.putfield 288, 3) := by decide +kernel
theorem dX12_goesOnTest_124 : decode cX12_goesOnTest 124 = .ok (.iconst 1, 1) := by decide +kernel
theorem dX12_goesOnTest_125 : decode cX12_goesOnTest 125 = .ok (.ireturn, 1) := by decide +kernel
theorem dX12_goesOnTest_126 : decode cX12_goesOnTest 126 = .ok (.aload_n 0, 1) := by decide +kernel
theorem dX12_goesOnTest_127 : decode cX12_goesOnTest 127 = .ok (.aload_n 0, 1) := by decide +kernel
theorem dX12_goesOnTest_128 : decode cX12_goesOnTest 128 = .ok (.getfield 48, 3) := by decide +kernel
theorem dX12_goesOnTest_131 : decode cX12_goesOnTest 131 = .ok (.invokevirtual 254, 3) := by decide +kernel
theorem dX12_goesOnTest_134 : decode cX12_goesOnTest 134 = .ok (.ifCond .eq 51, 3) := by decide +kernel
theorem dX12_goesOnTest_137 : decode cX12_goesOnTest 137 = .ok (.aload_n 0, 1) := by decide +kernel
theorem dX12_goesOnTest_138 : decode cX12_goesOnTest 138 = .ok (.bipush 14, 2) := by decide +kernel
theorem dX12_goesOnTest_140 : decode cX12_goesOnTest 140 = .ok (.invokevirtual 324, 3) := by decide +kernel
theorem dX12_goesOnTest_143 : decode cX12_goesOnTest 143 = .ok (.ifCond .ne 12, 3) := by decide +kernel
theorem dX12_goesOnTest_146 : decode cX12_goesOnTest 146 = .ok (.aload_n 0, 1) := by decide +kernel
theorem dX12_goesOnTest_147 : decode cX12_goesOnTest 147 = .ok (.bipush 15, 2) := by decide +kernel
theorem dX12_goesOnTest_149 : decode cX12_goesOnTest 149 = .ok (.invokevirtual 324, 3) := by decide +kernel
theorem dX12_goesOnTest_152 : decode cX12_goesOnTest 152 = .ok (.ifCond .eq 10, 3) := by decide +kernel
theorem dX12_goesOnTest_155 : decode cX12_goesOnTest 155 = .ok (.aload_n 0, 1) := by decide +kernel
theorem dX12_goesOnTest_156 : decode cX12_goesOnTest 156 = .ok (.invokevirtual 301, 3) := by decide +kernel
theorem dX12_goesOnTest_159 : decode cX12_goesOnTest 159 = .ok (.goto (-22), 3) := by decide +kernel
theorem dX12_goesOnTest_162 : decode cX12_goesOnTest 162 = .ok (.aload_n 0, 1) := by decide +kernel
theorem dX12_goesOnTest_163 : decode cX12_goesOnTest 163 = .ok (.getfield 84, 3) := by decide +kernel
theorem dX12_goesOnTest_166 : decode cX12_goesOnTest 166 = .ok (.aload_n 0, 1) := by decide +kernel
theorem dX12_goesOnTest_167 : decode cX12_goesOnTest 167 = .ok (.getfield 288, 3) := by decide +kernel
theorem dX12_goesOnTest_170 : decode cX12_goesOnTest 170 = .ok (.bipush 15, 2) := by decide +kernel
theorem dX12_goesOnTest_172 : decode cX12_goesOnTest 172 = .ok (.iastore, 1) := by decide +kernel
theorem dX12_goesOnTest_173 : decode cX12_goesOnTest 173 = .ok (.aload_n 0, 1) := by decide +kernel
theorem dX12_goesOnTest_174 : decode cX12_goesOnTest 174 = .ok (.dup, 1) := by decide +kernel
theorem dX12_goesOnTest_175 : decode cX12_goesOnTest 175 = .ok (.getfield 288, 3) := by decide +kernel
theorem dX12_goesOnTest_178 : decode cX12_goesOnTest 178 = .ok (.iconst 1, 1) := by decide +kernel
theorem dX12_goesOnTest_179 : decode cX12_goesOnTest 179 = .ok (.iadd, 1) := by decide +kernel
theorem dX12_goesOnTest_180 : decode cX12_goesOnTest 180 = .ok (.putfield 288, 3) := by decide +kernel
theorem dX12_goesOnTest_183 : decode cX12_goesOnTest 183 = .ok (.iconst 1, 1) := by decide +kernel
theorem dX12_goesOnTest_184 : decode cX12_goesOnTest 184 = .ok (.ireturn, 1) := by decide +kernel
theorem dX12_goesOnTest_185 : decode cX12_goesOnTest 185 = .ok (.aload_n 0, 1) := by decide +kernel
theorem dX12_goesOnTest_186 : decode cX12_goesOnTest 186 = .ok (.getfield 227, 3) := by decide +kernel
theorem dX12_goesOnTest_189 : decode cX12_goesOnTest 189 = .ok (.ifCond .ne 19, 3) := by decide +kernel
theorem dX12_goesOnTest_192 : decode cX12_goesOnTest 192 = .ok (.aload_n 0, 1) := by decide +kernel
theorem dX12_goesOnTest_193 : decode cX12_goesOnTest 193 = .ok (.invokevirtual 345, 3) := by decide +kernel
theorem dX12_goesOnTest_196 : decode cX12_goesOnTest 196 = .ok (.ifCond .eq 12, 3) := by decide +kernel
theorem dX12_goesOnTest_199 : decode cX12_goesOnTest 199 = .ok (.aload_n 0, 1) := by decide +kernel
theorem dX12_goesOnTest_200 : decode cX12_goesOnTest 200 = .ok (.iconst 1, 1) := by decide +kernel
theorem dX12_goesOnTest_201 : decode cX12_goesOnTest 201 = .ok (.aload_n 0, 1) := by decide +kernel
theorem dX12_goesOnTest_202 : decode cX12_goesOnTest 202 = .ok (.getfield 233, 3) := by decide +kernel
theorem dX12_goesOnTest_205 : decode cX12_goesOnTest 205 = .ok (.invokevirtual 257, 3) := by decide +kernel
theorem dX12_goesOnTest_208 : decode cX12_goesOnTest 208 = .ok (.iconst 0, 1) := by decide +kernel
theorem dX12_goesOnTest_209 : decode cX12_goesOnTest 209 = .ok (.ireturn, 1) := by decide +kernel
set_option maxRecDepth 100000 in
theorem tj_X12_goesOnTest_155 {g : GT} {n nf : Int} (hu : Up false nf n) (w137 : Mem → Res) (hw137 : ∀ (M : Mem), AW g false RX12 cX12_goesOnTest 1 (some .boolean) (3) n n nf 137 [(0, 2, 337)] [] n M (w137 M)) (M : Mem) : AW g false RX12 cX12_goesOnTest 1 (some .boolean) (3) n n nf 155 [(0, 2, 337)] [] n M (j_X12_goesOnTest_155 w137 M) := by
  unfold j_X12_goesOnTest_155
  refine r_aload_n 0 dX12_goesOnTest_155 rfl rfl ?_
  refine r_invv (a := 337) hu ⟨Nat.le_refl _, Nat.le_refl _⟩ dX12_goesOnTest_156 kM_X12_301 (ci := 12) rfl kd_337 rfl rfl (by decide) (by decide) [] rfl (sk := []) rfl (Nat.le_of_ble_eq_true rfl) rfl (m_X12_drops hu M) (fun r39 M40 => ?_)
  refine r_goto (tgt := 137) dX12_goesOnTest_159 rfl ?_
  exact hw137 M40
set_option maxRecDepth 100000 in
theorem tb_X12_goesOnTest_137 {g : GT} {n nf : Int} (hu : Up false nf n) (w137 : Mem → Res) (hw137 : ∀ (M : Mem), AW g false RX12 cX12_goesOnTest 1 (some .boolean) (3) n n nf 137 [(0, 2, 337)] [] n M (w137 M)) (M : Mem) : AW g false RX12 cX12_goesOnTest 1 (some .boolean) (3) n n nf 137 [(0, 2, 337)] [] n M (b_X12_goesOnTest_137 w137 M) := by
  unfold b_X12_goesOnTest_137
  refine r_aload_n 0 dX12_goesOnTest_137 rfl rfl ?_
  refine r_bipush dX12_goesOnTest_138 (by decide) ⟨by decide, by decide⟩ ?_
  refine r_inv (a := 337) hu ⟨Nat.le_refl _, Nat.le_refl _⟩ dX12_goesOnTest_140 kM_X12_324 (ci := 12) rfl kd_337 rfl rfl (by decide) (by decide) [(0, 14)] rfl (sk := []) rfl (Nat.le_of_ble_eq_true rfl) rfl rfl (m_X12_isOn hu M 14) (fun r27 M28 => ?_)
  refine r_if_ne (tgt := 155) dX12_goesOnTest_143 rfl (fun h29 => ?_) (fun h30 => ?_)
  · refine r_aload_n 0 dX12_goesOnTest_146 rfl rfl ?_
    refine r_bipush dX12_goesOnTest_147 (by decide) ⟨by decide, by decide⟩ ?_
    refine r_inv (a := 337) hu ⟨Nat.le_refl _, Nat.le_refl _⟩ dX12_goesOnTest_149 kM_X12_324 (ci := 12) rfl kd_337 rfl rfl (by decide) (by decide) [(0, 15)] rfl (sk := []) rfl (Nat.le_of_ble_eq_true rfl) rfl rfl (m_X12_isOn hu M28 15) (fun r31 M32 => ?_)
    refine r_if_eq (tgt := 162) dX12_goesOnTest_152 rfl (fun h33 => ?_) (fun h34 => ?_)
    · refine r_aload_n 0 dX12_goesOnTest_162 rfl rfl ?_
      refine r_gx (kz := 33) rfl hu dX12_goesOnTest_163 kF_X12_84 kd_337 rfl rfl rfl fx_337_33 ?_
      refine r_aload_n 0 dX12_goesOnTest_166 rfl rfl ?_
      refine r_gf (t := 0) (kz := 34) rfl hu dX12_goesOnTest_167 kF_X12_288 kd_337 rfl rfl rfl ?_
      refine r_bipush dX12_goesOnTest_170 (by decide) ⟨by decide, by decide⟩ ?_
      refine r_ok (fun h35 => ?_)
      refine r_iast hu dX12_goesOnTest_172 kd_361 rfl (Or.inl rfl) rfl ln_361 h35 rfl (fun M36 eM36 => ?_)
      refine r_aload_n 0 dX12_goesOnTest_173 rfl rfl ?_
      refine r_dup dX12_goesOnTest_174 (nz2 _) ?_
      refine r_gf (t := 0) (kz := 34) rfl hu dX12_goesOnTest_175 kF_X12_288 kd_337 rfl rfl rfl ?_
      refine r_iconst dX12_goesOnTest_178 ⟨by decide, by decide⟩ ?_
      refine r_ok (fun h37 => ?_)
      refine r_iadd dX12_goesOnTest_179 h37 ?_
      refine r_pf (t := 0) (kz := 34) rfl hu dX12_goesOnTest_180 kF_X12_288 kd_337 rfl rfl rfl (fun h => absurd h (by decide)) rfl kX_12_34 (fun M38 eM38 => ?_)
      refine r_iconst dX12_goesOnTest_183 ⟨by decide, by decide⟩ ?_
      exact r_iret rfl rfl (Or.inr ⟨rfl, Or.inr rfl⟩) dX12_goesOnTest_184
    · exact tj_X12_goesOnTest_155 hu w137 hw137 M32
  · exact tj_X12_goesOnTest_155 hu w137 hw137 M28
set_option maxRecDepth 100000 in
theorem tb_X12_goesOnTest_87 {g : GT} {n nf : Int} (hu : Up false nf n) (w87 : Mem → Res) (hw87 : ∀ (M : Mem), AW g false RX12 cX12_goesOnTest 1 (some .boolean) (3) n n nf 87 [(0, 2, 337)] [] n M (w87 M)) (M : Mem) : AW g false RX12 cX12_goesOnTest 1 (some .boolean) (3) n n nf 87 [(0, 2, 337)] [] n M (b_X12_goesOnTest_87 w87 M) := by
  unfold b_X12_goesOnTest_87
  refine r_aload_n 0 dX12_goesOnTest_87 rfl rfl ?_
  refine r_bipush dX12_goesOnTest_88 (by decide) ⟨by decide, by decide⟩ ?_
  refine r_inv (a := 337) hu ⟨Nat.le_refl _, Nat.le_refl _⟩ dX12_goesOnTest_90 kM_X12_324 (ci := 12) rfl kd_337 rfl rfl (by decide) (by decide) [(0, 14)] rfl (sk := []) rfl (Nat.le_of_ble_eq_true rfl) rfl rfl (m_X12_isOn hu M 14) (fun r41 M42 => ?_)
  refine r_if_eq (tgt := 103) dX12_goesOnTest_93 rfl (fun h43 => ?_) (fun h44 => ?_)
  · refine r_aload_n 0 dX12_goesOnTest_103 rfl rfl ?_
    refine r_gx (kz := 33) rfl hu dX12_goesOnTest_104 kF_X12_84 kd_337 rfl rfl rfl fx_337_33 ?_
    refine r_aload_n 0 dX12_goesOnTest_107 rfl rfl ?_
    refine r_gf (t := 0) (kz := 34) rfl hu dX12_goesOnTest_108 kF_X12_288 kd_337 rfl rfl rfl ?_
    refine r_bipush dX12_goesOnTest_111 (by decide) ⟨by decide, by decide⟩ ?_
    refine r_ok (fun h45 => ?_)
    refine r_iast hu dX12_goesOnTest_113 kd_361 rfl (Or.inl rfl) rfl ln_361 h45 rfl (fun M46 eM46 => ?_)
    refine r_aload_n 0 dX12_goesOnTest_114 rfl rfl ?_
    refine r_dup dX12_goesOnTest_115 (nz2 _) ?_
    refine r_gf (t := 0) (kz := 34) rfl hu dX12_goesOnTest_116 kF_X12_288 kd_337 rfl rfl rfl ?_
    refine r_iconst dX12_goesOnTest_119 ⟨by decide, by decide⟩ ?_
    refine r_ok (fun h47 => ?_)
    refine r_iadd dX12_goesOnTest_120 h47 ?_
    refine r_pf (t := 0) (kz := 34) rfl hu dX12_goesOnTest_121 kF_X12_288 kd_337 rfl rfl rfl (fun h => absurd h (by decide)) rfl kX_12_34 (fun M48 eM48 => ?_)
    refine r_iconst dX12_goesOnTest_124 ⟨by decide, by decide⟩ ?_
    exact r_iret rfl rfl (Or.inr ⟨rfl, Or.inr rfl⟩) dX12_goesOnTest_125
  · refine r_aload_n 0 dX12_goesOnTest_96 rfl rfl ?_
    refine r_invv (a := 337) hu ⟨Nat.le_refl _, Nat.le_refl _⟩ dX12_goesOnTest_97 kM_X12_301 (ci := 12) rfl kd_337 rfl rfl (by decide) (by decide) [] rfl (sk := []) rfl (Nat.le_of_ble_eq_true rfl) rfl (m_X12_drops hu M42) (fun r49 M50 => ?_)
    refine r_goto (tgt := 87) dX12_goesOnTest_100 rfl ?_
    exact hw87 M50
set_option maxRecDepth 100000 in
theorem tj_X12_goesOnTest_76 {g : GT} {n nf : Int} (hu : Up false nf n) (M : Mem) : AW g false RX12 cX12_goesOnTest 1 (some .boolean) (3) n n nf 76 [(0, 2, 337)] [] n M (j_X12_goesOnTest_76 M) := by
  unfold j_X12_goesOnTest_76
  refine r_aload_n 0 dX12_goesOnTest_76 rfl rfl ?_
  refine r_aload_n 0 dX12_goesOnTest_77 rfl rfl ?_
  refine r_gx (kz := 20) rfl hu dX12_goesOnTest_78 kF_X12_51 kd_337 rfl rfl rfl fx_337_20 ?_
  refine r_inv (a := 337) hu ⟨Nat.le_refl _, Nat.le_refl _⟩ dX12_goesOnTest_81 kM_X12_254 (ci := 12) rfl kd_337 rfl rfl (by decide) (by decide) [(2, 350)] rfl (sk := []) rfl (Nat.le_of_ble_eq_true rfl) rfl rfl (m_X12_takes hu M 350 kd_350) (fun r11 M12 => ?_)
  refine r_if_eq (tgt := 126) dX12_goesOnTest_84 rfl (fun h13 => ?_) (fun h14 => ?_)
  · refine r_aload_n 0 dX12_goesOnTest_126 rfl rfl ?_
    refine r_aload_n 0 dX12_goesOnTest_127 rfl rfl ?_
    refine r_gx (kz := 19) rfl hu dX12_goesOnTest_128 kF_X12_48 kd_337 rfl rfl rfl fx_337_19 ?_
    refine r_inv (a := 337) hu ⟨Nat.le_refl _, Nat.le_refl _⟩ dX12_goesOnTest_131 kM_X12_254 (ci := 12) rfl kd_337 rfl rfl (by decide) (by decide) [(2, 349)] rfl (sk := []) rfl (Nat.le_of_ble_eq_true rfl) rfl rfl (m_X12_takes hu M12 349 kd_349) (fun r15 M16 => ?_)
    refine r_if_eq (tgt := 185) dX12_goesOnTest_134 rfl (fun h17 => ?_) (fun h18 => ?_)
    · refine r_aload_n 0 dX12_goesOnTest_185 rfl rfl ?_
      refine r_gf (t := 0) (kz := 5) rfl hu dX12_goesOnTest_186 kF_X12_227 kd_337 rfl rfl rfl ?_
      refine r_if_ne (tgt := 208) dX12_goesOnTest_189 rfl (fun h19 => ?_) (fun h20 => ?_)
      · refine r_aload_n 0 dX12_goesOnTest_192 rfl rfl ?_
        refine r_inv (a := 337) hu ⟨Nat.le_refl _, Nat.le_refl _⟩ dX12_goesOnTest_193 kM_X12_345 (ci := 12) rfl kd_337 rfl rfl (by decide) (by decide) [] rfl (sk := []) rfl (Nat.le_of_ble_eq_true rfl) rfl rfl (m_X12_hasSquare hu M16) (fun r21 M22 => ?_)
        refine r_if_eq (tgt := 208) dX12_goesOnTest_196 rfl (fun h23 => ?_) (fun h24 => ?_)
        · refine r_iconst dX12_goesOnTest_208 ⟨by decide, by decide⟩ ?_
          exact r_iret rfl rfl (Or.inr ⟨rfl, Or.inl rfl⟩) dX12_goesOnTest_209
        · refine r_aload_n 0 dX12_goesOnTest_199 rfl rfl ?_
          refine r_iconst dX12_goesOnTest_200 ⟨by decide, by decide⟩ ?_
          refine r_aload_n 0 dX12_goesOnTest_201 rfl rfl ?_
          refine r_gf (t := 0) (kz := 2) rfl hu dX12_goesOnTest_202 kF_X12_233 kd_337 rfl rfl rfl ?_
          refine r_invv (a := 337) hu ⟨Nat.le_refl _, Nat.le_refl _⟩ dX12_goesOnTest_205 kM_X12_257 (ci := 12) rfl kd_337 rfl rfl (by decide) (by decide) [(0, 1), (0, M22 337 2)] rfl (sk := []) rfl (Nat.le_of_ble_eq_true rfl) rfl (m_X12_fail hu M22 1 (M22 337 2)) (fun r25 M26 => ?_)
          refine r_iconst dX12_goesOnTest_208 ⟨by decide, by decide⟩ ?_
          exact r_iret rfl rfl (Or.inr ⟨rfl, Or.inl rfl⟩) dX12_goesOnTest_209
      · refine r_iconst dX12_goesOnTest_208 ⟨by decide, by decide⟩ ?_
        exact r_iret rfl rfl (Or.inr ⟨rfl, Or.inl rfl⟩) dX12_goesOnTest_209
    · exact wl0_aw (P := fun M o => AW g false RX12 cX12_goesOnTest 1 (some .boolean) (3) n n nf 137 [(0, 2, 337)] [] n M (o)) (fun M => aw_none) (fun w hw M => tb_X12_goesOnTest_137 hu w hw M) FU M16
  · exact wl0_aw (P := fun M o => AW g false RX12 cX12_goesOnTest 1 (some .boolean) (3) n n nf 87 [(0, 2, 337)] [] n M (o)) (fun M => aw_none) (fun w hw M => tb_X12_goesOnTest_87 hu w hw M) FU M12
set_option maxRecDepth 100000 in
theorem tb_X12_goesOnTest_33 {g : GT} {n nf : Int} (hu : Up false nf n) (w0 : Mem → Res) (w33 : Mem → Res) (hw0 : ∀ (M : Mem), AW g false RX12 cX12_goesOnTest 1 (some .boolean) (3) n n nf 0 [(0, 2, 337)] [] n M (w0 M)) (hw33 : ∀ (M : Mem), AW g false RX12 cX12_goesOnTest 1 (some .boolean) (3) n n nf 33 [(0, 2, 337)] [] n M (w33 M)) (M : Mem) : AW g false RX12 cX12_goesOnTest 1 (some .boolean) (3) n n nf 33 [(0, 2, 337)] [] n M (b_X12_goesOnTest_33 w0 w33 M) := by
  unfold b_X12_goesOnTest_33
  refine r_aload_n 0 dX12_goesOnTest_33 rfl rfl ?_
  refine r_bipush dX12_goesOnTest_34 (by decide) ⟨by decide, by decide⟩ ?_
  refine r_inv (a := 337) hu ⟨Nat.le_refl _, Nat.le_refl _⟩ dX12_goesOnTest_36 kM_X12_324 (ci := 12) rfl kd_337 rfl rfl (by decide) (by decide) [(0, 25)] rfl (sk := []) rfl (Nat.le_of_ble_eq_true rfl) rfl rfl (m_X12_isOn hu M 25) (fun r53 M54 => ?_)
  refine r_if_ne (tgt := 49) dX12_goesOnTest_39 rfl (fun h55 => ?_) (fun h56 => ?_)
  · refine r_aload_n 0 dX12_goesOnTest_42 rfl rfl ?_
    refine r_invv (a := 337) hu ⟨Nat.le_refl _, Nat.le_refl _⟩ dX12_goesOnTest_43 kM_X12_301 (ci := 12) rfl kd_337 rfl rfl (by decide) (by decide) [] rfl (sk := []) rfl (Nat.le_of_ble_eq_true rfl) rfl (m_X12_drops hu M54) (fun r57 M58 => ?_)
    refine r_goto (tgt := 33) dX12_goesOnTest_46 rfl ?_
    exact hw33 M58
  · refine r_aload_n 0 dX12_goesOnTest_49 rfl rfl ?_
    refine r_dup dX12_goesOnTest_50 (nz2 _) ?_
    refine r_gf (t := 0) (kz := 34) rfl hu dX12_goesOnTest_51 kF_X12_288 kd_337 rfl rfl rfl ?_
    refine r_iconst dX12_goesOnTest_54 ⟨by decide, by decide⟩ ?_
    refine r_ok (fun h59 => ?_)
    refine r_isub dX12_goesOnTest_55 h59 ?_
    refine r_pf (t := 0) (kz := 34) rfl hu dX12_goesOnTest_56 kF_X12_288 kd_337 rfl rfl rfl (fun h => absurd h (by decide)) rfl kX_12_34 (fun M60 eM60 => ?_)
    refine r_aload_n 0 dX12_goesOnTest_59 rfl rfl ?_
    refine r_dup dX12_goesOnTest_60 (nz2 _) ?_
    refine r_gf (t := 0) (kz := 35) rfl hu dX12_goesOnTest_61 kF_X12_285 kd_337 rfl rfl rfl ?_
    refine r_iconst dX12_goesOnTest_64 ⟨by decide, by decide⟩ ?_
    refine r_ok (fun h61 => ?_)
    refine r_isub dX12_goesOnTest_65 h61 ?_
    refine r_pf (t := 0) (kz := 35) rfl hu dX12_goesOnTest_66 kF_X12_285 kd_337 rfl rfl rfl (fun h => absurd h (by decide)) rfl kX_12_35 (fun M62 eM62 => ?_)
    refine r_aload_n 0 dX12_goesOnTest_69 rfl rfl ?_
    refine r_invv (a := 337) hu ⟨Nat.le_refl _, Nat.le_refl _⟩ dX12_goesOnTest_70 kM_X12_339 (ci := 12) rfl kd_337 rfl rfl (by decide) (by decide) [] rfl (sk := []) rfl (Nat.le_of_ble_eq_true rfl) rfl (m_X12_dropsNots hu M62) (fun r63 M64 => ?_)
    refine r_goto (tgt := 0) dX12_goesOnTest_73 rfl ?_
    exact hw0 M64
set_option maxRecDepth 100000 in
theorem tb_X12_goesOnTest_0 {g : GT} {n nf : Int} (hu : Up false nf n) (w0 : Mem → Res) (hw0 : ∀ (M : Mem), AW g false RX12 cX12_goesOnTest 1 (some .boolean) (3) n n nf 0 [(0, 2, 337)] [] n M (w0 M)) (M : Mem) : AW g false RX12 cX12_goesOnTest 1 (some .boolean) (3) n n nf 0 [(0, 2, 337)] [] n M (b_X12_goesOnTest_0 w0 M) := by
  unfold b_X12_goesOnTest_0
  refine r_aload_n 0 dX12_goesOnTest_0 rfl rfl ?_
  refine r_gf (t := 0) (kz := 5) rfl hu dX12_goesOnTest_1 kF_X12_227 kd_337 rfl rfl rfl ?_
  refine r_if_ne (tgt := 76) dX12_goesOnTest_4 rfl (fun h1 => ?_) (fun h2 => ?_)
  · refine r_aload_n 0 dX12_goesOnTest_7 rfl rfl ?_
    refine r_inv (a := 337) hu ⟨Nat.le_refl _, Nat.le_refl _⟩ dX12_goesOnTest_8 kM_X12_239 (ci := 12) rfl kd_337 rfl rfl (by decide) (by decide) [] rfl (sk := []) rfl (Nat.le_of_ble_eq_true rfl) rfl rfl (m_X12_look hu M) (fun r3 M4 => ?_)
    refine r_bipush dX12_goesOnTest_11 (by decide) ⟨by decide, by decide⟩ ?_
    refine r_icmp_ne (tgt := 76) dX12_goesOnTest_13 rfl (fun h5 => ?_) (fun h6 => ?_)
    · refine r_aload_n 0 dX12_goesOnTest_16 rfl rfl ?_
      refine r_inv (a := 337) hu ⟨Nat.le_refl _, Nat.le_refl _⟩ dX12_goesOnTest_17 kM_X12_345 (ci := 12) rfl kd_337 rfl rfl (by decide) (by decide) [] rfl (sk := []) rfl (Nat.le_of_ble_eq_true rfl) rfl rfl (m_X12_hasSquare hu M4) (fun r7 M8 => ?_)
      refine r_if_eq (tgt := 76) dX12_goesOnTest_20 rfl (fun h9 => ?_) (fun h10 => ?_)
      · exact tj_X12_goesOnTest_76 hu M8
      · refine r_aload_n 0 dX12_goesOnTest_23 rfl rfl ?_
        refine r_dup dX12_goesOnTest_24 (nz2 _) ?_
        refine r_gf (t := 0) (kz := 2) rfl hu dX12_goesOnTest_25 kF_X12_233 kd_337 rfl rfl rfl ?_
        refine r_iconst dX12_goesOnTest_28 ⟨by decide, by decide⟩ ?_
        refine r_ok (fun h51 => ?_)
        refine r_iadd dX12_goesOnTest_29 h51 ?_
        refine r_pf (t := 0) (kz := 2) rfl hu dX12_goesOnTest_30 kF_X12_233 kd_337 rfl rfl rfl (fun h => absurd h (by decide)) rfl kX_12_2 (fun M52 eM52 => ?_)
        exact wl0_aw (P := fun M o => AW g false RX12 cX12_goesOnTest 1 (some .boolean) (3) n n nf 33 [(0, 2, 337)] [] n M (o)) (fun M => aw_none) (fun w hw M => tb_X12_goesOnTest_33 hu w0 w hw0 hw M) FU M52
    · exact tj_X12_goesOnTest_76 hu M4
  · exact tj_X12_goesOnTest_76 hu M
set_option maxRecDepth 100000 in
theorem m_X12_goesOnTest {g : GT} {n nf : Int} (hu : Up false nf n) (M : Mem) : AM g false yX12_goesOnTest cX12_goesOnTest 1 (some .boolean) (3) n n nf [(2, 337)] M (f_X12_goesOnTest M) := by
  refine AM_of (by decide +kernel) (Nat.le_of_ble_eq_true rfl) (fun h => absurd h (Int.lt_irrefl n)) ?_
  show AW g false RX12 cX12_goesOnTest 1 (some .boolean) (3) n n nf 0 [(0, 2, 337)] [] n M (f_X12_goesOnTest M)
  unfold f_X12_goesOnTest
  exact wl0_aw (P := fun M o => AW g false RX12 cX12_goesOnTest 1 (some .boolean) (3) n n nf 0 [(0, 2, 337)] [] n M (o)) (fun M => aw_none) (fun w hw M => tb_X12_goesOnTest_0 hu w hw M) FU M
theorem dX12_test_0 : decode cX12_test 0 = .ok (.iconst 1, 1) := by decide +kernel
theorem dX12_test_1 : decode cX12_test 1 = .ok (.istore_n 1, 1) := by decide +kernel
theorem dX12_test_2 : decode cX12_test 2 = .ok (.iload_n 1, 1) := by decide +kernel
theorem dX12_test_3 : decode cX12_test 3 = .ok (.ifCond .eq 107, 3) := by decide +kernel
theorem dX12_test_6 : decode cX12_test 6 = .ok (.aload_n 0, 1) := by decide +kernel
theorem dX12_test_7 : decode cX12_test 7 = .ok (.getfield 227, 3) := by decide +kernel
theorem dX12_test_10 : decode cX12_test 10 = .ok (.ifCond .ne 100, 3) := by decide +kernel
theorem dX12_test_13 : decode cX12_test 13 = .ok (.aload_n 0, 1) := by decide +kernel
theorem dX12_test_14 : decode cX12_test 14 = .ok (.invokevirtual 239, 3) := by decide +kernel
theorem dX12_test_17 : decode cX12_test 17 = .ok (.istore_n 2, 1) := by decide +kernel
theorem dX12_test_18 : decode cX12_test 18 = .ok (.iload_n 2, 1) := by decide +kernel
theorem dX12_test_19 : decode cX12_test 19 = .ok (.bipush 91, 2) := by decide +kernel
theorem dX12_test_21 : decode cX12_test 21 = .ok (.if_icmp .ne 26, 3) := by decide +kernel
theorem dX12_test_24 : decode cX12_test 24 = .ok (.aload_n 0, 1) := by decide +kernel
theorem dX12_test_25 : decode cX12_test 25 = .ok (.bipush 25, 2) := by decide +kernel
theorem dX12_test_27 : decode cX12_test 27 = .ok (.aload_n 0, 1) := by decide +kernel
theorem dX12_test_28 : decode cX12_test 28 = .ok (.getfield 233, 3) := by decide +kernel
theorem dX12_test_31 : decode cX12_test 31 = .ok (.invokevirtual 304, 3) := by decide +kernel
theorem dX12_test_34 : decode cX12_test 34 = .ok (.aload_n 0, 1) := by decide +kernel
theorem dX12_test_35 : decode cX12_test 35 = .ok (.dup, 1) := by decide +kernel
theorem dX12_test_36 : decode cX12_test 36 = .ok (.getfield 233, 3) := by decide +kernel
theorem dX12_test_39 : decode cX12_test 39 = .ok (.iconst 1, 1) := by decide +kernel
theorem dX12_test_40 : decode cX12_test 40 = .ok (.iadd, 1) := by decide +kernel
theorem dX12_test_41 : decode cX12_test 41 = .ok (.putfield 233, 3) := by decide +kernel
theorem dX12_test_44 : decode cX12_test 44 = .ok (.goto (-42), 3) := by decide +kernel
theorem dX12_test_47 : decode cX12_test 47 = .ok (.aload_n 0, 1) := by decide +kernel
theorem dX12_test_48 : decode cX12_test 48 = .ok (.aload_n 0, 1) := by decide +kernel
theorem dX12_test_49 : decode cX12_test 49 = .ok (.getfield 54, 3) := by decide +kernel
theorem dX12_test_52 : decode cX12_test 52 = .ok (.invokevirtual 250, 3) := by decide +kernel
theorem dX12_test_55 : decode cX12_test 55 = .ok (.ifCond .eq 24, 3) := by decide +kernel
theorem dX12_test_58 : decode cX12_test 58 = .ok (.aload_n 0, 1) := by decide +kernel
theorem dX12_test_59 : decode cX12_test 59 = .ok (.bipush 16, 2) := by decide +kernel
theorem dX12_test_61 : decode cX12_test 61 = .ok (.aload_n 0, 1) := by decide +kernel
theorem dX12_test_62 : decode cX12_test 62 = .ok (.getfield 233, 3) := by decide +kernel
theorem dX12_test_65 : decode cX12_test 65 = .ok (.invokevirtual 304, 3) := by decide +kernel
theorem dX12_test_68 : decode cX12_test 68 = .ok (.aload_n 0, 1) := by decide +kernel
theorem dX12_test_69 : decode cX12_test 69 = .ok (.aload_n 0, 1) := by decide +kernel
theorem dX12_test_70 : decode cX12_test 70 = .ok (.getfield 54, 3) := by decide +kernel
theorem dX12_test_73 : decode cX12_test 73 = .ok (.invokevirtual 307, 3) := by decide +kernel
theorem dX12_test_76 : decode cX12_test 76 = .ok (.goto (-74), 3) := by decide +kernel
theorem dX12_test_79 : decode cX12_test 79 = .ok (.aload_n 0, 1) := by decide +kernel
theorem dX12_test_80 : decode cX12_test 80 = .ok (.invokevirtual 336, 3) := by decide +kernel
theorem dX12_test_83 : decode cX12_test 83 = .ok (.aload_n 0, 1) := by decide +kernel
theorem dX12_test_84 : decode cX12_test 84 = .ok (.invokevirtual 339, 3) := by decide +kernel
theorem dX12_test_87 : decode cX12_test 87 = .ok (.aload_n 0, 1) := by decide +kernel
theorem dX12_test_88 : decode cX12_test 88 = .ok (.getfield 227, 3) := by decide +kernel
theorem dX12_test_91 : decode cX12_test 91 = .ok (.ifCond .ne 14, 3) := by decide +kernel
theorem dX12_test_94 : decode cX12_test 94 = .ok (.aload_n 0, 1) := by decide +kernel
theorem dX12_test_95 : decode cX12_test 95 = .ok (.invokevirtual 342, 3) := by decide +kernel
theorem dX12_test_98 : decode cX12_test 98 = .ok (.ifCond .eq 7, 3) := by decide +kernel
theorem dX12_test_101 : decode cX12_test 101 = .ok (.iconst 1, 1) := by decide +kernel
theorem dX12_test_102 : decode cX12_test 102 = .ok (.goto 4, 3) := by decide +kernel
theorem dX12_test_105 : decode cX12_test 105 = .ok (.iconst 0, 1) := by decide +kernel
theorem dX12_test_106 : decode cX12_test 106 = .ok (.istore_n 1, 1) := by decide +kernel
theorem dX12_test_107 : decode cX12_test 107 = .ok (.goto (-105), 3) := by decide +kernel
theorem dX12_test_110 : decode cX12_test 110 = .ok (.aload_n 0, 1) := by decide +kernel
theorem dX12_test_111 : decode cX12_test 111 = .ok (.getfield 227, 3) := by decide +kernel
theorem dX12_test_114 : decode cX12_test 114 = .ok (.ifCond .ne 17, 3) := by decide +kernel
theorem dX12_test_117 : decode cX12_test 117 = .ok (.aload_n 0, 1) := by decide +kernel
theorem dX12_test_118 : decode cX12_test 118 = .ok (.getfield 288, 3) := by decide +kernel
theorem dX12_test_121 : decode cX12_test 121 = .ok (.ifCond .le 10, 3) := by decide +kernel
theorem dX12_test_124 : decode cX12_test 124 = .ok (.aload_n 0, 1) := by decide +kernel
theorem dX12_test_125 : decode cX12_test 125 = .ok (.invokevirtual 301, 3) := by decide +kernel
theorem dX12_test_128 : decode cX12_test 128 = .ok (.goto (-18), 3) := by decide +kernel
theorem dX12_test_131 : decode cX12_test 131 = .ok (.return_, 1) := by decide +kernel
set_option maxRecDepth 100000 in
theorem tb_X12_test_110 {g : GT} {n nf : Int} (hu : Up false nf n) (w110 : Mem → Res) (hw110 : ∀ (M : Mem), AW g false RX12 cX12_test 3 none (7) n n nf 110 [(0, 2, 337)] [] n M (w110 M)) (M : Mem) : AW g false RX12 cX12_test 3 none (7) n n nf 110 [(0, 2, 337)] [] n M (b_X12_test_110 w110 M) := by
  unfold b_X12_test_110
  refine r_aload_n 0 dX12_test_110 rfl rfl ?_
  refine r_gf (t := 0) (kz := 5) rfl hu dX12_test_111 kF_X12_227 kd_337 rfl rfl rfl ?_
  refine r_if_ne (tgt := 131) dX12_test_114 rfl (fun h3 => ?_) (fun h4 => ?_)
  · refine r_aload_n 0 dX12_test_117 rfl rfl ?_
    refine r_gf (t := 0) (kz := 34) rfl hu dX12_test_118 kF_X12_288 kd_337 rfl rfl rfl ?_
    refine r_if_le (tgt := 131) dX12_test_121 rfl (fun h5 => ?_) (fun h6 => ?_)
    · exact r_vret rfl rfl dX12_test_131
    · refine r_aload_n 0 dX12_test_124 rfl rfl ?_
      refine r_invv (a := 337) hu ⟨Nat.le_refl _, Nat.le_refl _⟩ dX12_test_125 kM_X12_301 (ci := 12) rfl kd_337 rfl rfl (by decide) (by decide) [] rfl (sk := []) rfl (Nat.le_of_ble_eq_true rfl) rfl (m_X12_drops hu M) (fun r7 M8 => ?_)
      refine r_goto (tgt := 110) dX12_test_128 rfl ?_
      exact hw110 M8
  · exact r_vret rfl rfl dX12_test_131
set_option maxRecDepth 100000 in
theorem tb_X12_test_2 {g : GT} {n nf : Int} (hu : Up false nf n) (w2 : Mem → Int → Res) (hw2 : ∀ (M : Mem) (x1 : Int), AW g false RX12 cX12_test 3 none (7) n n nf 2 [(0, 2, 337), (1, 0, x1)] [] n M (w2 M x1)) (M : Mem) (x1 : Int) : AW g false RX12 cX12_test 3 none (7) n n nf 2 [(0, 2, 337), (1, 0, x1)] [] n M (b_X12_test_2 w2 M x1) := by
  unfold b_X12_test_2
  refine r_iload_n 1 dX12_test_2 rfl rfl ?_
  refine r_if_eq (tgt := 110) dX12_test_3 rfl (fun h1 => ?_) (fun h2 => ?_)
  · refine r_sub [0] (ls' := [(0, 2, 337)]) rfl ?_
    exact wl0_aw (P := fun M o => AW g false RX12 cX12_test 3 none (7) n n nf 110 [(0, 2, 337)] [] n M (o)) (fun M => aw_none) (fun w hw M => tb_X12_test_110 hu w hw M) FU M
  · refine r_aload_n 0 dX12_test_6 rfl rfl ?_
    refine r_gf (t := 0) (kz := 5) rfl hu dX12_test_7 kF_X12_227 kd_337 rfl rfl rfl ?_
    refine r_if_ne (tgt := 110) dX12_test_10 rfl (fun h9 => ?_) (fun h10 => ?_)
    · refine r_aload_n 0 dX12_test_13 rfl rfl ?_
      refine r_inv (a := 337) hu ⟨Nat.le_refl _, Nat.le_refl _⟩ dX12_test_14 kM_X12_239 (ci := 12) rfl kd_337 rfl rfl (by decide) (by decide) [] rfl (sk := []) rfl (Nat.le_of_ble_eq_true rfl) rfl rfl (m_X12_look hu M) (fun r11 M12 => ?_)
      refine r_istore_n dX12_test_17 rfl (by decide) (ls' := [(2, 0, r11), (0, 2, 337), (1, 0, x1)]) rfl ?_
      refine r_iload_n 0 dX12_test_18 rfl rfl ?_
      refine r_bipush dX12_test_19 (by decide) ⟨by decide, by decide⟩ ?_
      refine r_icmp_ne (tgt := 47) dX12_test_21 rfl (fun h13 => ?_) (fun h14 => ?_)
      · refine r_aload_n 1 dX12_test_24 rfl rfl ?_
        refine r_bipush dX12_test_25 (by decide) ⟨by decide, by decide⟩ ?_
        refine r_aload_n 1 dX12_test_27 rfl rfl ?_
        refine r_gf (t := 0) (kz := 2) rfl hu dX12_test_28 kF_X12_233 kd_337 rfl rfl rfl ?_
        refine r_invv (a := 337) hu ⟨Nat.le_refl _, Nat.le_refl _⟩ dX12_test_31 kM_X12_304 (ci := 12) rfl kd_337 rfl rfl (by decide) (by decide) [(0, 25), (0, M12 337 2)] rfl (sk := []) rfl (Nat.le_of_ble_eq_true rfl) rfl (m_X12_opens hu M12 25 (M12 337 2)) (fun r15 M16 => ?_)
        refine r_aload_n 1 dX12_test_34 rfl rfl ?_
        refine r_dup dX12_test_35 (nz2 _) ?_
        refine r_gf (t := 0) (kz := 2) rfl hu dX12_test_36 kF_X12_233 kd_337 rfl rfl rfl ?_
        refine r_iconst dX12_test_39 ⟨by decide, by decide⟩ ?_
        refine r_ok (fun h17 => ?_)
        refine r_iadd dX12_test_40 h17 ?_
        refine r_pf (t := 0) (kz := 2) rfl hu dX12_test_41 kF_X12_233 kd_337 rfl rfl rfl (fun h => absurd h (by decide)) rfl kX_12_2 (fun M18 eM18 => ?_)
        refine r_goto (tgt := 2) dX12_test_44 rfl ?_
        refine r_sub [1, 2] (ls' := [(0, 2, 337), (1, 0, x1)]) rfl ?_
        exact hw2 M18 x1
      · refine r_aload_n 1 dX12_test_47 rfl rfl ?_
        refine r_aload_n 1 dX12_test_48 rfl rfl ?_
        refine r_gx (kz := 21) rfl hu dX12_test_49 kF_X12_54 kd_337 rfl rfl rfl fx_337_21 ?_
        refine r_inv (a := 337) hu ⟨Nat.le_refl _, Nat.le_refl _⟩ dX12_test_52 kM_X12_250 (ci := 12) rfl kd_337 rfl rfl (by decide) (by decide) [(2, 351)] rfl (sk := []) rfl (Nat.le_of_ble_eq_true rfl) rfl rfl (m_X12_isHere hu M12 351 kd_351) (fun r19 M20 => ?_)
        refine r_if_eq (tgt := 79) dX12_test_55 rfl (fun h21 => ?_) (fun h22 => ?_)
        · refine r_aload_n 1 dX12_test_79 rfl rfl ?_
          refine r_invv (a := 337) hu ⟨Nat.le_refl _, Nat.le_refl _⟩ dX12_test_80 kM_X12_336 (ci := 12) rfl kd_337 rfl rfl (by decide) (by decide) [] rfl (sk := []) rfl (Nat.le_of_ble_eq_true rfl) rfl (m_X12_fact hu M20) (fun r23 M24 => ?_)
          refine r_aload_n 1 dX12_test_83 rfl rfl ?_
          refine r_invv (a := 337) hu ⟨Nat.le_refl _, Nat.le_refl _⟩ dX12_test_84 kM_X12_339 (ci := 12) rfl kd_337 rfl rfl (by decide) (by decide) [] rfl (sk := []) rfl (Nat.le_of_ble_eq_true rfl) rfl (m_X12_dropsNots hu M24) (fun r25 M26 => ?_)
          refine r_aload_n 1 dX12_test_87 rfl rfl ?_
          refine r_gf (t := 0) (kz := 5) rfl hu dX12_test_88 kF_X12_227 kd_337 rfl rfl rfl ?_
          refine r_if_ne (tgt := 105) dX12_test_91 rfl (fun h27 => ?_) (fun h28 => ?_)
          · refine r_aload_n 1 dX12_test_94 rfl rfl ?_
            refine r_inv (a := 337) hu ⟨Nat.le_refl _, Nat.le_refl _⟩ dX12_test_95 kM_X12_342 (ci := 12) rfl kd_337 rfl rfl (by decide) (by decide) [] rfl (sk := []) rfl (Nat.le_of_ble_eq_true rfl) rfl rfl (m_X12_goesOnTest hu M26) (fun r29 M30 => ?_)
            refine r_if_eq (tgt := 105) dX12_test_98 rfl (fun h31 => ?_) (fun h32 => ?_)
            · refine r_iconst dX12_test_105 ⟨by decide, by decide⟩ ?_
              refine r_istore_n dX12_test_106 rfl (by decide) (ls' := [(1, 0, 0), (2, 0, r11), (0, 2, 337)]) rfl ?_
              refine r_goto (tgt := 2) dX12_test_107 rfl ?_
              refine r_sub [2, 0] (ls' := [(0, 2, 337), (1, 0, 0)]) rfl ?_
              exact hw2 M30 0
            · refine r_iconst dX12_test_101 ⟨by decide, by decide⟩ ?_
              refine r_goto (tgt := 106) dX12_test_102 rfl ?_
              refine r_istore_n dX12_test_106 rfl (by decide) (ls' := [(1, 0, 1), (2, 0, r11), (0, 2, 337)]) rfl ?_
              refine r_goto (tgt := 2) dX12_test_107 rfl ?_
              refine r_sub [2, 0] (ls' := [(0, 2, 337), (1, 0, 1)]) rfl ?_
              exact hw2 M30 1
          · refine r_iconst dX12_test_105 ⟨by decide, by decide⟩ ?_
            refine r_istore_n dX12_test_106 rfl (by decide) (ls' := [(1, 0, 0), (2, 0, r11), (0, 2, 337)]) rfl ?_
            refine r_goto (tgt := 2) dX12_test_107 rfl ?_
            refine r_sub [2, 0] (ls' := [(0, 2, 337), (1, 0, 0)]) rfl ?_
            exact hw2 M26 0
        · refine r_aload_n 1 dX12_test_58 rfl rfl ?_
          refine r_bipush dX12_test_59 (by decide) ⟨by decide, by decide⟩ ?_
          refine r_aload_n 1 dX12_test_61 rfl rfl ?_
          refine r_gf (t := 0) (kz := 2) rfl hu dX12_test_62 kF_X12_233 kd_337 rfl rfl rfl ?_
          refine r_invv (a := 337) hu ⟨Nat.le_refl _, Nat.le_refl _⟩ dX12_test_65 kM_X12_304 (ci := 12) rfl kd_337 rfl rfl (by decide) (by decide) [(0, 16), (0, M20 337 2)] rfl (sk := []) rfl (Nat.le_of_ble_eq_true rfl) rfl (m_X12_opens hu M20 16 (M20 337 2)) (fun r33 M34 => ?_)
          refine r_aload_n 1 dX12_test_68 rfl rfl ?_
          refine r_aload_n 1 dX12_test_69 rfl rfl ?_
          refine r_gx (kz := 21) rfl hu dX12_test_70 kF_X12_54 kd_337 rfl rfl rfl fx_337_21 ?_
          refine r_invv (a := 337) hu ⟨Nat.le_refl _, Nat.le_refl _⟩ dX12_test_73 kM_X12_307 (ci := 12) rfl kd_337 rfl rfl (by decide) (by decide) [(2, 351)] rfl (sk := []) rfl (Nat.le_of_ble_eq_true rfl) rfl (m_X12_asks hu M34 351 kd_351) (fun r35 M36 => ?_)
          refine r_goto (tgt := 2) dX12_test_76 rfl ?_
          refine r_sub [1, 2] (ls' := [(0, 2, 337), (1, 0, x1)]) rfl ?_
          exact hw2 M36 x1
    · refine r_sub [0] (ls' := [(0, 2, 337)]) rfl ?_
      exact wl0_aw (P := fun M o => AW g false RX12 cX12_test 3 none (7) n n nf 110 [(0, 2, 337)] [] n M (o)) (fun M => aw_none) (fun w hw M => tb_X12_test_110 hu w hw M) FU M
set_option maxRecDepth 100000 in
theorem m_X12_test {g : GT} {n nf : Int} (hu : Up false nf n) (M : Mem) : AM g false yX12_test cX12_test 3 none (7) n n nf [(2, 337)] M (f_X12_test M) := by
  refine AM_of (by decide +kernel) (Nat.le_of_ble_eq_true rfl) (fun h => absurd h (Int.lt_irrefl n)) ?_
  show AW g false RX12 cX12_test 3 none (7) n n nf 0 [(0, 2, 337)] [] n M (f_X12_test M)
  unfold f_X12_test
  refine r_iconst dX12_test_0 ⟨by decide, by decide⟩ ?_
  refine r_istore_n dX12_test_1 rfl (by decide) (ls' := [(1, 0, 1), (0, 2, 337)]) rfl ?_
  refine r_sub [1, 0] (ls' := [(0, 2, 337), (1, 0, 1)]) rfl ?_
  exact wl1_aw (P := fun M x1 o => AW g false RX12 cX12_test 3 none (7) n n nf 2 [(0, 2, 337), (1, 0, x1)] [] n M (o)) (fun M x1 => aw_none) (fun w hw M x1 => tb_X12_test_2 hu w hw M x1) FU M 1
theorem dX12_readsSum_0 : decode cX12_readsSum 0 = .ok (.aload_n 0, 1) := by decide +kernel
theorem dX12_readsSum_1 : decode cX12_readsSum 1 = .ok (.iconst 0, 1) := by decide +kernel
theorem dX12_readsSum_2 : decode cX12_readsSum 2 = .ok (.putfield 288, 3) := by decide +kernel
theorem dX12_readsSum_5 : decode cX12_readsSum 5 = .ok (.aload_n 0, 1) := by decide +kernel
theorem dX12_readsSum_6 : decode cX12_readsSum 6 = .ok (.aload_n 0, 1) := by decide +kernel
theorem dX12_readsSum_7 : decode cX12_readsSum 7 = .ok (.getfield 348, 3) := by decide +kernel
theorem dX12_readsSum_10 : decode cX12_readsSum 10 = .ok (.putfield 285, 3) := by decide +kernel
theorem dX12_readsSum_13 : decode cX12_readsSum 13 = .ok (.aload_n 0, 1) := by decide +kernel
theorem dX12_readsSum_14 : decode cX12_readsSum 14 = .ok (.iconst 0, 1) := by decide +kernel
theorem dX12_readsSum_15 : decode cX12_readsSum 15 = .ok (.putfield 295, 3) := by decide +kernel
theorem dX12_readsSum_18 : decode cX12_readsSum 18 = .ok (.aload_n 0, 1) := by decide +kernel
theorem dX12_readsSum_19 : decode cX12_readsSum 19 = .ok (.getfield 227, 3) := by decide +kernel
theorem dX12_readsSum_22 : decode cX12_readsSum 22 = .ok (.ifCond .ne 7, 3) := by decide +kernel
theorem dX12_readsSum_25 : decode cX12_readsSum 25 = .ok (.aload_n 0, 1) := by decide +kernel
theorem dX12_readsSum_26 : decode cX12_readsSum 26 = .ok (.invokevirtual 333, 3) := by decide +kernel
theorem dX12_readsSum_29 : decode cX12_readsSum 29 = .ok (.return_, 1) := by decide +kernel
set_option maxRecDepth 100000 in
theorem m_X12_readsSum {g : GT} {n nf : Int} (hu : Up false nf n) (M : Mem) : AM g false yX12_readsSum cX12_readsSum 1 none (6) n n nf [(2, 337)] M (f_X12_readsSum M) := by
  refine AM_of (by decide +kernel) (Nat.le_of_ble_eq_true rfl) (fun h => absurd h (Int.lt_irrefl n)) ?_
  show AW g false RX12 cX12_readsSum 1 none (6) n n nf 0 [(0, 2, 337)] [] n M (f_X12_readsSum M)
  unfold f_X12_readsSum
  refine r_aload_n 0 dX12_readsSum_0 rfl rfl ?_
  refine r_iconst dX12_readsSum_1 ⟨by decide, by decide⟩ ?_
  refine r_pf (t := 0) (kz := 34) rfl hu dX12_readsSum_2 kF_X12_288 kd_337 rfl rfl rfl (fun h => absurd h (by decide)) rfl kX_12_34 (fun M1 eM1 => ?_)
  refine r_aload_n 0 dX12_readsSum_5 rfl rfl ?_
  refine r_aload_n 0 dX12_readsSum_6 rfl rfl ?_
  refine r_gf (t := 0) (kz := 52) rfl hu dX12_readsSum_7 kF_X12_348 kd_337 rfl rfl rfl ?_
  refine r_pf (t := 0) (kz := 35) rfl hu dX12_readsSum_10 kF_X12_285 kd_337 rfl rfl rfl (fun h => absurd h (by decide)) rfl kX_12_35 (fun M2 eM2 => ?_)
  refine r_aload_n 0 dX12_readsSum_13 rfl rfl ?_
  refine r_iconst dX12_readsSum_14 ⟨by decide, by decide⟩ ?_
  refine r_pf (t := 0) (kz := 51) rfl hu dX12_readsSum_15 kF_X12_295 kd_337 rfl rfl rfl (fun h => absurd h (by decide)) rfl kX_12_51 (fun M3 eM3 => ?_)
  refine r_aload_n 0 dX12_readsSum_18 rfl rfl ?_
  refine r_gf (t := 0) (kz := 5) rfl hu dX12_readsSum_19 kF_X12_227 kd_337 rfl rfl rfl ?_
  refine r_if_ne (tgt := 29) dX12_readsSum_22 rfl (fun h4 => ?_) (fun h5 => ?_)
  · refine r_aload_n 0 dX12_readsSum_25 rfl rfl ?_
    refine r_invv (a := 337) hu ⟨Nat.le_refl _, Nat.le_refl _⟩ dX12_readsSum_26 kM_X12_333 (ci := 12) rfl kd_337 rfl rfl (by decide) (by decide) [] rfl (sk := []) rfl (Nat.le_of_ble_eq_true rfl) rfl (m_X12_sums hu M3) (fun r6 M7 => ?_)
    exact r_vret rfl rfl dX12_readsSum_29
  · exact r_vret rfl rfl dX12_readsSum_29
theorem dX12_readsTest_0 : decode cX12_readsTest 0 = .ok (.aload_n 0, 1) := by decide +kernel
theorem dX12_readsTest_1 : decode cX12_readsTest 1 = .ok (.aload_n 0, 1) := by decide +kernel
theorem dX12_readsTest_2 : decode cX12_readsTest 2 = .ok (.getfield 45, 3) := by decide +kernel
theorem dX12_readsTest_5 : decode cX12_readsTest 5 = .ok (.invokevirtual 307, 3) := by decide +kernel
theorem dX12_readsTest_8 : decode cX12_readsTest 8 = .ok (.aload_n 0, 1) := by decide +kernel
theorem dX12_readsTest_9 : decode cX12_readsTest 9 = .ok (.getfield 227, 3) := by decide +kernel
theorem dX12_readsTest_12 : decode cX12_readsTest 12 = .ok (.ifCond .ne 7, 3) := by decide +kernel
theorem dX12_readsTest_15 : decode cX12_readsTest 15 = .ok (.aload_n 0, 1) := by decide +kernel
theorem dX12_readsTest_16 : decode cX12_readsTest 16 = .ok (.invokevirtual 351, 3) := by decide +kernel
theorem dX12_readsTest_19 : decode cX12_readsTest 19 = .ok (.return_, 1) := by decide +kernel
set_option maxRecDepth 100000 in
theorem m_X12_readsTest {g : GT} {n nf : Int} (hu : Up false nf n) (M : Mem) : AM g false yX12_readsTest cX12_readsTest 1 none (8) n n nf [(2, 337)] M (f_X12_readsTest M) := by
  refine AM_of (by decide +kernel) (Nat.le_of_ble_eq_true rfl) (fun h => absurd h (Int.lt_irrefl n)) ?_
  show AW g false RX12 cX12_readsTest 1 none (8) n n nf 0 [(0, 2, 337)] [] n M (f_X12_readsTest M)
  unfold f_X12_readsTest
  refine r_aload_n 0 dX12_readsTest_0 rfl rfl ?_
  refine r_aload_n 0 dX12_readsTest_1 rfl rfl ?_
  refine r_gx (kz := 18) rfl hu dX12_readsTest_2 kF_X12_45 kd_337 rfl rfl rfl fx_337_18 ?_
  refine r_invv (a := 337) hu ⟨Nat.le_refl _, Nat.le_refl _⟩ dX12_readsTest_5 kM_X12_307 (ci := 12) rfl kd_337 rfl rfl (by decide) (by decide) [(2, 348)] rfl (sk := []) rfl (Nat.le_of_ble_eq_true rfl) rfl (m_X12_asks hu M 348 kd_348) (fun r1 M2 => ?_)
  refine r_aload_n 0 dX12_readsTest_8 rfl rfl ?_
  refine r_gf (t := 0) (kz := 5) rfl hu dX12_readsTest_9 kF_X12_227 kd_337 rfl rfl rfl ?_
  refine r_if_ne (tgt := 19) dX12_readsTest_12 rfl (fun h3 => ?_) (fun h4 => ?_)
  · refine r_aload_n 0 dX12_readsTest_15 rfl rfl ?_
    refine r_invv (a := 337) hu ⟨Nat.le_refl _, Nat.le_refl _⟩ dX12_readsTest_16 kM_X12_351 (ci := 12) rfl kd_337 rfl rfl (by decide) (by decide) [] rfl (sk := []) rfl (Nat.le_of_ble_eq_true rfl) rfl (m_X12_test hu M2) (fun r5 M6 => ?_)
    exact r_vret rfl rfl dX12_readsTest_19
  · exact r_vret rfl rfl dX12_readsTest_19
theorem dX12_ruleTold_0 : decode cX12_ruleTold 0 = .ok (.aload_n 0, 1) := by decide +kernel
theorem dX12_ruleTold_1 : decode cX12_ruleTold 1 = .ok (.getfield 87, 3) := by decide +kernel
theorem dX12_ruleTold_4 : decode cX12_ruleTold 4 = .ok (.iconst 0, 1) := by decide +kernel
theorem dX12_ruleTold_5 : decode cX12_ruleTold 5 = .ok (.iaload, 1) := by decide +kernel
theorem dX12_ruleTold_6 : decode cX12_ruleTold 6 = .ok (.istore_n 1, 1) := by decide +kernel
theorem dX12_ruleTold_7 : decode cX12_ruleTold 7 = .ok (.aload_n 0, 1) := by decide +kernel
theorem dX12_ruleTold_8 : decode cX12_ruleTold 8 = .ok (.getfield 90, 3) := by decide +kernel
theorem dX12_ruleTold_11 : decode cX12_ruleTold 11 = .ok (.iload_n 1, 1) := by decide +kernel
theorem dX12_ruleTold_12 : decode cX12_ruleTold 12 = .ok (.aload_n 0, 1) := by decide +kernel
theorem dX12_ruleTold_13 : decode cX12_ruleTold 13 = .ok (.getfield 282, 3) := by decide +kernel
theorem dX12_ruleTold_16 : decode cX12_ruleTold 16 = .ok (.iastore, 1) := by decide +kernel
theorem dX12_ruleTold_17 : decode cX12_ruleTold 17 = .ok (.aload_n 0, 1) := by decide +kernel
theorem dX12_ruleTold_18 : decode cX12_ruleTold 18 = .ok (.invokevirtual 354, 3) := by decide +kernel
theorem dX12_ruleTold_21 : decode cX12_ruleTold 21 = .ok (.aload_n 0, 1) := by decide +kernel
theorem dX12_ruleTold_22 : decode cX12_ruleTold 22 = .ok (.getfield 93, 3) := by decide +kernel
theorem dX12_ruleTold_25 : decode cX12_ruleTold 25 = .ok (.iload_n 1, 1) := by decide +kernel
theorem dX12_ruleTold_26 : decode cX12_ruleTold 26 = .ok (.aload_n 0, 1) := by decide +kernel
theorem dX12_ruleTold_27 : decode cX12_ruleTold 27 = .ok (.getfield 282, 3) := by decide +kernel
theorem dX12_ruleTold_30 : decode cX12_ruleTold 30 = .ok (.iastore, 1) := by decide +kernel
theorem dX12_ruleTold_31 : decode cX12_ruleTold 31 = .ok (.aload_n 0, 1) := by decide +kernel
theorem dX12_ruleTold_32 : decode cX12_ruleTold 32 = .ok (.invokevirtual 357, 3) := by decide +kernel
theorem dX12_ruleTold_35 : decode cX12_ruleTold 35 = .ok (.aload_n 0, 1) := by decide +kernel
theorem dX12_ruleTold_36 : decode cX12_ruleTold 36 = .ok (.getfield 96, 3) := by decide +kernel
theorem dX12_ruleTold_39 : decode cX12_ruleTold 39 = .ok (.iload_n 1, 1) := by decide +kernel
theorem dX12_ruleTold_40 : decode cX12_ruleTold 40 = .ok (.aload_n 0, 1) := by decide +kernel
theorem dX12_ruleTold_41 : decode cX12_ruleTold 41 = .ok (.getfield 282, 3) := by decide +kernel
theorem dX12_ruleTold_44 : decode cX12_ruleTold 44 = .ok (.iastore, 1) := by decide +kernel
theorem dX12_ruleTold_45 : decode cX12_ruleTold 45 = .ok (.aload_n 0, 1) := by decide +kernel
theorem dX12_ruleTold_46 : decode cX12_ruleTold 46 = .ok (.getfield 87, 3) := by decide +kernel
theorem dX12_ruleTold_49 : decode cX12_ruleTold 49 = .ok (.iconst 0, 1) := by decide +kernel
theorem dX12_ruleTold_50 : decode cX12_ruleTold 50 = .ok (.dup2, 1) := by decide +kernel
theorem dX12_ruleTold_51 : decode cX12_ruleTold 51 = .ok (.iaload, 1) := by decide +kernel
theorem dX12_ruleTold_52 : decode cX12_ruleTold 52 = .ok (.iconst 1, 1) := by decide +kernel
theorem dX12_ruleTold_53 : decode cX12_ruleTold 53 = .ok (.iadd, 1) := by decide +kernel
theorem dX12_ruleTold_54 : decode cX12_ruleTold 54 = .ok (.iastore, 1) := by decide +kernel
theorem dX12_ruleTold_55 : decode cX12_ruleTold 55 = .ok (.return_, 1) := by decide +kernel
set_option maxRecDepth 100000 in
theorem m_X12_ruleTold {g : GT} {n nf : Int} (hu : Up false nf n) (M : Mem) : AM g false yX12_ruleTold cX12_ruleTold 2 none (9) n n nf [(2, 337)] M (f_X12_ruleTold M) := by
  refine AM_of (by decide +kernel) (Nat.le_of_ble_eq_true rfl) (fun h => absurd h (Int.lt_irrefl n)) ?_
  show AW g false RX12 cX12_ruleTold 2 none (9) n n nf 0 [(0, 2, 337)] [] n M (f_X12_ruleTold M)
  unfold f_X12_ruleTold
  refine r_aload_n 0 dX12_ruleTold_0 rfl rfl ?_
  refine r_gx (kz := 37) rfl hu dX12_ruleTold_1 kF_X12_87 kd_337 rfl rfl rfl fx_337_37 ?_
  refine r_iconst dX12_ruleTold_4 ⟨by decide, by decide⟩ ?_
  refine r_iald hu dX12_ruleTold_5 kd_362 rfl (Or.inl rfl) rfl ln_362 ⟨by decide, by decide⟩ ?_
  refine r_istore_nB dX12_ruleTold_6 rfl (by decide) (lf := fun y1 => [(1, 0, y1), (0, 2, 337)]) (fun _ => rfl) (fun y1 ey1 => ?_)
  refine r_aload_n 1 dX12_ruleTold_7 rfl rfl ?_
  refine r_gx (kz := 38) rfl hu dX12_ruleTold_8 kF_X12_90 kd_337 rfl rfl rfl fx_337_38 ?_
  refine r_iload_n 0 dX12_ruleTold_11 rfl rfl ?_
  refine r_aload_n 1 dX12_ruleTold_12 rfl rfl ?_
  refine r_gf (t := 0) (kz := 32) rfl hu dX12_ruleTold_13 kF_X12_282 kd_337 rfl rfl rfl ?_
  refine r_ok (fun h2 => ?_)
  refine r_iast hu dX12_ruleTold_16 kd_363 rfl (Or.inl rfl) rfl ln_363 h2 rfl (fun M3 eM3 => ?_)
  refine r_aload_n 1 dX12_ruleTold_17 rfl rfl ?_
  refine r_invv (a := 337) hu ⟨Nat.le_refl _, Nat.le_refl _⟩ dX12_ruleTold_18 kM_X12_354 (ci := 12) rfl kd_337 rfl rfl (by decide) (by decide) [] rfl (sk := []) rfl (Nat.le_of_ble_eq_true rfl) rfl (m_X12_readsSum hu M3) (fun r4 M5 => ?_)
  refine r_aload_n 1 dX12_ruleTold_21 rfl rfl ?_
  refine r_gx (kz := 39) rfl hu dX12_ruleTold_22 kF_X12_93 kd_337 rfl rfl rfl fx_337_39 ?_
  refine r_iload_n 0 dX12_ruleTold_25 rfl rfl ?_
  refine r_aload_n 1 dX12_ruleTold_26 rfl rfl ?_
  refine r_gf (t := 0) (kz := 32) rfl hu dX12_ruleTold_27 kF_X12_282 kd_337 rfl rfl rfl ?_
  refine r_iast hu dX12_ruleTold_30 kd_364 rfl (Or.inl rfl) rfl ln_364 h2 rfl (fun M6 eM6 => ?_)
  refine r_aload_n 1 dX12_ruleTold_31 rfl rfl ?_
  refine r_invv (a := 337) hu ⟨Nat.le_refl _, Nat.le_refl _⟩ dX12_ruleTold_32 kM_X12_357 (ci := 12) rfl kd_337 rfl rfl (by decide) (by decide) [] rfl (sk := []) rfl (Nat.le_of_ble_eq_true rfl) rfl (m_X12_readsTest hu M6) (fun r7 M8 => ?_)
  refine r_aload_n 1 dX12_ruleTold_35 rfl rfl ?_
  refine r_gx (kz := 40) rfl hu dX12_ruleTold_36 kF_X12_96 kd_337 rfl rfl rfl fx_337_40 ?_
  refine r_iload_n 0 dX12_ruleTold_39 rfl rfl ?_
  refine r_aload_n 1 dX12_ruleTold_40 rfl rfl ?_
  refine r_gf (t := 0) (kz := 32) rfl hu dX12_ruleTold_41 kF_X12_282 kd_337 rfl rfl rfl ?_
  refine r_iast hu dX12_ruleTold_44 kd_365 rfl (Or.inl rfl) rfl ln_365 h2 rfl (fun M9 eM9 => ?_)
  refine r_aload_n 1 dX12_ruleTold_45 rfl rfl ?_
  refine r_gx (kz := 37) rfl hu dX12_ruleTold_46 kF_X12_87 kd_337 rfl rfl rfl fx_337_37 ?_
  refine r_iconst dX12_ruleTold_49 ⟨by decide, by decide⟩ ?_
  refine r_dup2 dX12_ruleTold_50 (nz0 _) (nz2 _) ?_
  refine r_iald hu dX12_ruleTold_51 kd_362 rfl (Or.inl rfl) rfl ln_362 ⟨by decide, by decide⟩ ?_
  refine r_iconst dX12_ruleTold_52 ⟨by decide, by decide⟩ ?_
  refine r_ok (fun h10 => ?_)
  refine r_iadd dX12_ruleTold_53 h10 ?_
  refine r_iast hu dX12_ruleTold_54 kd_362 rfl (Or.inl rfl) rfl ln_362 ⟨by decide, by decide⟩ rfl (fun M11 eM11 => ?_)
  exact r_vret rfl rfl dX12_ruleTold_55
theorem dX12_thingTold_0 : decode cX12_thingTold 0 = .ok (.aload_n 0, 1) := by decide +kernel
theorem dX12_thingTold_1 : decode cX12_thingTold 1 = .ok (.getfield 119, 3) := by decide +kernel
theorem dX12_thingTold_4 : decode cX12_thingTold 4 = .ok (.iconst 0, 1) := by decide +kernel
theorem dX12_thingTold_5 : decode cX12_thingTold 5 = .ok (.iaload, 1) := by decide +kernel
theorem dX12_thingTold_6 : decode cX12_thingTold 6 = .ok (.istore_n 2, 1) := by decide +kernel
theorem dX12_thingTold_7 : decode cX12_thingTold 7 = .ok (.iload_n 2, 1) := by decide +kernel
theorem dX12_thingTold_8 : decode cX12_thingTold 8 = .ok (.iconst 5, 1) := by decide +kernel
theorem dX12_thingTold_9 : decode cX12_thingTold 9 = .ok (.if_icmp .ne 10, 3) := by decide +kernel
theorem dX12_thingTold_12 : decode cX12_thingTold 12 = .ok (.aload_n 0, 1) := by decide +kernel
theorem dX12_thingTold_13 : decode cX12_thingTold 13 = .ok (.iconst 5, 1) := by decide +kernel
theorem dX12_thingTold_14 : decode cX12_thingTold 14 = .ok (.iload_n 1, 1) := by decide +kernel
theorem dX12_thingTold_15 : decode cX12_thingTold 15 = .ok (.invokevirtual 257, 3) := by decide +kernel
theorem dX12_thingTold_18 : decode cX12_thingTold 18 = .ok (.return_, 1) := by decide +kernel
theorem dX12_thingTold_19 : decode cX12_thingTold 19 = .ok (.aload_n 0, 1) := by decide +kernel
theorem dX12_thingTold_20 : decode cX12_thingTold 20 = .ok (.getfield 122, 3) := by decide +kernel
theorem dX12_thingTold_23 : decode cX12_thingTold 23 = .ok (.iload_n 2, 1) := by decide +kernel
theorem dX12_thingTold_24 : decode cX12_thingTold 24 = .ok (.aload_n 0, 1) := by decide +kernel
theorem dX12_thingTold_25 : decode cX12_thingTold 25 = .ok (.invokevirtual 360, 3) := by decide +kernel
theorem dX12_thingTold_28 : decode cX12_thingTold 28 = .ok (.lastore, 1) := by decide +kernel
theorem dX12_thingTold_29 : decode cX12_thingTold 29 = .ok (.iconst 0, 1) := by decide +kernel
theorem dX12_thingTold_30 : decode cX12_thingTold 30 = .ok (.istore_n 3, 1) := by decide +kernel
theorem dX12_thingTold_31 : decode cX12_thingTold 31 = .ok (.iload_n 3, 1) := by decide +kernel
theorem dX12_thingTold_32 : decode cX12_thingTold 32 = .ok (.iload_n 2, 1) := by decide +kernel
theorem dX12_thingTold_33 : decode cX12_thingTold 33 = .ok (.if_icmp .ge 41, 3) := by decide +kernel
theorem dX12_thingTold_36 : decode cX12_thingTold 36 = .ok (.aload_n 0, 1) := by decide +kernel
theorem dX12_thingTold_37 : decode cX12_thingTold 37 = .ok (.getfield 227, 3) := by decide +kernel
theorem dX12_thingTold_40 : decode cX12_thingTold 40 = .ok (.ifCond .ne 34, 3) := by decide +kernel
theorem dX12_thingTold_43 : decode cX12_thingTold 43 = .ok (.aload_n 0, 1) := by decide +kernel
theorem dX12_thingTold_44 : decode cX12_thingTold 44 = .ok (.getfield 122, 3) := by decide +kernel
theorem dX12_thingTold_47 : decode cX12_thingTold 47 = .ok (.iload_n 3, 1) := by decide +kernel
theorem dX12_thingTold_48 : decode cX12_thingTold 48 = .ok (.laload, 1) := by decide +kernel
theorem dX12_thingTold_49 : decode cX12_thingTold 49 = .ok (.aload_n 0, 1) := by decide +kernel
theorem dX12_thingTold_50 : decode cX12_thingTold 50 = .ok (.getfield 122, 3) := by decide +kernel
theorem dX12_thingTold_53 : decode cX12_thingTold 53 = .ok (.iload_n 2, 1) := by decide +kernel
theorem dX12_thingTold_54 : decode cX12_thingTold 54 = .ok (.laload, 1) := by decide +kernel
theorem dX12_thingTold_55 : decode cX12_thingTold 55 = .ok (.lcmp, 1) := by decide +kernel
theorem dX12_thingTold_56 : decode cX12_thingTold 56 = .ok (.ifCond .ne 12, 3) := by decide +kernel
theorem dX12_thingTold_59 : decode cX12_thingTold 59 = .ok (.aload_n 0, 1) := by decide +kernel
theorem dX12_thingTold_60 : decode cX12_thingTold 60 = .ok (.iconst 3, 1) := by decide +kernel
theorem dX12_thingTold_61 : decode cX12_thingTold 61 = .ok (.aload_n 0, 1) := by decide +kernel
theorem dX12_thingTold_62 : decode cX12_thingTold 62 = .ok (.getfield 275, 3) := by decide +kernel
theorem dX12_thingTold_65 : decode cX12_thingTold 65 = .ok (.invokevirtual 257, 3) := by decide +kernel
theorem dX12_thingTold_68 : decode cX12_thingTold 68 = .ok (.iinc 3 1, 3) := by decide +kernel
theorem dX12_thingTold_71 : decode cX12_thingTold 71 = .ok (.goto (-40), 3) := by decide +kernel
theorem dX12_thingTold_74 : decode cX12_thingTold 74 = .ok (.aload_n 0, 1) := by decide +kernel
theorem dX12_thingTold_75 : decode cX12_thingTold 75 = .ok (.getfield 125, 3) := by decide +kernel
theorem dX12_thingTold_78 : decode cX12_thingTold 78 = .ok (.iload_n 2, 1) := by decide +kernel
theorem dX12_thingTold_79 : decode cX12_thingTold 79 = .ok (.aload_n 0, 1) := by decide +kernel
theorem dX12_thingTold_80 : decode cX12_thingTold 80 = .ok (.iconst 2, 1) := by decide +kernel
theorem dX12_thingTold_81 : decode cX12_thingTold 81 = .ok (.bipush 6, 2) := by decide +kernel
theorem dX12_thingTold_83 : decode cX12_thingTold 83 = .ok (.invokevirtual 314, 3) := by decide +kernel
theorem dX12_thingTold_86 : decode cX12_thingTold 86 = .ok (.iastore, 1) := by decide +kernel
theorem dX12_thingTold_87 : decode cX12_thingTold 87 = .ok (.aload_n 0, 1) := by decide +kernel
theorem dX12_thingTold_88 : decode cX12_thingTold 88 = .ok (.getfield 119, 3) := by decide +kernel
theorem dX12_thingTold_91 : decode cX12_thingTold 91 = .ok (.iconst 0, 1) := by decide +kernel
theorem dX12_thingTold_92 : decode cX12_thingTold 92 = .ok (.dup2, 1) := by decide +kernel
theorem dX12_thingTold_93 : decode cX12_thingTold 93 = .ok (.iaload, 1) := by decide +kernel
theorem dX12_thingTold_94 : decode cX12_thingTold 94 = .ok (.iconst 1, 1) := by decide +kernel
theorem dX12_thingTold_95 : decode cX12_thingTold 95 = .ok (.iadd, 1) := by decide +kernel
theorem dX12_thingTold_96 : decode cX12_thingTold 96 = .ok (.iastore, 1) := by decide +kernel
theorem dX12_thingTold_97 : decode cX12_thingTold 97 = .ok (.return_, 1) := by decide +kernel
set_option maxRecDepth 100000 in
theorem tj_X12_thingTold_74 {g : GT} {n nf : Int} (hu : Up false nf n) (M : Mem) (x2 : Int) : AW g false RX12 cX12_thingTold 4 none (4) n n nf 74 [(0, 2, 337), (2, 0, x2)] [] n M (j_X12_thingTold_74 M x2) := by
  unfold j_X12_thingTold_74
  refine r_aload_n 0 dX12_thingTold_74 rfl rfl ?_
  refine r_gx (kz := 49) rfl hu dX12_thingTold_75 kF_X12_125 kd_337 rfl rfl rfl fx_337_49 ?_
  refine r_iload_n 1 dX12_thingTold_78 rfl rfl ?_
  refine r_aload_n 0 dX12_thingTold_79 rfl rfl ?_
  refine r_iconst dX12_thingTold_80 ⟨by decide, by decide⟩ ?_
  refine r_bipush dX12_thingTold_81 (by decide) ⟨by decide, by decide⟩ ?_
  refine r_inv (a := 337) hu ⟨Nat.le_refl _, Nat.le_refl _⟩ dX12_thingTold_83 kM_X12_314 (ci := 12) rfl kd_337 rfl rfl (by decide) (by decide) [(0, 2), (0, 6)] rfl (sk := [(0, x2), (2, 374)]) rfl (Nat.le_of_ble_eq_true rfl) rfl rfl (m_X12_number hu M 2 6) (fun r12 M13 => ?_)
  refine r_ok (fun h14 => ?_)
  refine r_iast hu dX12_thingTold_86 kd_374 rfl (Or.inl rfl) rfl ln_374 h14 rfl (fun M15 eM15 => ?_)
  refine r_aload_n 0 dX12_thingTold_87 rfl rfl ?_
  refine r_gx (kz := 47) rfl hu dX12_thingTold_88 kF_X12_119 kd_337 rfl rfl rfl fx_337_47 ?_
  refine r_iconst dX12_thingTold_91 ⟨by decide, by decide⟩ ?_
  refine r_dup2 dX12_thingTold_92 (nz0 _) (nz2 _) ?_
  refine r_iald hu dX12_thingTold_93 kd_372 rfl (Or.inl rfl) rfl ln_372 ⟨by decide, by decide⟩ ?_
  refine r_iconst dX12_thingTold_94 ⟨by decide, by decide⟩ ?_
  refine r_ok (fun h16 => ?_)
  refine r_iadd dX12_thingTold_95 h16 ?_
  refine r_iast hu dX12_thingTold_96 kd_372 rfl (Or.inl rfl) rfl ln_372 ⟨by decide, by decide⟩ rfl (fun M17 eM17 => ?_)
  exact r_vret rfl rfl dX12_thingTold_97
set_option maxRecDepth 100000 in
theorem tb_X12_thingTold_31 {g : GT} {n nf : Int} (hu : Up false nf n) (w31 : Mem → Int → Int → Res) (hw31 : ∀ (M : Mem) (x2 x3 : Int), AW g false RX12 cX12_thingTold 4 none (4) n n nf 31 [(0, 2, 337), (2, 0, x2), (3, 0, x3)] [] n M (w31 M x2 x3)) (M : Mem) (x2 x3 : Int) : AW g false RX12 cX12_thingTold 4 none (4) n n nf 31 [(0, 2, 337), (2, 0, x2), (3, 0, x3)] [] n M (b_X12_thingTold_31 w31 M x2 x3) := by
  unfold b_X12_thingTold_31
  refine r_iload_n 2 dX12_thingTold_31 rfl rfl ?_
  refine r_iload_n 1 dX12_thingTold_32 rfl rfl ?_
  refine r_icmp_ge (tgt := 74) dX12_thingTold_33 rfl (fun h10 => ?_) (fun h11 => ?_)
  · refine r_sub [0, 1] (ls' := [(0, 2, 337), (2, 0, x2)]) rfl ?_
    exact tj_X12_thingTold_74 hu M x2
  · refine r_aload_n 0 dX12_thingTold_36 rfl rfl ?_
    refine r_gf (t := 0) (kz := 5) rfl hu dX12_thingTold_37 kF_X12_227 kd_337 rfl rfl rfl ?_
    refine r_if_ne (tgt := 74) dX12_thingTold_40 rfl (fun h18 => ?_) (fun h19 => ?_)
    · refine r_aload_n 0 dX12_thingTold_43 rfl rfl ?_
      refine r_gx (kz := 48) rfl hu dX12_thingTold_44 kF_X12_122 kd_337 rfl rfl rfl fx_337_48 ?_
      refine r_iload_n 2 dX12_thingTold_47 rfl rfl ?_
      refine r_ok (fun h20 => ?_)
      refine r_lald hu dX12_thingTold_48 kd_373 rfl rfl rfl ln_373 h20 ?_
      refine r_aload_n 0 dX12_thingTold_49 rfl rfl ?_
      refine r_gx (kz := 48) rfl hu dX12_thingTold_50 kF_X12_122 kd_337 rfl rfl rfl fx_337_48 ?_
      refine r_iload_n 1 dX12_thingTold_53 rfl rfl ?_
      refine r_ok (fun h21 => ?_)
      refine r_lald hu dX12_thingTold_54 kd_373 rfl rfl rfl ln_373 h21 ?_
      refine r_lif_ne (tgt := 68) dX12_thingTold_55 dX12_thingTold_56 rfl (fun h22 => ?_) (fun h23 => ?_)
      · refine r_aload_n 0 dX12_thingTold_59 rfl rfl ?_
        refine r_iconst dX12_thingTold_60 ⟨by decide, by decide⟩ ?_
        refine r_aload_n 0 dX12_thingTold_61 rfl rfl ?_
        refine r_gf (t := 0) (kz := 30) rfl hu dX12_thingTold_62 kF_X12_275 kd_337 rfl rfl rfl ?_
        refine r_invv (a := 337) hu ⟨Nat.le_refl _, Nat.le_refl _⟩ dX12_thingTold_65 kM_X12_257 (ci := 12) rfl kd_337 rfl rfl (by decide) (by decide) [(0, 3), (0, M 337 30)] rfl (sk := []) rfl (Nat.le_of_ble_eq_true rfl) rfl (m_X12_fail hu M 3 (M 337 30)) (fun r24 M25 => ?_)
        refine r_iincB 2 dX12_thingTold_68 rfl ⟨by have := h20; omega, by have := h20; omega⟩ (by decide) (lf := fun y26 => [(3, 0, y26), (0, 2, 337), (2, 0, x2)]) (fun _ => rfl) (fun y26 ey26 => ?_)
        refine r_goto (tgt := 31) dX12_thingTold_71 rfl ?_
        refine r_sub [1, 2, 0] (ls' := [(0, 2, 337), (2, 0, x2), (3, 0, y26)]) rfl ?_
        exact hw31 M25 x2 y26
      · refine r_iincB 2 dX12_thingTold_68 rfl ⟨by have := h20; omega, by have := h20; omega⟩ (by decide) (lf := fun y27 => [(3, 0, y27), (0, 2, 337), (2, 0, x2)]) (fun _ => rfl) (fun y27 ey27 => ?_)
        refine r_goto (tgt := 31) dX12_thingTold_71 rfl ?_
        refine r_sub [1, 2, 0] (ls' := [(0, 2, 337), (2, 0, x2), (3, 0, y27)]) rfl ?_
        exact hw31 M x2 y27
    · refine r_sub [0, 1] (ls' := [(0, 2, 337), (2, 0, x2)]) rfl ?_
      exact tj_X12_thingTold_74 hu M x2
set_option maxRecDepth 100000 in
theorem m_X12_thingTold {g : GT} {n nf : Int} (hu : Up false nf n) (M : Mem) (a1 : Int) : AM g false yX12_thingTold cX12_thingTold 4 none (4) n n nf [(2, 337), (0, a1)] M (f_X12_thingTold M a1) := by
  refine AM_of (by decide +kernel) (Nat.le_of_ble_eq_true rfl) (fun h => absurd h (Int.lt_irrefl n)) ?_
  show AW g false RX12 cX12_thingTold 4 none (4) n n nf 0 [(0, 2, 337), (1, 0, a1)] [] n M (f_X12_thingTold M a1)
  unfold f_X12_thingTold
  refine r_aload_n 0 dX12_thingTold_0 rfl rfl ?_
  refine r_gx (kz := 47) rfl hu dX12_thingTold_1 kF_X12_119 kd_337 rfl rfl rfl fx_337_47 ?_
  refine r_iconst dX12_thingTold_4 ⟨by decide, by decide⟩ ?_
  refine r_iald hu dX12_thingTold_5 kd_372 rfl (Or.inl rfl) rfl ln_372 ⟨by decide, by decide⟩ ?_
  refine r_istore_nB dX12_thingTold_6 rfl (by decide) (lf := fun y1 => [(2, 0, y1), (0, 2, 337), (1, 0, a1)]) (fun _ => rfl) (fun y1 ey1 => ?_)
  refine r_iload_n 0 dX12_thingTold_7 rfl rfl ?_
  refine r_iconst dX12_thingTold_8 ⟨by decide, by decide⟩ ?_
  refine r_icmp_ne (tgt := 19) dX12_thingTold_9 rfl (fun h2 => ?_) (fun h3 => ?_)
  · refine r_aload_n 1 dX12_thingTold_12 rfl rfl ?_
    refine r_iconst dX12_thingTold_13 ⟨by decide, by decide⟩ ?_
    refine r_iload_n 2 dX12_thingTold_14 rfl rfl ?_
    refine r_invv (a := 337) hu ⟨Nat.le_refl _, Nat.le_refl _⟩ dX12_thingTold_15 kM_X12_257 (ci := 12) rfl kd_337 rfl rfl (by decide) (by decide) [(0, 5), (0, a1)] rfl (sk := []) rfl (Nat.le_of_ble_eq_true rfl) rfl (m_X12_fail hu M 5 a1) (fun r4 M5 => ?_)
    exact r_vret rfl rfl dX12_thingTold_18
  · refine r_aload_n 1 dX12_thingTold_19 rfl rfl ?_
    refine r_gx (kz := 48) rfl hu dX12_thingTold_20 kF_X12_122 kd_337 rfl rfl rfl fx_337_48 ?_
    refine r_iload_n 0 dX12_thingTold_23 rfl rfl ?_
    refine r_aload_n 1 dX12_thingTold_24 rfl rfl ?_
    refine r_inv (a := 337) hu ⟨Nat.le_refl _, Nat.le_refl _⟩ dX12_thingTold_25 kM_X12_360 (ci := 12) rfl kd_337 rfl rfl (by decide) (by decide) [] rfl (sk := [(0, y1), (2, 373)]) rfl (Nat.le_of_ble_eq_true rfl) rfl rfl (m_X12_name hu M) (fun r6 M7 => ?_)
    refine r_ok (fun h8 => ?_)
    refine r_last hu dX12_thingTold_28 kd_373 rfl rfl rfl ln_373 h8 rfl (fun M9 eM9 => ?_)
    refine r_iconst dX12_thingTold_29 ⟨by decide, by decide⟩ ?_
    refine r_istore_n dX12_thingTold_30 rfl (by decide) (ls' := [(3, 0, 0), (2, 0, y1), (0, 2, 337), (1, 0, a1)]) rfl ?_
    refine r_sub [2, 1, 0] (ls' := [(0, 2, 337), (2, 0, y1), (3, 0, 0)]) rfl ?_
    exact wl2_aw (P := fun M x2 x3 o => AW g false RX12 cX12_thingTold 4 none (4) n n nf 31 [(0, 2, 337), (2, 0, x2), (3, 0, x3)] [] n M (o)) (fun M x2 x3 => aw_none) (fun w hw M x2 x3 => tb_X12_thingTold_31 hu w hw M x2 x3) FU M9 y1 0
theorem dX12_discTold_0 : decode cX12_discTold 0 = .ok (.aload_n 0, 1) := by decide +kernel
theorem dX12_discTold_1 : decode cX12_discTold 1 = .ok (.iconst 0, 1) := by decide +kernel
theorem dX12_discTold_2 : decode cX12_discTold 2 = .ok (.bipush 11, 2) := by decide +kernel
theorem dX12_discTold_4 : decode cX12_discTold 4 = .ok (.invokevirtual 314, 3) := by decide +kernel
theorem dX12_discTold_7 : decode cX12_discTold 7 = .ok (.istore_n 1, 1) := by decide +kernel
theorem dX12_discTold_8 : decode cX12_discTold 8 = .ok (.aload_n 0, 1) := by decide +kernel
theorem dX12_discTold_9 : decode cX12_discTold 9 = .ok (.iconst 0, 1) := by decide +kernel
theorem dX12_discTold_10 : decode cX12_discTold 10 = .ok (.bipush 7, 2) := by decide +kernel
theorem dX12_discTold_12 : decode cX12_discTold 12 = .ok (.invokevirtual 314, 3) := by decide +kernel
theorem dX12_discTold_15 : decode cX12_discTold 15 = .ok (.istore_n 2, 1) := by decide +kernel
theorem dX12_discTold_16 : decode cX12_discTold 16 = .ok (.aload_n 0, 1) := by decide +kernel
theorem dX12_discTold_17 : decode cX12_discTold 17 = .ok (.getfield 128, 3) := by decide +kernel
theorem dX12_discTold_20 : decode cX12_discTold 20 = .ok (.iconst 0, 1) := by decide +kernel
theorem dX12_discTold_21 : decode cX12_discTold 21 = .ok (.bipush 12, 2) := by decide +kernel
theorem dX12_discTold_23 : decode cX12_discTold 23 = .ok (.iload_n 2, 1) := by decide +kernel
theorem dX12_discTold_24 : decode cX12_discTold 24 = .ok (.imul, 1) := by decide +kernel
theorem dX12_discTold_25 : decode cX12_discTold 25 = .ok (.iload_n 1, 1) := by decide +kernel
theorem dX12_discTold_26 : decode cX12_discTold 26 = .ok (.iadd, 1) := by decide +kernel
theorem dX12_discTold_27 : decode cX12_discTold 27 = .ok (.iastore, 1) := by decide +kernel
theorem dX12_discTold_28 : decode cX12_discTold 28 = .ok (.return_, 1) := by decide +kernel
set_option maxRecDepth 100000 in
theorem m_X12_discTold {g : GT} {n nf : Int} (hu : Up false nf n) (M : Mem) : AM g false yX12_discTold cX12_discTold 3 none (2) n n nf [(2, 337)] M (f_X12_discTold M) := by
  refine AM_of (by decide +kernel) (Nat.le_of_ble_eq_true rfl) (fun h => absurd h (Int.lt_irrefl n)) ?_
  show AW g false RX12 cX12_discTold 3 none (2) n n nf 0 [(0, 2, 337)] [] n M (f_X12_discTold M)
  unfold f_X12_discTold
  refine r_aload_n 0 dX12_discTold_0 rfl rfl ?_
  refine r_iconst dX12_discTold_1 ⟨by decide, by decide⟩ ?_
  refine r_bipush dX12_discTold_2 (by decide) ⟨by decide, by decide⟩ ?_
  refine r_inv (a := 337) hu ⟨Nat.le_refl _, Nat.le_refl _⟩ dX12_discTold_4 kM_X12_314 (ci := 12) rfl kd_337 rfl rfl (by decide) (by decide) [(0, 0), (0, 11)] rfl (sk := []) rfl (Nat.le_of_ble_eq_true rfl) rfl rfl (m_X12_number hu M 0 11) (fun r1 M2 => ?_)
  refine r_istore_n dX12_discTold_7 rfl (by decide) (ls' := [(1, 0, r1), (0, 2, 337)]) rfl ?_
  refine r_aload_n 1 dX12_discTold_8 rfl rfl ?_
  refine r_iconst dX12_discTold_9 ⟨by decide, by decide⟩ ?_
  refine r_bipush dX12_discTold_10 (by decide) ⟨by decide, by decide⟩ ?_
  refine r_inv (a := 337) hu ⟨Nat.le_refl _, Nat.le_refl _⟩ dX12_discTold_12 kM_X12_314 (ci := 12) rfl kd_337 rfl rfl (by decide) (by decide) [(0, 0), (0, 7)] rfl (sk := []) rfl (Nat.le_of_ble_eq_true rfl) rfl rfl (m_X12_number hu M2 0 7) (fun r3 M4 => ?_)
  refine r_istore_n dX12_discTold_15 rfl (by decide) (ls' := [(2, 0, r3), (1, 0, r1), (0, 2, 337)]) rfl ?_
  refine r_aload_n 2 dX12_discTold_16 rfl rfl ?_
  refine r_gx (kz := 50) rfl hu dX12_discTold_17 kF_X12_128 kd_337 rfl rfl rfl fx_337_50 ?_
  refine r_iconst dX12_discTold_20 ⟨by decide, by decide⟩ ?_
  refine r_bipush dX12_discTold_21 (by decide) ⟨by decide, by decide⟩ ?_
  refine r_iload_n 0 dX12_discTold_23 rfl rfl ?_
  refine r_ok (fun h5 => ?_)
  refine r_imul dX12_discTold_24 h5 ?_
  refine r_iload_n 1 dX12_discTold_25 rfl rfl ?_
  refine r_ok (fun h6 => ?_)
  refine r_iadd dX12_discTold_26 h6 ?_
  refine r_iast hu dX12_discTold_27 kd_375 rfl (Or.inl rfl) rfl ln_375 ⟨by decide, by decide⟩ rfl (fun M7 eM7 => ?_)
  exact r_vret rfl rfl dX12_discTold_28
theorem dX12_wayTold_0 : decode cX12_wayTold 0 = .ok (.aload_n 0, 1) := by decide +kernel
theorem dX12_wayTold_1 : decode cX12_wayTold 1 = .ok (.getfield 99, 3) := by decide +kernel
theorem dX12_wayTold_4 : decode cX12_wayTold 4 = .ok (.iconst 0, 1) := by decide +kernel
theorem dX12_wayTold_5 : decode cX12_wayTold 5 = .ok (.iaload, 1) := by decide +kernel
theorem dX12_wayTold_6 : decode cX12_wayTold 6 = .ok (.istore_n 2, 1) := by decide +kernel
theorem dX12_wayTold_7 : decode cX12_wayTold 7 = .ok (.iload_n 2, 1) := by decide +kernel
theorem dX12_wayTold_8 : decode cX12_wayTold 8 = .ok (.iconst 5, 1) := by decide +kernel
theorem dX12_wayTold_9 : decode cX12_wayTold 9 = .ok (.if_icmp .ne 10, 3) := by decide +kernel
theorem dX12_wayTold_12 : decode cX12_wayTold 12 = .ok (.aload_n 0, 1) := by decide +kernel
theorem dX12_wayTold_13 : decode cX12_wayTold 13 = .ok (.iconst 5, 1) := by decide +kernel
theorem dX12_wayTold_14 : decode cX12_wayTold 14 = .ok (.iload_n 1, 1) := by decide +kernel
theorem dX12_wayTold_15 : decode cX12_wayTold 15 = .ok (.invokevirtual 257, 3) := by decide +kernel
theorem dX12_wayTold_18 : decode cX12_wayTold 18 = .ok (.return_, 1) := by decide +kernel
theorem dX12_wayTold_19 : decode cX12_wayTold 19 = .ok (.aload_n 0, 1) := by decide +kernel
theorem dX12_wayTold_20 : decode cX12_wayTold 20 = .ok (.getfield 102, 3) := by decide +kernel
theorem dX12_wayTold_23 : decode cX12_wayTold 23 = .ok (.iload_n 2, 1) := by decide +kernel
theorem dX12_wayTold_24 : decode cX12_wayTold 24 = .ok (.aload_n 0, 1) := by decide +kernel
theorem dX12_wayTold_25 : decode cX12_wayTold 25 = .ok (.invokevirtual 360, 3) := by decide +kernel
theorem dX12_wayTold_28 : decode cX12_wayTold 28 = .ok (.lastore, 1) := by decide +kernel
theorem dX12_wayTold_29 : decode cX12_wayTold 29 = .ok (.iconst 0, 1) := by decide +kernel
theorem dX12_wayTold_30 : decode cX12_wayTold 30 = .ok (.istore_n 3, 1) := by decide +kernel
theorem dX12_wayTold_31 : decode cX12_wayTold 31 = .ok (.iload_n 3, 1) := by decide +kernel
theorem dX12_wayTold_32 : decode cX12_wayTold 32 = .ok (.iload_n 2, 1) := by decide +kernel
theorem dX12_wayTold_33 : decode cX12_wayTold 33 = .ok (.if_icmp .ge 41, 3) := by decide +kernel
theorem dX12_wayTold_36 : decode cX12_wayTold 36 = .ok (.aload_n 0, 1) := by decide +kernel
theorem dX12_wayTold_37 : decode cX12_wayTold 37 = .ok (.getfield 227, 3) := by decide +kernel
theorem dX12_wayTold_40 : decode cX12_wayTold 40 = .ok (.ifCond .ne 34, 3) := by decide +kernel
theorem dX12_wayTold_43 : decode cX12_wayTold 43 = .ok (.aload_n 0, 1) := by decide +kernel
theorem dX12_wayTold_44 : decode cX12_wayTold 44 = .ok (.getfield 102, 3) := by decide +kernel
theorem dX12_wayTold_47 : decode cX12_wayTold 47 = .ok (.iload_n 3, 1) := by decide +kernel
theorem dX12_wayTold_48 : decode cX12_wayTold 48 = .ok (.laload, 1) := by decide +kernel
theorem dX12_wayTold_49 : decode cX12_wayTold 49 = .ok (.aload_n 0, 1) := by decide +kernel
theorem dX12_wayTold_50 : decode cX12_wayTold 50 = .ok (.getfield 102, 3) := by decide +kernel
theorem dX12_wayTold_53 : decode cX12_wayTold 53 = .ok (.iload_n 2, 1) := by decide +kernel
theorem dX12_wayTold_54 : decode cX12_wayTold 54 = .ok (.laload, 1) := by decide +kernel
theorem dX12_wayTold_55 : decode cX12_wayTold 55 = .ok (.lcmp, 1) := by decide +kernel
theorem dX12_wayTold_56 : decode cX12_wayTold 56 = .ok (.ifCond .ne 12, 3) := by decide +kernel
theorem dX12_wayTold_59 : decode cX12_wayTold 59 = .ok (.aload_n 0, 1) := by decide +kernel
theorem dX12_wayTold_60 : decode cX12_wayTold 60 = .ok (.iconst 3, 1) := by decide +kernel
theorem dX12_wayTold_61 : decode cX12_wayTold 61 = .ok (.aload_n 0, 1) := by decide +kernel
theorem dX12_wayTold_62 : decode cX12_wayTold 62 = .ok (.getfield 275, 3) := by decide +kernel
theorem dX12_wayTold_65 : decode cX12_wayTold 65 = .ok (.invokevirtual 257, 3) := by decide +kernel
theorem dX12_wayTold_68 : decode cX12_wayTold 68 = .ok (.iinc 3 1, 3) := by decide +kernel
theorem dX12_wayTold_71 : decode cX12_wayTold 71 = .ok (.goto (-40), 3) := by decide +kernel
theorem dX12_wayTold_74 : decode cX12_wayTold 74 = .ok (.aload_n 0, 1) := by decide +kernel
theorem dX12_wayTold_75 : decode cX12_wayTold 75 = .ok (.getfield 106, 3) := by decide +kernel
theorem dX12_wayTold_78 : decode cX12_wayTold 78 = .ok (.iload_n 2, 1) := by decide +kernel
theorem dX12_wayTold_79 : decode cX12_wayTold 79 = .ok (.aload_n 0, 1) := by decide +kernel
theorem dX12_wayTold_80 : decode cX12_wayTold 80 = .ok (.aload_n 0, 1) := by decide +kernel
theorem dX12_wayTold_81 : decode cX12_wayTold 81 = .ok (.getfield 30, 3) := by decide +kernel
theorem dX12_wayTold_84 : decode cX12_wayTold 84 = .ok (.invokevirtual 254, 3) := by decide +kernel
theorem dX12_wayTold_87 : decode cX12_wayTold 87 = .ok (.bastore, 1) := by decide +kernel
theorem dX12_wayTold_88 : decode cX12_wayTold 88 = .ok (.aload_n 0, 1) := by decide +kernel
theorem dX12_wayTold_89 : decode cX12_wayTold 89 = .ok (.getfield 106, 3) := by decide +kernel
theorem dX12_wayTold_92 : decode cX12_wayTold 92 = .ok (.iload_n 2, 1) := by decide +kernel
theorem dX12_wayTold_93 : decode cX12_wayTold 93 = .ok (.baload, 1) := by decide +kernel
theorem dX12_wayTold_94 : decode cX12_wayTold 94 = .ok (.ifCond .ne 11, 3) := by decide +kernel
theorem dX12_wayTold_97 : decode cX12_wayTold 97 = .ok (.aload_n 0, 1) := by decide +kernel
theorem dX12_wayTold_98 : decode cX12_wayTold 98 = .ok (.aload_n 0, 1) := by decide +kernel
theorem dX12_wayTold_99 : decode cX12_wayTold 99 = .ok (.getfield 33, 3) := by decide +kernel
theorem dX12_wayTold_102 : decode cX12_wayTold 102 = .ok (.invokevirtual 307, 3) := by decide +kernel
theorem dX12_wayTold_105 : decode cX12_wayTold 105 = .ok (.aload_n 0, 1) := by decide +kernel
theorem dX12_wayTold_106 : decode cX12_wayTold 106 = .ok (.getfield 110, 3) := by decide +kernel
theorem dX12_wayTold_109 : decode cX12_wayTold 109 = .ok (.iload_n 2, 1) := by decide +kernel
theorem dX12_wayTold_110 : decode cX12_wayTold 110 = .ok (.aload_n 0, 1) := by decide +kernel
theorem dX12_wayTold_111 : decode cX12_wayTold 111 = .ok (.getfield 282, 3) := by decide +kernel
theorem dX12_wayTold_114 : decode cX12_wayTold 114 = .ok (.iastore, 1) := by decide +kernel
theorem dX12_wayTold_115 : decode cX12_wayTold 115 = .ok (.aload_n 0, 1) := by decide +kernel
theorem dX12_wayTold_116 : decode cX12_wayTold 116 = .ok (.invokevirtual 354, 3) := by decide +kernel
theorem dX12_wayTold_119 : decode cX12_wayTold 119 = .ok (.aload_n 0, 1) := by decide +kernel
theorem dX12_wayTold_120 : decode cX12_wayTold 120 = .ok (.getfield 113, 3) := by decide +kernel
theorem dX12_wayTold_123 : decode cX12_wayTold 123 = .ok (.iload_n 2, 1) := by decide +kernel
theorem dX12_wayTold_124 : decode cX12_wayTold 124 = .ok (.aload_n 0, 1) := by decide +kernel
theorem dX12_wayTold_125 : decode cX12_wayTold 125 = .ok (.getfield 282, 3) := by decide +kernel
theorem dX12_wayTold_128 : decode cX12_wayTold 128 = .ok (.iastore, 1) := by decide +kernel
theorem dX12_wayTold_129 : decode cX12_wayTold 129 = .ok (.aload_n 0, 1) := by decide +kernel
theorem dX12_wayTold_130 : decode cX12_wayTold 130 = .ok (.invokevirtual 357, 3) := by decide +kernel
theorem dX12_wayTold_133 : decode cX12_wayTold 133 = .ok (.aload_n 0, 1) := by decide +kernel
theorem dX12_wayTold_134 : decode cX12_wayTold 134 = .ok (.getfield 116, 3) := by decide +kernel
theorem dX12_wayTold_137 : decode cX12_wayTold 137 = .ok (.iload_n 2, 1) := by decide +kernel
theorem dX12_wayTold_138 : decode cX12_wayTold 138 = .ok (.aload_n 0, 1) := by decide +kernel
theorem dX12_wayTold_139 : decode cX12_wayTold 139 = .ok (.getfield 282, 3) := by decide +kernel
theorem dX12_wayTold_142 : decode cX12_wayTold 142 = .ok (.iastore, 1) := by decide +kernel
theorem dX12_wayTold_143 : decode cX12_wayTold 143 = .ok (.aload_n 0, 1) := by decide +kernel
theorem dX12_wayTold_144 : decode cX12_wayTold 144 = .ok (.getfield 99, 3) := by decide +kernel
theorem dX12_wayTold_147 : decode cX12_wayTold 147 = .ok (.iconst 0, 1) := by decide +kernel
theorem dX12_wayTold_148 : decode cX12_wayTold 148 = .ok (.dup2, 1) := by decide +kernel
theorem dX12_wayTold_149 : decode cX12_wayTold 149 = .ok (.iaload, 1) := by decide +kernel
theorem dX12_wayTold_150 : decode cX12_wayTold 150 = .ok (.iconst 1, 1) := by decide +kernel
theorem dX12_wayTold_151 : decode cX12_wayTold 151 = .ok (.iadd, 1) := by decide +kernel
theorem dX12_wayTold_152 : decode cX12_wayTold 152 = .ok (.iastore, 1) := by decide +kernel
theorem dX12_wayTold_153 : decode cX12_wayTold 153 = .ok (.return_, 1) := by decide +kernel
set_option maxRecDepth 100000 in
theorem tj_X12_wayTold_105 {g : GT} {n nf : Int} (hu : Up false nf n) (M : Mem) (x2 : Int) : AW g false RX12 cX12_wayTold 4 none (9) n n nf 105 [(0, 2, 337), (2, 0, x2)] [] n M (j_X12_wayTold_105 M x2) := by
  unfold j_X12_wayTold_105
  refine r_aload_n 0 dX12_wayTold_105 rfl rfl ?_
  refine r_gx (kz := 44) rfl hu dX12_wayTold_106 kF_X12_110 kd_337 rfl rfl rfl fx_337_44 ?_
  refine r_iload_n 1 dX12_wayTold_109 rfl rfl ?_
  refine r_aload_n 0 dX12_wayTold_110 rfl rfl ?_
  refine r_gf (t := 0) (kz := 32) rfl hu dX12_wayTold_111 kF_X12_282 kd_337 rfl rfl rfl ?_
  refine r_ok (fun h21 => ?_)
  refine r_iast hu dX12_wayTold_114 kd_369 rfl (Or.inl rfl) rfl ln_369 h21 rfl (fun M22 eM22 => ?_)
  refine r_aload_n 0 dX12_wayTold_115 rfl rfl ?_
  refine r_invv (a := 337) hu ⟨Nat.le_refl _, Nat.le_refl _⟩ dX12_wayTold_116 kM_X12_354 (ci := 12) rfl kd_337 rfl rfl (by decide) (by decide) [] rfl (sk := []) rfl (Nat.le_of_ble_eq_true rfl) rfl (m_X12_readsSum hu M22) (fun r23 M24 => ?_)
  refine r_aload_n 0 dX12_wayTold_119 rfl rfl ?_
  refine r_gx (kz := 45) rfl hu dX12_wayTold_120 kF_X12_113 kd_337 rfl rfl rfl fx_337_45 ?_
  refine r_iload_n 1 dX12_wayTold_123 rfl rfl ?_
  refine r_aload_n 0 dX12_wayTold_124 rfl rfl ?_
  refine r_gf (t := 0) (kz := 32) rfl hu dX12_wayTold_125 kF_X12_282 kd_337 rfl rfl rfl ?_
  refine r_iast hu dX12_wayTold_128 kd_370 rfl (Or.inl rfl) rfl ln_370 h21 rfl (fun M25 eM25 => ?_)
  refine r_aload_n 0 dX12_wayTold_129 rfl rfl ?_
  refine r_invv (a := 337) hu ⟨Nat.le_refl _, Nat.le_refl _⟩ dX12_wayTold_130 kM_X12_357 (ci := 12) rfl kd_337 rfl rfl (by decide) (by decide) [] rfl (sk := []) rfl (Nat.le_of_ble_eq_true rfl) rfl (m_X12_readsTest hu M25) (fun r26 M27 => ?_)
  refine r_aload_n 0 dX12_wayTold_133 rfl rfl ?_
  refine r_gx (kz := 46) rfl hu dX12_wayTold_134 kF_X12_116 kd_337 rfl rfl rfl fx_337_46 ?_
  refine r_iload_n 1 dX12_wayTold_137 rfl rfl ?_
  refine r_aload_n 0 dX12_wayTold_138 rfl rfl ?_
  refine r_gf (t := 0) (kz := 32) rfl hu dX12_wayTold_139 kF_X12_282 kd_337 rfl rfl rfl ?_
  refine r_iast hu dX12_wayTold_142 kd_371 rfl (Or.inl rfl) rfl ln_371 h21 rfl (fun M28 eM28 => ?_)
  refine r_aload_n 0 dX12_wayTold_143 rfl rfl ?_
  refine r_gx (kz := 41) rfl hu dX12_wayTold_144 kF_X12_99 kd_337 rfl rfl rfl fx_337_41 ?_
  refine r_iconst dX12_wayTold_147 ⟨by decide, by decide⟩ ?_
  refine r_dup2 dX12_wayTold_148 (nz0 _) (nz2 _) ?_
  refine r_iald hu dX12_wayTold_149 kd_366 rfl (Or.inl rfl) rfl ln_366 ⟨by decide, by decide⟩ ?_
  refine r_iconst dX12_wayTold_150 ⟨by decide, by decide⟩ ?_
  refine r_ok (fun h29 => ?_)
  refine r_iadd dX12_wayTold_151 h29 ?_
  refine r_iast hu dX12_wayTold_152 kd_366 rfl (Or.inl rfl) rfl ln_366 ⟨by decide, by decide⟩ rfl (fun M30 eM30 => ?_)
  exact r_vret rfl rfl dX12_wayTold_153
set_option maxRecDepth 100000 in
theorem tj_X12_wayTold_74 {g : GT} {n nf : Int} (hu : Up false nf n) (M : Mem) (x2 : Int) : AW g false RX12 cX12_wayTold 4 none (9) n n nf 74 [(0, 2, 337), (2, 0, x2)] [] n M (j_X12_wayTold_74 M x2) := by
  unfold j_X12_wayTold_74
  refine r_aload_n 0 dX12_wayTold_74 rfl rfl ?_
  refine r_gx (kz := 43) rfl hu dX12_wayTold_75 kF_X12_106 kd_337 rfl rfl rfl fx_337_43 ?_
  refine r_iload_n 1 dX12_wayTold_78 rfl rfl ?_
  refine r_aload_n 0 dX12_wayTold_79 rfl rfl ?_
  refine r_aload_n 0 dX12_wayTold_80 rfl rfl ?_
  refine r_gx (kz := 13) rfl hu dX12_wayTold_81 kF_X12_30 kd_337 rfl rfl rfl fx_337_13 ?_
  refine r_inv (a := 337) hu ⟨Nat.le_refl _, Nat.le_refl _⟩ dX12_wayTold_84 kM_X12_254 (ci := 12) rfl kd_337 rfl rfl (by decide) (by decide) [(2, 343)] rfl (sk := [(0, x2), (2, 368)]) rfl (Nat.le_of_ble_eq_true rfl) rfl rfl (m_X12_takes hu M 343 kd_343) (fun r12 M13 => ?_)
  refine r_ok (fun h14 => ?_)
  refine r_ok (fun h15 => ?_)
  refine r_zast hu dX12_wayTold_87 kd_368 rfl rfl rfl ln_368 h14 h15 rfl (fun M16 eM16 => ?_)
  refine r_aload_n 0 dX12_wayTold_88 rfl rfl ?_
  refine r_gx (kz := 43) rfl hu dX12_wayTold_89 kF_X12_106 kd_337 rfl rfl rfl fx_337_43 ?_
  refine r_iload_n 1 dX12_wayTold_92 rfl rfl ?_
  refine r_zald hu dX12_wayTold_93 kd_368 rfl rfl rfl ln_368 h14 ?_
  refine r_if_ne (tgt := 105) dX12_wayTold_94 rfl (fun h17 => ?_) (fun h18 => ?_)
  · refine r_aload_n 0 dX12_wayTold_97 rfl rfl ?_
    refine r_aload_n 0 dX12_wayTold_98 rfl rfl ?_
    refine r_gx (kz := 14) rfl hu dX12_wayTold_99 kF_X12_33 kd_337 rfl rfl rfl fx_337_14 ?_
    refine r_invv (a := 337) hu ⟨Nat.le_refl _, Nat.le_refl _⟩ dX12_wayTold_102 kM_X12_307 (ci := 12) rfl kd_337 rfl rfl (by decide) (by decide) [(2, 344)] rfl (sk := []) rfl (Nat.le_of_ble_eq_true rfl) rfl (m_X12_asks hu M16 344 kd_344) (fun r19 M20 => ?_)
    exact tj_X12_wayTold_105 hu M20 x2
  · exact tj_X12_wayTold_105 hu M16 x2
set_option maxRecDepth 100000 in
theorem tb_X12_wayTold_31 {g : GT} {n nf : Int} (hu : Up false nf n) (w31 : Mem → Int → Int → Res) (hw31 : ∀ (M : Mem) (x2 x3 : Int), AW g false RX12 cX12_wayTold 4 none (9) n n nf 31 [(0, 2, 337), (2, 0, x2), (3, 0, x3)] [] n M (w31 M x2 x3)) (M : Mem) (x2 x3 : Int) : AW g false RX12 cX12_wayTold 4 none (9) n n nf 31 [(0, 2, 337), (2, 0, x2), (3, 0, x3)] [] n M (b_X12_wayTold_31 w31 M x2 x3) := by
  unfold b_X12_wayTold_31
  refine r_iload_n 2 dX12_wayTold_31 rfl rfl ?_
  refine r_iload_n 1 dX12_wayTold_32 rfl rfl ?_
  refine r_icmp_ge (tgt := 74) dX12_wayTold_33 rfl (fun h10 => ?_) (fun h11 => ?_)
  · refine r_sub [0, 1] (ls' := [(0, 2, 337), (2, 0, x2)]) rfl ?_
    exact tj_X12_wayTold_74 hu M x2
  · refine r_aload_n 0 dX12_wayTold_36 rfl rfl ?_
    refine r_gf (t := 0) (kz := 5) rfl hu dX12_wayTold_37 kF_X12_227 kd_337 rfl rfl rfl ?_
    refine r_if_ne (tgt := 74) dX12_wayTold_40 rfl (fun h31 => ?_) (fun h32 => ?_)
    · refine r_aload_n 0 dX12_wayTold_43 rfl rfl ?_
      refine r_gx (kz := 42) rfl hu dX12_wayTold_44 kF_X12_102 kd_337 rfl rfl rfl fx_337_42 ?_
      refine r_iload_n 2 dX12_wayTold_47 rfl rfl ?_
      refine r_ok (fun h33 => ?_)
      refine r_lald hu dX12_wayTold_48 kd_367 rfl rfl rfl ln_367 h33 ?_
      refine r_aload_n 0 dX12_wayTold_49 rfl rfl ?_
      refine r_gx (kz := 42) rfl hu dX12_wayTold_50 kF_X12_102 kd_337 rfl rfl rfl fx_337_42 ?_
      refine r_iload_n 1 dX12_wayTold_53 rfl rfl ?_
      refine r_ok (fun h34 => ?_)
      refine r_lald hu dX12_wayTold_54 kd_367 rfl rfl rfl ln_367 h34 ?_
      refine r_lif_ne (tgt := 68) dX12_wayTold_55 dX12_wayTold_56 rfl (fun h35 => ?_) (fun h36 => ?_)
      · refine r_aload_n 0 dX12_wayTold_59 rfl rfl ?_
        refine r_iconst dX12_wayTold_60 ⟨by decide, by decide⟩ ?_
        refine r_aload_n 0 dX12_wayTold_61 rfl rfl ?_
        refine r_gf (t := 0) (kz := 30) rfl hu dX12_wayTold_62 kF_X12_275 kd_337 rfl rfl rfl ?_
        refine r_invv (a := 337) hu ⟨Nat.le_refl _, Nat.le_refl _⟩ dX12_wayTold_65 kM_X12_257 (ci := 12) rfl kd_337 rfl rfl (by decide) (by decide) [(0, 3), (0, M 337 30)] rfl (sk := []) rfl (Nat.le_of_ble_eq_true rfl) rfl (m_X12_fail hu M 3 (M 337 30)) (fun r37 M38 => ?_)
        refine r_iincB 2 dX12_wayTold_68 rfl ⟨by have := h33; omega, by have := h33; omega⟩ (by decide) (lf := fun y39 => [(3, 0, y39), (0, 2, 337), (2, 0, x2)]) (fun _ => rfl) (fun y39 ey39 => ?_)
        refine r_goto (tgt := 31) dX12_wayTold_71 rfl ?_
        refine r_sub [1, 2, 0] (ls' := [(0, 2, 337), (2, 0, x2), (3, 0, y39)]) rfl ?_
        exact hw31 M38 x2 y39
      · refine r_iincB 2 dX12_wayTold_68 rfl ⟨by have := h33; omega, by have := h33; omega⟩ (by decide) (lf := fun y40 => [(3, 0, y40), (0, 2, 337), (2, 0, x2)]) (fun _ => rfl) (fun y40 ey40 => ?_)
        refine r_goto (tgt := 31) dX12_wayTold_71 rfl ?_
        refine r_sub [1, 2, 0] (ls' := [(0, 2, 337), (2, 0, x2), (3, 0, y40)]) rfl ?_
        exact hw31 M x2 y40
    · refine r_sub [0, 1] (ls' := [(0, 2, 337), (2, 0, x2)]) rfl ?_
      exact tj_X12_wayTold_74 hu M x2
set_option maxRecDepth 100000 in
theorem m_X12_wayTold {g : GT} {n nf : Int} (hu : Up false nf n) (M : Mem) (a1 : Int) : AM g false yX12_wayTold cX12_wayTold 4 none (9) n n nf [(2, 337), (0, a1)] M (f_X12_wayTold M a1) := by
  refine AM_of (by decide +kernel) (Nat.le_of_ble_eq_true rfl) (fun h => absurd h (Int.lt_irrefl n)) ?_
  show AW g false RX12 cX12_wayTold 4 none (9) n n nf 0 [(0, 2, 337), (1, 0, a1)] [] n M (f_X12_wayTold M a1)
  unfold f_X12_wayTold
  refine r_aload_n 0 dX12_wayTold_0 rfl rfl ?_
  refine r_gx (kz := 41) rfl hu dX12_wayTold_1 kF_X12_99 kd_337 rfl rfl rfl fx_337_41 ?_
  refine r_iconst dX12_wayTold_4 ⟨by decide, by decide⟩ ?_
  refine r_iald hu dX12_wayTold_5 kd_366 rfl (Or.inl rfl) rfl ln_366 ⟨by decide, by decide⟩ ?_
  refine r_istore_nB dX12_wayTold_6 rfl (by decide) (lf := fun y1 => [(2, 0, y1), (0, 2, 337), (1, 0, a1)]) (fun _ => rfl) (fun y1 ey1 => ?_)
  refine r_iload_n 0 dX12_wayTold_7 rfl rfl ?_
  refine r_iconst dX12_wayTold_8 ⟨by decide, by decide⟩ ?_
  refine r_icmp_ne (tgt := 19) dX12_wayTold_9 rfl (fun h2 => ?_) (fun h3 => ?_)
  · refine r_aload_n 1 dX12_wayTold_12 rfl rfl ?_
    refine r_iconst dX12_wayTold_13 ⟨by decide, by decide⟩ ?_
    refine r_iload_n 2 dX12_wayTold_14 rfl rfl ?_
    refine r_invv (a := 337) hu ⟨Nat.le_refl _, Nat.le_refl _⟩ dX12_wayTold_15 kM_X12_257 (ci := 12) rfl kd_337 rfl rfl (by decide) (by decide) [(0, 5), (0, a1)] rfl (sk := []) rfl (Nat.le_of_ble_eq_true rfl) rfl (m_X12_fail hu M 5 a1) (fun r4 M5 => ?_)
    exact r_vret rfl rfl dX12_wayTold_18
  · refine r_aload_n 1 dX12_wayTold_19 rfl rfl ?_
    refine r_gx (kz := 42) rfl hu dX12_wayTold_20 kF_X12_102 kd_337 rfl rfl rfl fx_337_42 ?_
    refine r_iload_n 0 dX12_wayTold_23 rfl rfl ?_
    refine r_aload_n 1 dX12_wayTold_24 rfl rfl ?_
    refine r_inv (a := 337) hu ⟨Nat.le_refl _, Nat.le_refl _⟩ dX12_wayTold_25 kM_X12_360 (ci := 12) rfl kd_337 rfl rfl (by decide) (by decide) [] rfl (sk := [(0, y1), (2, 367)]) rfl (Nat.le_of_ble_eq_true rfl) rfl rfl (m_X12_name hu M) (fun r6 M7 => ?_)
    refine r_ok (fun h8 => ?_)
    refine r_last hu dX12_wayTold_28 kd_367 rfl rfl rfl ln_367 h8 rfl (fun M9 eM9 => ?_)
    refine r_iconst dX12_wayTold_29 ⟨by decide, by decide⟩ ?_
    refine r_istore_n dX12_wayTold_30 rfl (by decide) (ls' := [(3, 0, 0), (2, 0, y1), (0, 2, 337), (1, 0, a1)]) rfl ?_
    refine r_sub [2, 1, 0] (ls' := [(0, 2, 337), (2, 0, y1), (3, 0, 0)]) rfl ?_
    exact wl2_aw (P := fun M x2 x3 o => AW g false RX12 cX12_wayTold 4 none (9) n n nf 31 [(0, 2, 337), (2, 0, x2), (3, 0, x3)] [] n M (o)) (fun M x2 x3 => aw_none) (fun w hw M x2 x3 => tb_X12_wayTold_31 hu w hw M x2 x3) FU M9 y1 0
theorem dX12_statement_0 : decode cX12_statement 0 = .ok (.aload_n 0, 1) := by decide +kernel
theorem dX12_statement_1 : decode cX12_statement 1 = .ok (.getfield 233, 3) := by decide +kernel
theorem dX12_statement_4 : decode cX12_statement 4 = .ok (.istore_n 2, 1) := by decide +kernel
theorem dX12_statement_5 : decode cX12_statement 5 = .ok (.aload_n 0, 1) := by decide +kernel
theorem dX12_statement_6 : decode cX12_statement 6 = .ok (.getfield 364, 3) := by decide +kernel
theorem dX12_statement_9 : decode cX12_statement 9 = .ok (.bipush 40, 2) := by decide +kernel
theorem dX12_statement_11 : decode cX12_statement 11 = .ok (.if_icmp .ne 10, 3) := by decide +kernel
theorem dX12_statement_14 : decode cX12_statement 14 = .ok (.aload_n 0, 1) := by decide +kernel
theorem dX12_statement_15 : decode cX12_statement 15 = .ok (.iconst 5, 1) := by decide +kernel
theorem dX12_statement_16 : decode cX12_statement 16 = .ok (.iload_n 2, 1) := by decide +kernel
theorem dX12_statement_17 : decode cX12_statement 17 = .ok (.invokevirtual 257, 3) := by decide +kernel
theorem dX12_statement_20 : decode cX12_statement 20 = .ok (.return_, 1) := by decide +kernel
theorem dX12_statement_21 : decode cX12_statement 21 = .ok (.iload_n 1, 1) := by decide +kernel
theorem dX12_statement_22 : decode cX12_statement 22 = .ok (.ifCond .eq 14, 3) := by decide +kernel
theorem dX12_statement_25 : decode cX12_statement 25 = .ok (.aload_n 0, 1) := by decide +kernel
theorem dX12_statement_26 : decode cX12_statement 26 = .ok (.aload_n 0, 1) := by decide +kernel
theorem dX12_statement_27 : decode cX12_statement 27 = .ok (.getfield 17, 3) := by decide +kernel
theorem dX12_statement_30 : decode cX12_statement 30 = .ok (.invokevirtual 254, 3) := by decide +kernel
theorem dX12_statement_33 : decode cX12_statement 33 = .ok (.ifCond .ne 18, 3) := by decide +kernel
theorem dX12_statement_36 : decode cX12_statement 36 = .ok (.iload_n 1, 1) := by decide +kernel
theorem dX12_statement_37 : decode cX12_statement 37 = .ok (.ifCond .ne 21, 3) := by decide +kernel
theorem dX12_statement_40 : decode cX12_statement 40 = .ok (.aload_n 0, 1) := by decide +kernel
theorem dX12_statement_41 : decode cX12_statement 41 = .ok (.aload_n 0, 1) := by decide +kernel
theorem dX12_statement_42 : decode cX12_statement 42 = .ok (.getfield 36, 3) := by decide +kernel
theorem dX12_statement_45 : decode cX12_statement 45 = .ok (.invokevirtual 254, 3) := by decide +kernel
theorem dX12_statement_48 : decode cX12_statement 48 = .ok (.ifCond .eq 10, 3) := by decide +kernel
theorem dX12_statement_51 : decode cX12_statement 51 = .ok (.aload_n 0, 1) := by decide +kernel
theorem dX12_statement_52 : decode cX12_statement 52 = .ok (.invokevirtual 367, 3) := by decide +kernel
theorem dX12_statement_55 : decode cX12_statement 55 = .ok (.goto 68, 3) := by decide +kernel
theorem dX12_statement_58 : decode cX12_statement 58 = .ok (.iload_n 1, 1) := by decide +kernel
theorem dX12_statement_59 : decode cX12_statement 59 = .ok (.ifCond .ne 26, 3) := by decide +kernel
theorem dX12_statement_62 : decode cX12_statement 62 = .ok (.aload_n 0, 1) := by decide +kernel
theorem dX12_statement_63 : decode cX12_statement 63 = .ok (.aload_n 0, 1) := by decide +kernel
theorem dX12_statement_64 : decode cX12_statement 64 = .ok (.getfield 27, 3) := by decide +kernel
theorem dX12_statement_67 : decode cX12_statement 67 = .ok (.invokevirtual 307, 3) := by decide +kernel
theorem dX12_statement_70 : decode cX12_statement 70 = .ok (.aload_n 0, 1) := by decide +kernel
theorem dX12_statement_71 : decode cX12_statement 71 = .ok (.getfield 227, 3) := by decide +kernel
theorem dX12_statement_74 : decode cX12_statement 74 = .ok (.ifCond .ne 49, 3) := by decide +kernel
theorem dX12_statement_77 : decode cX12_statement 77 = .ok (.aload_n 0, 1) := by decide +kernel
theorem dX12_statement_78 : decode cX12_statement 78 = .ok (.iload_n 2, 1) := by decide +kernel
theorem dX12_statement_79 : decode cX12_statement 79 = .ok (.invokevirtual 370, 3) := by decide +kernel
theorem dX12_statement_82 : decode cX12_statement 82 = .ok (.goto 41, 3) := by decide +kernel
theorem dX12_statement_85 : decode cX12_statement 85 = .ok (.aload_n 0, 1) := by decide +kernel
theorem dX12_statement_86 : decode cX12_statement 86 = .ok (.aload_n 0, 1) := by decide +kernel
theorem dX12_statement_87 : decode cX12_statement 87 = .ok (.getfield 21, 3) := by decide +kernel
theorem dX12_statement_90 : decode cX12_statement 90 = .ok (.invokevirtual 254, 3) := by decide +kernel
theorem dX12_statement_93 : decode cX12_statement 93 = .ok (.ifCond .eq 10, 3) := by decide +kernel
theorem dX12_statement_96 : decode cX12_statement 96 = .ok (.aload_n 0, 1) := by decide +kernel
theorem dX12_statement_97 : decode cX12_statement 97 = .ok (.invokevirtual 373, 3) := by decide +kernel
theorem dX12_statement_100 : decode cX12_statement 100 = .ok (.goto 23, 3) := by decide +kernel
theorem dX12_statement_103 : decode cX12_statement 103 = .ok (.aload_n 0, 1) := by decide +kernel
theorem dX12_statement_104 : decode cX12_statement 104 = .ok (.aload_n 0, 1) := by decide +kernel
theorem dX12_statement_105 : decode cX12_statement 105 = .ok (.getfield 24, 3) := by decide +kernel
theorem dX12_statement_108 : decode cX12_statement 108 = .ok (.invokevirtual 307, 3) := by decide +kernel
theorem dX12_statement_111 : decode cX12_statement 111 = .ok (.aload_n 0, 1) := by decide +kernel
theorem dX12_statement_112 : decode cX12_statement 112 = .ok (.getfield 227, 3) := by decide +kernel
theorem dX12_statement_115 : decode cX12_statement 115 = .ok (.ifCond .ne 8, 3) := by decide +kernel
theorem dX12_statement_118 : decode cX12_statement 118 = .ok (.aload_n 0, 1) := by decide +kernel
theorem dX12_statement_119 : decode cX12_statement 119 = .ok (.iload_n 2, 1) := by decide +kernel
theorem dX12_statement_120 : decode cX12_statement 120 = .ok (.invokevirtual 376, 3) := by decide +kernel
theorem dX12_statement_123 : decode cX12_statement 123 = .ok (.aload_n 0, 1) := by decide +kernel
theorem dX12_statement_124 : decode cX12_statement 124 = .ok (.bipush 59, 2) := by decide +kernel
theorem dX12_statement_126 : decode cX12_statement 126 = .ok (.invokevirtual 311, 3) := by decide +kernel
theorem dX12_statement_129 : decode cX12_statement 129 = .ok (.aload_n 0, 1) := by decide +kernel
theorem dX12_statement_130 : decode cX12_statement 130 = .ok (.dup, 1) := by decide +kernel
theorem dX12_statement_131 : decode cX12_statement 131 = .ok (.getfield 364, 3) := by decide +kernel
theorem dX12_statement_134 : decode cX12_statement 134 = .ok (.iconst 1, 1) := by decide +kernel
theorem dX12_statement_135 : decode cX12_statement 135 = .ok (.iadd, 1) := by decide +kernel
theorem dX12_statement_136 : decode cX12_statement 136 = .ok (.putfield 364, 3) := by decide +kernel
theorem dX12_statement_139 : decode cX12_statement 139 = .ok (.return_, 1) := by decide +kernel
set_option maxRecDepth 100000 in
theorem tj_X12_statement_123 {g : GT} {n nf : Int} (hu : Up false nf n) (M : Mem) : AW g false RX12 cX12_statement 3 none (10) n n nf 123 [(0, 2, 337)] [] n M (j_X12_statement_123 M) := by
  unfold j_X12_statement_123
  refine r_aload_n 0 dX12_statement_123 rfl rfl ?_
  refine r_bipush dX12_statement_124 (by decide) ⟨by decide, by decide⟩ ?_
  refine r_invv (a := 337) hu ⟨Nat.le_refl _, Nat.le_refl _⟩ dX12_statement_126 kM_X12_311 (ci := 12) rfl kd_337 rfl rfl (by decide) (by decide) [(0, 59)] rfl (sk := []) rfl (Nat.le_of_ble_eq_true rfl) rfl (m_X12_asksSign hu M 59) (fun r22 M23 => ?_)
  refine r_aload_n 0 dX12_statement_129 rfl rfl ?_
  refine r_dup dX12_statement_130 (nz2 _) ?_
  refine r_gf (t := 0) (kz := 36) rfl hu dX12_statement_131 kF_X12_364 kd_337 rfl rfl rfl ?_
  refine r_iconst dX12_statement_134 ⟨by decide, by decide⟩ ?_
  refine r_ok (fun h24 => ?_)
  refine r_iadd dX12_statement_135 h24 ?_
  refine r_pf (t := 0) (kz := 36) rfl hu dX12_statement_136 kF_X12_364 kd_337 rfl rfl rfl (fun h => absurd h (by decide)) rfl kX_12_36 (fun M25 eM25 => ?_)
  exact r_vret rfl rfl dX12_statement_139
set_option maxRecDepth 100000 in
theorem tj_X12_statement_58 {g : GT} {n nf : Int} (hu : Up false nf n) (a1 : Int) (M : Mem) (x2 : Int) : AW g false RX12 cX12_statement 3 none (10) n n nf 58 [(0, 2, 337), (1, 0, a1), (2, 0, x2)] [] n M (j_X12_statement_58 a1 M x2) := by
  unfold j_X12_statement_58
  refine r_iload_n 1 dX12_statement_58 rfl rfl ?_
  refine r_if_ne (tgt := 85) dX12_statement_59 rfl (fun h14 => ?_) (fun h15 => ?_)
  · refine r_aload_n 0 dX12_statement_62 rfl rfl ?_
    refine r_aload_n 0 dX12_statement_63 rfl rfl ?_
    refine r_gx (kz := 12) rfl hu dX12_statement_64 kF_X12_27 kd_337 rfl rfl rfl fx_337_12 ?_
    refine r_invv (a := 337) hu ⟨Nat.le_refl _, Nat.le_refl _⟩ dX12_statement_67 kM_X12_307 (ci := 12) rfl kd_337 rfl rfl (by decide) (by decide) [(2, 342)] rfl (sk := []) rfl (Nat.le_of_ble_eq_true rfl) rfl (m_X12_asks hu M 342 kd_342) (fun r16 M17 => ?_)
    refine r_aload_n 0 dX12_statement_70 rfl rfl ?_
    refine r_gf (t := 0) (kz := 5) rfl hu dX12_statement_71 kF_X12_227 kd_337 rfl rfl rfl ?_
    refine r_if_ne (tgt := 123) dX12_statement_74 rfl (fun h18 => ?_) (fun h19 => ?_)
    · refine r_aload_n 0 dX12_statement_77 rfl rfl ?_
      refine r_iload_n 2 dX12_statement_78 rfl rfl ?_
      refine r_invv (a := 337) hu ⟨Nat.le_refl _, Nat.le_refl _⟩ dX12_statement_79 kM_X12_370 (ci := 12) rfl kd_337 rfl rfl (by decide) (by decide) [(0, x2)] rfl (sk := []) rfl (Nat.le_of_ble_eq_true rfl) rfl (m_X12_wayTold hu M17 x2) (fun r20 M21 => ?_)
      refine r_goto (tgt := 123) dX12_statement_82 rfl ?_
      refine r_sub [0] (ls' := [(0, 2, 337)]) rfl ?_
      exact tj_X12_statement_123 hu M21
    · refine r_sub [0] (ls' := [(0, 2, 337)]) rfl ?_
      exact tj_X12_statement_123 hu M17
  · refine r_aload_n 0 dX12_statement_85 rfl rfl ?_
    refine r_aload_n 0 dX12_statement_86 rfl rfl ?_
    refine r_gx (kz := 10) rfl hu dX12_statement_87 kF_X12_21 kd_337 rfl rfl rfl fx_337_10 ?_
    refine r_inv (a := 337) hu ⟨Nat.le_refl _, Nat.le_refl _⟩ dX12_statement_90 kM_X12_254 (ci := 12) rfl kd_337 rfl rfl (by decide) (by decide) [(2, 340)] rfl (sk := []) rfl (Nat.le_of_ble_eq_true rfl) rfl rfl (m_X12_takes hu M 340 kd_340) (fun r26 M27 => ?_)
    refine r_if_eq (tgt := 103) dX12_statement_93 rfl (fun h28 => ?_) (fun h29 => ?_)
    · refine r_aload_n 0 dX12_statement_103 rfl rfl ?_
      refine r_aload_n 0 dX12_statement_104 rfl rfl ?_
      refine r_gx (kz := 11) rfl hu dX12_statement_105 kF_X12_24 kd_337 rfl rfl rfl fx_337_11 ?_
      refine r_invv (a := 337) hu ⟨Nat.le_refl _, Nat.le_refl _⟩ dX12_statement_108 kM_X12_307 (ci := 12) rfl kd_337 rfl rfl (by decide) (by decide) [(2, 341)] rfl (sk := []) rfl (Nat.le_of_ble_eq_true rfl) rfl (m_X12_asks hu M27 341 kd_341) (fun r30 M31 => ?_)
      refine r_aload_n 0 dX12_statement_111 rfl rfl ?_
      refine r_gf (t := 0) (kz := 5) rfl hu dX12_statement_112 kF_X12_227 kd_337 rfl rfl rfl ?_
      refine r_if_ne (tgt := 123) dX12_statement_115 rfl (fun h32 => ?_) (fun h33 => ?_)
      · refine r_aload_n 0 dX12_statement_118 rfl rfl ?_
        refine r_iload_n 2 dX12_statement_119 rfl rfl ?_
        refine r_invv (a := 337) hu ⟨Nat.le_refl _, Nat.le_refl _⟩ dX12_statement_120 kM_X12_376 (ci := 12) rfl kd_337 rfl rfl (by decide) (by decide) [(0, x2)] rfl (sk := []) rfl (Nat.le_of_ble_eq_true rfl) rfl (m_X12_thingTold hu M31 x2) (fun r34 M35 => ?_)
        refine r_sub [0] (ls' := [(0, 2, 337)]) rfl ?_
        exact tj_X12_statement_123 hu M35
      · refine r_sub [0] (ls' := [(0, 2, 337)]) rfl ?_
        exact tj_X12_statement_123 hu M31
    · refine r_aload_n 0 dX12_statement_96 rfl rfl ?_
      refine r_invv (a := 337) hu ⟨Nat.le_refl _, Nat.le_refl _⟩ dX12_statement_97 kM_X12_373 (ci := 12) rfl kd_337 rfl rfl (by decide) (by decide) [] rfl (sk := []) rfl (Nat.le_of_ble_eq_true rfl) rfl (m_X12_discTold hu M27) (fun r36 M37 => ?_)
      refine r_goto (tgt := 123) dX12_statement_100 rfl ?_
      refine r_sub [0] (ls' := [(0, 2, 337)]) rfl ?_
      exact tj_X12_statement_123 hu M37
set_option maxRecDepth 100000 in
theorem tj_X12_statement_51 {g : GT} {n nf : Int} (hu : Up false nf n) (M : Mem) : AW g false RX12 cX12_statement 3 none (10) n n nf 51 [(0, 2, 337)] [] n M (j_X12_statement_51 M) := by
  unfold j_X12_statement_51
  refine r_aload_n 0 dX12_statement_51 rfl rfl ?_
  refine r_invv (a := 337) hu ⟨Nat.le_refl _, Nat.le_refl _⟩ dX12_statement_52 kM_X12_367 (ci := 12) rfl kd_337 rfl rfl (by decide) (by decide) [] rfl (sk := []) rfl (Nat.le_of_ble_eq_true rfl) rfl (m_X12_ruleTold hu M) (fun r38 M39 => ?_)
  refine r_goto (tgt := 123) dX12_statement_55 rfl ?_
  exact tj_X12_statement_123 hu M39
set_option maxRecDepth 100000 in
theorem tj_X12_statement_36 {g : GT} {n nf : Int} (hu : Up false nf n) (a1 : Int) (M : Mem) (x2 : Int) : AW g false RX12 cX12_statement 3 none (10) n n nf 36 [(0, 2, 337), (1, 0, a1), (2, 0, x2)] [] n M (j_X12_statement_36 a1 M x2) := by
  unfold j_X12_statement_36
  refine r_iload_n 1 dX12_statement_36 rfl rfl ?_
  refine r_if_ne (tgt := 58) dX12_statement_37 rfl (fun h8 => ?_) (fun h9 => ?_)
  · refine r_aload_n 0 dX12_statement_40 rfl rfl ?_
    refine r_aload_n 0 dX12_statement_41 rfl rfl ?_
    refine r_gx (kz := 15) rfl hu dX12_statement_42 kF_X12_36 kd_337 rfl rfl rfl fx_337_15 ?_
    refine r_inv (a := 337) hu ⟨Nat.le_refl _, Nat.le_refl _⟩ dX12_statement_45 kM_X12_254 (ci := 12) rfl kd_337 rfl rfl (by decide) (by decide) [(2, 345)] rfl (sk := []) rfl (Nat.le_of_ble_eq_true rfl) rfl rfl (m_X12_takes hu M 345 kd_345) (fun r10 M11 => ?_)
    refine r_if_eq (tgt := 58) dX12_statement_48 rfl (fun h12 => ?_) (fun h13 => ?_)
    · exact tj_X12_statement_58 hu a1 M11 x2
    · refine r_sub [0] (ls' := [(0, 2, 337)]) rfl ?_
      exact tj_X12_statement_51 hu M11
  · exact tj_X12_statement_58 hu a1 M x2
set_option maxRecDepth 100000 in
theorem m_X12_statement {g : GT} {n nf : Int} (hu : Up false nf n) (M : Mem) (a1 : Int) : AM g false yX12_statement cX12_statement 3 none (10) n n nf [(2, 337), (0, a1)] M (f_X12_statement M a1) := by
  refine AM_of (by decide +kernel) (Nat.le_of_ble_eq_true rfl) (fun h => absurd h (Int.lt_irrefl n)) ?_
  show AW g false RX12 cX12_statement 3 none (10) n n nf 0 [(0, 2, 337), (1, 0, a1)] [] n M (f_X12_statement M a1)
  unfold f_X12_statement
  refine r_aload_n 0 dX12_statement_0 rfl rfl ?_
  refine r_gf (t := 0) (kz := 2) rfl hu dX12_statement_1 kF_X12_233 kd_337 rfl rfl rfl ?_
  refine r_istore_nB dX12_statement_4 rfl (by decide) (lf := fun y1 => [(2, 0, y1), (0, 2, 337), (1, 0, a1)]) (fun _ => rfl) (fun y1 ey1 => ?_)
  refine r_aload_n 1 dX12_statement_5 rfl rfl ?_
  refine r_gf (t := 0) (kz := 36) rfl hu dX12_statement_6 kF_X12_364 kd_337 rfl rfl rfl ?_
  refine r_bipush dX12_statement_9 (by decide) ⟨by decide, by decide⟩ ?_
  refine r_icmp_ne (tgt := 21) dX12_statement_11 rfl (fun h2 => ?_) (fun h3 => ?_)
  · refine r_aload_n 1 dX12_statement_14 rfl rfl ?_
    refine r_iconst dX12_statement_15 ⟨by decide, by decide⟩ ?_
    refine r_iload_n 0 dX12_statement_16 rfl rfl ?_
    refine r_invv (a := 337) hu ⟨Nat.le_refl _, Nat.le_refl _⟩ dX12_statement_17 kM_X12_257 (ci := 12) rfl kd_337 rfl rfl (by decide) (by decide) [(0, 5), (0, y1)] rfl (sk := []) rfl (Nat.le_of_ble_eq_true rfl) rfl (m_X12_fail hu M 5 y1) (fun r4 M5 => ?_)
    exact r_vret rfl rfl dX12_statement_20
  · refine r_iload_n 2 dX12_statement_21 rfl rfl ?_
    refine r_if_eq (tgt := 36) dX12_statement_22 rfl (fun h6 => ?_) (fun h7 => ?_)
    · refine r_sub [1, 2, 0] (ls' := [(0, 2, 337), (1, 0, a1), (2, 0, y1)]) rfl ?_
      exact tj_X12_statement_36 hu a1 M y1
    · refine r_aload_n 1 dX12_statement_25 rfl rfl ?_
      refine r_aload_n 1 dX12_statement_26 rfl rfl ?_
      refine r_gx (kz := 9) rfl hu dX12_statement_27 kF_X12_17 kd_337 rfl rfl rfl fx_337_9 ?_
      refine r_inv (a := 337) hu ⟨Nat.le_refl _, Nat.le_refl _⟩ dX12_statement_30 kM_X12_254 (ci := 12) rfl kd_337 rfl rfl (by decide) (by decide) [(2, 339)] rfl (sk := []) rfl (Nat.le_of_ble_eq_true rfl) rfl rfl (m_X12_takes hu M 339 kd_339) (fun r40 M41 => ?_)
      refine r_if_ne (tgt := 51) dX12_statement_33 rfl (fun h42 => ?_) (fun h43 => ?_)
      · refine r_sub [1, 2, 0] (ls' := [(0, 2, 337), (1, 0, a1), (2, 0, y1)]) rfl ?_
        exact tj_X12_statement_36 hu a1 M41 y1
      · refine r_sub [1] (ls' := [(0, 2, 337)]) rfl ?_
        exact tj_X12_statement_51 hu M41
theorem dX12_step_0 : decode cX12_step 0 = .ok (.aload_n 0, 1) := by decide +kernel
theorem dX12_step_1 : decode cX12_step 1 = .ok (.getfield 134, 3) := by decide +kernel
theorem dX12_step_4 : decode cX12_step 4 = .ok (.aload_n 0, 1) := by decide +kernel
theorem dX12_step_5 : decode cX12_step 5 = .ok (.getfield 131, 3) := by decide +kernel
theorem dX12_step_8 : decode cX12_step 8 = .ok (.iconst 0, 1) := by decide +kernel
theorem dX12_step_9 : decode cX12_step 9 = .ok (.iaload, 1) := by decide +kernel
theorem dX12_step_10 : decode cX12_step 10 = .ok (.iload_n 1, 1) := by decide +kernel
theorem dX12_step_11 : decode cX12_step 11 = .ok (.iastore, 1) := by decide +kernel
theorem dX12_step_12 : decode cX12_step 12 = .ok (.aload_n 0, 1) := by decide +kernel
theorem dX12_step_13 : decode cX12_step 13 = .ok (.getfield 131, 3) := by decide +kernel
theorem dX12_step_16 : decode cX12_step 16 = .ok (.iconst 0, 1) := by decide +kernel
theorem dX12_step_17 : decode cX12_step 17 = .ok (.dup2, 1) := by decide +kernel
theorem dX12_step_18 : decode cX12_step 18 = .ok (.iaload, 1) := by decide +kernel
theorem dX12_step_19 : decode cX12_step 19 = .ok (.iconst 1, 1) := by decide +kernel
theorem dX12_step_20 : decode cX12_step 20 = .ok (.iadd, 1) := by decide +kernel
theorem dX12_step_21 : decode cX12_step 21 = .ok (.iastore, 1) := by decide +kernel
theorem dX12_step_22 : decode cX12_step 22 = .ok (.return_, 1) := by decide +kernel
set_option maxRecDepth 100000 in
theorem m_X12_step {g : GT} {n nf : Int} (hu : Up false nf n) (M : Mem) (a1 : Int) : AM g false yX12_step cX12_step 2 none (0) n n nf [(2, 337), (0, a1)] M (f_X12_step M a1) := by
  refine AM_of (by decide +kernel) (Nat.le_of_ble_eq_true rfl) (fun h => absurd h (Int.lt_irrefl n)) ?_
  show AW g false RX12 cX12_step 2 none (0) n n nf 0 [(0, 2, 337), (1, 0, a1)] [] n M (f_X12_step M a1)
  unfold f_X12_step
  refine r_aload_n 0 dX12_step_0 rfl rfl ?_
  refine r_gx (kz := 54) rfl hu dX12_step_1 kF_X12_134 kd_337 rfl rfl rfl fx_337_54 ?_
  refine r_aload_n 0 dX12_step_4 rfl rfl ?_
  refine r_gx (kz := 53) rfl hu dX12_step_5 kF_X12_131 kd_337 rfl rfl rfl fx_337_53 ?_
  refine r_iconst dX12_step_8 ⟨by decide, by decide⟩ ?_
  refine r_iald hu dX12_step_9 kd_376 rfl (Or.inl rfl) rfl ln_376 ⟨by decide, by decide⟩ ?_
  refine r_iload_n 1 dX12_step_10 rfl rfl ?_
  refine r_ok (fun h1 => ?_)
  refine r_iast hu dX12_step_11 kd_377 rfl (Or.inl rfl) rfl ln_377 h1 rfl (fun M2 eM2 => ?_)
  refine r_aload_n 0 dX12_step_12 rfl rfl ?_
  refine r_gx (kz := 53) rfl hu dX12_step_13 kF_X12_131 kd_337 rfl rfl rfl fx_337_53 ?_
  refine r_iconst dX12_step_16 ⟨by decide, by decide⟩ ?_
  refine r_dup2 dX12_step_17 (nz0 _) (nz2 _) ?_
  refine r_iald hu dX12_step_18 kd_376 rfl (Or.inl rfl) rfl ln_376 ⟨by decide, by decide⟩ ?_
  refine r_iconst dX12_step_19 ⟨by decide, by decide⟩ ?_
  refine r_ok (fun h3 => ?_)
  refine r_iadd dX12_step_20 h3 ?_
  refine r_iast hu dX12_step_21 kd_376 rfl (Or.inl rfl) rfl ln_376 ⟨by decide, by decide⟩ rfl (fun M4 eM4 => ?_)
  exact r_vret rfl rfl dX12_step_22
theorem dX12_showTold_0 : decode cX12_showTold 0 = .ok (.aload_n 0, 1) := by decide +kernel
theorem dX12_showTold_1 : decode cX12_showTold 1 = .ok (.getfield 131, 3) := by decide +kernel
theorem dX12_showTold_4 : decode cX12_showTold 4 = .ok (.iconst 0, 1) := by decide +kernel
theorem dX12_showTold_5 : decode cX12_showTold 5 = .ok (.iaload, 1) := by decide +kernel
theorem dX12_showTold_6 : decode cX12_showTold 6 = .ok (.istore_n 1, 1) := by decide +kernel
theorem dX12_showTold_7 : decode cX12_showTold 7 = .ok (.aload_n 0, 1) := by decide +kernel
theorem dX12_showTold_8 : decode cX12_showTold 8 = .ok (.invokevirtual 360, 3) := by decide +kernel
theorem dX12_showTold_11 : decode cX12_showTold 11 = .ok (.lstore_n 2, 1) := by decide +kernel
theorem dX12_showTold_12 : decode cX12_showTold 12 = .ok (.iconst (-1), 1) := by decide +kernel
theorem dX12_showTold_13 : decode cX12_showTold 13 = .ok (.istore 4, 2) := by decide +kernel
theorem dX12_showTold_15 : decode cX12_showTold 15 = .ok (.iconst 0, 1) := by decide +kernel
theorem dX12_showTold_16 : decode cX12_showTold 16 = .ok (.istore 5, 2) := by decide +kernel
theorem dX12_showTold_18 : decode cX12_showTold 18 = .ok (.iload 5, 2) := by decide +kernel
theorem dX12_showTold_20 : decode cX12_showTold 20 = .ok (.aload_n 0, 1) := by decide +kernel
theorem dX12_showTold_21 : decode cX12_showTold 21 = .ok (.getfield 119, 3) := by decide +kernel
theorem dX12_showTold_24 : decode cX12_showTold 24 = .ok (.iconst 1, 1) := by decide +kernel
theorem dX12_showTold_25 : decode cX12_showTold 25 = .ok (.iaload, 1) := by decide +kernel
theorem dX12_showTold_26 : decode cX12_showTold 26 = .ok (.if_icmp .ge 27, 3) := by decide +kernel
theorem dX12_showTold_29 : decode cX12_showTold 29 = .ok (.aload_n 0, 1) := by decide +kernel
theorem dX12_showTold_30 : decode cX12_showTold 30 = .ok (.getfield 122, 3) := by decide +kernel
theorem dX12_showTold_33 : decode cX12_showTold 33 = .ok (.iconst 5, 1) := by decide +kernel
theorem dX12_showTold_34 : decode cX12_showTold 34 = .ok (.iload 5, 2) := by decide +kernel
theorem dX12_showTold_36 : decode cX12_showTold 36 = .ok (.iadd, 1) := by decide +kernel
theorem dX12_showTold_37 : decode cX12_showTold 37 = .ok (.laload, 1) := by decide +kernel
theorem dX12_showTold_38 : decode cX12_showTold 38 = .ok (.lload_n 2, 1) := by decide +kernel
theorem dX12_showTold_39 : decode cX12_showTold 39 = .ok (.lcmp, 1) := by decide +kernel
theorem dX12_showTold_40 : decode cX12_showTold 40 = .ok (.ifCond .ne 7, 3) := by decide +kernel
theorem dX12_showTold_43 : decode cX12_showTold 43 = .ok (.iload 5, 2) := by decide +kernel
theorem dX12_showTold_45 : decode cX12_showTold 45 = .ok (.istore 4, 2) := by decide +kernel
theorem dX12_showTold_47 : decode cX12_showTold 47 = .ok (.iinc 5 1, 3) := by decide +kernel
theorem dX12_showTold_50 : decode cX12_showTold 50 = .ok (.goto (-32), 3) := by decide +kernel
theorem dX12_showTold_53 : decode cX12_showTold 53 = .ok (.aload_n 0, 1) := by decide +kernel
theorem dX12_showTold_54 : decode cX12_showTold 54 = .ok (.getfield 227, 3) := by decide +kernel
theorem dX12_showTold_57 : decode cX12_showTold 57 = .ok (.ifCond .ne 18, 3) := by decide +kernel
theorem dX12_showTold_60 : decode cX12_showTold 60 = .ok (.iload 4, 2) := by decide +kernel
theorem dX12_showTold_62 : decode cX12_showTold 62 = .ok (.iconst (-1), 1) := by decide +kernel
theorem dX12_showTold_63 : decode cX12_showTold 63 = .ok (.if_icmp .ne 12, 3) := by decide +kernel
theorem dX12_showTold_66 : decode cX12_showTold 66 = .ok (.aload_n 0, 1) := by decide +kernel
theorem dX12_showTold_67 : decode cX12_showTold 67 = .ok (.iconst 3, 1) := by decide +kernel
theorem dX12_showTold_68 : decode cX12_showTold 68 = .ok (.aload_n 0, 1) := by decide +kernel
theorem dX12_showTold_69 : decode cX12_showTold 69 = .ok (.getfield 275, 3) := by decide +kernel
theorem dX12_showTold_72 : decode cX12_showTold 72 = .ok (.invokevirtual 257, 3) := by decide +kernel
theorem dX12_showTold_75 : decode cX12_showTold 75 = .ok (.aload_n 0, 1) := by decide +kernel
theorem dX12_showTold_76 : decode cX12_showTold 76 = .ok (.iconst 0, 1) := by decide +kernel
theorem dX12_showTold_77 : decode cX12_showTold 77 = .ok (.bipush 11, 2) := by decide +kernel
theorem dX12_showTold_79 : decode cX12_showTold 79 = .ok (.invokevirtual 314, 3) := by decide +kernel
theorem dX12_showTold_82 : decode cX12_showTold 82 = .ok (.istore 5, 2) := by decide +kernel
theorem dX12_showTold_84 : decode cX12_showTold 84 = .ok (.aload_n 0, 1) := by decide +kernel
theorem dX12_showTold_85 : decode cX12_showTold 85 = .ok (.iconst 0, 1) := by decide +kernel
theorem dX12_showTold_86 : decode cX12_showTold 86 = .ok (.bipush 7, 2) := by decide +kernel
theorem dX12_showTold_88 : decode cX12_showTold 88 = .ok (.invokevirtual 314, 3) := by decide +kernel
theorem dX12_showTold_91 : decode cX12_showTold 91 = .ok (.istore 6, 2) := by decide +kernel
theorem dX12_showTold_93 : decode cX12_showTold 93 = .ok (.aload_n 0, 1) := by decide +kernel
theorem dX12_showTold_94 : decode cX12_showTold 94 = .ok (.getfield 137, 3) := by decide +kernel
theorem dX12_showTold_97 : decode cX12_showTold 97 = .ok (.iload_n 1, 1) := by decide +kernel
theorem dX12_showTold_98 : decode cX12_showTold 98 = .ok (.iload 4, 2) := by decide +kernel
theorem dX12_showTold_100 : decode cX12_showTold 100 = .ok (.iastore, 1) := by decide +kernel
theorem dX12_showTold_101 : decode cX12_showTold 101 = .ok (.aload_n 0, 1) := by decide +kernel
theorem dX12_showTold_102 : decode cX12_showTold 102 = .ok (.getfield 140, 3) := by decide +kernel
theorem dX12_showTold_105 : decode cX12_showTold 105 = .ok (.iload_n 1, 1) := by decide +kernel
theorem dX12_showTold_106 : decode cX12_showTold 106 = .ok (.bipush 12, 2) := by decide +kernel
theorem dX12_showTold_108 : decode cX12_showTold 108 = .ok (.iload 6, 2) := by decide +kernel
theorem dX12_showTold_110 : decode cX12_showTold 110 = .ok (.imul, 1) := by decide +kernel
theorem dX12_showTold_111 : decode cX12_showTold 111 = .ok (.iload 5, 2) := by decide +kernel
theorem dX12_showTold_113 : decode cX12_showTold 113 = .ok (.iadd, 1) := by decide +kernel
theorem dX12_showTold_114 : decode cX12_showTold 114 = .ok (.iastore, 1) := by decide +kernel
theorem dX12_showTold_115 : decode cX12_showTold 115 = .ok (.aload_n 0, 1) := by decide +kernel
theorem dX12_showTold_116 : decode cX12_showTold 116 = .ok (.getfield 143, 3) := by decide +kernel
theorem dX12_showTold_119 : decode cX12_showTold 119 = .ok (.iload_n 1, 1) := by decide +kernel
theorem dX12_showTold_120 : decode cX12_showTold 120 = .ok (.aload_n 0, 1) := by decide +kernel
theorem dX12_showTold_121 : decode cX12_showTold 121 = .ok (.getfield 282, 3) := by decide +kernel
theorem dX12_showTold_124 : decode cX12_showTold 124 = .ok (.iastore, 1) := by decide +kernel
theorem dX12_showTold_125 : decode cX12_showTold 125 = .ok (.aload_n 0, 1) := by decide +kernel
theorem dX12_showTold_126 : decode cX12_showTold 126 = .ok (.invokevirtual 354, 3) := by decide +kernel
theorem dX12_showTold_129 : decode cX12_showTold 129 = .ok (.aload_n 0, 1) := by decide +kernel
theorem dX12_showTold_130 : decode cX12_showTold 130 = .ok (.getfield 146, 3) := by decide +kernel
theorem dX12_showTold_133 : decode cX12_showTold 133 = .ok (.iload_n 1, 1) := by decide +kernel
theorem dX12_showTold_134 : decode cX12_showTold 134 = .ok (.aload_n 0, 1) := by decide +kernel
theorem dX12_showTold_135 : decode cX12_showTold 135 = .ok (.getfield 282, 3) := by decide +kernel
theorem dX12_showTold_138 : decode cX12_showTold 138 = .ok (.iastore, 1) := by decide +kernel
theorem dX12_showTold_139 : decode cX12_showTold 139 = .ok (.aload_n 0, 1) := by decide +kernel
theorem dX12_showTold_140 : decode cX12_showTold 140 = .ok (.iconst 0, 1) := by decide +kernel
theorem dX12_showTold_141 : decode cX12_showTold 141 = .ok (.invokevirtual 379, 3) := by decide +kernel
theorem dX12_showTold_144 : decode cX12_showTold 144 = .ok (.aload_n 0, 1) := by decide +kernel
theorem dX12_showTold_145 : decode cX12_showTold 145 = .ok (.bipush 59, 2) := by decide +kernel
theorem dX12_showTold_147 : decode cX12_showTold 147 = .ok (.invokevirtual 311, 3) := by decide +kernel
theorem dX12_showTold_150 : decode cX12_showTold 150 = .ok (.return_, 1) := by decide +kernel
set_option maxRecDepth 100000 in
theorem tj_X12_showTold_75 {g : GT} {n nf : Int} (hu : Up false nf n) (M : Mem) (x1 x4 : Int) : AW g false RX12 cX12_showTold 7 none (7) n n nf 75 [(0, 2, 337), (1, 0, x1), (4, 0, x4)] [] n M (j_X12_showTold_75 M x1 x4) := by
  unfold j_X12_showTold_75
  refine r_aload_n 0 dX12_showTold_75 rfl rfl ?_
  refine r_iconst dX12_showTold_76 ⟨by decide, by decide⟩ ?_
  refine r_bipush dX12_showTold_77 (by decide) ⟨by decide, by decide⟩ ?_
  refine r_inv (a := 337) hu ⟨Nat.le_refl _, Nat.le_refl _⟩ dX12_showTold_79 kM_X12_314 (ci := 12) rfl kd_337 rfl rfl (by decide) (by decide) [(0, 0), (0, 11)] rfl (sk := []) rfl (Nat.le_of_ble_eq_true rfl) rfl rfl (m_X12_number hu M 0 11) (fun r12 M13 => ?_)
  refine r_istore dX12_showTold_82 (by decide) (ls' := [(5, 0, r12), (0, 2, 337), (1, 0, x1), (4, 0, x4)]) rfl ?_
  refine r_aload_n 1 dX12_showTold_84 rfl rfl ?_
  refine r_iconst dX12_showTold_85 ⟨by decide, by decide⟩ ?_
  refine r_bipush dX12_showTold_86 (by decide) ⟨by decide, by decide⟩ ?_
  refine r_inv (a := 337) hu ⟨Nat.le_refl _, Nat.le_refl _⟩ dX12_showTold_88 kM_X12_314 (ci := 12) rfl kd_337 rfl rfl (by decide) (by decide) [(0, 0), (0, 7)] rfl (sk := []) rfl (Nat.le_of_ble_eq_true rfl) rfl rfl (m_X12_number hu M13 0 7) (fun r14 M15 => ?_)
  refine r_istore dX12_showTold_91 (by decide) (ls' := [(6, 0, r14), (5, 0, r12), (0, 2, 337), (1, 0, x1), (4, 0, x4)]) rfl ?_
  refine r_aload_n 2 dX12_showTold_93 rfl rfl ?_
  refine r_gx (kz := 55) rfl hu dX12_showTold_94 kF_X12_137 kd_337 rfl rfl rfl fx_337_55 ?_
  refine r_iload_n 3 dX12_showTold_97 rfl rfl ?_
  refine r_iload 4 dX12_showTold_98 rfl ?_
  refine r_ok (fun h16 => ?_)
  refine r_iast hu dX12_showTold_100 kd_378 rfl (Or.inl rfl) rfl ln_378 h16 rfl (fun M17 eM17 => ?_)
  refine r_aload_n 2 dX12_showTold_101 rfl rfl ?_
  refine r_gx (kz := 56) rfl hu dX12_showTold_102 kF_X12_140 kd_337 rfl rfl rfl fx_337_56 ?_
  refine r_iload_n 3 dX12_showTold_105 rfl rfl ?_
  refine r_bipush dX12_showTold_106 (by decide) ⟨by decide, by decide⟩ ?_
  refine r_iload 0 dX12_showTold_108 rfl ?_
  refine r_ok (fun h18 => ?_)
  refine r_imul dX12_showTold_110 h18 ?_
  refine r_iload 1 dX12_showTold_111 rfl ?_
  refine r_ok (fun h19 => ?_)
  refine r_iadd dX12_showTold_113 h19 ?_
  refine r_iast hu dX12_showTold_114 kd_379 rfl (Or.inl rfl) rfl ln_379 h16 rfl (fun M20 eM20 => ?_)
  refine r_aload_n 2 dX12_showTold_115 rfl rfl ?_
  refine r_gx (kz := 57) rfl hu dX12_showTold_116 kF_X12_143 kd_337 rfl rfl rfl fx_337_57 ?_
  refine r_iload_n 3 dX12_showTold_119 rfl rfl ?_
  refine r_aload_n 2 dX12_showTold_120 rfl rfl ?_
  refine r_gf (t := 0) (kz := 32) rfl hu dX12_showTold_121 kF_X12_282 kd_337 rfl rfl rfl ?_
  refine r_iast hu dX12_showTold_124 kd_380 rfl (Or.inl rfl) rfl ln_380 h16 rfl (fun M21 eM21 => ?_)
  refine r_aload_n 2 dX12_showTold_125 rfl rfl ?_
  refine r_invv (a := 337) hu ⟨Nat.le_refl _, Nat.le_refl _⟩ dX12_showTold_126 kM_X12_354 (ci := 12) rfl kd_337 rfl rfl (by decide) (by decide) [] rfl (sk := []) rfl (Nat.le_of_ble_eq_true rfl) rfl (m_X12_readsSum hu M21) (fun r22 M23 => ?_)
  refine r_aload_n 2 dX12_showTold_129 rfl rfl ?_
  refine r_gx (kz := 58) rfl hu dX12_showTold_130 kF_X12_146 kd_337 rfl rfl rfl fx_337_58 ?_
  refine r_iload_n 3 dX12_showTold_133 rfl rfl ?_
  refine r_aload_n 2 dX12_showTold_134 rfl rfl ?_
  refine r_gf (t := 0) (kz := 32) rfl hu dX12_showTold_135 kF_X12_282 kd_337 rfl rfl rfl ?_
  refine r_iast hu dX12_showTold_138 kd_381 rfl (Or.inl rfl) rfl ln_381 h16 rfl (fun M24 eM24 => ?_)
  refine r_aload_n 2 dX12_showTold_139 rfl rfl ?_
  refine r_iconst dX12_showTold_140 ⟨by decide, by decide⟩ ?_
  refine r_invv (a := 337) hu ⟨Nat.le_refl _, Nat.le_refl _⟩ dX12_showTold_141 kM_X12_379 (ci := 12) rfl kd_337 rfl rfl (by decide) (by decide) [(0, 0)] rfl (sk := []) rfl (Nat.le_of_ble_eq_true rfl) rfl (m_X12_step hu M24 0) (fun r25 M26 => ?_)
  refine r_aload_n 2 dX12_showTold_144 rfl rfl ?_
  refine r_bipush dX12_showTold_145 (by decide) ⟨by decide, by decide⟩ ?_
  refine r_invv (a := 337) hu ⟨Nat.le_refl _, Nat.le_refl _⟩ dX12_showTold_147 kM_X12_311 (ci := 12) rfl kd_337 rfl rfl (by decide) (by decide) [(0, 59)] rfl (sk := []) rfl (Nat.le_of_ble_eq_true rfl) rfl (m_X12_asksSign hu M26 59) (fun r27 M28 => ?_)
  exact r_vret rfl rfl dX12_showTold_150
set_option maxRecDepth 100000 in
theorem tb_X12_showTold_18 {g : GT} {n nf : Int} (hu : Up false nf n) (w18 : Mem → Int → Int → Int → Int → Res) (hw18 : ∀ (M : Mem) (x1 x2 x4 x5 : Int), AW g false RX12 cX12_showTold 7 none (7) n n nf 18 [(0, 2, 337), (1, 0, x1), (2, 1, x2), (4, 0, x4), (5, 0, x5)] [] n M (w18 M x1 x2 x4 x5)) (M : Mem) (x1 x2 x4 x5 : Int) : AW g false RX12 cX12_showTold 7 none (7) n n nf 18 [(0, 2, 337), (1, 0, x1), (2, 1, x2), (4, 0, x4), (5, 0, x5)] [] n M (b_X12_showTold_18 w18 M x1 x2 x4 x5) := by
  unfold b_X12_showTold_18
  refine r_iload 4 dX12_showTold_18 rfl ?_
  refine r_aload_n 0 dX12_showTold_20 rfl rfl ?_
  refine r_gx (kz := 47) rfl hu dX12_showTold_21 kF_X12_119 kd_337 rfl rfl rfl fx_337_47 ?_
  refine r_iconst dX12_showTold_24 ⟨by decide, by decide⟩ ?_
  refine r_iald hu dX12_showTold_25 kd_372 rfl (Or.inl rfl) rfl ln_372 ⟨by decide, by decide⟩ ?_
  refine r_icmp_ge (tgt := 53) dX12_showTold_26 rfl (fun h4 => ?_) (fun h5 => ?_)
  · refine r_aload_n 0 dX12_showTold_53 rfl rfl ?_
    refine r_gf (t := 0) (kz := 5) rfl hu dX12_showTold_54 kF_X12_227 kd_337 rfl rfl rfl ?_
    refine r_if_ne (tgt := 75) dX12_showTold_57 rfl (fun h6 => ?_) (fun h7 => ?_)
    · refine r_iload 3 dX12_showTold_60 rfl ?_
      refine r_iconst dX12_showTold_62 ⟨by decide, by decide⟩ ?_
      refine r_icmp_ne (tgt := 75) dX12_showTold_63 rfl (fun h8 => ?_) (fun h9 => ?_)
      · refine r_aload_n 0 dX12_showTold_66 rfl rfl ?_
        refine r_iconst dX12_showTold_67 ⟨by decide, by decide⟩ ?_
        refine r_aload_n 0 dX12_showTold_68 rfl rfl ?_
        refine r_gf (t := 0) (kz := 30) rfl hu dX12_showTold_69 kF_X12_275 kd_337 rfl rfl rfl ?_
        refine r_invv (a := 337) hu ⟨Nat.le_refl _, Nat.le_refl _⟩ dX12_showTold_72 kM_X12_257 (ci := 12) rfl kd_337 rfl rfl (by decide) (by decide) [(0, 3), (0, M 337 30)] rfl (sk := []) rfl (Nat.le_of_ble_eq_true rfl) rfl (m_X12_fail hu M 3 (M 337 30)) (fun r10 M11 => ?_)
        refine r_sub [0, 1, 3] (ls' := [(0, 2, 337), (1, 0, x1), (4, 0, x4)]) rfl ?_
        exact tj_X12_showTold_75 hu M11 x1 x4
      · refine r_sub [0, 1, 3] (ls' := [(0, 2, 337), (1, 0, x1), (4, 0, x4)]) rfl ?_
        exact tj_X12_showTold_75 hu M x1 x4
    · refine r_sub [0, 1, 3] (ls' := [(0, 2, 337), (1, 0, x1), (4, 0, x4)]) rfl ?_
      exact tj_X12_showTold_75 hu M x1 x4
  · refine r_aload_n 0 dX12_showTold_29 rfl rfl ?_
    refine r_gx (kz := 48) rfl hu dX12_showTold_30 kF_X12_122 kd_337 rfl rfl rfl fx_337_48 ?_
    refine r_iconst dX12_showTold_33 ⟨by decide, by decide⟩ ?_
    refine r_iload 4 dX12_showTold_34 rfl ?_
    refine r_ok (fun h29 => ?_)
    refine r_iadd dX12_showTold_36 h29 ?_
    refine r_ok (fun h30 => ?_)
    refine r_lald hu dX12_showTold_37 kd_373 rfl rfl rfl ln_373 h30 ?_
    refine r_lload_n 2 dX12_showTold_38 rfl rfl ?_
    refine r_lif_ne (tgt := 47) dX12_showTold_39 dX12_showTold_40 rfl (fun h31 => ?_) (fun h32 => ?_)
    · refine r_iload 4 dX12_showTold_43 rfl ?_
      refine r_istore dX12_showTold_45 (by decide) (ls' := [(4, 0, x5), (0, 2, 337), (1, 0, x1), (2, 1, x2), (5, 0, x5)]) rfl ?_
      refine r_ok (fun h33 => ?_)
      refine r_iincB 4 dX12_showTold_47 rfl h33 (by decide) (lf := fun y34 => [(5, 0, y34), (4, 0, x5), (0, 2, 337), (1, 0, x1), (2, 1, x2)]) (fun _ => rfl) (fun y34 ey34 => ?_)
      refine r_goto (tgt := 18) dX12_showTold_50 rfl ?_
      refine r_sub [2, 3, 4, 1, 0] (ls' := [(0, 2, 337), (1, 0, x1), (2, 1, x2), (4, 0, x5), (5, 0, y34)]) rfl ?_
      exact hw18 M x1 x2 x5 y34
    · refine r_ok (fun h35 => ?_)
      refine r_iincB 4 dX12_showTold_47 rfl h35 (by decide) (lf := fun y36 => [(5, 0, y36), (0, 2, 337), (1, 0, x1), (2, 1, x2), (4, 0, x4)]) (fun _ => rfl) (fun y36 ey36 => ?_)
      refine r_goto (tgt := 18) dX12_showTold_50 rfl ?_
      refine r_sub [1, 2, 3, 4, 0] (ls' := [(0, 2, 337), (1, 0, x1), (2, 1, x2), (4, 0, x4), (5, 0, y36)]) rfl ?_
      exact hw18 M x1 x2 x4 y36
set_option maxRecDepth 100000 in
theorem m_X12_showTold {g : GT} {n nf : Int} (hu : Up false nf n) (M : Mem) : AM g false yX12_showTold cX12_showTold 7 none (7) n n nf [(2, 337)] M (f_X12_showTold M) := by
  refine AM_of (by decide +kernel) (Nat.le_of_ble_eq_true rfl) (fun h => absurd h (Int.lt_irrefl n)) ?_
  show AW g false RX12 cX12_showTold 7 none (7) n n nf 0 [(0, 2, 337)] [] n M (f_X12_showTold M)
  unfold f_X12_showTold
  refine r_aload_n 0 dX12_showTold_0 rfl rfl ?_
  refine r_gx (kz := 53) rfl hu dX12_showTold_1 kF_X12_131 kd_337 rfl rfl rfl fx_337_53 ?_
  refine r_iconst dX12_showTold_4 ⟨by decide, by decide⟩ ?_
  refine r_iald hu dX12_showTold_5 kd_376 rfl (Or.inl rfl) rfl ln_376 ⟨by decide, by decide⟩ ?_
  refine r_istore_nB dX12_showTold_6 rfl (by decide) (lf := fun y1 => [(1, 0, y1), (0, 2, 337)]) (fun _ => rfl) (fun y1 ey1 => ?_)
  refine r_aload_n 1 dX12_showTold_7 rfl rfl ?_
  refine r_inv (a := 337) hu ⟨Nat.le_refl _, Nat.le_refl _⟩ dX12_showTold_8 kM_X12_360 (ci := 12) rfl kd_337 rfl rfl (by decide) (by decide) [] rfl (sk := []) rfl (Nat.le_of_ble_eq_true rfl) rfl rfl (m_X12_name hu M) (fun r2 M3 => ?_)
  refine r_lstore_n dX12_showTold_11 rfl (by decide) (ls' := [(2, 1, r2), (1, 0, y1), (0, 2, 337)]) rfl ?_
  refine r_iconst dX12_showTold_12 ⟨by decide, by decide⟩ ?_
  refine r_istore dX12_showTold_13 (by decide) (ls' := [(4, 0, (-1)), (2, 1, r2), (1, 0, y1), (0, 2, 337)]) rfl ?_
  refine r_iconst dX12_showTold_15 ⟨by decide, by decide⟩ ?_
  refine r_istore dX12_showTold_16 (by decide) (ls' := [(5, 0, 0), (4, 0, (-1)), (2, 1, r2), (1, 0, y1), (0, 2, 337)]) rfl ?_
  refine r_sub [4, 3, 2, 1, 0] (ls' := [(0, 2, 337), (1, 0, y1), (2, 1, r2), (4, 0, (-1)), (5, 0, 0)]) rfl ?_
  exact wl4_aw (P := fun M x1 x2 x4 x5 o => AW g false RX12 cX12_showTold 7 none (7) n n nf 18 [(0, 2, 337), (1, 0, x1), (2, 1, x2), (4, 0, x4), (5, 0, x5)] [] n M (o)) (fun M x1 x2 x4 x5 => aw_none) (fun w hw M x1 x2 x4 x5 => tb_X12_showTold_18 hu w hw M x1 x2 x4 x5) FU M3 y1 r2 (-1) 0
