theorem dX12_chanceOf_0 : decode cX12_chanceOf 0 = .ok (.iconst 0, 1) := by decide +kernel
theorem dX12_chanceOf_1 : decode cX12_chanceOf 1 = .ok (.istore_n 3, 1) := by decide +kernel
theorem dX12_chanceOf_2 : decode cX12_chanceOf 2 = .ok (.iload_n 3, 1) := by decide +kernel
theorem dX12_chanceOf_3 : decode cX12_chanceOf 3 = .ok (.bipush 42, 2) := by decide +kernel
theorem dX12_chanceOf_5 : decode cX12_chanceOf 5 = .ok (.if_icmp .ge 16, 3) := by decide +kernel
theorem dX12_chanceOf_8 : decode cX12_chanceOf 8 = .ok (.aload_n 0, 1) := by decide +kernel
theorem dX12_chanceOf_9 : decode cX12_chanceOf 9 = .ok (.getfield 206, 3) := by decide +kernel
theorem dX12_chanceOf_12 : decode cX12_chanceOf 12 = .ok (.iload_n 3, 1) := by decide +kernel
theorem dX12_chanceOf_13 : decode cX12_chanceOf 13 = .ok (.lconst 0, 1) := by decide +kernel
theorem dX12_chanceOf_14 : decode cX12_chanceOf 14 = .ok (.lastore, 1) := by decide +kernel
theorem dX12_chanceOf_15 : decode cX12_chanceOf 15 = .ok (.iinc 3 1, 3) := by decide +kernel
theorem dX12_chanceOf_18 : decode cX12_chanceOf 18 = .ok (.goto (-16), 3) := by decide +kernel
theorem dX12_chanceOf_21 : decode cX12_chanceOf 21 = .ok (.aload_n 0, 1) := by decide +kernel
theorem dX12_chanceOf_22 : decode cX12_chanceOf 22 = .ok (.getfield 206, 3) := by decide +kernel
theorem dX12_chanceOf_25 : decode cX12_chanceOf 25 = .ok (.iconst 0, 1) := by decide +kernel
theorem dX12_chanceOf_26 : decode cX12_chanceOf 26 = .ok (.ldc2_w 603, 3) := by decide +kernel
theorem dX12_chanceOf_29 : decode cX12_chanceOf 29 = .ok (.lastore, 1) := by decide +kernel
theorem dX12_chanceOf_30 : decode cX12_chanceOf 30 = .ok (.iconst 0, 1) := by decide +kernel
theorem dX12_chanceOf_31 : decode cX12_chanceOf 31 = .ok (.istore_n 3, 1) := by decide +kernel
theorem dX12_chanceOf_32 : decode cX12_chanceOf 32 = .ok (.iconst 0, 1) := by decide +kernel
theorem dX12_chanceOf_33 : decode cX12_chanceOf 33 = .ok (.istore 4, 2) := by decide +kernel
theorem dX12_chanceOf_35 : decode cX12_chanceOf 35 = .ok (.iload 4, 2) := by decide +kernel
theorem dX12_chanceOf_37 : decode cX12_chanceOf 37 = .ok (.aload_n 0, 1) := by decide +kernel
theorem dX12_chanceOf_38 : decode cX12_chanceOf 38 = .ok (.getfield 452, 3) := by decide +kernel
theorem dX12_chanceOf_41 : decode cX12_chanceOf 41 = .ok (.if_icmp .ge 130, 3) := by decide +kernel
theorem dX12_chanceOf_44 : decode cX12_chanceOf 44 = .ok (.aload_n 0, 1) := by decide +kernel
theorem dX12_chanceOf_45 : decode cX12_chanceOf 45 = .ok (.iload 4, 2) := by decide +kernel
theorem dX12_chanceOf_47 : decode cX12_chanceOf 47 = .ok (.iload_n 1, 1) := by decide +kernel
theorem dX12_chanceOf_48 : decode cX12_chanceOf 48 = .ok (.invokevirtual 591, 3) := by decide +kernel
theorem dX12_chanceOf_51 : decode cX12_chanceOf 51 = .ok (.ifCond .eq 114, 3) := by decide +kernel
theorem dX12_chanceOf_54 : decode cX12_chanceOf 54 = .ok (.iload_n 2, 1) := by decide +kernel
theorem dX12_chanceOf_55 : decode cX12_chanceOf 55 = .ok (.ifCond .eq 25, 3) := by decide +kernel
theorem dX12_chanceOf_58 : decode cX12_chanceOf 58 = .ok (.aload_n 0, 1) := by decide +kernel
theorem dX12_chanceOf_59 : decode cX12_chanceOf 59 = .ok (.getfield 197, 3) := by decide +kernel
theorem dX12_chanceOf_62 : decode cX12_chanceOf 62 = .ok (.iload 4, 2) := by decide +kernel
theorem dX12_chanceOf_64 : decode cX12_chanceOf 64 = .ok (.baload, 1) := by decide +kernel
theorem dX12_chanceOf_65 : decode cX12_chanceOf 65 = .ok (.ifCond .ne 100, 3) := by decide +kernel
theorem dX12_chanceOf_68 : decode cX12_chanceOf 68 = .ok (.aload_n 0, 1) := by decide +kernel
theorem dX12_chanceOf_69 : decode cX12_chanceOf 69 = .ok (.iload 4, 2) := by decide +kernel
theorem dX12_chanceOf_71 : decode cX12_chanceOf 71 = .ok (.invokevirtual 573, 3) := by decide +kernel
theorem dX12_chanceOf_74 : decode cX12_chanceOf 74 = .ok (.ifCond .eq 6, 3) := by decide +kernel
theorem dX12_chanceOf_77 : decode cX12_chanceOf 77 = .ok (.goto 88, 3) := by decide +kernel
theorem dX12_chanceOf_80 : decode cX12_chanceOf 80 = .ok (.aload_n 0, 1) := by decide +kernel
theorem dX12_chanceOf_81 : decode cX12_chanceOf 81 = .ok (.iload 4, 2) := by decide +kernel
theorem dX12_chanceOf_83 : decode cX12_chanceOf 83 = .ok (.invokevirtual 570, 3) := by decide +kernel
theorem dX12_chanceOf_86 : decode cX12_chanceOf 86 = .ok (.ifCond .eq 6, 3) := by decide +kernel
theorem dX12_chanceOf_89 : decode cX12_chanceOf 89 = .ok (.iinc 3 1, 3) := by decide +kernel
theorem dX12_chanceOf_92 : decode cX12_chanceOf 92 = .ok (.aload_n 0, 1) := by decide +kernel
theorem dX12_chanceOf_93 : decode cX12_chanceOf 93 = .ok (.getfield 125, 3) := by decide +kernel
theorem dX12_chanceOf_96 : decode cX12_chanceOf 96 = .ok (.iconst 5, 1) := by decide +kernel
theorem dX12_chanceOf_97 : decode cX12_chanceOf 97 = .ok (.aload_n 0, 1) := by decide +kernel
theorem dX12_chanceOf_98 : decode cX12_chanceOf 98 = .ok (.getfield 179, 3) := by decide +kernel
theorem dX12_chanceOf_101 : decode cX12_chanceOf 101 = .ok (.iload 4, 2) := by decide +kernel
theorem dX12_chanceOf_103 : decode cX12_chanceOf 103 = .ok (.iaload, 1) := by decide +kernel
theorem dX12_chanceOf_104 : decode cX12_chanceOf 104 = .ok (.iadd, 1) := by decide +kernel
theorem dX12_chanceOf_105 : decode cX12_chanceOf 105 = .ok (.iaload, 1) := by decide +kernel
theorem dX12_chanceOf_106 : decode cX12_chanceOf 106 = .ok (.i2l, 1) := by decide +kernel
theorem dX12_chanceOf_107 : decode cX12_chanceOf 107 = .ok (.lstore 5, 2) := by decide +kernel
theorem dX12_chanceOf_109 : decode cX12_chanceOf 109 = .ok (.bipush 41, 2) := by decide +kernel
theorem dX12_chanceOf_111 : decode cX12_chanceOf 111 = .ok (.istore 7, 2) := by decide +kernel
theorem dX12_chanceOf_113 : decode cX12_chanceOf 113 = .ok (.iload 7, 2) := by decide +kernel
theorem dX12_chanceOf_115 : decode cX12_chanceOf 115 = .ok (.ifCond .lt 50, 3) := by decide +kernel
theorem dX12_chanceOf_118 : decode cX12_chanceOf 118 = .ok (.aload_n 0, 1) := by decide +kernel
theorem dX12_chanceOf_119 : decode cX12_chanceOf 119 = .ok (.getfield 206, 3) := by decide +kernel
theorem dX12_chanceOf_122 : decode cX12_chanceOf 122 = .ok (.iload 7, 2) := by decide +kernel
theorem dX12_chanceOf_124 : decode cX12_chanceOf 124 = .ok (.aload_n 0, 1) := by decide +kernel
theorem dX12_chanceOf_125 : decode cX12_chanceOf 125 = .ok (.getfield 206, 3) := by decide +kernel
theorem dX12_chanceOf_128 : decode cX12_chanceOf 128 = .ok (.iload 7, 2) := by decide +kernel
theorem dX12_chanceOf_130 : decode cX12_chanceOf 130 = .ok (.laload, 1) := by decide +kernel
theorem dX12_chanceOf_131 : decode cX12_chanceOf 131 = .ok (.lload 5, 2) := by decide +kernel
theorem dX12_chanceOf_133 : decode cX12_chanceOf 133 = .ok (.lconst 1, 1) := by decide +kernel
theorem dX12_chanceOf_134 : decode cX12_chanceOf 134 = .ok (.lsub, 1) := by decide +kernel
theorem dX12_chanceOf_135 : decode cX12_chanceOf 135 = .ok (.lmul, 1) := by decide +kernel
theorem dX12_chanceOf_136 : decode cX12_chanceOf 136 = .ok (.iload 7, 2) := by decide +kernel
theorem dX12_chanceOf_138 : decode cX12_chanceOf 138 = .ok (.ifCond .le 15, 3) := by decide +kernel
theorem dX12_chanceOf_141 : decode cX12_chanceOf 141 = .ok (.aload_n 0, 1) := by decide +kernel
theorem dX12_chanceOf_142 : decode cX12_chanceOf 142 = .ok (.getfield 206, 3) := by decide +kernel
theorem dX12_chanceOf_145 : decode cX12_chanceOf 145 = .ok (.iload 7, 2) := by decide +kernel
theorem dX12_chanceOf_147 : decode cX12_chanceOf 147 = .ok (.iconst 1, 1) := by decide +kernel
theorem dX12_chanceOf_148 : decode cX12_chanceOf 148 = .ok (.isub, 1) := by decide +kernel
theorem dX12_chanceOf_149 : decode cX12_chanceOf 149 = .ok (.laload, 1) := by decide +kernel
theorem dX12_chanceOf_150 : decode cX12_chanceOf 150 = .ok (.goto 4, 3) := by decide +kernel
theorem dX12_chanceOf_153 : decode cX12_chanceOf 153 = .ok (.lconst 0, 1) := by decide +kernel
theorem dX12_chanceOf_154 : decode cX12_chanceOf 154 = .ok (.ladd, 1) := by decide +kernel
theorem dX12_chanceOf_155 : decode cX12_chanceOf 155 = .ok (.lload 5, 2) := by decide +kernel
theorem dX12_chanceOf_157 : decode cX12_chanceOf 157 = .ok (.ldiv, 1) := by decide +kernel
theorem dX12_chanceOf_158 : decode cX12_chanceOf 158 = .ok (.lastore, 1) := by decide +kernel
theorem dX12_chanceOf_159 : decode cX12_chanceOf 159 = .ok (.iinc 7 (-1), 3) := by decide +kernel
theorem dX12_chanceOf_162 : decode cX12_chanceOf 162 = .ok (.goto (-49), 3) := by decide +kernel
theorem dX12_chanceOf_165 : decode cX12_chanceOf 165 = .ok (.iinc 4 1, 3) := by decide +kernel
theorem dX12_chanceOf_168 : decode cX12_chanceOf 168 = .ok (.goto (-133), 3) := by decide +kernel
theorem dX12_chanceOf_171 : decode cX12_chanceOf 171 = .ok (.lconst 0, 1) := by decide +kernel
theorem dX12_chanceOf_172 : decode cX12_chanceOf 172 = .ok (.lstore 4, 2) := by decide +kernel
theorem dX12_chanceOf_174 : decode cX12_chanceOf 174 = .ok (.iload_n 3, 1) := by decide +kernel
theorem dX12_chanceOf_175 : decode cX12_chanceOf 175 = .ok (.istore 6, 2) := by decide +kernel
theorem dX12_chanceOf_177 : decode cX12_chanceOf 177 = .ok (.iload 6, 2) := by decide +kernel
theorem dX12_chanceOf_179 : decode cX12_chanceOf 179 = .ok (.bipush 42, 2) := by decide +kernel
theorem dX12_chanceOf_181 : decode cX12_chanceOf 181 = .ok (.if_icmp .ge 21, 3) := by decide +kernel
theorem dX12_chanceOf_184 : decode cX12_chanceOf 184 = .ok (.lload 4, 2) := by decide +kernel
theorem dX12_chanceOf_186 : decode cX12_chanceOf 186 = .ok (.aload_n 0, 1) := by decide +kernel
theorem dX12_chanceOf_187 : decode cX12_chanceOf 187 = .ok (.getfield 206, 3) := by decide +kernel
theorem dX12_chanceOf_190 : decode cX12_chanceOf 190 = .ok (.iload 6, 2) := by decide +kernel
theorem dX12_chanceOf_192 : decode cX12_chanceOf 192 = .ok (.laload, 1) := by decide +kernel
theorem dX12_chanceOf_193 : decode cX12_chanceOf 193 = .ok (.ladd, 1) := by decide +kernel
theorem dX12_chanceOf_194 : decode cX12_chanceOf 194 = .ok (.lstore 4, 2) := by decide +kernel
theorem dX12_chanceOf_196 : decode cX12_chanceOf 196 = .ok (.iinc 6 1, 3) := by decide +kernel
theorem dX12_chanceOf_199 : decode cX12_chanceOf 199 = .ok (.goto (-22), 3) := by decide +kernel
theorem dX12_chanceOf_202 : decode cX12_chanceOf 202 = .ok (.lload 4, 2) := by decide +kernel
theorem dX12_chanceOf_204 : decode cX12_chanceOf 204 = .ok (.lreturn, 1) := by decide +kernel
set_option maxRecDepth 100000 in
theorem tb_X12_chanceOf_177 {g : GT} {n nf : Int} (hu : Up false nf n) (w177 : Mem → Int → Int → Res) (hw177 : ∀ (M : Mem) (x4 x6 : Int), AW g false RX12 cX12_chanceOf 8 (some .long) (1) n n nf 177 [(0, 2, 337), (4, 1, x4), (6, 0, x6)] [] n M (w177 M x4 x6)) (M : Mem) (x4 x6 : Int) : AW g false RX12 cX12_chanceOf 8 (some .long) (1) n n nf 177 [(0, 2, 337), (4, 1, x4), (6, 0, x6)] [] n M (b_X12_chanceOf_177 w177 M x4 x6) := by
  unfold b_X12_chanceOf_177
  refine r_iload 2 dX12_chanceOf_177 rfl ?_
  refine r_bipush dX12_chanceOf_179 (by decide) ⟨by decide, by decide⟩ ?_
  refine r_icmp_ge (tgt := 202) dX12_chanceOf_181 rfl (fun h6 => ?_) (fun h7 => ?_)
  · refine r_lload 1 dX12_chanceOf_202 rfl ?_
    exact r_lret rfl rfl dX12_chanceOf_204
  · refine r_lload 1 dX12_chanceOf_184 rfl ?_
    refine r_aload_n 0 dX12_chanceOf_186 rfl rfl ?_
    refine r_gx (kz := 89) rfl hu dX12_chanceOf_187 kF_X12_206 kd_337 rfl rfl rfl fx_337_89 ?_
    refine r_iload 2 dX12_chanceOf_190 rfl ?_
    refine r_ok (fun h8 => ?_)
    refine r_lald hu dX12_chanceOf_192 kd_401 rfl rfl rfl ln_401 h8 ?_
    refine r_ok (fun h9 => ?_)
    refine r_ladd dX12_chanceOf_193 h9 ?_
    refine r_lstoreB dX12_chanceOf_194 (by decide) (lf := fun y10 => [(4, 1, y10), (0, 2, 337), (6, 0, x6)]) (fun _ => rfl) (fun y10 ey10 => ?_)
    refine r_iincB 2 dX12_chanceOf_196 rfl ⟨by have := h8; omega, by have := h8; omega⟩ (by decide) (lf := fun y11 => [(6, 0, y11), (4, 1, y10), (0, 2, 337)]) (fun _ => rfl) (fun y11 ey11 => ?_)
    refine r_goto (tgt := 177) dX12_chanceOf_199 rfl ?_
    refine r_sub [2, 1, 0] (ls' := [(0, 2, 337), (4, 1, y10), (6, 0, y11)]) rfl ?_
    exact hw177 M y10 y11
set_option maxRecDepth 100000 in
theorem tb_X12_chanceOf_113 {g : GT} {n nf : Int} (hu : Up false nf n) (a1 a2 : Int) (w35 : Mem → Int → Int → Res) (w113 : Mem → Int → Int → Int → Int → Res) (hw35 : ∀ (M : Mem) (x3 x4 : Int), AW g false RX12 cX12_chanceOf 8 (some .long) (1) n n nf 35 [(0, 2, 337), (1, 0, a1), (2, 0, a2), (3, 0, x3), (4, 0, x4)] [] n M (w35 M x3 x4)) (hw113 : ∀ (M : Mem) (x3 x4 x5 x7 : Int), AW g false RX12 cX12_chanceOf 8 (some .long) (1) n n nf 113 [(0, 2, 337), (1, 0, a1), (2, 0, a2), (3, 0, x3), (4, 0, x4), (5, 1, x5), (7, 0, x7)] [] n M (w113 M x3 x4 x5 x7)) (M : Mem) (x3 x4 x5 x7 : Int) : AW g false RX12 cX12_chanceOf 8 (some .long) (1) n n nf 113 [(0, 2, 337), (1, 0, a1), (2, 0, a2), (3, 0, x3), (4, 0, x4), (5, 1, x5), (7, 0, x7)] [] n M (b_X12_chanceOf_113 a1 a2 w35 w113 M x3 x4 x5 x7) := by
  unfold b_X12_chanceOf_113
  refine r_iload 6 dX12_chanceOf_113 rfl ?_
  refine r_if_lt (tgt := 165) dX12_chanceOf_115 rfl (fun h28 => ?_) (fun h29 => ?_)
  · refine r_ok (fun h30 => ?_)
    refine r_iincB 4 dX12_chanceOf_165 rfl h30 (by decide) (lf := fun y31 => [(4, 0, y31), (0, 2, 337), (1, 0, a1), (2, 0, a2), (3, 0, x3), (5, 1, x5), (7, 0, x7)]) (fun _ => rfl) (fun y31 ey31 => ?_)
    refine r_goto (tgt := 35) dX12_chanceOf_168 rfl ?_
    refine r_sub [1, 2, 3, 4, 0] (ls' := [(0, 2, 337), (1, 0, a1), (2, 0, a2), (3, 0, x3), (4, 0, y31)]) rfl ?_
    exact hw35 M x3 y31
  · refine r_aload_n 0 dX12_chanceOf_118 rfl rfl ?_
    refine r_gx (kz := 89) rfl hu dX12_chanceOf_119 kF_X12_206 kd_337 rfl rfl rfl fx_337_89 ?_
    refine r_iload 6 dX12_chanceOf_122 rfl ?_
    refine r_aload_n 0 dX12_chanceOf_124 rfl rfl ?_
    refine r_gx (kz := 89) rfl hu dX12_chanceOf_125 kF_X12_206 kd_337 rfl rfl rfl fx_337_89 ?_
    refine r_iload 6 dX12_chanceOf_128 rfl ?_
    refine r_ok (fun h32 => ?_)
    refine r_lald hu dX12_chanceOf_130 kd_401 rfl rfl rfl ln_401 h32 ?_
    refine r_lload 5 dX12_chanceOf_131 rfl ?_
    refine r_lconst (v := 1) dX12_chanceOf_133 (by decide) ⟨by decide, by decide⟩ ?_
    refine r_ok (fun h33 => ?_)
    refine r_lsub dX12_chanceOf_134 h33 ?_
    refine r_ok (fun h34 => ?_)
    refine r_lmul dX12_chanceOf_135 h34 ?_
    refine r_iload 6 dX12_chanceOf_136 rfl ?_
    refine r_if_le (tgt := 153) dX12_chanceOf_138 rfl (fun h35 => ?_) (fun h36 => ?_)
    · refine r_lconst (v := 0) dX12_chanceOf_153 (by decide) ⟨by decide, by decide⟩ ?_
      refine r_ok (fun h37 => ?_)
      refine r_ladd dX12_chanceOf_154 h37 ?_
      refine r_lload 5 dX12_chanceOf_155 rfl ?_
      refine r_ok (fun h38 => ?_)
      refine r_ldivP dX12_chanceOf_157 h38 ?_
      refine r_last hu dX12_chanceOf_158 kd_401 rfl rfl rfl ln_401 h32 rfl (fun M39 eM39 => ?_)
      refine r_iincB 6 dX12_chanceOf_159 rfl ⟨by have := h32; omega, by have := h32; omega⟩ (by decide) (lf := fun y40 => [(7, 0, y40), (0, 2, 337), (1, 0, a1), (2, 0, a2), (3, 0, x3), (4, 0, x4), (5, 1, x5)]) (fun _ => rfl) (fun y40 ey40 => ?_)
      refine r_goto (tgt := 113) dX12_chanceOf_162 rfl ?_
      refine r_sub [1, 2, 3, 4, 5, 6, 0] (ls' := [(0, 2, 337), (1, 0, a1), (2, 0, a2), (3, 0, x3), (4, 0, x4), (5, 1, x5), (7, 0, y40)]) rfl ?_
      exact hw113 M39 x3 x4 x5 y40
    · refine r_aload_n 0 dX12_chanceOf_141 rfl rfl ?_
      refine r_gx (kz := 89) rfl hu dX12_chanceOf_142 kF_X12_206 kd_337 rfl rfl rfl fx_337_89 ?_
      refine r_iload 6 dX12_chanceOf_145 rfl ?_
      refine r_iconst dX12_chanceOf_147 ⟨by decide, by decide⟩ ?_
      refine r_isub dX12_chanceOf_148 ⟨by have := h32; omega, by have := h32; omega⟩ ?_
      refine r_ok (fun h41 => ?_)
      refine r_lald hu dX12_chanceOf_149 kd_401 rfl rfl rfl ln_401 h41 ?_
      refine r_goto (tgt := 154) dX12_chanceOf_150 rfl ?_
      refine r_ok (fun h42 => ?_)
      refine r_ladd dX12_chanceOf_154 h42 ?_
      refine r_lload 5 dX12_chanceOf_155 rfl ?_
      refine r_ok (fun h43 => ?_)
      refine r_ldivP dX12_chanceOf_157 h43 ?_
      refine r_last hu dX12_chanceOf_158 kd_401 rfl rfl rfl ln_401 h32 rfl (fun M44 eM44 => ?_)
      refine r_iincB 6 dX12_chanceOf_159 rfl ⟨by have := h32; omega, by have := h32; omega⟩ (by decide) (lf := fun y45 => [(7, 0, y45), (0, 2, 337), (1, 0, a1), (2, 0, a2), (3, 0, x3), (4, 0, x4), (5, 1, x5)]) (fun _ => rfl) (fun y45 ey45 => ?_)
      refine r_goto (tgt := 113) dX12_chanceOf_162 rfl ?_
      refine r_sub [1, 2, 3, 4, 5, 6, 0] (ls' := [(0, 2, 337), (1, 0, a1), (2, 0, a2), (3, 0, x3), (4, 0, x4), (5, 1, x5), (7, 0, y45)]) rfl ?_
      exact hw113 M44 x3 x4 x5 y45
set_option maxRecDepth 100000 in
theorem tj_X12_chanceOf_92 {g : GT} {n nf : Int} (hu : Up false nf n) (a1 a2 : Int) (w35 : Mem → Int → Int → Res) (hw35 : ∀ (M : Mem) (x3 x4 : Int), AW g false RX12 cX12_chanceOf 8 (some .long) (1) n n nf 35 [(0, 2, 337), (1, 0, a1), (2, 0, a2), (3, 0, x3), (4, 0, x4)] [] n M (w35 M x3 x4)) (M : Mem) (x3 x4 : Int) : AW g false RX12 cX12_chanceOf 8 (some .long) (1) n n nf 92 [(0, 2, 337), (1, 0, a1), (2, 0, a2), (3, 0, x3), (4, 0, x4)] [] n M (j_X12_chanceOf_92 a1 a2 w35 M x3 x4) := by
  unfold j_X12_chanceOf_92
  refine r_aload_n 0 dX12_chanceOf_92 rfl rfl ?_
  refine r_gx (kz := 49) rfl hu dX12_chanceOf_93 kF_X12_125 kd_337 rfl rfl rfl fx_337_49 ?_
  refine r_iconst dX12_chanceOf_96 ⟨by decide, by decide⟩ ?_
  refine r_aload_n 0 dX12_chanceOf_97 rfl rfl ?_
  refine r_gx (kz := 80) rfl hu dX12_chanceOf_98 kF_X12_179 kd_337 rfl rfl rfl fx_337_80 ?_
  refine r_iload 4 dX12_chanceOf_101 rfl ?_
  refine r_ok (fun h24 => ?_)
  refine r_iald hu dX12_chanceOf_103 kd_392 rfl (Or.inl rfl) rfl ln_392 h24 ?_
  refine r_ok (fun h25 => ?_)
  refine r_iadd dX12_chanceOf_104 h25 ?_
  refine r_ok (fun h26 => ?_)
  refine r_iald hu dX12_chanceOf_105 kd_374 rfl (Or.inl rfl) rfl ln_374 h26 ?_
  refine r_i2l dX12_chanceOf_106 ?_
  refine r_lstoreB dX12_chanceOf_107 (by decide) (lf := fun y27 => [(5, 1, y27), (0, 2, 337), (1, 0, a1), (2, 0, a2), (3, 0, x3), (4, 0, x4)]) (fun _ => rfl) (fun y27 ey27 => ?_)
  refine r_bipush dX12_chanceOf_109 (by decide) ⟨by decide, by decide⟩ ?_
  refine r_istore dX12_chanceOf_111 (by decide) (ls' := [(7, 0, 41), (5, 1, y27), (0, 2, 337), (1, 0, a1), (2, 0, a2), (3, 0, x3), (4, 0, x4)]) rfl ?_
  refine r_sub [2, 3, 4, 5, 6, 1, 0] (ls' := [(0, 2, 337), (1, 0, a1), (2, 0, a2), (3, 0, x3), (4, 0, x4), (5, 1, y27), (7, 0, 41)]) rfl ?_
  exact wl4_aw (P := fun M x3 x4 x5 x7 o => AW g false RX12 cX12_chanceOf 8 (some .long) (1) n n nf 113 [(0, 2, 337), (1, 0, a1), (2, 0, a2), (3, 0, x3), (4, 0, x4), (5, 1, x5), (7, 0, x7)] [] n M (o)) (fun M x3 x4 x5 x7 => aw_none) (fun w hw M x3 x4 x5 x7 => tb_X12_chanceOf_113 hu a1 a2 w35 w hw35 hw M x3 x4 x5 x7) FU M x3 x4 y27 41
set_option maxRecDepth 100000 in
theorem tj_X12_chanceOf_80 {g : GT} {n nf : Int} (hu : Up false nf n) (a1 a2 : Int) (w35 : Mem → Int → Int → Res) (hw35 : ∀ (M : Mem) (x3 x4 : Int), AW g false RX12 cX12_chanceOf 8 (some .long) (1) n n nf 35 [(0, 2, 337), (1, 0, a1), (2, 0, a2), (3, 0, x3), (4, 0, x4)] [] n M (w35 M x3 x4)) (M : Mem) (x3 x4 : Int) : AW g false RX12 cX12_chanceOf 8 (some .long) (1) n n nf 80 [(0, 2, 337), (1, 0, a1), (2, 0, a2), (3, 0, x3), (4, 0, x4)] [] n M (j_X12_chanceOf_80 a1 a2 w35 M x3 x4) := by
  unfold j_X12_chanceOf_80
  refine r_aload_n 0 dX12_chanceOf_80 rfl rfl ?_
  refine r_iload 4 dX12_chanceOf_81 rfl ?_
  refine r_inv (a := 337) hu ⟨Nat.le_refl _, Nat.le_refl _⟩ dX12_chanceOf_83 kM_X12_570 (ci := 12) rfl kd_337 rfl rfl (by decide) (by decide) [(0, x4)] rfl (sk := []) rfl (Nat.le_of_ble_eq_true rfl) rfl rfl (m_X12_isRight hu M x4) (fun r20 M21 => ?_)
  refine r_if_eq (tgt := 92) dX12_chanceOf_86 rfl (fun h22 => ?_) (fun h23 => ?_)
  · exact tj_X12_chanceOf_92 hu a1 a2 w35 hw35 M21 x3 x4
  · refine r_ok (fun h46 => ?_)
    refine r_iincB 3 dX12_chanceOf_89 rfl h46 (by decide) (lf := fun y47 => [(3, 0, y47), (0, 2, 337), (1, 0, a1), (2, 0, a2), (4, 0, x4)]) (fun _ => rfl) (fun y47 ey47 => ?_)
    refine r_sub [1, 2, 3, 0, 4] (ls' := [(0, 2, 337), (1, 0, a1), (2, 0, a2), (3, 0, y47), (4, 0, x4)]) rfl ?_
    exact tj_X12_chanceOf_92 hu a1 a2 w35 hw35 M21 y47 x4
set_option maxRecDepth 100000 in
theorem tb_X12_chanceOf_35 {g : GT} {n nf : Int} (hu : Up false nf n) (a1 a2 : Int) (w35 : Mem → Int → Int → Res) (hw35 : ∀ (M : Mem) (x3 x4 : Int), AW g false RX12 cX12_chanceOf 8 (some .long) (1) n n nf 35 [(0, 2, 337), (1, 0, a1), (2, 0, a2), (3, 0, x3), (4, 0, x4)] [] n M (w35 M x3 x4)) (M : Mem) (x3 x4 : Int) : AW g false RX12 cX12_chanceOf 8 (some .long) (1) n n nf 35 [(0, 2, 337), (1, 0, a1), (2, 0, a2), (3, 0, x3), (4, 0, x4)] [] n M (b_X12_chanceOf_35 a1 a2 w35 M x3 x4) := by
  unfold b_X12_chanceOf_35
  refine r_iload 4 dX12_chanceOf_35 rfl ?_
  refine r_aload_n 0 dX12_chanceOf_37 rfl rfl ?_
  refine r_gf (t := 0) (kz := 79) rfl hu dX12_chanceOf_38 kF_X12_452 kd_337 rfl rfl rfl ?_
  refine r_icmp_ge (tgt := 171) dX12_chanceOf_41 rfl (fun h4 => ?_) (fun h5 => ?_)
  · refine r_lconst (v := 0) dX12_chanceOf_171 (by decide) ⟨by decide, by decide⟩ ?_
    refine r_lstore dX12_chanceOf_172 (by decide) (ls' := [(4, 1, 0), (0, 2, 337), (1, 0, a1), (2, 0, a2), (3, 0, x3)]) rfl ?_
    refine r_iload_n 4 dX12_chanceOf_174 rfl rfl ?_
    refine r_istore dX12_chanceOf_175 (by decide) (ls' := [(6, 0, x3), (4, 1, 0), (0, 2, 337), (1, 0, a1), (2, 0, a2), (3, 0, x3)]) rfl ?_
    refine r_sub [2, 1, 0] (ls' := [(0, 2, 337), (4, 1, 0), (6, 0, x3)]) rfl ?_
    exact wl2_aw (P := fun M x4 x6 o => AW g false RX12 cX12_chanceOf 8 (some .long) (1) n n nf 177 [(0, 2, 337), (4, 1, x4), (6, 0, x6)] [] n M (o)) (fun M x4 x6 => aw_none) (fun w hw M x4 x6 => tb_X12_chanceOf_177 hu w hw M x4 x6) FU M 0 x3
  · refine r_aload_n 0 dX12_chanceOf_44 rfl rfl ?_
    refine r_iload 4 dX12_chanceOf_45 rfl ?_
    refine r_iload_n 1 dX12_chanceOf_47 rfl rfl ?_
    refine r_inv (a := 337) hu ⟨Nat.le_refl _, Nat.le_refl _⟩ dX12_chanceOf_48 kM_X12_591 (ci := 12) rfl kd_337 rfl rfl (by decide) (by decide) [(0, x4), (0, a1)] rfl (sk := []) rfl (Nat.le_of_ble_eq_true rfl) rfl rfl (m_X12_isOf hu M x4 a1) (fun r12 M13 => ?_)
    refine r_if_eq (tgt := 165) dX12_chanceOf_51 rfl (fun h14 => ?_) (fun h15 => ?_)
    · refine r_ok (fun h16 => ?_)
      refine r_iincB 4 dX12_chanceOf_165 rfl h16 (by decide) (lf := fun y17 => [(4, 0, y17), (0, 2, 337), (1, 0, a1), (2, 0, a2), (3, 0, x3)]) (fun _ => rfl) (fun y17 ey17 => ?_)
      refine r_goto (tgt := 35) dX12_chanceOf_168 rfl ?_
      refine r_sub [1, 2, 3, 4, 0] (ls' := [(0, 2, 337), (1, 0, a1), (2, 0, a2), (3, 0, x3), (4, 0, y17)]) rfl ?_
      exact hw35 M13 x3 y17
    · refine r_iload_n 2 dX12_chanceOf_54 rfl rfl ?_
      refine r_if_eq (tgt := 80) dX12_chanceOf_55 rfl (fun h18 => ?_) (fun h19 => ?_)
      · exact tj_X12_chanceOf_80 hu a1 a2 w35 hw35 M13 x3 x4
      · refine r_aload_n 0 dX12_chanceOf_58 rfl rfl ?_
        refine r_gx (kz := 86) rfl hu dX12_chanceOf_59 kF_X12_197 kd_337 rfl rfl rfl fx_337_86 ?_
        refine r_iload 4 dX12_chanceOf_62 rfl ?_
        refine r_ok (fun h48 => ?_)
        refine r_zald hu dX12_chanceOf_64 kd_398 rfl rfl rfl ln_398 h48 ?_
        refine r_if_ne (tgt := 165) dX12_chanceOf_65 rfl (fun h49 => ?_) (fun h50 => ?_)
        · refine r_aload_n 0 dX12_chanceOf_68 rfl rfl ?_
          refine r_iload 4 dX12_chanceOf_69 rfl ?_
          refine r_inv (a := 337) hu ⟨Nat.le_refl _, Nat.le_refl _⟩ dX12_chanceOf_71 kM_X12_573 (ci := 12) rfl kd_337 rfl rfl (by decide) (by decide) [(0, x4)] rfl (sk := []) rfl (Nat.le_of_ble_eq_true rfl) rfl rfl (m_X12_isLed hu M13 x4) (fun r51 M52 => ?_)
          refine r_if_eq (tgt := 80) dX12_chanceOf_74 rfl (fun h53 => ?_) (fun h54 => ?_)
          · exact tj_X12_chanceOf_80 hu a1 a2 w35 hw35 M52 x3 x4
          · refine r_goto (tgt := 165) dX12_chanceOf_77 rfl ?_
            refine r_iincB 4 dX12_chanceOf_165 rfl ⟨by have := h48; omega, by have := h48; omega⟩ (by decide) (lf := fun y55 => [(4, 0, y55), (0, 2, 337), (1, 0, a1), (2, 0, a2), (3, 0, x3)]) (fun _ => rfl) (fun y55 ey55 => ?_)
            refine r_goto (tgt := 35) dX12_chanceOf_168 rfl ?_
            refine r_sub [1, 2, 3, 4, 0] (ls' := [(0, 2, 337), (1, 0, a1), (2, 0, a2), (3, 0, x3), (4, 0, y55)]) rfl ?_
            exact hw35 M52 x3 y55
        · refine r_iincB 4 dX12_chanceOf_165 rfl ⟨by have := h48; omega, by have := h48; omega⟩ (by decide) (lf := fun y56 => [(4, 0, y56), (0, 2, 337), (1, 0, a1), (2, 0, a2), (3, 0, x3)]) (fun _ => rfl) (fun y56 ey56 => ?_)
          refine r_goto (tgt := 35) dX12_chanceOf_168 rfl ?_
          refine r_sub [1, 2, 3, 4, 0] (ls' := [(0, 2, 337), (1, 0, a1), (2, 0, a2), (3, 0, x3), (4, 0, y56)]) rfl ?_
          exact hw35 M13 x3 y56
set_option maxRecDepth 100000 in
theorem tb_X12_chanceOf_2 {g : GT} {n nf : Int} (hu : Up false nf n) (a1 a2 : Int) (w2 : Mem → Int → Res) (hw2 : ∀ (M : Mem) (x3 : Int), AW g false RX12 cX12_chanceOf 8 (some .long) (1) n n nf 2 [(0, 2, 337), (1, 0, a1), (2, 0, a2), (3, 0, x3)] [] n M (w2 M x3)) (M : Mem) (x3 : Int) : AW g false RX12 cX12_chanceOf 8 (some .long) (1) n n nf 2 [(0, 2, 337), (1, 0, a1), (2, 0, a2), (3, 0, x3)] [] n M (b_X12_chanceOf_2 a1 a2 w2 M x3) := by
  unfold b_X12_chanceOf_2
  refine r_iload_n 3 dX12_chanceOf_2 rfl rfl ?_
  refine r_bipush dX12_chanceOf_3 (by decide) ⟨by decide, by decide⟩ ?_
  refine r_icmp_ge (tgt := 21) dX12_chanceOf_5 rfl (fun h1 => ?_) (fun h2 => ?_)
  · refine r_aload_n 0 dX12_chanceOf_21 rfl rfl ?_
    refine r_gx (kz := 89) rfl hu dX12_chanceOf_22 kF_X12_206 kd_337 rfl rfl rfl fx_337_89 ?_
    refine r_iconst dX12_chanceOf_25 ⟨by decide, by decide⟩ ?_
    refine r_ldc2 (v := 1000000000000) dX12_chanceOf_26 kC_X12_603 rfl ⟨by decide, by decide⟩ ?_
    refine r_last hu dX12_chanceOf_29 kd_401 rfl rfl rfl ln_401 ⟨by decide, by decide⟩ rfl (fun M3 eM3 => ?_)
    refine r_iconst dX12_chanceOf_30 ⟨by decide, by decide⟩ ?_
    refine r_istore_n dX12_chanceOf_31 rfl (by decide) (ls' := [(3, 0, 0), (0, 2, 337), (1, 0, a1), (2, 0, a2)]) rfl ?_
    refine r_iconst dX12_chanceOf_32 ⟨by decide, by decide⟩ ?_
    refine r_istore dX12_chanceOf_33 (by decide) (ls' := [(4, 0, 0), (3, 0, 0), (0, 2, 337), (1, 0, a1), (2, 0, a2)]) rfl ?_
    refine r_sub [2, 3, 4, 1, 0] (ls' := [(0, 2, 337), (1, 0, a1), (2, 0, a2), (3, 0, 0), (4, 0, 0)]) rfl ?_
    exact wl2_aw (P := fun M x3 x4 o => AW g false RX12 cX12_chanceOf 8 (some .long) (1) n n nf 35 [(0, 2, 337), (1, 0, a1), (2, 0, a2), (3, 0, x3), (4, 0, x4)] [] n M (o)) (fun M x3 x4 => aw_none) (fun w hw M x3 x4 => tb_X12_chanceOf_35 hu a1 a2 w hw M x3 x4) FU M3 0 0
  · refine r_aload_n 0 dX12_chanceOf_8 rfl rfl ?_
    refine r_gx (kz := 89) rfl hu dX12_chanceOf_9 kF_X12_206 kd_337 rfl rfl rfl fx_337_89 ?_
    refine r_iload_n 3 dX12_chanceOf_12 rfl rfl ?_
    refine r_lconst (v := 0) dX12_chanceOf_13 (by decide) ⟨by decide, by decide⟩ ?_
    refine r_ok (fun h57 => ?_)
    refine r_last hu dX12_chanceOf_14 kd_401 rfl rfl rfl ln_401 h57 rfl (fun M58 eM58 => ?_)
    refine r_iincB 3 dX12_chanceOf_15 rfl ⟨by have := h57; omega, by have := h57; omega⟩ (by decide) (lf := fun y59 => [(3, 0, y59), (0, 2, 337), (1, 0, a1), (2, 0, a2)]) (fun _ => rfl) (fun y59 ey59 => ?_)
    refine r_goto (tgt := 2) dX12_chanceOf_18 rfl ?_
    refine r_sub [1, 2, 3, 0] (ls' := [(0, 2, 337), (1, 0, a1), (2, 0, a2), (3, 0, y59)]) rfl ?_
    exact hw2 M58 y59
set_option maxRecDepth 100000 in
theorem m_X12_chanceOf {g : GT} {n nf : Int} (hu : Up false nf n) (M : Mem) (a1 a2 : Int) : AM g false yX12_chanceOf cX12_chanceOf 8 (some .long) (1) n n nf [(2, 337), (0, a1), (0, a2)] M (f_X12_chanceOf M a1 a2) := by
  refine AM_of (by decide +kernel) (Nat.le_of_ble_eq_true rfl) (fun h => absurd h (Int.lt_irrefl n)) ?_
  show AW g false RX12 cX12_chanceOf 8 (some .long) (1) n n nf 0 [(0, 2, 337), (1, 0, a1), (2, 0, a2)] [] n M (f_X12_chanceOf M a1 a2)
  unfold f_X12_chanceOf
  refine r_iconst dX12_chanceOf_0 ⟨by decide, by decide⟩ ?_
  refine r_istore_n dX12_chanceOf_1 rfl (by decide) (ls' := [(3, 0, 0), (0, 2, 337), (1, 0, a1), (2, 0, a2)]) rfl ?_
  refine r_sub [1, 2, 3, 0] (ls' := [(0, 2, 337), (1, 0, a1), (2, 0, a2), (3, 0, 0)]) rfl ?_
  exact wl1_aw (P := fun M x3 o => AW g false RX12 cX12_chanceOf 8 (some .long) (1) n n nf 2 [(0, 2, 337), (1, 0, a1), (2, 0, a2), (3, 0, x3)] [] n M (o)) (fun M x3 => aw_none) (fun w hw M x3 => tb_X12_chanceOf_2 hu a1 a2 w hw M x3) FU M 0
theorem dX12_chance_0 : decode cX12_chance 0 = .ok (.iload_n 1, 1) := by decide +kernel
theorem dX12_chance_1 : decode cX12_chance 1 = .ok (.iconst (-1), 1) := by decide +kernel
theorem dX12_chance_2 : decode cX12_chance 2 = .ok (.if_icmp .eq 17, 3) := by decide +kernel
theorem dX12_chance_5 : decode cX12_chance 5 = .ok (.aload_n 0, 1) := by decide +kernel
theorem dX12_chance_6 : decode cX12_chance 6 = .ok (.iload_n 1, 1) := by decide +kernel
theorem dX12_chance_7 : decode cX12_chance 7 = .ok (.invokevirtual 489, 3) := by decide +kernel
theorem dX12_chance_10 : decode cX12_chance 10 = .ok (.ifCond .ne 9, 3) := by decide +kernel
theorem dX12_chance_13 : decode cX12_chance 13 = .ok (.ldc2_w 597, 3) := by decide +kernel
theorem dX12_chance_16 : decode cX12_chance 16 = .ok (.goto 9, 3) := by decide +kernel
theorem dX12_chance_19 : decode cX12_chance 19 = .ok (.aload_n 0, 1) := by decide +kernel
theorem dX12_chance_20 : decode cX12_chance 20 = .ok (.iload_n 1, 1) := by decide +kernel
theorem dX12_chance_21 : decode cX12_chance 21 = .ok (.iconst 0, 1) := by decide +kernel
theorem dX12_chance_22 : decode cX12_chance 22 = .ok (.invokevirtual 599, 3) := by decide +kernel
theorem dX12_chance_25 : decode cX12_chance 25 = .ok (.lreturn, 1) := by decide +kernel
set_option maxRecDepth 100000 in
theorem tj_X12_chance_19 {g : GT} {n nf : Int} (hu : Up false nf n) (a1 : Int) (M : Mem) : AW g false RX12 cX12_chance 2 (some .long) (2) n n nf 19 [(0, 2, 337), (1, 0, a1)] [] n M (j_X12_chance_19 a1 M) := by
  unfold j_X12_chance_19
  refine r_aload_n 0 dX12_chance_19 rfl rfl ?_
  refine r_iload_n 1 dX12_chance_20 rfl rfl ?_
  refine r_iconst dX12_chance_21 ⟨by decide, by decide⟩ ?_
  refine r_inv (a := 337) hu ⟨Nat.le_refl _, Nat.le_refl _⟩ dX12_chance_22 kM_X12_599 (ci := 12) rfl kd_337 rfl rfl (by decide) (by decide) [(0, a1), (0, 0)] rfl (sk := []) rfl (Nat.le_of_ble_eq_true rfl) rfl rfl (m_X12_chanceOf hu M a1 0) (fun r3 M4 => ?_)
  exact r_lret rfl rfl dX12_chance_25
set_option maxRecDepth 100000 in
theorem m_X12_chance {g : GT} {n nf : Int} (hu : Up false nf n) (M : Mem) (a1 : Int) : AM g false yX12_chance cX12_chance 2 (some .long) (2) n n nf [(2, 337), (0, a1)] M (f_X12_chance M a1) := by
  refine AM_of (by decide +kernel) (Nat.le_of_ble_eq_true rfl) (fun h => absurd h (Int.lt_irrefl n)) ?_
  show AW g false RX12 cX12_chance 2 (some .long) (2) n n nf 0 [(0, 2, 337), (1, 0, a1)] [] n M (f_X12_chance M a1)
  unfold f_X12_chance
  refine r_iload_n 1 dX12_chance_0 rfl rfl ?_
  refine r_iconst dX12_chance_1 ⟨by decide, by decide⟩ ?_
  refine r_icmp_eq (tgt := 19) dX12_chance_2 rfl (fun h1 => ?_) (fun h2 => ?_)
  · exact tj_X12_chance_19 hu a1 M
  · refine r_aload_n 0 dX12_chance_5 rfl rfl ?_
    refine r_iload_n 1 dX12_chance_6 rfl rfl ?_
    refine r_inv (a := 337) hu ⟨Nat.le_refl _, Nat.le_refl _⟩ dX12_chance_7 kM_X12_489 (ci := 12) rfl kd_337 rfl rfl (by decide) (by decide) [(0, a1)] rfl (sk := []) rfl (Nat.le_of_ble_eq_true rfl) rfl rfl (m_X12_isThing hu M a1) (fun r5 M6 => ?_)
    refine r_if_ne (tgt := 19) dX12_chance_10 rfl (fun h7 => ?_) (fun h8 => ?_)
    · refine r_ldc2 (v := (-1)) dX12_chance_13 kC_X12_597 rfl ⟨by decide, by decide⟩ ?_
      refine r_goto (tgt := 25) dX12_chance_16 rfl ?_
      exact r_lret rfl rfl dX12_chance_25
    · exact tj_X12_chance_19 hu a1 M6
theorem dX12_honest_0 : decode cX12_honest 0 = .ok (.iload_n 1, 1) := by decide +kernel
theorem dX12_honest_1 : decode cX12_honest 1 = .ok (.iconst (-1), 1) := by decide +kernel
theorem dX12_honest_2 : decode cX12_honest 2 = .ok (.if_icmp .eq 17, 3) := by decide +kernel
theorem dX12_honest_5 : decode cX12_honest 5 = .ok (.aload_n 0, 1) := by decide +kernel
theorem dX12_honest_6 : decode cX12_honest 6 = .ok (.iload_n 1, 1) := by decide +kernel
theorem dX12_honest_7 : decode cX12_honest 7 = .ok (.invokevirtual 489, 3) := by decide +kernel
theorem dX12_honest_10 : decode cX12_honest 10 = .ok (.ifCond .ne 9, 3) := by decide +kernel
theorem dX12_honest_13 : decode cX12_honest 13 = .ok (.ldc2_w 597, 3) := by decide +kernel
theorem dX12_honest_16 : decode cX12_honest 16 = .ok (.goto 9, 3) := by decide +kernel
theorem dX12_honest_19 : decode cX12_honest 19 = .ok (.aload_n 0, 1) := by decide +kernel
theorem dX12_honest_20 : decode cX12_honest 20 = .ok (.iload_n 1, 1) := by decide +kernel
theorem dX12_honest_21 : decode cX12_honest 21 = .ok (.iconst 1, 1) := by decide +kernel
theorem dX12_honest_22 : decode cX12_honest 22 = .ok (.invokevirtual 599, 3) := by decide +kernel
theorem dX12_honest_25 : decode cX12_honest 25 = .ok (.lreturn, 1) := by decide +kernel
set_option maxRecDepth 100000 in
theorem tj_X12_honest_19 {g : GT} {n nf : Int} (hu : Up false nf n) (a1 : Int) (M : Mem) : AW g false RX12 cX12_honest 2 (some .long) (2) n n nf 19 [(0, 2, 337), (1, 0, a1)] [] n M (j_X12_honest_19 a1 M) := by
  unfold j_X12_honest_19
  refine r_aload_n 0 dX12_honest_19 rfl rfl ?_
  refine r_iload_n 1 dX12_honest_20 rfl rfl ?_
  refine r_iconst dX12_honest_21 ⟨by decide, by decide⟩ ?_
  refine r_inv (a := 337) hu ⟨Nat.le_refl _, Nat.le_refl _⟩ dX12_honest_22 kM_X12_599 (ci := 12) rfl kd_337 rfl rfl (by decide) (by decide) [(0, a1), (0, 1)] rfl (sk := []) rfl (Nat.le_of_ble_eq_true rfl) rfl rfl (m_X12_chanceOf hu M a1 1) (fun r3 M4 => ?_)
  exact r_lret rfl rfl dX12_honest_25
set_option maxRecDepth 100000 in
theorem m_X12_honest {g : GT} {n nf : Int} (hu : Up false nf n) (M : Mem) (a1 : Int) : AM g false yX12_honest cX12_honest 2 (some .long) (2) n n nf [(2, 337), (0, a1)] M (f_X12_honest M a1) := by
  refine AM_of (by decide +kernel) (Nat.le_of_ble_eq_true rfl) (fun h => absurd h (Int.lt_irrefl n)) ?_
  show AW g false RX12 cX12_honest 2 (some .long) (2) n n nf 0 [(0, 2, 337), (1, 0, a1)] [] n M (f_X12_honest M a1)
  unfold f_X12_honest
  refine r_iload_n 1 dX12_honest_0 rfl rfl ?_
  refine r_iconst dX12_honest_1 ⟨by decide, by decide⟩ ?_
  refine r_icmp_eq (tgt := 19) dX12_honest_2 rfl (fun h1 => ?_) (fun h2 => ?_)
  · exact tj_X12_honest_19 hu a1 M
  · refine r_aload_n 0 dX12_honest_5 rfl rfl ?_
    refine r_iload_n 1 dX12_honest_6 rfl rfl ?_
    refine r_inv (a := 337) hu ⟨Nat.le_refl _, Nat.le_refl _⟩ dX12_honest_7 kM_X12_489 (ci := 12) rfl kd_337 rfl rfl (by decide) (by decide) [(0, a1)] rfl (sk := []) rfl (Nat.le_of_ble_eq_true rfl) rfl rfl (m_X12_isThing hu M a1) (fun r5 M6 => ?_)
    refine r_if_ne (tgt := 19) dX12_honest_10 rfl (fun h7 => ?_) (fun h8 => ?_)
    · refine r_ldc2 (v := (-1)) dX12_honest_13 kC_X12_597 rfl ⟨by decide, by decide⟩ ?_
      refine r_goto (tgt := 25) dX12_honest_16 rfl ?_
      exact r_lret rfl rfl dX12_honest_25
    · exact tj_X12_honest_19 hu a1 M6
theorem dX12_needed_0 : decode cX12_needed 0 = .ok (.aload_n 0, 1) := by decide +kernel
theorem dX12_needed_1 : decode cX12_needed 1 = .ok (.iload_n 1, 1) := by decide +kernel
theorem dX12_needed_2 : decode cX12_needed 2 = .ok (.invokevirtual 489, 3) := by decide +kernel
theorem dX12_needed_5 : decode cX12_needed 5 = .ok (.ifCond .ne 5, 3) := by decide +kernel
theorem dX12_needed_8 : decode cX12_needed 8 = .ok (.iconst (-1), 1) := by decide +kernel
theorem dX12_needed_9 : decode cX12_needed 9 = .ok (.ireturn, 1) := by decide +kernel
theorem dX12_needed_10 : decode cX12_needed 10 = .ok (.ldc2_w 603, 3) := by decide +kernel
theorem dX12_needed_13 : decode cX12_needed 13 = .ok (.lstore 4, 2) := by decide +kernel
theorem dX12_needed_15 : decode cX12_needed 15 = .ok (.iconst 1, 1) := by decide +kernel
theorem dX12_needed_16 : decode cX12_needed 16 = .ok (.istore 6, 2) := by decide +kernel
theorem dX12_needed_18 : decode cX12_needed 18 = .ok (.iload 6, 2) := by decide +kernel
theorem dX12_needed_20 : decode cX12_needed 20 = .ok (.bipush 60, 2) := by decide +kernel
theorem dX12_needed_22 : decode cX12_needed 22 = .ok (.if_icmp .gt 33, 3) := by decide +kernel
theorem dX12_needed_25 : decode cX12_needed 25 = .ok (.lload 4, 2) := by decide +kernel
theorem dX12_needed_27 : decode cX12_needed 27 = .ok (.aload_n 0, 1) := by decide +kernel
theorem dX12_needed_28 : decode cX12_needed 28 = .ok (.getfield 125, 3) := by decide +kernel
theorem dX12_needed_31 : decode cX12_needed 31 = .ok (.iconst 5, 1) := by decide +kernel
theorem dX12_needed_32 : decode cX12_needed 32 = .ok (.iload_n 1, 1) := by decide +kernel
theorem dX12_needed_33 : decode cX12_needed 33 = .ok (.iadd, 1) := by decide +kernel
theorem dX12_needed_34 : decode cX12_needed 34 = .ok (.iaload, 1) := by decide +kernel
theorem dX12_needed_35 : decode cX12_needed 35 = .ok (.i2l, 1) := by decide +kernel
theorem dX12_needed_36 : decode cX12_needed 36 = .ok (.ldiv, 1) := by decide +kernel
theorem dX12_needed_37 : decode cX12_needed 37 = .ok (.lstore 4, 2) := by decide +kernel
theorem dX12_needed_39 : decode cX12_needed 39 = .ok (.lload 4, 2) := by decide +kernel
theorem dX12_needed_41 : decode cX12_needed 41 = .ok (.lload_n 2, 1) := by decide +kernel
theorem dX12_needed_42 : decode cX12_needed 42 = .ok (.lcmp, 1) := by decide +kernel
theorem dX12_needed_43 : decode cX12_needed 43 = .ok (.ifCond .gt 6, 3) := by decide +kernel
theorem dX12_needed_46 : decode cX12_needed 46 = .ok (.iload 6, 2) := by decide +kernel
theorem dX12_needed_48 : decode cX12_needed 48 = .ok (.ireturn, 1) := by decide +kernel
theorem dX12_needed_49 : decode cX12_needed 49 = .ok (.iinc 6 1, 3) := by decide +kernel
theorem dX12_needed_52 : decode cX12_needed 52 = .ok (.goto (-34), 3) := by decide +kernel
theorem dX12_needed_55 : decode cX12_needed 55 = .ok (.iconst (-1), 1) := by decide +kernel
theorem dX12_needed_56 : decode cX12_needed 56 = .ok (.ireturn, 1) := by decide +kernel
set_option maxRecDepth 100000 in
theorem tb_X12_needed_18 {g : GT} {n nf : Int} (hu : Up false nf n) (a1 a2 : Int) (w18 : Mem → Int → Int → Res) (hw18 : ∀ (M : Mem) (x4 x6 : Int), AW g false RX12 cX12_needed 7 (some .int) (2) n n nf 18 [(0, 2, 337), (1, 0, a1), (2, 1, a2), (4, 1, x4), (6, 0, x6)] [] n M (w18 M x4 x6)) (M : Mem) (x4 x6 : Int) : AW g false RX12 cX12_needed 7 (some .int) (2) n n nf 18 [(0, 2, 337), (1, 0, a1), (2, 1, a2), (4, 1, x4), (6, 0, x6)] [] n M (b_X12_needed_18 a1 a2 w18 M x4 x6) := by
  unfold b_X12_needed_18
  refine r_iload 4 dX12_needed_18 rfl ?_
  refine r_bipush dX12_needed_20 (by decide) ⟨by decide, by decide⟩ ?_
  refine r_icmp_gt (tgt := 55) dX12_needed_22 rfl (fun h5 => ?_) (fun h6 => ?_)
  · refine r_iconst dX12_needed_55 ⟨by decide, by decide⟩ ?_
    exact r_iret rfl rfl (Or.inl rfl) dX12_needed_56
  · refine r_lload 3 dX12_needed_25 rfl ?_
    refine r_aload_n 0 dX12_needed_27 rfl rfl ?_
    refine r_gx (kz := 49) rfl hu dX12_needed_28 kF_X12_125 kd_337 rfl rfl rfl fx_337_49 ?_
    refine r_iconst dX12_needed_31 ⟨by decide, by decide⟩ ?_
    refine r_iload_n 1 dX12_needed_32 rfl rfl ?_
    refine r_ok (fun h7 => ?_)
    refine r_iadd dX12_needed_33 h7 ?_
    refine r_ok (fun h8 => ?_)
    refine r_iald hu dX12_needed_34 kd_374 rfl (Or.inl rfl) rfl ln_374 h8 ?_
    refine r_i2l dX12_needed_35 ?_
    refine r_ok (fun h9 => ?_)
    refine r_ldivP dX12_needed_36 h9 ?_
    refine r_lstoreB dX12_needed_37 (by decide) (lf := fun y10 => [(4, 1, y10), (0, 2, 337), (1, 0, a1), (2, 1, a2), (6, 0, x6)]) (fun _ => rfl) (fun y10 ey10 => ?_)
    refine r_lload 0 dX12_needed_39 rfl ?_
    refine r_lload_n 3 dX12_needed_41 rfl rfl ?_
    refine r_lif_gt (tgt := 49) dX12_needed_42 dX12_needed_43 rfl (fun h11 => ?_) (fun h12 => ?_)
    · refine r_ok (fun h13 => ?_)
      refine r_iincB 4 dX12_needed_49 rfl h13 (by decide) (lf := fun y14 => [(6, 0, y14), (4, 1, y10), (0, 2, 337), (1, 0, a1), (2, 1, a2)]) (fun _ => rfl) (fun y14 ey14 => ?_)
      refine r_goto (tgt := 18) dX12_needed_52 rfl ?_
      refine r_sub [2, 3, 4, 1, 0] (ls' := [(0, 2, 337), (1, 0, a1), (2, 1, a2), (4, 1, y10), (6, 0, y14)]) rfl ?_
      exact hw18 M y10 y14
    · refine r_iload 4 dX12_needed_46 rfl ?_
      exact r_iret rfl rfl (Or.inl rfl) dX12_needed_48
set_option maxRecDepth 100000 in
theorem m_X12_needed {g : GT} {n nf : Int} (hu : Up false nf n) (M : Mem) (a1 a2 : Int) : AM g false yX12_needed cX12_needed 7 (some .int) (2) n n nf [(2, 337), (0, a1), (1, a2)] M (f_X12_needed M a1 a2) := by
  refine AM_of (by decide +kernel) (Nat.le_of_ble_eq_true rfl) (fun h => absurd h (Int.lt_irrefl n)) ?_
  show AW g false RX12 cX12_needed 7 (some .int) (2) n n nf 0 [(0, 2, 337), (1, 0, a1), (2, 1, a2)] [] n M (f_X12_needed M a1 a2)
  unfold f_X12_needed
  refine r_aload_n 0 dX12_needed_0 rfl rfl ?_
  refine r_iload_n 1 dX12_needed_1 rfl rfl ?_
  refine r_inv (a := 337) hu ⟨Nat.le_refl _, Nat.le_refl _⟩ dX12_needed_2 kM_X12_489 (ci := 12) rfl kd_337 rfl rfl (by decide) (by decide) [(0, a1)] rfl (sk := []) rfl (Nat.le_of_ble_eq_true rfl) rfl rfl (m_X12_isThing hu M a1) (fun r1 M2 => ?_)
  refine r_if_ne (tgt := 10) dX12_needed_5 rfl (fun h3 => ?_) (fun h4 => ?_)
  · refine r_iconst dX12_needed_8 ⟨by decide, by decide⟩ ?_
    exact r_iret rfl rfl (Or.inl rfl) dX12_needed_9
  · refine r_ldc2 (v := 1000000000000) dX12_needed_10 kC_X12_603 rfl ⟨by decide, by decide⟩ ?_
    refine r_lstore dX12_needed_13 (by decide) (ls' := [(4, 1, 1000000000000), (0, 2, 337), (1, 0, a1), (2, 1, a2)]) rfl ?_
    refine r_iconst dX12_needed_15 ⟨by decide, by decide⟩ ?_
    refine r_istore dX12_needed_16 (by decide) (ls' := [(6, 0, 1), (4, 1, 1000000000000), (0, 2, 337), (1, 0, a1), (2, 1, a2)]) rfl ?_
    refine r_sub [2, 3, 4, 1, 0] (ls' := [(0, 2, 337), (1, 0, a1), (2, 1, a2), (4, 1, 1000000000000), (6, 0, 1)]) rfl ?_
    exact wl2_aw (P := fun M x4 x6 o => AW g false RX12 cX12_needed 7 (some .int) (2) n n nf 18 [(0, 2, 337), (1, 0, a1), (2, 1, a2), (4, 1, x4), (6, 0, x6)] [] n M (o)) (fun M x4 x6 => aw_none) (fun w hw M x4 x6 => tb_X12_needed_18 hu a1 a2 w hw M x4 x6) FU M2 1000000000000 1
theorem dX12_guessedAbove_0 : decode cX12_guessedAbove 0 = .ok (.aload_n 0, 1) := by decide +kernel
theorem dX12_guessedAbove_1 : decode cX12_guessedAbove 1 = .ok (.iload_n 2, 1) := by decide +kernel
theorem dX12_guessedAbove_2 : decode cX12_guessedAbove 2 = .ok (.invokevirtual 576, 3) := by decide +kernel
theorem dX12_guessedAbove_5 : decode cX12_guessedAbove 5 = .ok (.aload_n 0, 1) := by decide +kernel
theorem dX12_guessedAbove_6 : decode cX12_guessedAbove 6 = .ok (.iload_n 1, 1) := by decide +kernel
theorem dX12_guessedAbove_7 : decode cX12_guessedAbove 7 = .ok (.iconst 0, 1) := by decide +kernel
theorem dX12_guessedAbove_8 : decode cX12_guessedAbove 8 = .ok (.invokevirtual 435, 3) := by decide +kernel
theorem dX12_guessedAbove_11 : decode cX12_guessedAbove 11 = .ok (.aload_n 0, 1) := by decide +kernel
theorem dX12_guessedAbove_12 : decode cX12_guessedAbove 12 = .ok (.getfield 125, 3) := by decide +kernel
theorem dX12_guessedAbove_15 : decode cX12_guessedAbove 15 = .ok (.iconst 5, 1) := by decide +kernel
theorem dX12_guessedAbove_16 : decode cX12_guessedAbove 16 = .ok (.aload_n 0, 1) := by decide +kernel
theorem dX12_guessedAbove_17 : decode cX12_guessedAbove 17 = .ok (.getfield 179, 3) := by decide +kernel
theorem dX12_guessedAbove_20 : decode cX12_guessedAbove 20 = .ok (.iload_n 2, 1) := by decide +kernel
theorem dX12_guessedAbove_21 : decode cX12_guessedAbove 21 = .ok (.iaload, 1) := by decide +kernel
theorem dX12_guessedAbove_22 : decode cX12_guessedAbove 22 = .ok (.iadd, 1) := by decide +kernel
theorem dX12_guessedAbove_23 : decode cX12_guessedAbove 23 = .ok (.iaload, 1) := by decide +kernel
theorem dX12_guessedAbove_24 : decode cX12_guessedAbove 24 = .ok (.aload_n 0, 1) := by decide +kernel
theorem dX12_guessedAbove_25 : decode cX12_guessedAbove 25 = .ok (.iload_n 2, 1) := by decide +kernel
theorem dX12_guessedAbove_26 : decode cX12_guessedAbove 26 = .ok (.invokevirtual 570, 3) := by decide +kernel
theorem dX12_guessedAbove_29 : decode cX12_guessedAbove 29 = .ok (.invokestatic 547, 3) := by decide +kernel
theorem dX12_guessedAbove_32 : decode cX12_guessedAbove 32 = .ok (.ireturn, 1) := by decide +kernel
set_option maxRecDepth 100000 in
theorem m_X12_guessedAbove {g : GT} {n nf : Int} (hu : Up false nf n) (M : Mem) (a1 a2 : Int) : AM g false yX12_guessedAbove cX12_guessedAbove 3 (some .int) (5) n n nf [(2, 337), (0, a1), (0, a2)] M (f_X12_guessedAbove M a1 a2) := by
  refine AM_of (by decide +kernel) (Nat.le_of_ble_eq_true rfl) (fun h => absurd h (Int.lt_irrefl n)) ?_
  show AW g false RX12 cX12_guessedAbove 3 (some .int) (5) n n nf 0 [(0, 2, 337), (1, 0, a1), (2, 0, a2)] [] n M (f_X12_guessedAbove M a1 a2)
  unfold f_X12_guessedAbove
  refine r_aload_n 0 dX12_guessedAbove_0 rfl rfl ?_
  refine r_iload_n 2 dX12_guessedAbove_1 rfl rfl ?_
  refine r_invv (a := 337) hu ⟨Nat.le_refl _, Nat.le_refl _⟩ dX12_guessedAbove_2 kM_X12_576 (ci := 12) rfl kd_337 rfl rfl (by decide) (by decide) [(0, a2)] rfl (sk := []) rfl (Nat.le_of_ble_eq_true rfl) rfl (m_X12_showsTrial hu M a2) (fun r1 M2 => ?_)
  refine r_aload_n 0 dX12_guessedAbove_5 rfl rfl ?_
  refine r_iload_n 1 dX12_guessedAbove_6 rfl rfl ?_
  refine r_iconst dX12_guessedAbove_7 ⟨by decide, by decide⟩ ?_
  refine r_inv (a := 337) hu ⟨Nat.le_refl _, Nat.le_refl _⟩ dX12_guessedAbove_8 kM_X12_435 (ci := 12) rfl kd_337 rfl rfl (by decide) (by decide) [(0, a1), (0, 0)] rfl (sk := []) rfl (Nat.le_of_ble_eq_true rfl) rfl rfl (m_X12_carried hu M2 a1 0) (fun r3 M4 => ?_)
  refine r_aload_n 0 dX12_guessedAbove_11 rfl rfl ?_
  refine r_gx (kz := 49) rfl hu dX12_guessedAbove_12 kF_X12_125 kd_337 rfl rfl rfl fx_337_49 ?_
  refine r_iconst dX12_guessedAbove_15 ⟨by decide, by decide⟩ ?_
  refine r_aload_n 0 dX12_guessedAbove_16 rfl rfl ?_
  refine r_gx (kz := 80) rfl hu dX12_guessedAbove_17 kF_X12_179 kd_337 rfl rfl rfl fx_337_80 ?_
  refine r_iload_n 2 dX12_guessedAbove_20 rfl rfl ?_
  refine r_ok (fun h5 => ?_)
  refine r_iald hu dX12_guessedAbove_21 kd_392 rfl (Or.inl rfl) rfl ln_392 h5 ?_
  refine r_ok (fun h6 => ?_)
  refine r_iadd dX12_guessedAbove_22 h6 ?_
  refine r_ok (fun h7 => ?_)
  refine r_iald hu dX12_guessedAbove_23 kd_374 rfl (Or.inl rfl) rfl ln_374 h7 ?_
  refine r_aload_n 0 dX12_guessedAbove_24 rfl rfl ?_
  refine r_iload_n 2 dX12_guessedAbove_25 rfl rfl ?_
  refine r_inv (a := 337) hu ⟨Nat.le_refl _, Nat.le_refl _⟩ dX12_guessedAbove_26 kM_X12_570 (ci := 12) rfl kd_337 rfl rfl (by decide) (by decide) [(0, a2)] rfl (sk := [(0, M4 374 (5 + (M4 392 a2))), (0, r3)]) rfl (Nat.le_of_ble_eq_true rfl) rfl rfl (m_X12_isRight hu M4 a2) (fun r8 M9 => ?_)
  refine r_ins (a := 0) ⟨Nat.le_refl _, Nat.le_refl _⟩ dX12_guessedAbove_29 kM_X12_547 (by decide) (by decide) [(0, r3), (0, M4 374 (5 + (M4 392 a2))), (0, r8)] rfl (sk := []) rfl (Nat.le_of_ble_eq_true rfl) rfl rfl (m_X12_above hu M9 r3 (M4 374 (5 + (M4 392 a2))) r8) (fun r10 M11 => ?_)
  exact r_iret rfl rfl (Or.inl rfl) dX12_guessedAbove_32
theorem dX12_weightOf_0 : decode cX12_weightOf 0 = .ok (.ldc2_w 603, 3) := by decide +kernel
theorem dX12_weightOf_3 : decode cX12_weightOf 3 = .ok (.lstore_n 2, 1) := by decide +kernel
theorem dX12_weightOf_4 : decode cX12_weightOf 4 = .ok (.iconst 0, 1) := by decide +kernel
theorem dX12_weightOf_5 : decode cX12_weightOf 5 = .ok (.istore 4, 2) := by decide +kernel
theorem dX12_weightOf_7 : decode cX12_weightOf 7 = .ok (.iload 4, 2) := by decide +kernel
theorem dX12_weightOf_9 : decode cX12_weightOf 9 = .ok (.aload_n 0, 1) := by decide +kernel
theorem dX12_weightOf_10 : decode cX12_weightOf 10 = .ok (.getfield 452, 3) := by decide +kernel
theorem dX12_weightOf_13 : decode cX12_weightOf 13 = .ok (.if_icmp .ge 40, 3) := by decide +kernel
theorem dX12_weightOf_16 : decode cX12_weightOf 16 = .ok (.lload_n 2, 1) := by decide +kernel
theorem dX12_weightOf_17 : decode cX12_weightOf 17 = .ok (.aload_n 0, 1) := by decide +kernel
theorem dX12_weightOf_18 : decode cX12_weightOf 18 = .ok (.iload_n 1, 1) := by decide +kernel
theorem dX12_weightOf_19 : decode cX12_weightOf 19 = .ok (.iload 4, 2) := by decide +kernel
theorem dX12_weightOf_21 : decode cX12_weightOf 21 = .ok (.invokevirtual 605, 3) := by decide +kernel
theorem dX12_weightOf_24 : decode cX12_weightOf 24 = .ok (.i2l, 1) := by decide +kernel
theorem dX12_weightOf_25 : decode cX12_weightOf 25 = .ok (.lmul, 1) := by decide +kernel
theorem dX12_weightOf_26 : decode cX12_weightOf 26 = .ok (.ldc2_w 450, 3) := by decide +kernel
theorem dX12_weightOf_29 : decode cX12_weightOf 29 = .ok (.aload_n 0, 1) := by decide +kernel
theorem dX12_weightOf_30 : decode cX12_weightOf 30 = .ok (.getfield 125, 3) := by decide +kernel
theorem dX12_weightOf_33 : decode cX12_weightOf 33 = .ok (.iconst 5, 1) := by decide +kernel
theorem dX12_weightOf_34 : decode cX12_weightOf 34 = .ok (.aload_n 0, 1) := by decide +kernel
theorem dX12_weightOf_35 : decode cX12_weightOf 35 = .ok (.getfield 179, 3) := by decide +kernel
theorem dX12_weightOf_38 : decode cX12_weightOf 38 = .ok (.iload 4, 2) := by decide +kernel
theorem dX12_weightOf_40 : decode cX12_weightOf 40 = .ok (.iaload, 1) := by decide +kernel
theorem dX12_weightOf_41 : decode cX12_weightOf 41 = .ok (.iadd, 1) := by decide +kernel
theorem dX12_weightOf_42 : decode cX12_weightOf 42 = .ok (.iaload, 1) := by decide +kernel
theorem dX12_weightOf_43 : decode cX12_weightOf 43 = .ok (.i2l, 1) := by decide +kernel
theorem dX12_weightOf_44 : decode cX12_weightOf 44 = .ok (.lmul, 1) := by decide +kernel
theorem dX12_weightOf_45 : decode cX12_weightOf 45 = .ok (.ldiv, 1) := by decide +kernel
theorem dX12_weightOf_46 : decode cX12_weightOf 46 = .ok (.lstore_n 2, 1) := by decide +kernel
theorem dX12_weightOf_47 : decode cX12_weightOf 47 = .ok (.iinc 4 1, 3) := by decide +kernel
theorem dX12_weightOf_50 : decode cX12_weightOf 50 = .ok (.goto (-43), 3) := by decide +kernel
theorem dX12_weightOf_53 : decode cX12_weightOf 53 = .ok (.lload_n 2, 1) := by decide +kernel
theorem dX12_weightOf_54 : decode cX12_weightOf 54 = .ok (.lreturn, 1) := by decide +kernel
set_option maxRecDepth 100000 in
theorem tb_X12_weightOf_7 {g : GT} {n nf : Int} (hu : Up false nf n) (a1 : Int) (w7 : Mem → Int → Int → Res) (hw7 : ∀ (M : Mem) (x2 x4 : Int), AW g false RX12 cX12_weightOf 5 (some .long) (6) n n nf 7 [(0, 2, 337), (1, 0, a1), (2, 1, x2), (4, 0, x4)] [] n M (w7 M x2 x4)) (M : Mem) (x2 x4 : Int) : AW g false RX12 cX12_weightOf 5 (some .long) (6) n n nf 7 [(0, 2, 337), (1, 0, a1), (2, 1, x2), (4, 0, x4)] [] n M (b_X12_weightOf_7 a1 w7 M x2 x4) := by
  unfold b_X12_weightOf_7
  refine r_iload 3 dX12_weightOf_7 rfl ?_
  refine r_aload_n 0 dX12_weightOf_9 rfl rfl ?_
  refine r_gf (t := 0) (kz := 79) rfl hu dX12_weightOf_10 kF_X12_452 kd_337 rfl rfl rfl ?_
  refine r_icmp_ge (tgt := 53) dX12_weightOf_13 rfl (fun h1 => ?_) (fun h2 => ?_)
  · refine r_lload_n 2 dX12_weightOf_53 rfl rfl ?_
    exact r_lret rfl rfl dX12_weightOf_54
  · refine r_lload_n 2 dX12_weightOf_16 rfl rfl ?_
    refine r_aload_n 0 dX12_weightOf_17 rfl rfl ?_
    refine r_iload_n 1 dX12_weightOf_18 rfl rfl ?_
    refine r_iload 3 dX12_weightOf_19 rfl ?_
    refine r_inv (a := 337) hu ⟨Nat.le_refl _, Nat.le_refl _⟩ dX12_weightOf_21 kM_X12_605 (ci := 12) rfl kd_337 rfl rfl (by decide) (by decide) [(0, a1), (0, x4)] rfl (sk := [(1, x2)]) rfl (Nat.le_of_ble_eq_true rfl) rfl rfl (m_X12_guessedAbove hu M a1 x4) (fun r3 M4 => ?_)
    refine r_i2l dX12_weightOf_24 ?_
    refine r_ok (fun h5 => ?_)
    refine r_lmul dX12_weightOf_25 h5 ?_
    refine r_ldc2 (v := 100) dX12_weightOf_26 kC_X12_450 rfl ⟨by decide, by decide⟩ ?_
    refine r_aload_n 0 dX12_weightOf_29 rfl rfl ?_
    refine r_gx (kz := 49) rfl hu dX12_weightOf_30 kF_X12_125 kd_337 rfl rfl rfl fx_337_49 ?_
    refine r_iconst dX12_weightOf_33 ⟨by decide, by decide⟩ ?_
    refine r_aload_n 0 dX12_weightOf_34 rfl rfl ?_
    refine r_gx (kz := 80) rfl hu dX12_weightOf_35 kF_X12_179 kd_337 rfl rfl rfl fx_337_80 ?_
    refine r_iload 3 dX12_weightOf_38 rfl ?_
    refine r_ok (fun h6 => ?_)
    refine r_iald hu dX12_weightOf_40 kd_392 rfl (Or.inl rfl) rfl ln_392 h6 ?_
    refine r_ok (fun h7 => ?_)
    refine r_iadd dX12_weightOf_41 h7 ?_
    refine r_ok (fun h8 => ?_)
    refine r_iald hu dX12_weightOf_42 kd_374 rfl (Or.inl rfl) rfl ln_374 h8 ?_
    refine r_i2l dX12_weightOf_43 ?_
    refine r_ok (fun h9 => ?_)
    refine r_lmul dX12_weightOf_44 h9 ?_
    refine r_ok (fun h10 => ?_)
    refine r_ldivP dX12_weightOf_45 h10 ?_
    refine r_lstore_nB dX12_weightOf_46 rfl (by decide) (lf := fun y11 => [(2, 1, y11), (0, 2, 337), (1, 0, a1), (4, 0, x4)]) (fun _ => rfl) (fun y11 ey11 => ?_)
    refine r_iincB 3 dX12_weightOf_47 rfl ⟨by have := h6; omega, by have := h6; omega⟩ (by decide) (lf := fun y12 => [(4, 0, y12), (2, 1, y11), (0, 2, 337), (1, 0, a1)]) (fun _ => rfl) (fun y12 ey12 => ?_)
    refine r_goto (tgt := 7) dX12_weightOf_50 rfl ?_
    refine r_sub [2, 3, 1, 0] (ls' := [(0, 2, 337), (1, 0, a1), (2, 1, y11), (4, 0, y12)]) rfl ?_
    exact hw7 M4 y11 y12
set_option maxRecDepth 100000 in
theorem m_X12_weightOf {g : GT} {n nf : Int} (hu : Up false nf n) (M : Mem) (a1 : Int) : AM g false yX12_weightOf cX12_weightOf 5 (some .long) (6) n n nf [(2, 337), (0, a1)] M (f_X12_weightOf M a1) := by
  refine AM_of (by decide +kernel) (Nat.le_of_ble_eq_true rfl) (fun h => absurd h (Int.lt_irrefl n)) ?_
  show AW g false RX12 cX12_weightOf 5 (some .long) (6) n n nf 0 [(0, 2, 337), (1, 0, a1)] [] n M (f_X12_weightOf M a1)
  unfold f_X12_weightOf
  refine r_ldc2 (v := 1000000000000) dX12_weightOf_0 kC_X12_603 rfl ⟨by decide, by decide⟩ ?_
  refine r_lstore_n dX12_weightOf_3 rfl (by decide) (ls' := [(2, 1, 1000000000000), (0, 2, 337), (1, 0, a1)]) rfl ?_
  refine r_iconst dX12_weightOf_4 ⟨by decide, by decide⟩ ?_
  refine r_istore dX12_weightOf_5 (by decide) (ls' := [(4, 0, 0), (2, 1, 1000000000000), (0, 2, 337), (1, 0, a1)]) rfl ?_
  refine r_sub [2, 3, 1, 0] (ls' := [(0, 2, 337), (1, 0, a1), (2, 1, 1000000000000), (4, 0, 0)]) rfl ?_
  exact wl2_aw (P := fun M x2 x4 o => AW g false RX12 cX12_weightOf 5 (some .long) (6) n n nf 7 [(0, 2, 337), (1, 0, a1), (2, 1, x2), (4, 0, x4)] [] n M (o)) (fun M x2 x4 => aw_none) (fun w hw M x2 x4 => tb_X12_weightOf_7 hu a1 w hw M x2 x4) FU M 1000000000000 0
theorem dX12_weight_0 : decode cX12_weight 0 = .ok (.aload_n 0, 1) := by decide +kernel
theorem dX12_weight_1 : decode cX12_weight 1 = .ok (.iload_n 1, 1) := by decide +kernel
theorem dX12_weight_2 : decode cX12_weight 2 = .ok (.invokevirtual 459, 3) := by decide +kernel
theorem dX12_weight_5 : decode cX12_weight 5 = .ok (.ifCond .eq 11, 3) := by decide +kernel
theorem dX12_weight_8 : decode cX12_weight 8 = .ok (.aload_n 0, 1) := by decide +kernel
theorem dX12_weight_9 : decode cX12_weight 9 = .ok (.iload_n 1, 1) := by decide +kernel
theorem dX12_weight_10 : decode cX12_weight 10 = .ok (.invokevirtual 608, 3) := by decide +kernel
theorem dX12_weight_13 : decode cX12_weight 13 = .ok (.goto 6, 3) := by decide +kernel
theorem dX12_weight_16 : decode cX12_weight 16 = .ok (.ldc2_w 597, 3) := by decide +kernel
theorem dX12_weight_19 : decode cX12_weight 19 = .ok (.lreturn, 1) := by decide +kernel
set_option maxRecDepth 100000 in
theorem m_X12_weight {g : GT} {n nf : Int} (hu : Up false nf n) (M : Mem) (a1 : Int) : AM g false yX12_weight cX12_weight 2 (some .long) (7) n n nf [(2, 337), (0, a1)] M (f_X12_weight M a1) := by
  refine AM_of (by decide +kernel) (Nat.le_of_ble_eq_true rfl) (fun h => absurd h (Int.lt_irrefl n)) ?_
  show AW g false RX12 cX12_weight 2 (some .long) (7) n n nf 0 [(0, 2, 337), (1, 0, a1)] [] n M (f_X12_weight M a1)
  unfold f_X12_weight
  refine r_aload_n 0 dX12_weight_0 rfl rfl ?_
  refine r_iload_n 1 dX12_weight_1 rfl rfl ?_
  refine r_inv (a := 337) hu ⟨Nat.le_refl _, Nat.le_refl _⟩ dX12_weight_2 kM_X12_459 (ci := 12) rfl kd_337 rfl rfl (by decide) (by decide) [(0, a1)] rfl (sk := []) rfl (Nat.le_of_ble_eq_true rfl) rfl rfl (m_X12_isLaw hu M a1) (fun r1 M2 => ?_)
  refine r_if_eq (tgt := 16) dX12_weight_5 rfl (fun h3 => ?_) (fun h4 => ?_)
  · refine r_ldc2 (v := (-1)) dX12_weight_16 kC_X12_597 rfl ⟨by decide, by decide⟩ ?_
    exact r_lret rfl rfl dX12_weight_19
  · refine r_aload_n 0 dX12_weight_8 rfl rfl ?_
    refine r_iload_n 1 dX12_weight_9 rfl rfl ?_
    refine r_inv (a := 337) hu ⟨Nat.le_refl _, Nat.le_refl _⟩ dX12_weight_10 kM_X12_608 (ci := 12) rfl kd_337 rfl rfl (by decide) (by decide) [(0, a1)] rfl (sk := []) rfl (Nat.le_of_ble_eq_true rfl) rfl rfl (m_X12_weightOf hu M2 a1) (fun r5 M6 => ?_)
    refine r_goto (tgt := 19) dX12_weight_13 rfl ?_
    exact r_lret rfl rfl dX12_weight_19
theorem dX12_thrown_0 : decode cX12_thrown 0 = .ok (.iconst 0, 1) := by decide +kernel
theorem dX12_thrown_1 : decode cX12_thrown 1 = .ok (.istore_n 2, 1) := by decide +kernel
theorem dX12_thrown_2 : decode cX12_thrown 2 = .ok (.iload_n 2, 1) := by decide +kernel
theorem dX12_thrown_3 : decode cX12_thrown 3 = .ok (.aload_n 0, 1) := by decide +kernel
theorem dX12_thrown_4 : decode cX12_thrown 4 = .ok (.getfield 452, 3) := by decide +kernel
theorem dX12_thrown_7 : decode cX12_thrown 7 = .ok (.if_icmp .ge 28, 3) := by decide +kernel
theorem dX12_thrown_10 : decode cX12_thrown 10 = .ok (.aload_n 0, 1) := by decide +kernel
theorem dX12_thrown_11 : decode cX12_thrown 11 = .ok (.iload_n 1, 1) := by decide +kernel
theorem dX12_thrown_12 : decode cX12_thrown 12 = .ok (.invokevirtual 459, 3) := by decide +kernel
theorem dX12_thrown_15 : decode cX12_thrown 15 = .ok (.ifCond .eq 20, 3) := by decide +kernel
theorem dX12_thrown_18 : decode cX12_thrown 18 = .ok (.aload_n 0, 1) := by decide +kernel
theorem dX12_thrown_19 : decode cX12_thrown 19 = .ok (.iload_n 1, 1) := by decide +kernel
theorem dX12_thrown_20 : decode cX12_thrown 20 = .ok (.iload_n 2, 1) := by decide +kernel
theorem dX12_thrown_21 : decode cX12_thrown 21 = .ok (.invokevirtual 605, 3) := by decide +kernel
theorem dX12_thrown_24 : decode cX12_thrown 24 = .ok (.ifCond .ne 5, 3) := by decide +kernel
theorem dX12_thrown_27 : decode cX12_thrown 27 = .ok (.iload_n 2, 1) := by decide +kernel
theorem dX12_thrown_28 : decode cX12_thrown 28 = .ok (.ireturn, 1) := by decide +kernel
theorem dX12_thrown_29 : decode cX12_thrown 29 = .ok (.iinc 2 1, 3) := by decide +kernel
theorem dX12_thrown_32 : decode cX12_thrown 32 = .ok (.goto (-30), 3) := by decide +kernel
theorem dX12_thrown_35 : decode cX12_thrown 35 = .ok (.iconst (-1), 1) := by decide +kernel
theorem dX12_thrown_36 : decode cX12_thrown 36 = .ok (.ireturn, 1) := by decide +kernel
set_option maxRecDepth 100000 in
theorem tb_X12_thrown_2 {g : GT} {n nf : Int} (hu : Up false nf n) (a1 : Int) (w2 : Mem → Int → Res) (hw2 : ∀ (M : Mem) (x2 : Int), AW g false RX12 cX12_thrown 3 (some .int) (6) n n nf 2 [(0, 2, 337), (1, 0, a1), (2, 0, x2)] [] n M (w2 M x2)) (M : Mem) (x2 : Int) : AW g false RX12 cX12_thrown 3 (some .int) (6) n n nf 2 [(0, 2, 337), (1, 0, a1), (2, 0, x2)] [] n M (b_X12_thrown_2 a1 w2 M x2) := by
  unfold b_X12_thrown_2
  refine r_iload_n 2 dX12_thrown_2 rfl rfl ?_
  refine r_aload_n 0 dX12_thrown_3 rfl rfl ?_
  refine r_gf (t := 0) (kz := 79) rfl hu dX12_thrown_4 kF_X12_452 kd_337 rfl rfl rfl ?_
  refine r_icmp_ge (tgt := 35) dX12_thrown_7 rfl (fun h1 => ?_) (fun h2 => ?_)
  · refine r_iconst dX12_thrown_35 ⟨by decide, by decide⟩ ?_
    exact r_iret rfl rfl (Or.inl rfl) dX12_thrown_36
  · refine r_aload_n 0 dX12_thrown_10 rfl rfl ?_
    refine r_iload_n 1 dX12_thrown_11 rfl rfl ?_
    refine r_inv (a := 337) hu ⟨Nat.le_refl _, Nat.le_refl _⟩ dX12_thrown_12 kM_X12_459 (ci := 12) rfl kd_337 rfl rfl (by decide) (by decide) [(0, a1)] rfl (sk := []) rfl (Nat.le_of_ble_eq_true rfl) rfl rfl (m_X12_isLaw hu M a1) (fun r3 M4 => ?_)
    refine r_if_eq (tgt := 35) dX12_thrown_15 rfl (fun h5 => ?_) (fun h6 => ?_)
    · refine r_iconst dX12_thrown_35 ⟨by decide, by decide⟩ ?_
      exact r_iret rfl rfl (Or.inl rfl) dX12_thrown_36
    · refine r_aload_n 0 dX12_thrown_18 rfl rfl ?_
      refine r_iload_n 1 dX12_thrown_19 rfl rfl ?_
      refine r_iload_n 2 dX12_thrown_20 rfl rfl ?_
      refine r_inv (a := 337) hu ⟨Nat.le_refl _, Nat.le_refl _⟩ dX12_thrown_21 kM_X12_605 (ci := 12) rfl kd_337 rfl rfl (by decide) (by decide) [(0, a1), (0, x2)] rfl (sk := []) rfl (Nat.le_of_ble_eq_true rfl) rfl rfl (m_X12_guessedAbove hu M4 a1 x2) (fun r7 M8 => ?_)
      refine r_if_ne (tgt := 29) dX12_thrown_24 rfl (fun h9 => ?_) (fun h10 => ?_)
      · refine r_iload_n 2 dX12_thrown_27 rfl rfl ?_
        exact r_iret rfl rfl (Or.inl rfl) dX12_thrown_28
      · refine r_ok (fun h11 => ?_)
        refine r_iincB 2 dX12_thrown_29 rfl h11 (by decide) (lf := fun y12 => [(2, 0, y12), (0, 2, 337), (1, 0, a1)]) (fun _ => rfl) (fun y12 ey12 => ?_)
        refine r_goto (tgt := 2) dX12_thrown_32 rfl ?_
        refine r_sub [1, 2, 0] (ls' := [(0, 2, 337), (1, 0, a1), (2, 0, y12)]) rfl ?_
        exact hw2 M8 y12
set_option maxRecDepth 100000 in
theorem m_X12_thrown {g : GT} {n nf : Int} (hu : Up false nf n) (M : Mem) (a1 : Int) : AM g false yX12_thrown cX12_thrown 3 (some .int) (6) n n nf [(2, 337), (0, a1)] M (f_X12_thrown M a1) := by
  refine AM_of (by decide +kernel) (Nat.le_of_ble_eq_true rfl) (fun h => absurd h (Int.lt_irrefl n)) ?_
  show AW g false RX12 cX12_thrown 3 (some .int) (6) n n nf 0 [(0, 2, 337), (1, 0, a1)] [] n M (f_X12_thrown M a1)
  unfold f_X12_thrown
  refine r_iconst dX12_thrown_0 ⟨by decide, by decide⟩ ?_
  refine r_istore_n dX12_thrown_1 rfl (by decide) (ls' := [(2, 0, 0), (0, 2, 337), (1, 0, a1)]) rfl ?_
  refine r_sub [1, 2, 0] (ls' := [(0, 2, 337), (1, 0, a1), (2, 0, 0)]) rfl ?_
  exact wl1_aw (P := fun M x2 o => AW g false RX12 cX12_thrown 3 (some .int) (6) n n nf 2 [(0, 2, 337), (1, 0, a1), (2, 0, x2)] [] n M (o)) (fun M x2 => aw_none) (fun w hw M x2 => tb_X12_thrown_2 hu a1 w hw M x2) FU M 0
theorem dX12_likely_0 : decode cX12_likely 0 = .ok (.iconst (-1), 1) := by decide +kernel
theorem dX12_likely_1 : decode cX12_likely 1 = .ok (.istore_n 1, 1) := by decide +kernel
theorem dX12_likely_2 : decode cX12_likely 2 = .ok (.ldc2_w 597, 3) := by decide +kernel
theorem dX12_likely_5 : decode cX12_likely 5 = .ok (.lstore_n 2, 1) := by decide +kernel
theorem dX12_likely_6 : decode cX12_likely 6 = .ok (.iconst 0, 1) := by decide +kernel
theorem dX12_likely_7 : decode cX12_likely 7 = .ok (.istore 4, 2) := by decide +kernel
theorem dX12_likely_9 : decode cX12_likely 9 = .ok (.iload 4, 2) := by decide +kernel
theorem dX12_likely_11 : decode cX12_likely 11 = .ok (.iconst 3, 1) := by decide +kernel
theorem dX12_likely_12 : decode cX12_likely 12 = .ok (.if_icmp .ge 49, 3) := by decide +kernel
theorem dX12_likely_15 : decode cX12_likely 15 = .ok (.aload_n 0, 1) := by decide +kernel
theorem dX12_likely_16 : decode cX12_likely 16 = .ok (.getfield 161, 3) := by decide +kernel
theorem dX12_likely_19 : decode cX12_likely 19 = .ok (.iload 4, 2) := by decide +kernel
theorem dX12_likely_21 : decode cX12_likely 21 = .ok (.baload, 1) := by decide +kernel
theorem dX12_likely_22 : decode cX12_likely 22 = .ok (.ifCond .eq 12, 3) := by decide +kernel
theorem dX12_likely_25 : decode cX12_likely 25 = .ok (.aload_n 0, 1) := by decide +kernel
theorem dX12_likely_26 : decode cX12_likely 26 = .ok (.iload 4, 2) := by decide +kernel
theorem dX12_likely_28 : decode cX12_likely 28 = .ok (.invokevirtual 608, 3) := by decide +kernel
theorem dX12_likely_31 : decode cX12_likely 31 = .ok (.goto 6, 3) := by decide +kernel
theorem dX12_likely_34 : decode cX12_likely 34 = .ok (.ldc2_w 597, 3) := by decide +kernel
theorem dX12_likely_37 : decode cX12_likely 37 = .ok (.lstore 5, 2) := by decide +kernel
theorem dX12_likely_39 : decode cX12_likely 39 = .ok (.lload 5, 2) := by decide +kernel
theorem dX12_likely_41 : decode cX12_likely 41 = .ok (.lload_n 2, 1) := by decide +kernel
theorem dX12_likely_42 : decode cX12_likely 42 = .ok (.lcmp, 1) := by decide +kernel
theorem dX12_likely_43 : decode cX12_likely 43 = .ok (.ifCond .gt 6, 3) := by decide +kernel
theorem dX12_likely_46 : decode cX12_likely 46 = .ok (.goto 9, 3) := by decide +kernel
theorem dX12_likely_49 : decode cX12_likely 49 = .ok (.iload 4, 2) := by decide +kernel
theorem dX12_likely_51 : decode cX12_likely 51 = .ok (.istore_n 1, 1) := by decide +kernel
theorem dX12_likely_52 : decode cX12_likely 52 = .ok (.lload 5, 2) := by decide +kernel
theorem dX12_likely_54 : decode cX12_likely 54 = .ok (.lstore_n 2, 1) := by decide +kernel
theorem dX12_likely_55 : decode cX12_likely 55 = .ok (.iinc 4 1, 3) := by decide +kernel
theorem dX12_likely_58 : decode cX12_likely 58 = .ok (.goto (-49), 3) := by decide +kernel
theorem dX12_likely_61 : decode cX12_likely 61 = .ok (.iload_n 1, 1) := by decide +kernel
theorem dX12_likely_62 : decode cX12_likely 62 = .ok (.ireturn, 1) := by decide +kernel
set_option maxRecDepth 100000 in
theorem tj_X12_likely_37 {g : GT} {n nf : Int} (hu : Up false nf n) (w9 : Mem → Int → Int → Int → Res) (hw9 : ∀ (M : Mem) (x1 x2 x4 : Int), AW g false RX12 cX12_likely 7 (some .int) (7) n n nf 9 [(0, 2, 337), (1, 0, x1), (2, 1, x2), (4, 0, x4)] [] n M (w9 M x1 x2 x4)) (M : Mem) (x1 x2 x4 s0 : Int) : AW g false RX12 cX12_likely 7 (some .int) (7) n n nf 37 [(0, 2, 337), (1, 0, x1), (2, 1, x2), (4, 0, x4)] [(1, s0)] n M (j_X12_likely_37 w9 M x1 x2 x4 s0) := by
  unfold j_X12_likely_37
  refine r_lstore dX12_likely_37 (by decide) (ls' := [(5, 1, s0), (0, 2, 337), (1, 0, x1), (2, 1, x2), (4, 0, x4)]) rfl ?_
  refine r_lload 0 dX12_likely_39 rfl ?_
  refine r_lload_n 3 dX12_likely_41 rfl rfl ?_
  refine r_lif_gt (tgt := 49) dX12_likely_42 dX12_likely_43 rfl (fun h6 => ?_) (fun h7 => ?_)
  · refine r_iload 4 dX12_likely_49 rfl ?_
    refine r_istore_n dX12_likely_51 rfl (by decide) (ls' := [(1, 0, x4), (5, 1, s0), (0, 2, 337), (2, 1, x2), (4, 0, x4)]) rfl ?_
    refine r_lload 1 dX12_likely_52 rfl ?_
    refine r_lstore_n dX12_likely_54 rfl (by decide) (ls' := [(2, 1, s0), (1, 0, x4), (5, 1, s0), (0, 2, 337), (4, 0, x4)]) rfl ?_
    refine r_ok (fun h8 => ?_)
    refine r_iincB 4 dX12_likely_55 rfl h8 (by decide) (lf := fun y9 => [(4, 0, y9), (2, 1, s0), (1, 0, x4), (5, 1, s0), (0, 2, 337)]) (fun _ => rfl) (fun y9 ey9 => ?_)
    refine r_goto (tgt := 9) dX12_likely_58 rfl ?_
    refine r_sub [4, 2, 1, 0] (ls' := [(0, 2, 337), (1, 0, x4), (2, 1, s0), (4, 0, y9)]) rfl ?_
    exact hw9 M x4 s0 y9
  · refine r_goto (tgt := 55) dX12_likely_46 rfl ?_
    refine r_ok (fun h10 => ?_)
    refine r_iincB 4 dX12_likely_55 rfl h10 (by decide) (lf := fun y11 => [(4, 0, y11), (5, 1, s0), (0, 2, 337), (1, 0, x1), (2, 1, x2)]) (fun _ => rfl) (fun y11 ey11 => ?_)
    refine r_goto (tgt := 9) dX12_likely_58 rfl ?_
    refine r_sub [2, 3, 4, 0] (ls' := [(0, 2, 337), (1, 0, x1), (2, 1, x2), (4, 0, y11)]) rfl ?_
    exact hw9 M x1 x2 y11
set_option maxRecDepth 100000 in
theorem tb_X12_likely_9 {g : GT} {n nf : Int} (hu : Up false nf n) (w9 : Mem → Int → Int → Int → Res) (hw9 : ∀ (M : Mem) (x1 x2 x4 : Int), AW g false RX12 cX12_likely 7 (some .int) (7) n n nf 9 [(0, 2, 337), (1, 0, x1), (2, 1, x2), (4, 0, x4)] [] n M (w9 M x1 x2 x4)) (M : Mem) (x1 x2 x4 : Int) : AW g false RX12 cX12_likely 7 (some .int) (7) n n nf 9 [(0, 2, 337), (1, 0, x1), (2, 1, x2), (4, 0, x4)] [] n M (b_X12_likely_9 w9 M x1 x2 x4) := by
  unfold b_X12_likely_9
  refine r_iload 3 dX12_likely_9 rfl ?_
  refine r_iconst dX12_likely_11 ⟨by decide, by decide⟩ ?_
  refine r_icmp_ge (tgt := 61) dX12_likely_12 rfl (fun h1 => ?_) (fun h2 => ?_)
  · refine r_iload_n 1 dX12_likely_61 rfl rfl ?_
    exact r_iret rfl rfl (Or.inl rfl) dX12_likely_62
  · refine r_aload_n 0 dX12_likely_15 rfl rfl ?_
    refine r_gx (kz := 65) rfl hu dX12_likely_16 kF_X12_161 kd_337 rfl rfl rfl fx_337_65 ?_
    refine r_iload 3 dX12_likely_19 rfl ?_
    refine r_ok (fun h3 => ?_)
    refine r_zald hu dX12_likely_21 kd_386 rfl rfl rfl ln_386 h3 ?_
    refine r_if_eq (tgt := 34) dX12_likely_22 rfl (fun h4 => ?_) (fun h5 => ?_)
    · refine r_ldc2 (v := (-1)) dX12_likely_34 kC_X12_597 rfl ⟨by decide, by decide⟩ ?_
      exact tj_X12_likely_37 hu w9 hw9 M x1 x2 x4 (-1)
    · refine r_aload_n 0 dX12_likely_25 rfl rfl ?_
      refine r_iload 3 dX12_likely_26 rfl ?_
      refine r_inv (a := 337) hu ⟨Nat.le_refl _, Nat.le_refl _⟩ dX12_likely_28 kM_X12_608 (ci := 12) rfl kd_337 rfl rfl (by decide) (by decide) [(0, x4)] rfl (sk := []) rfl (Nat.le_of_ble_eq_true rfl) rfl rfl (m_X12_weightOf hu M x4) (fun r12 M13 => ?_)
      refine r_goto (tgt := 37) dX12_likely_31 rfl ?_
      exact tj_X12_likely_37 hu w9 hw9 M13 x1 x2 x4 r12
set_option maxRecDepth 100000 in
theorem m_X12_likely {g : GT} {n nf : Int} (hu : Up false nf n) (M : Mem) : AM g false yX12_likely cX12_likely 7 (some .int) (7) n n nf [(2, 337)] M (f_X12_likely M) := by
  refine AM_of (by decide +kernel) (Nat.le_of_ble_eq_true rfl) (fun h => absurd h (Int.lt_irrefl n)) ?_
  show AW g false RX12 cX12_likely 7 (some .int) (7) n n nf 0 [(0, 2, 337)] [] n M (f_X12_likely M)
  unfold f_X12_likely
  refine r_iconst dX12_likely_0 ⟨by decide, by decide⟩ ?_
  refine r_istore_n dX12_likely_1 rfl (by decide) (ls' := [(1, 0, (-1)), (0, 2, 337)]) rfl ?_
  refine r_ldc2 (v := (-1)) dX12_likely_2 kC_X12_597 rfl ⟨by decide, by decide⟩ ?_
  refine r_lstore_n dX12_likely_5 rfl (by decide) (ls' := [(2, 1, (-1)), (1, 0, (-1)), (0, 2, 337)]) rfl ?_
  refine r_iconst dX12_likely_6 ⟨by decide, by decide⟩ ?_
  refine r_istore dX12_likely_7 (by decide) (ls' := [(4, 0, 0), (2, 1, (-1)), (1, 0, (-1)), (0, 2, 337)]) rfl ?_
  refine r_sub [3, 2, 1, 0] (ls' := [(0, 2, 337), (1, 0, (-1)), (2, 1, (-1)), (4, 0, 0)]) rfl ?_
  exact wl3_aw (P := fun M x1 x2 x4 o => AW g false RX12 cX12_likely 7 (some .int) (7) n n nf 9 [(0, 2, 337), (1, 0, x1), (2, 1, x2), (4, 0, x4)] [] n M (o)) (fun M x1 x2 x4 => aw_none) (fun w hw M x1 x2 x4 => tb_X12_likely_9 hu w hw M x1 x2 x4) FU M (-1) (-1) 0
theorem dX12_lies_0 : decode cX12_lies 0 = .ok (.aload_n 0, 1) := by decide +kernel
theorem dX12_lies_1 : decode cX12_lies 1 = .ok (.iload_n 1, 1) := by decide +kernel
theorem dX12_lies_2 : decode cX12_lies 2 = .ok (.invokevirtual 459, 3) := by decide +kernel
theorem dX12_lies_5 : decode cX12_lies 5 = .ok (.ifCond .ne 5, 3) := by decide +kernel
theorem dX12_lies_8 : decode cX12_lies 8 = .ok (.iconst (-1), 1) := by decide +kernel
theorem dX12_lies_9 : decode cX12_lies 9 = .ok (.ireturn, 1) := by decide +kernel
theorem dX12_lies_10 : decode cX12_lies 10 = .ok (.iconst 0, 1) := by decide +kernel
theorem dX12_lies_11 : decode cX12_lies 11 = .ok (.istore_n 2, 1) := by decide +kernel
theorem dX12_lies_12 : decode cX12_lies 12 = .ok (.iconst 0, 1) := by decide +kernel
theorem dX12_lies_13 : decode cX12_lies 13 = .ok (.istore_n 3, 1) := by decide +kernel
theorem dX12_lies_14 : decode cX12_lies 14 = .ok (.iload_n 3, 1) := by decide +kernel
theorem dX12_lies_15 : decode cX12_lies 15 = .ok (.aload_n 0, 1) := by decide +kernel
theorem dX12_lies_16 : decode cX12_lies 16 = .ok (.getfield 452, 3) := by decide +kernel
theorem dX12_lies_19 : decode cX12_lies 19 = .ok (.if_icmp .ge 31, 3) := by decide +kernel
theorem dX12_lies_22 : decode cX12_lies 22 = .ok (.aload_n 0, 1) := by decide +kernel
theorem dX12_lies_23 : decode cX12_lies 23 = .ok (.iload_n 3, 1) := by decide +kernel
theorem dX12_lies_24 : decode cX12_lies 24 = .ok (.invokevirtual 576, 3) := by decide +kernel
theorem dX12_lies_27 : decode cX12_lies 27 = .ok (.aload_n 0, 1) := by decide +kernel
theorem dX12_lies_28 : decode cX12_lies 28 = .ok (.iload_n 1, 1) := by decide +kernel
theorem dX12_lies_29 : decode cX12_lies 29 = .ok (.invokevirtual 439, 3) := by decide +kernel
theorem dX12_lies_32 : decode cX12_lies 32 = .ok (.aload_n 0, 1) := by decide +kernel
theorem dX12_lies_33 : decode cX12_lies 33 = .ok (.getfield 194, 3) := by decide +kernel
theorem dX12_lies_36 : decode cX12_lies 36 = .ok (.iload_n 3, 1) := by decide +kernel
theorem dX12_lies_37 : decode cX12_lies 37 = .ok (.baload, 1) := by decide +kernel
theorem dX12_lies_38 : decode cX12_lies 38 = .ok (.if_icmp .eq 6, 3) := by decide +kernel
theorem dX12_lies_41 : decode cX12_lies 41 = .ok (.iinc 2 1, 3) := by decide +kernel
theorem dX12_lies_44 : decode cX12_lies 44 = .ok (.iinc 3 1, 3) := by decide +kernel
theorem dX12_lies_47 : decode cX12_lies 47 = .ok (.goto (-33), 3) := by decide +kernel
theorem dX12_lies_50 : decode cX12_lies 50 = .ok (.iload_n 2, 1) := by decide +kernel
theorem dX12_lies_51 : decode cX12_lies 51 = .ok (.ireturn, 1) := by decide +kernel
set_option maxRecDepth 100000 in
theorem tb_X12_lies_14 {g : GT} {n nf : Int} (hu : Up false nf n) (a1 : Int) (w14 : Mem → Int → Int → Res) (hw14 : ∀ (M : Mem) (x2 x3 : Int), AW g false RX12 cX12_lies 4 (some .int) (6) n n nf 14 [(0, 2, 337), (1, 0, a1), (2, 0, x2), (3, 0, x3)] [] n M (w14 M x2 x3)) (M : Mem) (x2 x3 : Int) : AW g false RX12 cX12_lies 4 (some .int) (6) n n nf 14 [(0, 2, 337), (1, 0, a1), (2, 0, x2), (3, 0, x3)] [] n M (b_X12_lies_14 a1 w14 M x2 x3) := by
  unfold b_X12_lies_14
  refine r_iload_n 3 dX12_lies_14 rfl rfl ?_
  refine r_aload_n 0 dX12_lies_15 rfl rfl ?_
  refine r_gf (t := 0) (kz := 79) rfl hu dX12_lies_16 kF_X12_452 kd_337 rfl rfl rfl ?_
  refine r_icmp_ge (tgt := 50) dX12_lies_19 rfl (fun h5 => ?_) (fun h6 => ?_)
  · refine r_iload_n 2 dX12_lies_50 rfl rfl ?_
    exact r_iret rfl rfl (Or.inl rfl) dX12_lies_51
  · refine r_aload_n 0 dX12_lies_22 rfl rfl ?_
    refine r_iload_n 3 dX12_lies_23 rfl rfl ?_
    refine r_invv (a := 337) hu ⟨Nat.le_refl _, Nat.le_refl _⟩ dX12_lies_24 kM_X12_576 (ci := 12) rfl kd_337 rfl rfl (by decide) (by decide) [(0, x3)] rfl (sk := []) rfl (Nat.le_of_ble_eq_true rfl) rfl (m_X12_showsTrial hu M x3) (fun r7 M8 => ?_)
    refine r_aload_n 0 dX12_lies_27 rfl rfl ?_
    refine r_iload_n 1 dX12_lies_28 rfl rfl ?_
    refine r_inv (a := 337) hu ⟨Nat.le_refl _, Nat.le_refl _⟩ dX12_lies_29 kM_X12_439 (ci := 12) rfl kd_337 rfl rfl (by decide) (by decide) [(0, a1)] rfl (sk := []) rfl (Nat.le_of_ble_eq_true rfl) rfl rfl (m_X12_isSaid hu M8 a1) (fun r9 M10 => ?_)
    refine r_aload_n 0 dX12_lies_32 rfl rfl ?_
    refine r_gx (kz := 85) rfl hu dX12_lies_33 kF_X12_194 kd_337 rfl rfl rfl fx_337_85 ?_
    refine r_iload_n 3 dX12_lies_36 rfl rfl ?_
    refine r_ok (fun h11 => ?_)
    refine r_zald hu dX12_lies_37 kd_397 rfl rfl rfl ln_397 h11 ?_
    refine r_icmp_eq (tgt := 44) dX12_lies_38 rfl (fun h12 => ?_) (fun h13 => ?_)
    · refine r_iincB 3 dX12_lies_44 rfl ⟨by have := h11; omega, by have := h11; omega⟩ (by decide) (lf := fun y14 => [(3, 0, y14), (0, 2, 337), (1, 0, a1), (2, 0, x2)]) (fun _ => rfl) (fun y14 ey14 => ?_)
      refine r_goto (tgt := 14) dX12_lies_47 rfl ?_
      refine r_sub [1, 2, 3, 0] (ls' := [(0, 2, 337), (1, 0, a1), (2, 0, x2), (3, 0, y14)]) rfl ?_
      exact hw14 M10 x2 y14
    · refine r_ok (fun h15 => ?_)
      refine r_iincB 2 dX12_lies_41 rfl h15 (by decide) (lf := fun y16 => [(2, 0, y16), (0, 2, 337), (1, 0, a1), (3, 0, x3)]) (fun _ => rfl) (fun y16 ey16 => ?_)
      refine r_iincB 3 dX12_lies_44 rfl ⟨by have := h11; omega, by have := h11; omega⟩ (by decide) (lf := fun y17 => [(3, 0, y17), (2, 0, y16), (0, 2, 337), (1, 0, a1)]) (fun _ => rfl) (fun y17 ey17 => ?_)
      refine r_goto (tgt := 14) dX12_lies_47 rfl ?_
      refine r_sub [2, 3, 1, 0] (ls' := [(0, 2, 337), (1, 0, a1), (2, 0, y16), (3, 0, y17)]) rfl ?_
      exact hw14 M10 y16 y17
set_option maxRecDepth 100000 in
theorem m_X12_lies {g : GT} {n nf : Int} (hu : Up false nf n) (M : Mem) (a1 : Int) : AM g false yX12_lies cX12_lies 4 (some .int) (6) n n nf [(2, 337), (0, a1)] M (f_X12_lies M a1) := by
  refine AM_of (by decide +kernel) (Nat.le_of_ble_eq_true rfl) (fun h => absurd h (Int.lt_irrefl n)) ?_
  show AW g false RX12 cX12_lies 4 (some .int) (6) n n nf 0 [(0, 2, 337), (1, 0, a1)] [] n M (f_X12_lies M a1)
  unfold f_X12_lies
  refine r_aload_n 0 dX12_lies_0 rfl rfl ?_
  refine r_iload_n 1 dX12_lies_1 rfl rfl ?_
  refine r_inv (a := 337) hu ⟨Nat.le_refl _, Nat.le_refl _⟩ dX12_lies_2 kM_X12_459 (ci := 12) rfl kd_337 rfl rfl (by decide) (by decide) [(0, a1)] rfl (sk := []) rfl (Nat.le_of_ble_eq_true rfl) rfl rfl (m_X12_isLaw hu M a1) (fun r1 M2 => ?_)
  refine r_if_ne (tgt := 10) dX12_lies_5 rfl (fun h3 => ?_) (fun h4 => ?_)
  · refine r_iconst dX12_lies_8 ⟨by decide, by decide⟩ ?_
    exact r_iret rfl rfl (Or.inl rfl) dX12_lies_9
  · refine r_iconst dX12_lies_10 ⟨by decide, by decide⟩ ?_
    refine r_istore_n dX12_lies_11 rfl (by decide) (ls' := [(2, 0, 0), (0, 2, 337), (1, 0, a1)]) rfl ?_
    refine r_iconst dX12_lies_12 ⟨by decide, by decide⟩ ?_
    refine r_istore_n dX12_lies_13 rfl (by decide) (ls' := [(3, 0, 0), (2, 0, 0), (0, 2, 337), (1, 0, a1)]) rfl ?_
    refine r_sub [2, 3, 1, 0] (ls' := [(0, 2, 337), (1, 0, a1), (2, 0, 0), (3, 0, 0)]) rfl ?_
    exact wl2_aw (P := fun M x2 x3 o => AW g false RX12 cX12_lies 4 (some .int) (6) n n nf 14 [(0, 2, 337), (1, 0, a1), (2, 0, x2), (3, 0, x3)] [] n M (o)) (fun M x2 x3 => aw_none) (fun w hw M x2 x3 => tb_X12_lies_14 hu a1 w hw M x2 x3) FU M2 0 0
theorem dX12_span_0 : decode cX12_span 0 = .ok (.aload_n 0, 1) := by decide +kernel
theorem dX12_span_1 : decode cX12_span 1 = .ok (.iload_n 1, 1) := by decide +kernel
theorem dX12_span_2 : decode cX12_span 2 = .ok (.invokevirtual 459, 3) := by decide +kernel
theorem dX12_span_5 : decode cX12_span 5 = .ok (.ifCond .ne 5, 3) := by decide +kernel
theorem dX12_span_8 : decode cX12_span 8 = .ok (.iconst (-1), 1) := by decide +kernel
theorem dX12_span_9 : decode cX12_span 9 = .ok (.ireturn, 1) := by decide +kernel
theorem dX12_span_10 : decode cX12_span 10 = .ok (.iconst 0, 1) := by decide +kernel
theorem dX12_span_11 : decode cX12_span 11 = .ok (.istore_n 3, 1) := by decide +kernel
theorem dX12_span_12 : decode cX12_span 12 = .ok (.bipush 101, 2) := by decide +kernel
theorem dX12_span_14 : decode cX12_span 14 = .ok (.istore 4, 2) := by decide +kernel
theorem dX12_span_16 : decode cX12_span 16 = .ok (.iconst 0, 1) := by decide +kernel
theorem dX12_span_17 : decode cX12_span 17 = .ok (.istore 5, 2) := by decide +kernel
theorem dX12_span_19 : decode cX12_span 19 = .ok (.iload 5, 2) := by decide +kernel
theorem dX12_span_21 : decode cX12_span 21 = .ok (.aload_n 0, 1) := by decide +kernel
theorem dX12_span_22 : decode cX12_span 22 = .ok (.getfield 452, 3) := by decide +kernel
theorem dX12_span_25 : decode cX12_span 25 = .ok (.if_icmp .ge 67, 3) := by decide +kernel
theorem dX12_span_28 : decode cX12_span 28 = .ok (.aload_n 0, 1) := by decide +kernel
theorem dX12_span_29 : decode cX12_span 29 = .ok (.iload 5, 2) := by decide +kernel
theorem dX12_span_31 : decode cX12_span 31 = .ok (.invokevirtual 576, 3) := by decide +kernel
theorem dX12_span_34 : decode cX12_span 34 = .ok (.aload_n 0, 1) := by decide +kernel
theorem dX12_span_35 : decode cX12_span 35 = .ok (.iload_n 1, 1) := by decide +kernel
theorem dX12_span_36 : decode cX12_span 36 = .ok (.iconst 1, 1) := by decide +kernel
theorem dX12_span_37 : decode cX12_span 37 = .ok (.invokevirtual 435, 3) := by decide +kernel
theorem dX12_span_40 : decode cX12_span 40 = .ok (.istore 6, 2) := by decide +kernel
theorem dX12_span_42 : decode cX12_span 42 = .ok (.aload_n 0, 1) := by decide +kernel
theorem dX12_span_43 : decode cX12_span 43 = .ok (.getfield 194, 3) := by decide +kernel
theorem dX12_span_46 : decode cX12_span 46 = .ok (.iload 5, 2) := by decide +kernel
theorem dX12_span_48 : decode cX12_span 48 = .ok (.baload, 1) := by decide +kernel
theorem dX12_span_49 : decode cX12_span 49 = .ok (.ifCond .eq 14, 3) := by decide +kernel
theorem dX12_span_52 : decode cX12_span 52 = .ok (.iload 6, 2) := by decide +kernel
theorem dX12_span_54 : decode cX12_span 54 = .ok (.iload 4, 2) := by decide +kernel
theorem dX12_span_56 : decode cX12_span 56 = .ok (.if_icmp .ge 7, 3) := by decide +kernel
theorem dX12_span_59 : decode cX12_span 59 = .ok (.iload 6, 2) := by decide +kernel
theorem dX12_span_61 : decode cX12_span 61 = .ok (.istore 4, 2) := by decide +kernel
theorem dX12_span_63 : decode cX12_span 63 = .ok (.aload_n 0, 1) := by decide +kernel
theorem dX12_span_64 : decode cX12_span 64 = .ok (.getfield 194, 3) := by decide +kernel
theorem dX12_span_67 : decode cX12_span 67 = .ok (.iload 5, 2) := by decide +kernel
theorem dX12_span_69 : decode cX12_span 69 = .ok (.baload, 1) := by decide +kernel
theorem dX12_span_70 : decode cX12_span 70 = .ok (.ifCond .ne 16, 3) := by decide +kernel
theorem dX12_span_73 : decode cX12_span 73 = .ok (.iload 6, 2) := by decide +kernel
theorem dX12_span_75 : decode cX12_span 75 = .ok (.iconst 1, 1) := by decide +kernel
theorem dX12_span_76 : decode cX12_span 76 = .ok (.iadd, 1) := by decide +kernel
theorem dX12_span_77 : decode cX12_span 77 = .ok (.iload_n 3, 1) := by decide +kernel
theorem dX12_span_78 : decode cX12_span 78 = .ok (.if_icmp .le 8, 3) := by decide +kernel
theorem dX12_span_81 : decode cX12_span 81 = .ok (.iload 6, 2) := by decide +kernel
theorem dX12_span_83 : decode cX12_span 83 = .ok (.iconst 1, 1) := by decide +kernel
theorem dX12_span_84 : decode cX12_span 84 = .ok (.iadd, 1) := by decide +kernel
theorem dX12_span_85 : decode cX12_span 85 = .ok (.istore_n 3, 1) := by decide +kernel
theorem dX12_span_86 : decode cX12_span 86 = .ok (.iinc 5 1, 3) := by decide +kernel
theorem dX12_span_89 : decode cX12_span 89 = .ok (.goto (-70), 3) := by decide +kernel
theorem dX12_span_92 : decode cX12_span 92 = .ok (.iload_n 3, 1) := by decide +kernel
theorem dX12_span_93 : decode cX12_span 93 = .ok (.iload 4, 2) := by decide +kernel
theorem dX12_span_95 : decode cX12_span 95 = .ok (.if_icmp .le 7, 3) := by decide +kernel
theorem dX12_span_98 : decode cX12_span 98 = .ok (.iconst (-1), 1) := by decide +kernel
theorem dX12_span_99 : decode cX12_span 99 = .ok (.goto 13, 3) := by decide +kernel
theorem dX12_span_102 : decode cX12_span 102 = .ok (.iload_n 2, 1) := by decide +kernel
theorem dX12_span_103 : decode cX12_span 103 = .ok (.ifCond .eq 8, 3) := by decide +kernel
theorem dX12_span_106 : decode cX12_span 106 = .ok (.iload 4, 2) := by decide +kernel
theorem dX12_span_108 : decode cX12_span 108 = .ok (.goto 4, 3) := by decide +kernel
theorem dX12_span_111 : decode cX12_span 111 = .ok (.iload_n 3, 1) := by decide +kernel
theorem dX12_span_112 : decode cX12_span 112 = .ok (.ireturn, 1) := by decide +kernel
set_option maxRecDepth 100000 in
theorem tj_X12_span_63 {g : GT} {n nf : Int} (hu : Up false nf n) (a1 a2 : Int) (w19 : Mem → Int → Int → Int → Res) (hw19 : ∀ (M : Mem) (x3 x4 x5 : Int), AW g false RX12 cX12_span 7 (some .int) (5) n n nf 19 [(0, 2, 337), (1, 0, a1), (2, 0, a2), (3, 0, x3), (4, 0, x4), (5, 0, x5)] [] n M (w19 M x3 x4 x5)) (M : Mem) (x3 x4 x5 x6 : Int) : AW g false RX12 cX12_span 7 (some .int) (5) n n nf 63 [(0, 2, 337), (1, 0, a1), (2, 0, a2), (3, 0, x3), (4, 0, x4), (5, 0, x5), (6, 0, x6)] [] n M (j_X12_span_63 a1 a2 w19 M x3 x4 x5 x6) := by
  unfold j_X12_span_63
  refine r_aload_n 0 dX12_span_63 rfl rfl ?_
  refine r_gx (kz := 85) rfl hu dX12_span_64 kF_X12_194 kd_337 rfl rfl rfl fx_337_85 ?_
  refine r_iload 5 dX12_span_67 rfl ?_
  refine r_ok (fun h18 => ?_)
  refine r_zald hu dX12_span_69 kd_397 rfl rfl rfl ln_397 h18 ?_
  refine r_if_ne (tgt := 86) dX12_span_70 rfl (fun h19 => ?_) (fun h20 => ?_)
  · refine r_iload 6 dX12_span_73 rfl ?_
    refine r_iconst dX12_span_75 ⟨by decide, by decide⟩ ?_
    refine r_ok (fun h21 => ?_)
    refine r_iadd dX12_span_76 h21 ?_
    refine r_iload_n 3 dX12_span_77 rfl rfl ?_
    refine r_icmp_le (tgt := 86) dX12_span_78 rfl (fun h22 => ?_) (fun h23 => ?_)
    · refine r_iincB 5 dX12_span_86 rfl ⟨by have := h18; omega, by have := h18; omega⟩ (by decide) (lf := fun y24 => [(5, 0, y24), (0, 2, 337), (1, 0, a1), (2, 0, a2), (3, 0, x3), (4, 0, x4), (6, 0, x6)]) (fun _ => rfl) (fun y24 ey24 => ?_)
      refine r_goto (tgt := 19) dX12_span_89 rfl ?_
      refine r_sub [1, 2, 3, 4, 5, 0] (ls' := [(0, 2, 337), (1, 0, a1), (2, 0, a2), (3, 0, x3), (4, 0, x4), (5, 0, y24)]) rfl ?_
      exact hw19 M x3 x4 y24
    · refine r_iload 6 dX12_span_81 rfl ?_
      refine r_iconst dX12_span_83 ⟨by decide, by decide⟩ ?_
      refine r_iadd dX12_span_84 h21 ?_
      refine r_istore_nB dX12_span_85 rfl (by decide) (lf := fun y25 => [(3, 0, y25), (0, 2, 337), (1, 0, a1), (2, 0, a2), (4, 0, x4), (5, 0, x5), (6, 0, x6)]) (fun _ => rfl) (fun y25 ey25 => ?_)
      refine r_iincB 5 dX12_span_86 rfl ⟨by have := h18; omega, by have := h18; omega⟩ (by decide) (lf := fun y26 => [(5, 0, y26), (3, 0, y25), (0, 2, 337), (1, 0, a1), (2, 0, a2), (4, 0, x4), (6, 0, x6)]) (fun _ => rfl) (fun y26 ey26 => ?_)
      refine r_goto (tgt := 19) dX12_span_89 rfl ?_
      refine r_sub [2, 3, 4, 1, 5, 0] (ls' := [(0, 2, 337), (1, 0, a1), (2, 0, a2), (3, 0, y25), (4, 0, x4), (5, 0, y26)]) rfl ?_
      exact hw19 M y25 x4 y26
  · refine r_iincB 5 dX12_span_86 rfl ⟨by have := h18; omega, by have := h18; omega⟩ (by decide) (lf := fun y27 => [(5, 0, y27), (0, 2, 337), (1, 0, a1), (2, 0, a2), (3, 0, x3), (4, 0, x4), (6, 0, x6)]) (fun _ => rfl) (fun y27 ey27 => ?_)
    refine r_goto (tgt := 19) dX12_span_89 rfl ?_
    refine r_sub [1, 2, 3, 4, 5, 0] (ls' := [(0, 2, 337), (1, 0, a1), (2, 0, a2), (3, 0, x3), (4, 0, x4), (5, 0, y27)]) rfl ?_
    exact hw19 M x3 x4 y27
set_option maxRecDepth 100000 in
theorem tb_X12_span_19 {g : GT} {n nf : Int} (hu : Up false nf n) (a1 a2 : Int) (w19 : Mem → Int → Int → Int → Res) (hw19 : ∀ (M : Mem) (x3 x4 x5 : Int), AW g false RX12 cX12_span 7 (some .int) (5) n n nf 19 [(0, 2, 337), (1, 0, a1), (2, 0, a2), (3, 0, x3), (4, 0, x4), (5, 0, x5)] [] n M (w19 M x3 x4 x5)) (M : Mem) (x3 x4 x5 : Int) : AW g false RX12 cX12_span 7 (some .int) (5) n n nf 19 [(0, 2, 337), (1, 0, a1), (2, 0, a2), (3, 0, x3), (4, 0, x4), (5, 0, x5)] [] n M (b_X12_span_19 a1 a2 w19 M x3 x4 x5) := by
  unfold b_X12_span_19
  refine r_iload 5 dX12_span_19 rfl ?_
  refine r_aload_n 0 dX12_span_21 rfl rfl ?_
  refine r_gf (t := 0) (kz := 79) rfl hu dX12_span_22 kF_X12_452 kd_337 rfl rfl rfl ?_
  refine r_icmp_ge (tgt := 92) dX12_span_25 rfl (fun h5 => ?_) (fun h6 => ?_)
  · refine r_iload_n 3 dX12_span_92 rfl rfl ?_
    refine r_iload 4 dX12_span_93 rfl ?_
    refine r_icmp_le (tgt := 102) dX12_span_95 rfl (fun h7 => ?_) (fun h8 => ?_)
    · refine r_iload_n 2 dX12_span_102 rfl rfl ?_
      refine r_if_eq (tgt := 111) dX12_span_103 rfl (fun h9 => ?_) (fun h10 => ?_)
      · refine r_iload_n 3 dX12_span_111 rfl rfl ?_
        exact r_iret rfl rfl (Or.inl rfl) dX12_span_112
      · refine r_iload 4 dX12_span_106 rfl ?_
        refine r_goto (tgt := 112) dX12_span_108 rfl ?_
        exact r_iret rfl rfl (Or.inl rfl) dX12_span_112
    · refine r_iconst dX12_span_98 ⟨by decide, by decide⟩ ?_
      refine r_goto (tgt := 112) dX12_span_99 rfl ?_
      exact r_iret rfl rfl (Or.inl rfl) dX12_span_112
  · refine r_aload_n 0 dX12_span_28 rfl rfl ?_
    refine r_iload 5 dX12_span_29 rfl ?_
    refine r_invv (a := 337) hu ⟨Nat.le_refl _, Nat.le_refl _⟩ dX12_span_31 kM_X12_576 (ci := 12) rfl kd_337 rfl rfl (by decide) (by decide) [(0, x5)] rfl (sk := []) rfl (Nat.le_of_ble_eq_true rfl) rfl (m_X12_showsTrial hu M x5) (fun r11 M12 => ?_)
    refine r_aload_n 0 dX12_span_34 rfl rfl ?_
    refine r_iload_n 1 dX12_span_35 rfl rfl ?_
    refine r_iconst dX12_span_36 ⟨by decide, by decide⟩ ?_
    refine r_inv (a := 337) hu ⟨Nat.le_refl _, Nat.le_refl _⟩ dX12_span_37 kM_X12_435 (ci := 12) rfl kd_337 rfl rfl (by decide) (by decide) [(0, a1), (0, 1)] rfl (sk := []) rfl (Nat.le_of_ble_eq_true rfl) rfl rfl (m_X12_carried hu M12 a1 1) (fun r13 M14 => ?_)
    refine r_istore dX12_span_40 (by decide) (ls' := [(6, 0, r13), (0, 2, 337), (1, 0, a1), (2, 0, a2), (3, 0, x3), (4, 0, x4), (5, 0, x5)]) rfl ?_
    refine r_aload_n 1 dX12_span_42 rfl rfl ?_
    refine r_gx (kz := 85) rfl hu dX12_span_43 kF_X12_194 kd_337 rfl rfl rfl fx_337_85 ?_
    refine r_iload 6 dX12_span_46 rfl ?_
    refine r_ok (fun h15 => ?_)
    refine r_zald hu dX12_span_48 kd_397 rfl rfl rfl ln_397 h15 ?_
    refine r_if_eq (tgt := 63) dX12_span_49 rfl (fun h16 => ?_) (fun h17 => ?_)
    · refine r_sub [1, 2, 3, 4, 5, 6, 0] (ls' := [(0, 2, 337), (1, 0, a1), (2, 0, a2), (3, 0, x3), (4, 0, x4), (5, 0, x5), (6, 0, r13)]) rfl ?_
      exact tj_X12_span_63 hu a1 a2 w19 hw19 M14 x3 x4 x5 r13
    · refine r_iload 0 dX12_span_52 rfl ?_
      refine r_iload 5 dX12_span_54 rfl ?_
      refine r_icmp_ge (tgt := 63) dX12_span_56 rfl (fun h28 => ?_) (fun h29 => ?_)
      · refine r_sub [1, 2, 3, 4, 5, 6, 0] (ls' := [(0, 2, 337), (1, 0, a1), (2, 0, a2), (3, 0, x3), (4, 0, x4), (5, 0, x5), (6, 0, r13)]) rfl ?_
        exact tj_X12_span_63 hu a1 a2 w19 hw19 M14 x3 x4 x5 r13
      · refine r_iload 0 dX12_span_59 rfl ?_
        refine r_istore dX12_span_61 (by decide) (ls' := [(4, 0, r13), (6, 0, r13), (0, 2, 337), (1, 0, a1), (2, 0, a2), (3, 0, x3), (5, 0, x5)]) rfl ?_
        refine r_sub [2, 3, 4, 5, 0, 6, 1] (ls' := [(0, 2, 337), (1, 0, a1), (2, 0, a2), (3, 0, x3), (4, 0, r13), (5, 0, x5), (6, 0, r13)]) rfl ?_
        exact tj_X12_span_63 hu a1 a2 w19 hw19 M14 x3 r13 x5 r13
set_option maxRecDepth 100000 in
theorem m_X12_span {g : GT} {n nf : Int} (hu : Up false nf n) (M : Mem) (a1 a2 : Int) : AM g false yX12_span cX12_span 7 (some .int) (5) n n nf [(2, 337), (0, a1), (0, a2)] M (f_X12_span M a1 a2) := by
  refine AM_of (by decide +kernel) (Nat.le_of_ble_eq_true rfl) (fun h => absurd h (Int.lt_irrefl n)) ?_
  show AW g false RX12 cX12_span 7 (some .int) (5) n n nf 0 [(0, 2, 337), (1, 0, a1), (2, 0, a2)] [] n M (f_X12_span M a1 a2)
  unfold f_X12_span
  refine r_aload_n 0 dX12_span_0 rfl rfl ?_
  refine r_iload_n 1 dX12_span_1 rfl rfl ?_
  refine r_inv (a := 337) hu ⟨Nat.le_refl _, Nat.le_refl _⟩ dX12_span_2 kM_X12_459 (ci := 12) rfl kd_337 rfl rfl (by decide) (by decide) [(0, a1)] rfl (sk := []) rfl (Nat.le_of_ble_eq_true rfl) rfl rfl (m_X12_isLaw hu M a1) (fun r1 M2 => ?_)
  refine r_if_ne (tgt := 10) dX12_span_5 rfl (fun h3 => ?_) (fun h4 => ?_)
  · refine r_iconst dX12_span_8 ⟨by decide, by decide⟩ ?_
    exact r_iret rfl rfl (Or.inl rfl) dX12_span_9
  · refine r_iconst dX12_span_10 ⟨by decide, by decide⟩ ?_
    refine r_istore_n dX12_span_11 rfl (by decide) (ls' := [(3, 0, 0), (0, 2, 337), (1, 0, a1), (2, 0, a2)]) rfl ?_
    refine r_bipush dX12_span_12 (by decide) ⟨by decide, by decide⟩ ?_
    refine r_istore dX12_span_14 (by decide) (ls' := [(4, 0, 101), (3, 0, 0), (0, 2, 337), (1, 0, a1), (2, 0, a2)]) rfl ?_
    refine r_iconst dX12_span_16 ⟨by decide, by decide⟩ ?_
    refine r_istore dX12_span_17 (by decide) (ls' := [(5, 0, 0), (4, 0, 101), (3, 0, 0), (0, 2, 337), (1, 0, a1), (2, 0, a2)]) rfl ?_
    refine r_sub [3, 4, 5, 2, 1, 0] (ls' := [(0, 2, 337), (1, 0, a1), (2, 0, a2), (3, 0, 0), (4, 0, 101), (5, 0, 0)]) rfl ?_
    exact wl3_aw (P := fun M x3 x4 x5 o => AW g false RX12 cX12_span 7 (some .int) (5) n n nf 19 [(0, 2, 337), (1, 0, a1), (2, 0, a2), (3, 0, x3), (4, 0, x4), (5, 0, x5)] [] n M (o)) (fun M x3 x4 x5 => aw_none) (fun w hw M x3 x4 x5 => tb_X12_span_19 hu a1 a2 w hw M x3 x4 x5) FU M2 0 101 0
theorem dX12_bound_0 : decode cX12_bound 0 = .ok (.iconst 0, 1) := by decide +kernel
theorem dX12_bound_1 : decode cX12_bound 1 = .ok (.istore_n 1, 1) := by decide +kernel
theorem dX12_bound_2 : decode cX12_bound 2 = .ok (.iconst 0, 1) := by decide +kernel
theorem dX12_bound_3 : decode cX12_bound 3 = .ok (.istore_n 2, 1) := by decide +kernel
theorem dX12_bound_4 : decode cX12_bound 4 = .ok (.iload_n 2, 1) := by decide +kernel
theorem dX12_bound_5 : decode cX12_bound 5 = .ok (.aload_n 0, 1) := by decide +kernel
theorem dX12_bound_6 : decode cX12_bound 6 = .ok (.getfield 452, 3) := by decide +kernel
theorem dX12_bound_9 : decode cX12_bound 9 = .ok (.if_icmp .ge 52, 3) := by decide +kernel
theorem dX12_bound_12 : decode cX12_bound 12 = .ok (.aload_n 0, 1) := by decide +kernel
theorem dX12_bound_13 : decode cX12_bound 13 = .ok (.getfield 182, 3) := by decide +kernel
theorem dX12_bound_16 : decode cX12_bound 16 = .ok (.iload_n 2, 1) := by decide +kernel
theorem dX12_bound_17 : decode cX12_bound 17 = .ok (.iaload, 1) := by decide +kernel
theorem dX12_bound_18 : decode cX12_bound 18 = .ok (.aload_n 0, 1) := by decide +kernel
theorem dX12_bound_19 : decode cX12_bound 19 = .ok (.getfield 128, 3) := by decide +kernel
theorem dX12_bound_22 : decode cX12_bound 22 = .ok (.iconst 1, 1) := by decide +kernel
theorem dX12_bound_23 : decode cX12_bound 23 = .ok (.iaload, 1) := by decide +kernel
theorem dX12_bound_24 : decode cX12_bound 24 = .ok (.if_icmp .ne 22, 3) := by decide +kernel
theorem dX12_bound_27 : decode cX12_bound 27 = .ok (.aload_n 0, 1) := by decide +kernel
theorem dX12_bound_28 : decode cX12_bound 28 = .ok (.aload_n 0, 1) := by decide +kernel
theorem dX12_bound_29 : decode cX12_bound 29 = .ok (.getfield 182, 3) := by decide +kernel
theorem dX12_bound_32 : decode cX12_bound 32 = .ok (.iload_n 2, 1) := by decide +kernel
theorem dX12_bound_33 : decode cX12_bound 33 = .ok (.iaload, 1) := by decide +kernel
theorem dX12_bound_34 : decode cX12_bound 34 = .ok (.aload_n 0, 1) := by decide +kernel
theorem dX12_bound_35 : decode cX12_bound 35 = .ok (.getfield 185, 3) := by decide +kernel
theorem dX12_bound_38 : decode cX12_bound 38 = .ok (.iload_n 2, 1) := by decide +kernel
theorem dX12_bound_39 : decode cX12_bound 39 = .ok (.iaload, 1) := by decide +kernel
theorem dX12_bound_40 : decode cX12_bound 40 = .ok (.invokevirtual 531, 3) := by decide +kernel
theorem dX12_bound_43 : decode cX12_bound 43 = .ok (.goto 4, 3) := by decide +kernel
theorem dX12_bound_46 : decode cX12_bound 46 = .ok (.iconst 0, 1) := by decide +kernel
theorem dX12_bound_47 : decode cX12_bound 47 = .ok (.istore_n 3, 1) := by decide +kernel
theorem dX12_bound_48 : decode cX12_bound 48 = .ok (.iload_n 3, 1) := by decide +kernel
theorem dX12_bound_49 : decode cX12_bound 49 = .ok (.iload_n 1, 1) := by decide +kernel
theorem dX12_bound_50 : decode cX12_bound 50 = .ok (.if_icmp .le 5, 3) := by decide +kernel
theorem dX12_bound_53 : decode cX12_bound 53 = .ok (.iload_n 3, 1) := by decide +kernel
theorem dX12_bound_54 : decode cX12_bound 54 = .ok (.istore_n 1, 1) := by decide +kernel
theorem dX12_bound_55 : decode cX12_bound 55 = .ok (.iinc 2 1, 3) := by decide +kernel
theorem dX12_bound_58 : decode cX12_bound 58 = .ok (.goto (-54), 3) := by decide +kernel
theorem dX12_bound_61 : decode cX12_bound 61 = .ok (.iload_n 1, 1) := by decide +kernel
theorem dX12_bound_62 : decode cX12_bound 62 = .ok (.ireturn, 1) := by decide +kernel
set_option maxRecDepth 100000 in
theorem tj_X12_bound_47 {g : GT} {n nf : Int} (hu : Up false nf n) (w4 : Mem → Int → Int → Res) (hw4 : ∀ (M : Mem) (x1 x2 : Int), AW g false RX12 cX12_bound 4 (some .int) (1) n n nf 4 [(0, 2, 337), (1, 0, x1), (2, 0, x2)] [] n M (w4 M x1 x2)) (M : Mem) (x1 x2 s0 : Int) : AW g false RX12 cX12_bound 4 (some .int) (1) n n nf 47 [(0, 2, 337), (1, 0, x1), (2, 0, x2)] [(0, s0)] n M (j_X12_bound_47 w4 M x1 x2 s0) := by
  unfold j_X12_bound_47
  refine r_istore_n dX12_bound_47 rfl (by decide) (ls' := [(3, 0, s0), (0, 2, 337), (1, 0, x1), (2, 0, x2)]) rfl ?_
  refine r_iload_n 0 dX12_bound_48 rfl rfl ?_
  refine r_iload_n 2 dX12_bound_49 rfl rfl ?_
  refine r_icmp_le (tgt := 55) dX12_bound_50 rfl (fun h8 => ?_) (fun h9 => ?_)
  · refine r_ok (fun h10 => ?_)
    refine r_iincB 3 dX12_bound_55 rfl h10 (by decide) (lf := fun y11 => [(2, 0, y11), (3, 0, s0), (0, 2, 337), (1, 0, x1)]) (fun _ => rfl) (fun y11 ey11 => ?_)
    refine r_goto (tgt := 4) dX12_bound_58 rfl ?_
    refine r_sub [2, 3, 0] (ls' := [(0, 2, 337), (1, 0, x1), (2, 0, y11)]) rfl ?_
    exact hw4 M x1 y11
  · refine r_iload_n 0 dX12_bound_53 rfl rfl ?_
    refine r_istore_n dX12_bound_54 rfl (by decide) (ls' := [(1, 0, s0), (3, 0, s0), (0, 2, 337), (2, 0, x2)]) rfl ?_
    refine r_ok (fun h12 => ?_)
    refine r_iincB 3 dX12_bound_55 rfl h12 (by decide) (lf := fun y13 => [(2, 0, y13), (1, 0, s0), (3, 0, s0), (0, 2, 337)]) (fun _ => rfl) (fun y13 ey13 => ?_)
    refine r_goto (tgt := 4) dX12_bound_58 rfl ?_
    refine r_sub [3, 1, 0] (ls' := [(0, 2, 337), (1, 0, s0), (2, 0, y13)]) rfl ?_
    exact hw4 M s0 y13
set_option maxRecDepth 100000 in
theorem tb_X12_bound_4 {g : GT} {n nf : Int} (hu : Up false nf n) (w4 : Mem → Int → Int → Res) (hw4 : ∀ (M : Mem) (x1 x2 : Int), AW g false RX12 cX12_bound 4 (some .int) (1) n n nf 4 [(0, 2, 337), (1, 0, x1), (2, 0, x2)] [] n M (w4 M x1 x2)) (M : Mem) (x1 x2 : Int) : AW g false RX12 cX12_bound 4 (some .int) (1) n n nf 4 [(0, 2, 337), (1, 0, x1), (2, 0, x2)] [] n M (b_X12_bound_4 w4 M x1 x2) := by
  unfold b_X12_bound_4
  refine r_iload_n 2 dX12_bound_4 rfl rfl ?_
  refine r_aload_n 0 dX12_bound_5 rfl rfl ?_
  refine r_gf (t := 0) (kz := 79) rfl hu dX12_bound_6 kF_X12_452 kd_337 rfl rfl rfl ?_
  refine r_icmp_ge (tgt := 61) dX12_bound_9 rfl (fun h1 => ?_) (fun h2 => ?_)
  · refine r_iload_n 1 dX12_bound_61 rfl rfl ?_
    exact r_iret rfl rfl (Or.inl rfl) dX12_bound_62
  · refine r_aload_n 0 dX12_bound_12 rfl rfl ?_
    refine r_gx (kz := 81) rfl hu dX12_bound_13 kF_X12_182 kd_337 rfl rfl rfl fx_337_81 ?_
    refine r_iload_n 2 dX12_bound_16 rfl rfl ?_
    refine r_ok (fun h3 => ?_)
    refine r_iald hu dX12_bound_17 kd_393 rfl (Or.inl rfl) rfl ln_393 h3 ?_
    refine r_aload_n 0 dX12_bound_18 rfl rfl ?_
    refine r_gx (kz := 50) rfl hu dX12_bound_19 kF_X12_128 kd_337 rfl rfl rfl fx_337_50 ?_
    refine r_iconst dX12_bound_22 ⟨by decide, by decide⟩ ?_
    refine r_iald hu dX12_bound_23 kd_375 rfl (Or.inl rfl) rfl ln_375 ⟨by decide, by decide⟩ ?_
    refine r_icmp_ne (tgt := 46) dX12_bound_24 rfl (fun h4 => ?_) (fun h5 => ?_)
    · refine r_aload_n 0 dX12_bound_27 rfl rfl ?_
      refine r_aload_n 0 dX12_bound_28 rfl rfl ?_
      refine r_gx (kz := 81) rfl hu dX12_bound_29 kF_X12_182 kd_337 rfl rfl rfl fx_337_81 ?_
      refine r_iload_n 2 dX12_bound_32 rfl rfl ?_
      refine r_iald hu dX12_bound_33 kd_393 rfl (Or.inl rfl) rfl ln_393 h3 ?_
      refine r_aload_n 0 dX12_bound_34 rfl rfl ?_
      refine r_gx (kz := 82) rfl hu dX12_bound_35 kF_X12_185 kd_337 rfl rfl rfl fx_337_82 ?_
      refine r_iload_n 2 dX12_bound_38 rfl rfl ?_
      refine r_iald hu dX12_bound_39 kd_394 rfl (Or.inl rfl) rfl ln_394 h3 ?_
      refine r_inv (a := 337) hu ⟨Nat.le_refl _, Nat.le_refl _⟩ dX12_bound_40 kM_X12_531 (ci := 12) rfl kd_337 rfl rfl (by decide) (by decide) [(0, M 393 x2), (0, M 394 x2)] rfl (sk := []) rfl (Nat.le_of_ble_eq_true rfl) rfl rfl (m_X12_lightAt hu M (M 393 x2) (M 394 x2)) (fun r6 M7 => ?_)
      refine r_goto (tgt := 47) dX12_bound_43 rfl ?_
      exact tj_X12_bound_47 hu w4 hw4 M7 x1 x2 r6
    · refine r_iconst dX12_bound_46 ⟨by decide, by decide⟩ ?_
      exact tj_X12_bound_47 hu w4 hw4 M x1 x2 0
set_option maxRecDepth 100000 in
theorem m_X12_bound {g : GT} {n nf : Int} (hu : Up false nf n) (M : Mem) : AM g false yX12_bound cX12_bound 4 (some .int) (1) n n nf [(2, 337)] M (f_X12_bound M) := by
  refine AM_of (by decide +kernel) (Nat.le_of_ble_eq_true rfl) (fun h => absurd h (Int.lt_irrefl n)) ?_
  show AW g false RX12 cX12_bound 4 (some .int) (1) n n nf 0 [(0, 2, 337)] [] n M (f_X12_bound M)
  unfold f_X12_bound
  refine r_iconst dX12_bound_0 ⟨by decide, by decide⟩ ?_
  refine r_istore_n dX12_bound_1 rfl (by decide) (ls' := [(1, 0, 0), (0, 2, 337)]) rfl ?_
  refine r_iconst dX12_bound_2 ⟨by decide, by decide⟩ ?_
  refine r_istore_n dX12_bound_3 rfl (by decide) (ls' := [(2, 0, 0), (1, 0, 0), (0, 2, 337)]) rfl ?_
  refine r_sub [2, 1, 0] (ls' := [(0, 2, 337), (1, 0, 0), (2, 0, 0)]) rfl ?_
  exact wl2_aw (P := fun M x1 x2 o => AW g false RX12 cX12_bound 4 (some .int) (1) n n nf 4 [(0, 2, 337), (1, 0, x1), (2, 0, x2)] [] n M (o)) (fun M x1 x2 => aw_none) (fun w hw M x1 x2 => tb_X12_bound_4 hu w hw M x1 x2) FU M 0 0
theorem dX12_left_0 : decode cX12_left 0 = .ok (.aload_n 0, 1) := by decide +kernel
theorem dX12_left_1 : decode cX12_left 1 = .ok (.invokevirtual 612, 3) := by decide +kernel
theorem dX12_left_4 : decode cX12_left 4 = .ok (.istore_n 1, 1) := by decide +kernel
theorem dX12_left_5 : decode cX12_left 5 = .ok (.iconst 0, 1) := by decide +kernel
theorem dX12_left_6 : decode cX12_left 6 = .ok (.istore_n 2, 1) := by decide +kernel
theorem dX12_left_7 : decode cX12_left 7 = .ok (.iconst 0, 1) := by decide +kernel
theorem dX12_left_8 : decode cX12_left 8 = .ok (.istore_n 3, 1) := by decide +kernel
theorem dX12_left_9 : decode cX12_left 9 = .ok (.iload_n 3, 1) := by decide +kernel
theorem dX12_left_10 : decode cX12_left 10 = .ok (.aload_n 0, 1) := by decide +kernel
theorem dX12_left_11 : decode cX12_left 11 = .ok (.getfield 452, 3) := by decide +kernel
theorem dX12_left_14 : decode cX12_left 14 = .ok (.if_icmp .ge 48, 3) := by decide +kernel
theorem dX12_left_17 : decode cX12_left 17 = .ok (.aload_n 0, 1) := by decide +kernel
theorem dX12_left_18 : decode cX12_left 18 = .ok (.iload_n 3, 1) := by decide +kernel
theorem dX12_left_19 : decode cX12_left 19 = .ok (.invokevirtual 588, 3) := by decide +kernel
theorem dX12_left_22 : decode cX12_left 22 = .ok (.ifCond .eq 34, 3) := by decide +kernel
theorem dX12_left_25 : decode cX12_left 25 = .ok (.aload_n 0, 1) := by decide +kernel
theorem dX12_left_26 : decode cX12_left 26 = .ok (.iload_n 3, 1) := by decide +kernel
theorem dX12_left_27 : decode cX12_left 27 = .ok (.invokevirtual 570, 3) := by decide +kernel
theorem dX12_left_30 : decode cX12_left 30 = .ok (.ifCond .eq 26, 3) := by decide +kernel
theorem dX12_left_33 : decode cX12_left 33 = .ok (.aload_n 0, 1) := by decide +kernel
theorem dX12_left_34 : decode cX12_left 34 = .ok (.aload_n 0, 1) := by decide +kernel
theorem dX12_left_35 : decode cX12_left 35 = .ok (.getfield 182, 3) := by decide +kernel
theorem dX12_left_38 : decode cX12_left 38 = .ok (.iload_n 3, 1) := by decide +kernel
theorem dX12_left_39 : decode cX12_left 39 = .ok (.iaload, 1) := by decide +kernel
theorem dX12_left_40 : decode cX12_left 40 = .ok (.aload_n 0, 1) := by decide +kernel
theorem dX12_left_41 : decode cX12_left 41 = .ok (.getfield 185, 3) := by decide +kernel
theorem dX12_left_44 : decode cX12_left 44 = .ok (.iload_n 3, 1) := by decide +kernel
theorem dX12_left_45 : decode cX12_left 45 = .ok (.iaload, 1) := by decide +kernel
theorem dX12_left_46 : decode cX12_left 46 = .ok (.invokevirtual 531, 3) := by decide +kernel
theorem dX12_left_49 : decode cX12_left 49 = .ok (.iload_n 1, 1) := by decide +kernel
theorem dX12_left_50 : decode cX12_left 50 = .ok (.if_icmp .gt 6, 3) := by decide +kernel
theorem dX12_left_53 : decode cX12_left 53 = .ok (.iinc 2 1, 3) := by decide +kernel
theorem dX12_left_56 : decode cX12_left 56 = .ok (.iinc 3 1, 3) := by decide +kernel
theorem dX12_left_59 : decode cX12_left 59 = .ok (.goto (-50), 3) := by decide +kernel
theorem dX12_left_62 : decode cX12_left 62 = .ok (.iload_n 2, 1) := by decide +kernel
theorem dX12_left_63 : decode cX12_left 63 = .ok (.ireturn, 1) := by decide +kernel
set_option maxRecDepth 100000 in
theorem tb_X12_left_9 {g : GT} {n nf : Int} (hu : Up false nf n) (w9 : Mem → Int → Int → Int → Res) (hw9 : ∀ (M : Mem) (x1 x2 x3 : Int), AW g false RX12 cX12_left 4 (some .int) (2) n n nf 9 [(0, 2, 337), (1, 0, x1), (2, 0, x2), (3, 0, x3)] [] n M (w9 M x1 x2 x3)) (M : Mem) (x1 x2 x3 : Int) : AW g false RX12 cX12_left 4 (some .int) (2) n n nf 9 [(0, 2, 337), (1, 0, x1), (2, 0, x2), (3, 0, x3)] [] n M (b_X12_left_9 w9 M x1 x2 x3) := by
  unfold b_X12_left_9
  refine r_iload_n 3 dX12_left_9 rfl rfl ?_
  refine r_aload_n 0 dX12_left_10 rfl rfl ?_
  refine r_gf (t := 0) (kz := 79) rfl hu dX12_left_11 kF_X12_452 kd_337 rfl rfl rfl ?_
  refine r_icmp_ge (tgt := 62) dX12_left_14 rfl (fun h3 => ?_) (fun h4 => ?_)
  · refine r_iload_n 2 dX12_left_62 rfl rfl ?_
    exact r_iret rfl rfl (Or.inl rfl) dX12_left_63
  · refine r_aload_n 0 dX12_left_17 rfl rfl ?_
    refine r_iload_n 3 dX12_left_18 rfl rfl ?_
    refine r_inv (a := 337) hu ⟨Nat.le_refl _, Nat.le_refl _⟩ dX12_left_19 kM_X12_588 (ci := 12) rfl kd_337 rfl rfl (by decide) (by decide) [(0, x3)] rfl (sk := []) rfl (Nat.le_of_ble_eq_true rfl) rfl rfl (m_X12_isGone hu M x3) (fun r5 M6 => ?_)
    refine r_if_eq (tgt := 56) dX12_left_22 rfl (fun h7 => ?_) (fun h8 => ?_)
    · refine r_ok (fun h9 => ?_)
      refine r_iincB 3 dX12_left_56 rfl h9 (by decide) (lf := fun y10 => [(3, 0, y10), (0, 2, 337), (1, 0, x1), (2, 0, x2)]) (fun _ => rfl) (fun y10 ey10 => ?_)
      refine r_goto (tgt := 9) dX12_left_59 rfl ?_
      refine r_sub [1, 2, 3, 0] (ls' := [(0, 2, 337), (1, 0, x1), (2, 0, x2), (3, 0, y10)]) rfl ?_
      exact hw9 M6 x1 x2 y10
    · refine r_aload_n 0 dX12_left_25 rfl rfl ?_
      refine r_iload_n 3 dX12_left_26 rfl rfl ?_
      refine r_inv (a := 337) hu ⟨Nat.le_refl _, Nat.le_refl _⟩ dX12_left_27 kM_X12_570 (ci := 12) rfl kd_337 rfl rfl (by decide) (by decide) [(0, x3)] rfl (sk := []) rfl (Nat.le_of_ble_eq_true rfl) rfl rfl (m_X12_isRight hu M6 x3) (fun r11 M12 => ?_)
      refine r_if_eq (tgt := 56) dX12_left_30 rfl (fun h13 => ?_) (fun h14 => ?_)
      · refine r_ok (fun h15 => ?_)
        refine r_iincB 3 dX12_left_56 rfl h15 (by decide) (lf := fun y16 => [(3, 0, y16), (0, 2, 337), (1, 0, x1), (2, 0, x2)]) (fun _ => rfl) (fun y16 ey16 => ?_)
        refine r_goto (tgt := 9) dX12_left_59 rfl ?_
        refine r_sub [1, 2, 3, 0] (ls' := [(0, 2, 337), (1, 0, x1), (2, 0, x2), (3, 0, y16)]) rfl ?_
        exact hw9 M12 x1 x2 y16
      · refine r_aload_n 0 dX12_left_33 rfl rfl ?_
        refine r_aload_n 0 dX12_left_34 rfl rfl ?_
        refine r_gx (kz := 81) rfl hu dX12_left_35 kF_X12_182 kd_337 rfl rfl rfl fx_337_81 ?_
        refine r_iload_n 3 dX12_left_38 rfl rfl ?_
        refine r_ok (fun h17 => ?_)
        refine r_iald hu dX12_left_39 kd_393 rfl (Or.inl rfl) rfl ln_393 h17 ?_
        refine r_aload_n 0 dX12_left_40 rfl rfl ?_
        refine r_gx (kz := 82) rfl hu dX12_left_41 kF_X12_185 kd_337 rfl rfl rfl fx_337_82 ?_
        refine r_iload_n 3 dX12_left_44 rfl rfl ?_
        refine r_iald hu dX12_left_45 kd_394 rfl (Or.inl rfl) rfl ln_394 h17 ?_
        refine r_inv (a := 337) hu ⟨Nat.le_refl _, Nat.le_refl _⟩ dX12_left_46 kM_X12_531 (ci := 12) rfl kd_337 rfl rfl (by decide) (by decide) [(0, M12 393 x3), (0, M12 394 x3)] rfl (sk := []) rfl (Nat.le_of_ble_eq_true rfl) rfl rfl (m_X12_lightAt hu M12 (M12 393 x3) (M12 394 x3)) (fun r18 M19 => ?_)
        refine r_iload_n 1 dX12_left_49 rfl rfl ?_
        refine r_icmp_gt (tgt := 56) dX12_left_50 rfl (fun h20 => ?_) (fun h21 => ?_)
        · refine r_iincB 3 dX12_left_56 rfl ⟨by have := h17; omega, by have := h17; omega⟩ (by decide) (lf := fun y22 => [(3, 0, y22), (0, 2, 337), (1, 0, x1), (2, 0, x2)]) (fun _ => rfl) (fun y22 ey22 => ?_)
          refine r_goto (tgt := 9) dX12_left_59 rfl ?_
          refine r_sub [1, 2, 3, 0] (ls' := [(0, 2, 337), (1, 0, x1), (2, 0, x2), (3, 0, y22)]) rfl ?_
          exact hw9 M19 x1 x2 y22
        · refine r_ok (fun h23 => ?_)
          refine r_iincB 2 dX12_left_53 rfl h23 (by decide) (lf := fun y24 => [(2, 0, y24), (0, 2, 337), (1, 0, x1), (3, 0, x3)]) (fun _ => rfl) (fun y24 ey24 => ?_)
          refine r_iincB 3 dX12_left_56 rfl ⟨by have := h17; omega, by have := h17; omega⟩ (by decide) (lf := fun y25 => [(3, 0, y25), (2, 0, y24), (0, 2, 337), (1, 0, x1)]) (fun _ => rfl) (fun y25 ey25 => ?_)
          refine r_goto (tgt := 9) dX12_left_59 rfl ?_
          refine r_sub [2, 3, 1, 0] (ls' := [(0, 2, 337), (1, 0, x1), (2, 0, y24), (3, 0, y25)]) rfl ?_
          exact hw9 M19 x1 y24 y25
set_option maxRecDepth 100000 in
theorem m_X12_left {g : GT} {n nf : Int} (hu : Up false nf n) (M : Mem) : AM g false yX12_left cX12_left 4 (some .int) (2) n n nf [(2, 337)] M (f_X12_left M) := by
  refine AM_of (by decide +kernel) (Nat.le_of_ble_eq_true rfl) (fun h => absurd h (Int.lt_irrefl n)) ?_
  show AW g false RX12 cX12_left 4 (some .int) (2) n n nf 0 [(0, 2, 337)] [] n M (f_X12_left M)
  unfold f_X12_left
  refine r_aload_n 0 dX12_left_0 rfl rfl ?_
  refine r_inv (a := 337) hu ⟨Nat.le_refl _, Nat.le_refl _⟩ dX12_left_1 kM_X12_612 (ci := 12) rfl kd_337 rfl rfl (by decide) (by decide) [] rfl (sk := []) rfl (Nat.le_of_ble_eq_true rfl) rfl rfl (m_X12_bound hu M) (fun r1 M2 => ?_)
  refine r_istore_n dX12_left_4 rfl (by decide) (ls' := [(1, 0, r1), (0, 2, 337)]) rfl ?_
  refine r_iconst dX12_left_5 ⟨by decide, by decide⟩ ?_
  refine r_istore_n dX12_left_6 rfl (by decide) (ls' := [(2, 0, 0), (1, 0, r1), (0, 2, 337)]) rfl ?_
  refine r_iconst dX12_left_7 ⟨by decide, by decide⟩ ?_
  refine r_istore_n dX12_left_8 rfl (by decide) (ls' := [(3, 0, 0), (2, 0, 0), (1, 0, r1), (0, 2, 337)]) rfl ?_
  refine r_sub [3, 2, 1, 0] (ls' := [(0, 2, 337), (1, 0, r1), (2, 0, 0), (3, 0, 0)]) rfl ?_
  exact wl3_aw (P := fun M x1 x2 x3 o => AW g false RX12 cX12_left 4 (some .int) (2) n n nf 9 [(0, 2, 337), (1, 0, x1), (2, 0, x2), (3, 0, x3)] [] n M (o)) (fun M x1 x2 x3 => aw_none) (fun w hw M x1 x2 x3 => tb_X12_left_9 hu w hw M x1 x2 x3) FU M2 r1 0 0
theorem dX12_isEnough_0 : decode cX12_isEnough 0 = .ok (.iconst 1, 1) := by decide +kernel
theorem dX12_isEnough_1 : decode cX12_isEnough 1 = .ok (.istore_n 3, 1) := by decide +kernel
theorem dX12_isEnough_2 : decode cX12_isEnough 2 = .ok (.iconst 0, 1) := by decide +kernel
theorem dX12_isEnough_3 : decode cX12_isEnough 3 = .ok (.istore 4, 2) := by decide +kernel
theorem dX12_isEnough_5 : decode cX12_isEnough 5 = .ok (.iload 4, 2) := by decide +kernel
theorem dX12_isEnough_7 : decode cX12_isEnough 7 = .ok (.iload_n 2, 1) := by decide +kernel
theorem dX12_isEnough_8 : decode cX12_isEnough 8 = .ok (.if_icmp .ge 31, 3) := by decide +kernel
theorem dX12_isEnough_11 : decode cX12_isEnough 11 = .ok (.iload_n 3, 1) := by decide +kernel
theorem dX12_isEnough_12 : decode cX12_isEnough 12 = .ok (.ifCond .eq 19, 3) := by decide +kernel
theorem dX12_isEnough_15 : decode cX12_isEnough 15 = .ok (.aload_n 0, 1) := by decide +kernel
theorem dX12_isEnough_16 : decode cX12_isEnough 16 = .ok (.getfield 209, 3) := by decide +kernel
theorem dX12_isEnough_19 : decode cX12_isEnough 19 = .ok (.iload 4, 2) := by decide +kernel
theorem dX12_isEnough_21 : decode cX12_isEnough 21 = .ok (.iaload, 1) := by decide +kernel
theorem dX12_isEnough_22 : decode cX12_isEnough 22 = .ok (.iload_n 1, 1) := by decide +kernel
theorem dX12_isEnough_23 : decode cX12_isEnough 23 = .ok (.iand, 1) := by decide +kernel
theorem dX12_isEnough_24 : decode cX12_isEnough 24 = .ok (.ifCond .eq 7, 3) := by decide +kernel
theorem dX12_isEnough_27 : decode cX12_isEnough 27 = .ok (.iconst 1, 1) := by decide +kernel
theorem dX12_isEnough_28 : decode cX12_isEnough 28 = .ok (.goto 4, 3) := by decide +kernel
theorem dX12_isEnough_31 : decode cX12_isEnough 31 = .ok (.iconst 0, 1) := by decide +kernel
theorem dX12_isEnough_32 : decode cX12_isEnough 32 = .ok (.istore_n 3, 1) := by decide +kernel
theorem dX12_isEnough_33 : decode cX12_isEnough 33 = .ok (.iinc 4 1, 3) := by decide +kernel
theorem dX12_isEnough_36 : decode cX12_isEnough 36 = .ok (.goto (-31), 3) := by decide +kernel
theorem dX12_isEnough_39 : decode cX12_isEnough 39 = .ok (.iload_n 3, 1) := by decide +kernel
theorem dX12_isEnough_40 : decode cX12_isEnough 40 = .ok (.ireturn, 1) := by decide +kernel
set_option maxRecDepth 100000 in
theorem tb_X12_isEnough_5 {g : GT} {n nf : Int} (hu : Up false nf n) (a1 a2 : Int) (w5 : Mem → Int → Int → Res) (hw5 : ∀ (M : Mem) (x3 x4 : Int), AW g false RX12 cX12_isEnough 5 (some .boolean) (0) n n nf 5 [(0, 2, 337), (1, 0, a1), (2, 0, a2), (3, 0, x3), (4, 0, x4)] [] n M (w5 M x3 x4)) (M : Mem) (x3 x4 : Int) : AW g false RX12 cX12_isEnough 5 (some .boolean) (0) n n nf 5 [(0, 2, 337), (1, 0, a1), (2, 0, a2), (3, 0, x3), (4, 0, x4)] [] n M (b_X12_isEnough_5 a1 a2 w5 M x3 x4) := by
  unfold b_X12_isEnough_5
  refine r_iload 4 dX12_isEnough_5 rfl ?_
  refine r_iload_n 2 dX12_isEnough_7 rfl rfl ?_
  refine r_icmp_ge (tgt := 39) dX12_isEnough_8 rfl (fun h1 => ?_) (fun h2 => ?_)
  · refine r_iload_n 3 dX12_isEnough_39 rfl rfl ?_
    refine r_ok (fun h3 => ?_)
    exact r_iret rfl rfl (Or.inr ⟨rfl, h3⟩) dX12_isEnough_40
  · refine r_iload_n 3 dX12_isEnough_11 rfl rfl ?_
    refine r_if_eq (tgt := 31) dX12_isEnough_12 rfl (fun h4 => ?_) (fun h5 => ?_)
    · refine r_iconst dX12_isEnough_31 ⟨by decide, by decide⟩ ?_
      refine r_istore_n dX12_isEnough_32 rfl (by decide) (ls' := [(3, 0, 0), (0, 2, 337), (1, 0, a1), (2, 0, a2), (4, 0, x4)]) rfl ?_
      refine r_ok (fun h6 => ?_)
      refine r_iincB 4 dX12_isEnough_33 rfl h6 (by decide) (lf := fun y7 => [(4, 0, y7), (3, 0, 0), (0, 2, 337), (1, 0, a1), (2, 0, a2)]) (fun _ => rfl) (fun y7 ey7 => ?_)
      refine r_goto (tgt := 5) dX12_isEnough_36 rfl ?_
      refine r_sub [2, 3, 4, 1, 0] (ls' := [(0, 2, 337), (1, 0, a1), (2, 0, a2), (3, 0, 0), (4, 0, y7)]) rfl ?_
      exact hw5 M 0 y7
    · refine r_aload_n 0 dX12_isEnough_15 rfl rfl ?_
      refine r_gx (kz := 90) rfl hu dX12_isEnough_16 kF_X12_209 kd_337 rfl rfl rfl fx_337_90 ?_
      refine r_iload 4 dX12_isEnough_19 rfl ?_
      refine r_ok (fun h8 => ?_)
      refine r_iald hu dX12_isEnough_21 kd_402 rfl (Or.inl rfl) rfl ln_402 h8 ?_
      refine r_iload_n 1 dX12_isEnough_22 rfl rfl ?_
      refine r_iand dX12_isEnough_23 ?_
      refine r_if_eq (tgt := 31) dX12_isEnough_24 rfl (fun h9 => ?_) (fun h10 => ?_)
      · refine r_iconst dX12_isEnough_31 ⟨by decide, by decide⟩ ?_
        refine r_istore_n dX12_isEnough_32 rfl (by decide) (ls' := [(3, 0, 0), (0, 2, 337), (1, 0, a1), (2, 0, a2), (4, 0, x4)]) rfl ?_
        refine r_iincB 4 dX12_isEnough_33 rfl ⟨by have := h8; omega, by have := h8; omega⟩ (by decide) (lf := fun y11 => [(4, 0, y11), (3, 0, 0), (0, 2, 337), (1, 0, a1), (2, 0, a2)]) (fun _ => rfl) (fun y11 ey11 => ?_)
        refine r_goto (tgt := 5) dX12_isEnough_36 rfl ?_
        refine r_sub [2, 3, 4, 1, 0] (ls' := [(0, 2, 337), (1, 0, a1), (2, 0, a2), (3, 0, 0), (4, 0, y11)]) rfl ?_
        exact hw5 M 0 y11
      · refine r_iconst dX12_isEnough_27 ⟨by decide, by decide⟩ ?_
        refine r_goto (tgt := 32) dX12_isEnough_28 rfl ?_
        refine r_istore_n dX12_isEnough_32 rfl (by decide) (ls' := [(3, 0, 1), (0, 2, 337), (1, 0, a1), (2, 0, a2), (4, 0, x4)]) rfl ?_
        refine r_iincB 4 dX12_isEnough_33 rfl ⟨by have := h8; omega, by have := h8; omega⟩ (by decide) (lf := fun y12 => [(4, 0, y12), (3, 0, 1), (0, 2, 337), (1, 0, a1), (2, 0, a2)]) (fun _ => rfl) (fun y12 ey12 => ?_)
        refine r_goto (tgt := 5) dX12_isEnough_36 rfl ?_
        refine r_sub [2, 3, 4, 1, 0] (ls' := [(0, 2, 337), (1, 0, a1), (2, 0, a2), (3, 0, 1), (4, 0, y12)]) rfl ?_
        exact hw5 M 1 y12
set_option maxRecDepth 100000 in
theorem m_X12_isEnough {g : GT} {n nf : Int} (hu : Up false nf n) (M : Mem) (a1 a2 : Int) : AM g false yX12_isEnough cX12_isEnough 5 (some .boolean) (0) n n nf [(2, 337), (0, a1), (0, a2)] M (f_X12_isEnough M a1 a2) := by
  refine AM_of (by decide +kernel) (Nat.le_of_ble_eq_true rfl) (fun h => absurd h (Int.lt_irrefl n)) ?_
  show AW g false RX12 cX12_isEnough 5 (some .boolean) (0) n n nf 0 [(0, 2, 337), (1, 0, a1), (2, 0, a2)] [] n M (f_X12_isEnough M a1 a2)
  unfold f_X12_isEnough
  refine r_iconst dX12_isEnough_0 ⟨by decide, by decide⟩ ?_
  refine r_istore_n dX12_isEnough_1 rfl (by decide) (ls' := [(3, 0, 1), (0, 2, 337), (1, 0, a1), (2, 0, a2)]) rfl ?_
  refine r_iconst dX12_isEnough_2 ⟨by decide, by decide⟩ ?_
  refine r_istore dX12_isEnough_3 (by decide) (ls' := [(4, 0, 0), (3, 0, 1), (0, 2, 337), (1, 0, a1), (2, 0, a2)]) rfl ?_
  refine r_sub [2, 3, 4, 1, 0] (ls' := [(0, 2, 337), (1, 0, a1), (2, 0, a2), (3, 0, 1), (4, 0, 0)]) rfl ?_
  exact wl2_aw (P := fun M x3 x4 o => AW g false RX12 cX12_isEnough 5 (some .boolean) (0) n n nf 5 [(0, 2, 337), (1, 0, a1), (2, 0, a2), (3, 0, x3), (4, 0, x4)] [] n M (o)) (fun M x3 x4 => aw_none) (fun w hw M x3 x4 => tb_X12_isEnough_5 hu a1 a2 w hw M x3 x4) FU M 1 0
theorem dX12_many_0 : decode cX12_many 0 = .ok (.iconst 0, 1) := by decide +kernel
theorem dX12_many_1 : decode cX12_many 1 = .ok (.istore_n 1, 1) := by decide +kernel
theorem dX12_many_2 : decode cX12_many 2 = .ok (.iload_n 0, 1) := by decide +kernel
theorem dX12_many_3 : decode cX12_many 3 = .ok (.istore_n 2, 1) := by decide +kernel
theorem dX12_many_4 : decode cX12_many 4 = .ok (.iload_n 2, 1) := by decide +kernel
theorem dX12_many_5 : decode cX12_many 5 = .ok (.ifCond .le 16, 3) := by decide +kernel
theorem dX12_many_8 : decode cX12_many 8 = .ok (.iload_n 1, 1) := by decide +kernel
theorem dX12_many_9 : decode cX12_many 9 = .ok (.iload_n 2, 1) := by decide +kernel
theorem dX12_many_10 : decode cX12_many 10 = .ok (.iconst 1, 1) := by decide +kernel
theorem dX12_many_11 : decode cX12_many 11 = .ok (.iand, 1) := by decide +kernel
theorem dX12_many_12 : decode cX12_many 12 = .ok (.iadd, 1) := by decide +kernel
theorem dX12_many_13 : decode cX12_many 13 = .ok (.istore_n 1, 1) := by decide +kernel
theorem dX12_many_14 : decode cX12_many 14 = .ok (.iload_n 2, 1) := by decide +kernel
theorem dX12_many_15 : decode cX12_many 15 = .ok (.iconst 1, 1) := by decide +kernel
theorem dX12_many_16 : decode cX12_many 16 = .ok (.ishr, 1) := by decide +kernel
theorem dX12_many_17 : decode cX12_many 17 = .ok (.istore_n 2, 1) := by decide +kernel
theorem dX12_many_18 : decode cX12_many 18 = .ok (.goto (-14), 3) := by decide +kernel
theorem dX12_many_21 : decode cX12_many 21 = .ok (.iload_n 1, 1) := by decide +kernel
theorem dX12_many_22 : decode cX12_many 22 = .ok (.ireturn, 1) := by decide +kernel
set_option maxRecDepth 100000 in
theorem tb_X12_many_4 {g : GT} {n nf : Int} (hu : Up false nf n) (w4 : Mem → Int → Int → Res) (hw4 : ∀ (M : Mem) (x1 x2 : Int), AW g false RX12 cX12_many 3 (some .int) (0) n n nf 4 [(1, 0, x1), (2, 0, x2)] [] n M (w4 M x1 x2)) (M : Mem) (x1 x2 : Int) : AW g false RX12 cX12_many 3 (some .int) (0) n n nf 4 [(1, 0, x1), (2, 0, x2)] [] n M (b_X12_many_4 w4 M x1 x2) := by
  unfold b_X12_many_4
  refine r_iload_n 1 dX12_many_4 rfl rfl ?_
  refine r_if_le (tgt := 21) dX12_many_5 rfl (fun h1 => ?_) (fun h2 => ?_)
  · refine r_iload_n 0 dX12_many_21 rfl rfl ?_
    exact r_iret rfl rfl (Or.inl rfl) dX12_many_22
  · refine r_iload_n 0 dX12_many_8 rfl rfl ?_
    refine r_iload_n 1 dX12_many_9 rfl rfl ?_
    refine r_iconst dX12_many_10 ⟨by decide, by decide⟩ ?_
    refine r_iand dX12_many_11 ?_
    refine r_ok (fun h3 => ?_)
    refine r_iadd dX12_many_12 h3 ?_
    refine r_istore_nB dX12_many_13 rfl (by decide) (lf := fun y4 => [(1, 0, y4), (2, 0, x2)]) (fun _ => rfl) (fun y4 ey4 => ?_)
    refine r_iload_n 1 dX12_many_14 rfl rfl ?_
    refine r_iconst dX12_many_15 ⟨by decide, by decide⟩ ?_
    refine r_ishr dX12_many_16 ?_
    refine r_istore_nB dX12_many_17 rfl (by decide) (lf := fun y5 => [(2, 0, y5), (1, 0, y4)]) (fun _ => rfl) (fun y5 ey5 => ?_)
    refine r_goto (tgt := 4) dX12_many_18 rfl ?_
    refine r_sub [1, 0] (ls' := [(1, 0, y4), (2, 0, y5)]) rfl ?_
    exact hw4 M y4 y5
set_option maxRecDepth 100000 in
theorem m_X12_many {g : GT} {n nf : Int} (hu : Up false nf n) (M : Mem) (a0 : Int) : AM g false yX12_many cX12_many 3 (some .int) (0) n n nf [(0, a0)] M (f_X12_many M a0) := by
  refine AM_of (by decide +kernel) (Nat.le_of_ble_eq_true rfl) (fun h => absurd h (Int.lt_irrefl n)) ?_
  show AW g false RX12 cX12_many 3 (some .int) (0) n n nf 0 [(0, 0, a0)] [] n M (f_X12_many M a0)
  unfold f_X12_many
  refine r_iconst dX12_many_0 ⟨by decide, by decide⟩ ?_
  refine r_istore_n dX12_many_1 rfl (by decide) (ls' := [(1, 0, 0), (0, 0, a0)]) rfl ?_
  refine r_iload_n 1 dX12_many_2 rfl rfl ?_
  refine r_istore_n dX12_many_3 rfl (by decide) (ls' := [(2, 0, a0), (1, 0, 0), (0, 0, a0)]) rfl ?_
  refine r_sub [1, 0] (ls' := [(1, 0, 0), (2, 0, a0)]) rfl ?_
  exact wl2_aw (P := fun M x1 x2 o => AW g false RX12 cX12_many 3 (some .int) (0) n n nf 4 [(1, 0, x1), (2, 0, x2)] [] n M (o)) (fun M x1 x2 => aw_none) (fun w hw M x1 x2 => tb_X12_many_4 hu w hw M x1 x2) FU M 0 a0
theorem dX12_fewest_0 : decode cX12_fewest 0 = .ok (.aload_n 0, 1) := by decide +kernel
theorem dX12_fewest_1 : decode cX12_fewest 1 = .ok (.iload_n 1, 1) := by decide +kernel
theorem dX12_fewest_2 : decode cX12_fewest 2 = .ok (.invokevirtual 459, 3) := by decide +kernel
theorem dX12_fewest_5 : decode cX12_fewest 5 = .ok (.ifCond .ne 5, 3) := by decide +kernel
theorem dX12_fewest_8 : decode cX12_fewest 8 = .ok (.iconst (-1), 1) := by decide +kernel
theorem dX12_fewest_9 : decode cX12_fewest 9 = .ok (.ireturn, 1) := by decide +kernel
theorem dX12_fewest_10 : decode cX12_fewest 10 = .ok (.iconst 0, 1) := by decide +kernel
theorem dX12_fewest_11 : decode cX12_fewest 11 = .ok (.istore_n 3, 1) := by decide +kernel
theorem dX12_fewest_12 : decode cX12_fewest 12 = .ok (.iconst 0, 1) := by decide +kernel
theorem dX12_fewest_13 : decode cX12_fewest 13 = .ok (.istore 4, 2) := by decide +kernel
theorem dX12_fewest_15 : decode cX12_fewest 15 = .ok (.iload 4, 2) := by decide +kernel
theorem dX12_fewest_17 : decode cX12_fewest 17 = .ok (.aload_n 0, 1) := by decide +kernel
theorem dX12_fewest_18 : decode cX12_fewest 18 = .ok (.getfield 452, 3) := by decide +kernel
theorem dX12_fewest_21 : decode cX12_fewest 21 = .ok (.if_icmp .ge 92, 3) := by decide +kernel
theorem dX12_fewest_24 : decode cX12_fewest 24 = .ok (.aload_n 0, 1) := by decide +kernel
theorem dX12_fewest_25 : decode cX12_fewest 25 = .ok (.iload 4, 2) := by decide +kernel
theorem dX12_fewest_27 : decode cX12_fewest 27 = .ok (.invokevirtual 570, 3) := by decide +kernel
theorem dX12_fewest_30 : decode cX12_fewest 30 = .ok (.ifCond .eq 77, 3) := by decide +kernel
theorem dX12_fewest_33 : decode cX12_fewest 33 = .ok (.aload_n 0, 1) := by decide +kernel
theorem dX12_fewest_34 : decode cX12_fewest 34 = .ok (.getfield 185, 3) := by decide +kernel
theorem dX12_fewest_37 : decode cX12_fewest 37 = .ok (.iload 4, 2) := by decide +kernel
theorem dX12_fewest_39 : decode cX12_fewest 39 = .ok (.iaload, 1) := by decide +kernel
theorem dX12_fewest_40 : decode cX12_fewest 40 = .ok (.ifCond .ne 6, 3) := by decide +kernel
theorem dX12_fewest_43 : decode cX12_fewest 43 = .ok (.goto 64, 3) := by decide +kernel
theorem dX12_fewest_46 : decode cX12_fewest 46 = .ok (.aload_n 0, 1) := by decide +kernel
theorem dX12_fewest_47 : decode cX12_fewest 47 = .ok (.iload 4, 2) := by decide +kernel
theorem dX12_fewest_49 : decode cX12_fewest 49 = .ok (.invokevirtual 576, 3) := by decide +kernel
theorem dX12_fewest_52 : decode cX12_fewest 52 = .ok (.aload_n 0, 1) := by decide +kernel
theorem dX12_fewest_53 : decode cX12_fewest 53 = .ok (.getfield 209, 3) := by decide +kernel
theorem dX12_fewest_56 : decode cX12_fewest 56 = .ok (.iload_n 3, 1) := by decide +kernel
theorem dX12_fewest_57 : decode cX12_fewest 57 = .ok (.iconst 0, 1) := by decide +kernel
theorem dX12_fewest_58 : decode cX12_fewest 58 = .ok (.iastore, 1) := by decide +kernel
theorem dX12_fewest_59 : decode cX12_fewest 59 = .ok (.iconst 0, 1) := by decide +kernel
theorem dX12_fewest_60 : decode cX12_fewest 60 = .ok (.istore 5, 2) := by decide +kernel
theorem dX12_fewest_62 : decode cX12_fewest 62 = .ok (.iload 5, 2) := by decide +kernel
theorem dX12_fewest_64 : decode cX12_fewest 64 = .ok (.aload_n 0, 1) := by decide +kernel
theorem dX12_fewest_65 : decode cX12_fewest 65 = .ok (.getfield 99, 3) := by decide +kernel
theorem dX12_fewest_68 : decode cX12_fewest 68 = .ok (.iconst 2, 1) := by decide +kernel
theorem dX12_fewest_69 : decode cX12_fewest 69 = .ok (.iload_n 1, 1) := by decide +kernel
theorem dX12_fewest_70 : decode cX12_fewest 70 = .ok (.iadd, 1) := by decide +kernel
theorem dX12_fewest_71 : decode cX12_fewest 71 = .ok (.iaload, 1) := by decide +kernel
theorem dX12_fewest_72 : decode cX12_fewest 72 = .ok (.if_icmp .ge 32, 3) := by decide +kernel
theorem dX12_fewest_75 : decode cX12_fewest 75 = .ok (.aload_n 0, 1) := by decide +kernel
theorem dX12_fewest_76 : decode cX12_fewest 76 = .ok (.iload_n 1, 1) := by decide +kernel
theorem dX12_fewest_77 : decode cX12_fewest 77 = .ok (.iload 5, 2) := by decide +kernel
theorem dX12_fewest_79 : decode cX12_fewest 79 = .ok (.invokevirtual 534, 3) := by decide +kernel
theorem dX12_fewest_82 : decode cX12_fewest 82 = .ok (.ifCond .le 16, 3) := by decide +kernel
theorem dX12_fewest_85 : decode cX12_fewest 85 = .ok (.aload_n 0, 1) := by decide +kernel
theorem dX12_fewest_86 : decode cX12_fewest 86 = .ok (.getfield 209, 3) := by decide +kernel
theorem dX12_fewest_89 : decode cX12_fewest 89 = .ok (.iload_n 3, 1) := by decide +kernel
theorem dX12_fewest_90 : decode cX12_fewest 90 = .ok (.dup2, 1) := by decide +kernel
theorem dX12_fewest_91 : decode cX12_fewest 91 = .ok (.iaload, 1) := by decide +kernel
theorem dX12_fewest_92 : decode cX12_fewest 92 = .ok (.iconst 1, 1) := by decide +kernel
theorem dX12_fewest_93 : decode cX12_fewest 93 = .ok (.iload 5, 2) := by decide +kernel
theorem dX12_fewest_95 : decode cX12_fewest 95 = .ok (.ishl, 1) := by decide +kernel
theorem dX12_fewest_96 : decode cX12_fewest 96 = .ok (.ior, 1) := by decide +kernel
theorem dX12_fewest_97 : decode cX12_fewest 97 = .ok (.iastore, 1) := by decide +kernel
theorem dX12_fewest_98 : decode cX12_fewest 98 = .ok (.iinc 5 1, 3) := by decide +kernel
theorem dX12_fewest_101 : decode cX12_fewest 101 = .ok (.goto (-39), 3) := by decide +kernel
theorem dX12_fewest_104 : decode cX12_fewest 104 = .ok (.iinc 3 1, 3) := by decide +kernel
theorem dX12_fewest_107 : decode cX12_fewest 107 = .ok (.iinc 4 1, 3) := by decide +kernel
theorem dX12_fewest_110 : decode cX12_fewest 110 = .ok (.goto (-95), 3) := by decide +kernel
theorem dX12_fewest_113 : decode cX12_fewest 113 = .ok (.iconst (-1), 1) := by decide +kernel
theorem dX12_fewest_114 : decode cX12_fewest 114 = .ok (.istore 4, 2) := by decide +kernel
theorem dX12_fewest_116 : decode cX12_fewest 116 = .ok (.iconst 0, 1) := by decide +kernel
theorem dX12_fewest_117 : decode cX12_fewest 117 = .ok (.istore 5, 2) := by decide +kernel
theorem dX12_fewest_119 : decode cX12_fewest 119 = .ok (.iload 5, 2) := by decide +kernel
theorem dX12_fewest_121 : decode cX12_fewest 121 = .ok (.iconst 1, 1) := by decide +kernel
theorem dX12_fewest_122 : decode cX12_fewest 122 = .ok (.aload_n 0, 1) := by decide +kernel
theorem dX12_fewest_123 : decode cX12_fewest 123 = .ok (.getfield 99, 3) := by decide +kernel
theorem dX12_fewest_126 : decode cX12_fewest 126 = .ok (.iconst 2, 1) := by decide +kernel
theorem dX12_fewest_127 : decode cX12_fewest 127 = .ok (.iload_n 1, 1) := by decide +kernel
theorem dX12_fewest_128 : decode cX12_fewest 128 = .ok (.iadd, 1) := by decide +kernel
theorem dX12_fewest_129 : decode cX12_fewest 129 = .ok (.iaload, 1) := by decide +kernel
theorem dX12_fewest_130 : decode cX12_fewest 130 = .ok (.ishl, 1) := by decide +kernel
theorem dX12_fewest_131 : decode cX12_fewest 131 = .ok (.if_icmp .ge 42, 3) := by decide +kernel
theorem dX12_fewest_134 : decode cX12_fewest 134 = .ok (.aload_n 0, 1) := by decide +kernel
theorem dX12_fewest_135 : decode cX12_fewest 135 = .ok (.iload 5, 2) := by decide +kernel
theorem dX12_fewest_137 : decode cX12_fewest 137 = .ok (.iload_n 3, 1) := by decide +kernel
theorem dX12_fewest_138 : decode cX12_fewest 138 = .ok (.invokevirtual 615, 3) := by decide +kernel
theorem dX12_fewest_141 : decode cX12_fewest 141 = .ok (.ifCond .eq 26, 3) := by decide +kernel
theorem dX12_fewest_144 : decode cX12_fewest 144 = .ok (.iload 4, 2) := by decide +kernel
theorem dX12_fewest_146 : decode cX12_fewest 146 = .ok (.iconst (-1), 1) := by decide +kernel
theorem dX12_fewest_147 : decode cX12_fewest 147 = .ok (.if_icmp .eq 16, 3) := by decide +kernel
theorem dX12_fewest_150 : decode cX12_fewest 150 = .ok (.iload 5, 2) := by decide +kernel
theorem dX12_fewest_152 : decode cX12_fewest 152 = .ok (.invokestatic 618, 3) := by decide +kernel
theorem dX12_fewest_155 : decode cX12_fewest 155 = .ok (.iload 4, 2) := by decide +kernel
theorem dX12_fewest_157 : decode cX12_fewest 157 = .ok (.invokestatic 618, 3) := by decide +kernel
theorem dX12_fewest_160 : decode cX12_fewest 160 = .ok (.if_icmp .ge 7, 3) := by decide +kernel
theorem dX12_fewest_163 : decode cX12_fewest 163 = .ok (.iload 5, 2) := by decide +kernel
theorem dX12_fewest_165 : decode cX12_fewest 165 = .ok (.istore 4, 2) := by decide +kernel
theorem dX12_fewest_167 : decode cX12_fewest 167 = .ok (.iinc 5 1, 3) := by decide +kernel
theorem dX12_fewest_170 : decode cX12_fewest 170 = .ok (.goto (-51), 3) := by decide +kernel
theorem dX12_fewest_173 : decode cX12_fewest 173 = .ok (.iload 4, 2) := by decide +kernel
theorem dX12_fewest_175 : decode cX12_fewest 175 = .ok (.iconst (-1), 1) := by decide +kernel
theorem dX12_fewest_176 : decode cX12_fewest 176 = .ok (.if_icmp .eq 7, 3) := by decide +kernel
theorem dX12_fewest_179 : decode cX12_fewest 179 = .ok (.iload_n 2, 1) := by decide +kernel
theorem dX12_fewest_180 : decode cX12_fewest 180 = .ok (.ifCond .eq 8, 3) := by decide +kernel
theorem dX12_fewest_183 : decode cX12_fewest 183 = .ok (.iload 4, 2) := by decide +kernel
theorem dX12_fewest_185 : decode cX12_fewest 185 = .ok (.goto 8, 3) := by decide +kernel
theorem dX12_fewest_188 : decode cX12_fewest 188 = .ok (.iload 4, 2) := by decide +kernel
theorem dX12_fewest_190 : decode cX12_fewest 190 = .ok (.invokestatic 618, 3) := by decide +kernel
theorem dX12_fewest_193 : decode cX12_fewest 193 = .ok (.ireturn, 1) := by decide +kernel
set_option maxRecDepth 100000 in
theorem tb_X12_fewest_119 {g : GT} {n nf : Int} (hu : Up false nf n) (a1 a2 : Int) (w119 : Mem → Int → Int → Int → Res) (hw119 : ∀ (M : Mem) (x3 x4 x5 : Int), AW g false RX12 cX12_fewest 6 (some .int) (4) n n nf 119 [(0, 2, 337), (1, 0, a1), (2, 0, a2), (3, 0, x3), (4, 0, x4), (5, 0, x5)] [] n M (w119 M x3 x4 x5)) (M : Mem) (x3 x4 x5 : Int) : AW g false RX12 cX12_fewest 6 (some .int) (4) n n nf 119 [(0, 2, 337), (1, 0, a1), (2, 0, a2), (3, 0, x3), (4, 0, x4), (5, 0, x5)] [] n M (b_X12_fewest_119 a1 a2 w119 M x3 x4 x5) := by
  unfold b_X12_fewest_119
  refine r_iload 5 dX12_fewest_119 rfl ?_
  refine r_iconst dX12_fewest_121 ⟨by decide, by decide⟩ ?_
  refine r_aload_n 0 dX12_fewest_122 rfl rfl ?_
  refine r_gx (kz := 41) rfl hu dX12_fewest_123 kF_X12_99 kd_337 rfl rfl rfl fx_337_41 ?_
  refine r_iconst dX12_fewest_126 ⟨by decide, by decide⟩ ?_
  refine r_iload_n 1 dX12_fewest_127 rfl rfl ?_
  refine r_ok (fun h7 => ?_)
  refine r_iadd dX12_fewest_128 h7 ?_
  refine r_ok (fun h8 => ?_)
  refine r_iald hu dX12_fewest_129 kd_366 rfl (Or.inl rfl) rfl ln_366 h8 ?_
  refine r_ishl dX12_fewest_130 ?_
  refine r_icmp_ge (tgt := 173) dX12_fewest_131 rfl (fun h9 => ?_) (fun h10 => ?_)
  · refine r_iload 4 dX12_fewest_173 rfl ?_
    refine r_iconst dX12_fewest_175 ⟨by decide, by decide⟩ ?_
    refine r_icmp_eq (tgt := 183) dX12_fewest_176 rfl (fun h11 => ?_) (fun h12 => ?_)
    · refine r_iload 4 dX12_fewest_183 rfl ?_
      refine r_goto (tgt := 193) dX12_fewest_185 rfl ?_
      exact r_iret rfl rfl (Or.inl rfl) dX12_fewest_193
    · refine r_iload_n 2 dX12_fewest_179 rfl rfl ?_
      refine r_if_eq (tgt := 188) dX12_fewest_180 rfl (fun h13 => ?_) (fun h14 => ?_)
      · refine r_iload 4 dX12_fewest_188 rfl ?_
        refine r_ins (a := 0) ⟨Nat.le_refl _, Nat.le_refl _⟩ dX12_fewest_190 kM_X12_618 (by decide) (by decide) [(0, x4)] rfl (sk := []) rfl (Nat.le_of_ble_eq_true rfl) rfl rfl (m_X12_many hu M x4) (fun r15 M16 => ?_)
        exact r_iret rfl rfl (Or.inl rfl) dX12_fewest_193
      · refine r_iload 4 dX12_fewest_183 rfl ?_
        refine r_goto (tgt := 193) dX12_fewest_185 rfl ?_
        exact r_iret rfl rfl (Or.inl rfl) dX12_fewest_193
  · refine r_aload_n 0 dX12_fewest_134 rfl rfl ?_
    refine r_iload 5 dX12_fewest_135 rfl ?_
    refine r_iload_n 3 dX12_fewest_137 rfl rfl ?_
    refine r_inv (a := 337) hu ⟨Nat.le_refl _, Nat.le_refl _⟩ dX12_fewest_138 kM_X12_615 (ci := 12) rfl kd_337 rfl rfl (by decide) (by decide) [(0, x5), (0, x3)] rfl (sk := []) rfl (Nat.le_of_ble_eq_true rfl) rfl rfl (m_X12_isEnough hu M x5 x3) (fun r17 M18 => ?_)
    refine r_if_eq (tgt := 167) dX12_fewest_141 rfl (fun h19 => ?_) (fun h20 => ?_)
    · refine r_ok (fun h21 => ?_)
      refine r_iincB 5 dX12_fewest_167 rfl h21 (by decide) (lf := fun y22 => [(5, 0, y22), (0, 2, 337), (1, 0, a1), (2, 0, a2), (3, 0, x3), (4, 0, x4)]) (fun _ => rfl) (fun y22 ey22 => ?_)
      refine r_goto (tgt := 119) dX12_fewest_170 rfl ?_
      refine r_sub [1, 2, 3, 4, 5, 0] (ls' := [(0, 2, 337), (1, 0, a1), (2, 0, a2), (3, 0, x3), (4, 0, x4), (5, 0, y22)]) rfl ?_
      exact hw119 M18 x3 x4 y22
    · refine r_iload 4 dX12_fewest_144 rfl ?_
      refine r_iconst dX12_fewest_146 ⟨by decide, by decide⟩ ?_
      refine r_icmp_eq (tgt := 163) dX12_fewest_147 rfl (fun h23 => ?_) (fun h24 => ?_)
      · refine r_iload 5 dX12_fewest_163 rfl ?_
        refine r_istore dX12_fewest_165 (by decide) (ls' := [(4, 0, x5), (0, 2, 337), (1, 0, a1), (2, 0, a2), (3, 0, x3), (5, 0, x5)]) rfl ?_
        refine r_ok (fun h25 => ?_)
        refine r_iincB 5 dX12_fewest_167 rfl h25 (by decide) (lf := fun y26 => [(5, 0, y26), (4, 0, x5), (0, 2, 337), (1, 0, a1), (2, 0, a2), (3, 0, x3)]) (fun _ => rfl) (fun y26 ey26 => ?_)
        refine r_goto (tgt := 119) dX12_fewest_170 rfl ?_
        refine r_sub [2, 3, 4, 5, 1, 0] (ls' := [(0, 2, 337), (1, 0, a1), (2, 0, a2), (3, 0, x3), (4, 0, x5), (5, 0, y26)]) rfl ?_
        exact hw119 M18 x3 x5 y26
      · refine r_iload 5 dX12_fewest_150 rfl ?_
        refine r_ins (a := 0) ⟨Nat.le_refl _, Nat.le_refl _⟩ dX12_fewest_152 kM_X12_618 (by decide) (by decide) [(0, x5)] rfl (sk := []) rfl (Nat.le_of_ble_eq_true rfl) rfl rfl (m_X12_many hu M18 x5) (fun r27 M28 => ?_)
        refine r_iload 4 dX12_fewest_155 rfl ?_
        refine r_ins (a := 0) ⟨Nat.le_refl _, Nat.le_refl _⟩ dX12_fewest_157 kM_X12_618 (by decide) (by decide) [(0, x4)] rfl (sk := [(0, r27)]) rfl (Nat.le_of_ble_eq_true rfl) rfl rfl (m_X12_many hu M28 x4) (fun r29 M30 => ?_)
        refine r_icmp_ge (tgt := 167) dX12_fewest_160 rfl (fun h31 => ?_) (fun h32 => ?_)
        · refine r_ok (fun h33 => ?_)
          refine r_iincB 5 dX12_fewest_167 rfl h33 (by decide) (lf := fun y34 => [(5, 0, y34), (0, 2, 337), (1, 0, a1), (2, 0, a2), (3, 0, x3), (4, 0, x4)]) (fun _ => rfl) (fun y34 ey34 => ?_)
          refine r_goto (tgt := 119) dX12_fewest_170 rfl ?_
          refine r_sub [1, 2, 3, 4, 5, 0] (ls' := [(0, 2, 337), (1, 0, a1), (2, 0, a2), (3, 0, x3), (4, 0, x4), (5, 0, y34)]) rfl ?_
          exact hw119 M30 x3 x4 y34
        · refine r_iload 5 dX12_fewest_163 rfl ?_
          refine r_istore dX12_fewest_165 (by decide) (ls' := [(4, 0, x5), (0, 2, 337), (1, 0, a1), (2, 0, a2), (3, 0, x3), (5, 0, x5)]) rfl ?_
          refine r_ok (fun h35 => ?_)
          refine r_iincB 5 dX12_fewest_167 rfl h35 (by decide) (lf := fun y36 => [(5, 0, y36), (4, 0, x5), (0, 2, 337), (1, 0, a1), (2, 0, a2), (3, 0, x3)]) (fun _ => rfl) (fun y36 ey36 => ?_)
          refine r_goto (tgt := 119) dX12_fewest_170 rfl ?_
          refine r_sub [2, 3, 4, 5, 1, 0] (ls' := [(0, 2, 337), (1, 0, a1), (2, 0, a2), (3, 0, x3), (4, 0, x5), (5, 0, y36)]) rfl ?_
          exact hw119 M30 x3 x5 y36
set_option maxRecDepth 100000 in
theorem tb_X12_fewest_62 {g : GT} {n nf : Int} (hu : Up false nf n) (a1 a2 : Int) (w15 : Mem → Int → Int → Res) (w62 : Mem → Int → Int → Int → Res) (hw15 : ∀ (M : Mem) (x3 x4 : Int), AW g false RX12 cX12_fewest 6 (some .int) (4) n n nf 15 [(0, 2, 337), (1, 0, a1), (2, 0, a2), (3, 0, x3), (4, 0, x4)] [] n M (w15 M x3 x4)) (hw62 : ∀ (M : Mem) (x3 x4 x5 : Int), AW g false RX12 cX12_fewest 6 (some .int) (4) n n nf 62 [(0, 2, 337), (1, 0, a1), (2, 0, a2), (3, 0, x3), (4, 0, x4), (5, 0, x5)] [] n M (w62 M x3 x4 x5)) (M : Mem) (x3 x4 x5 : Int) : AW g false RX12 cX12_fewest 6 (some .int) (4) n n nf 62 [(0, 2, 337), (1, 0, a1), (2, 0, a2), (3, 0, x3), (4, 0, x4), (5, 0, x5)] [] n M (b_X12_fewest_62 a1 a2 w15 w62 M x3 x4 x5) := by
  unfold b_X12_fewest_62
  refine r_iload 5 dX12_fewest_62 rfl ?_
  refine r_aload_n 0 dX12_fewest_64 rfl rfl ?_
  refine r_gx (kz := 41) rfl hu dX12_fewest_65 kF_X12_99 kd_337 rfl rfl rfl fx_337_41 ?_
  refine r_iconst dX12_fewest_68 ⟨by decide, by decide⟩ ?_
  refine r_iload_n 1 dX12_fewest_69 rfl rfl ?_
  refine r_ok (fun h51 => ?_)
  refine r_iadd dX12_fewest_70 h51 ?_
  refine r_ok (fun h52 => ?_)
  refine r_iald hu dX12_fewest_71 kd_366 rfl (Or.inl rfl) rfl ln_366 h52 ?_
  refine r_icmp_ge (tgt := 104) dX12_fewest_72 rfl (fun h53 => ?_) (fun h54 => ?_)
  · refine r_ok (fun h55 => ?_)
    refine r_iincB 3 dX12_fewest_104 rfl h55 (by decide) (lf := fun y56 => [(3, 0, y56), (0, 2, 337), (1, 0, a1), (2, 0, a2), (4, 0, x4), (5, 0, x5)]) (fun _ => rfl) (fun y56 ey56 => ?_)
    refine r_ok (fun h57 => ?_)
    refine r_iincB 4 dX12_fewest_107 rfl h57 (by decide) (lf := fun y58 => [(4, 0, y58), (3, 0, y56), (0, 2, 337), (1, 0, a1), (2, 0, a2), (5, 0, x5)]) (fun _ => rfl) (fun y58 ey58 => ?_)
    refine r_goto (tgt := 15) dX12_fewest_110 rfl ?_
    refine r_sub [2, 3, 4, 1, 0] (ls' := [(0, 2, 337), (1, 0, a1), (2, 0, a2), (3, 0, y56), (4, 0, y58)]) rfl ?_
    exact hw15 M y56 y58
  · refine r_aload_n 0 dX12_fewest_75 rfl rfl ?_
    refine r_iload_n 1 dX12_fewest_76 rfl rfl ?_
    refine r_iload 5 dX12_fewest_77 rfl ?_
    refine r_inv (a := 337) hu ⟨Nat.le_refl _, Nat.le_refl _⟩ dX12_fewest_79 kM_X12_534 (ci := 12) rfl kd_337 rfl rfl (by decide) (by decide) [(0, a1), (0, x5)] rfl (sk := []) rfl (Nat.le_of_ble_eq_true rfl) rfl rfl (m_X12_carriedBy hu M a1 x5) (fun r59 M60 => ?_)
    refine r_if_le (tgt := 98) dX12_fewest_82 rfl (fun h61 => ?_) (fun h62 => ?_)
    · refine r_ok (fun h63 => ?_)
      refine r_iincB 5 dX12_fewest_98 rfl h63 (by decide) (lf := fun y64 => [(5, 0, y64), (0, 2, 337), (1, 0, a1), (2, 0, a2), (3, 0, x3), (4, 0, x4)]) (fun _ => rfl) (fun y64 ey64 => ?_)
      refine r_goto (tgt := 62) dX12_fewest_101 rfl ?_
      refine r_sub [1, 2, 3, 4, 5, 0] (ls' := [(0, 2, 337), (1, 0, a1), (2, 0, a2), (3, 0, x3), (4, 0, x4), (5, 0, y64)]) rfl ?_
      exact hw62 M60 x3 x4 y64
    · refine r_aload_n 0 dX12_fewest_85 rfl rfl ?_
      refine r_gx (kz := 90) rfl hu dX12_fewest_86 kF_X12_209 kd_337 rfl rfl rfl fx_337_90 ?_
      refine r_iload_n 3 dX12_fewest_89 rfl rfl ?_
      refine r_dup2 dX12_fewest_90 (nz0 _) (nz2 _) ?_
      refine r_ok (fun h65 => ?_)
      refine r_iald hu dX12_fewest_91 kd_402 rfl (Or.inl rfl) rfl ln_402 h65 ?_
      refine r_iconst dX12_fewest_92 ⟨by decide, by decide⟩ ?_
      refine r_iload 5 dX12_fewest_93 rfl ?_
      refine r_ishl dX12_fewest_95 ?_
      refine r_ior dX12_fewest_96 ?_
      refine r_iast hu dX12_fewest_97 kd_402 rfl (Or.inl rfl) rfl ln_402 h65 rfl (fun M66 eM66 => ?_)
      refine r_ok (fun h67 => ?_)
      refine r_iincB 5 dX12_fewest_98 rfl h67 (by decide) (lf := fun y68 => [(5, 0, y68), (0, 2, 337), (1, 0, a1), (2, 0, a2), (3, 0, x3), (4, 0, x4)]) (fun _ => rfl) (fun y68 ey68 => ?_)
      refine r_goto (tgt := 62) dX12_fewest_101 rfl ?_
      refine r_sub [1, 2, 3, 4, 5, 0] (ls' := [(0, 2, 337), (1, 0, a1), (2, 0, a2), (3, 0, x3), (4, 0, x4), (5, 0, y68)]) rfl ?_
      exact hw62 M66 x3 x4 y68
set_option maxRecDepth 100000 in
theorem tb_X12_fewest_15 {g : GT} {n nf : Int} (hu : Up false nf n) (a1 a2 : Int) (w15 : Mem → Int → Int → Res) (hw15 : ∀ (M : Mem) (x3 x4 : Int), AW g false RX12 cX12_fewest 6 (some .int) (4) n n nf 15 [(0, 2, 337), (1, 0, a1), (2, 0, a2), (3, 0, x3), (4, 0, x4)] [] n M (w15 M x3 x4)) (M : Mem) (x3 x4 : Int) : AW g false RX12 cX12_fewest 6 (some .int) (4) n n nf 15 [(0, 2, 337), (1, 0, a1), (2, 0, a2), (3, 0, x3), (4, 0, x4)] [] n M (b_X12_fewest_15 a1 a2 w15 M x3 x4) := by
  unfold b_X12_fewest_15
  refine r_iload 4 dX12_fewest_15 rfl ?_
  refine r_aload_n 0 dX12_fewest_17 rfl rfl ?_
  refine r_gf (t := 0) (kz := 79) rfl hu dX12_fewest_18 kF_X12_452 kd_337 rfl rfl rfl ?_
  refine r_icmp_ge (tgt := 113) dX12_fewest_21 rfl (fun h5 => ?_) (fun h6 => ?_)
  · refine r_iconst dX12_fewest_113 ⟨by decide, by decide⟩ ?_
    refine r_istore dX12_fewest_114 (by decide) (ls' := [(4, 0, (-1)), (0, 2, 337), (1, 0, a1), (2, 0, a2), (3, 0, x3)]) rfl ?_
    refine r_iconst dX12_fewest_116 ⟨by decide, by decide⟩ ?_
    refine r_istore dX12_fewest_117 (by decide) (ls' := [(5, 0, 0), (4, 0, (-1)), (0, 2, 337), (1, 0, a1), (2, 0, a2), (3, 0, x3)]) rfl ?_
    refine r_sub [2, 3, 4, 5, 1, 0] (ls' := [(0, 2, 337), (1, 0, a1), (2, 0, a2), (3, 0, x3), (4, 0, (-1)), (5, 0, 0)]) rfl ?_
    exact wl3_aw (P := fun M x3 x4 x5 o => AW g false RX12 cX12_fewest 6 (some .int) (4) n n nf 119 [(0, 2, 337), (1, 0, a1), (2, 0, a2), (3, 0, x3), (4, 0, x4), (5, 0, x5)] [] n M (o)) (fun M x3 x4 x5 => aw_none) (fun w hw M x3 x4 x5 => tb_X12_fewest_119 hu a1 a2 w hw M x3 x4 x5) FU M x3 (-1) 0
  · refine r_aload_n 0 dX12_fewest_24 rfl rfl ?_
    refine r_iload 4 dX12_fewest_25 rfl ?_
    refine r_inv (a := 337) hu ⟨Nat.le_refl _, Nat.le_refl _⟩ dX12_fewest_27 kM_X12_570 (ci := 12) rfl kd_337 rfl rfl (by decide) (by decide) [(0, x4)] rfl (sk := []) rfl (Nat.le_of_ble_eq_true rfl) rfl rfl (m_X12_isRight hu M x4) (fun r37 M38 => ?_)
    refine r_if_eq (tgt := 107) dX12_fewest_30 rfl (fun h39 => ?_) (fun h40 => ?_)
    · refine r_ok (fun h41 => ?_)
      refine r_iincB 4 dX12_fewest_107 rfl h41 (by decide) (lf := fun y42 => [(4, 0, y42), (0, 2, 337), (1, 0, a1), (2, 0, a2), (3, 0, x3)]) (fun _ => rfl) (fun y42 ey42 => ?_)
      refine r_goto (tgt := 15) dX12_fewest_110 rfl ?_
      refine r_sub [1, 2, 3, 4, 0] (ls' := [(0, 2, 337), (1, 0, a1), (2, 0, a2), (3, 0, x3), (4, 0, y42)]) rfl ?_
      exact hw15 M38 x3 y42
    · refine r_aload_n 0 dX12_fewest_33 rfl rfl ?_
      refine r_gx (kz := 82) rfl hu dX12_fewest_34 kF_X12_185 kd_337 rfl rfl rfl fx_337_82 ?_
      refine r_iload 4 dX12_fewest_37 rfl ?_
      refine r_ok (fun h43 => ?_)
      refine r_iald hu dX12_fewest_39 kd_394 rfl (Or.inl rfl) rfl ln_394 h43 ?_
      refine r_if_ne (tgt := 46) dX12_fewest_40 rfl (fun h44 => ?_) (fun h45 => ?_)
      · refine r_goto (tgt := 107) dX12_fewest_43 rfl ?_
        refine r_iincB 4 dX12_fewest_107 rfl ⟨by have := h43; omega, by have := h43; omega⟩ (by decide) (lf := fun y46 => [(4, 0, y46), (0, 2, 337), (1, 0, a1), (2, 0, a2), (3, 0, x3)]) (fun _ => rfl) (fun y46 ey46 => ?_)
        refine r_goto (tgt := 15) dX12_fewest_110 rfl ?_
        refine r_sub [1, 2, 3, 4, 0] (ls' := [(0, 2, 337), (1, 0, a1), (2, 0, a2), (3, 0, x3), (4, 0, y46)]) rfl ?_
        exact hw15 M38 x3 y46
      · refine r_aload_n 0 dX12_fewest_46 rfl rfl ?_
        refine r_iload 4 dX12_fewest_47 rfl ?_
        refine r_invv (a := 337) hu ⟨Nat.le_refl _, Nat.le_refl _⟩ dX12_fewest_49 kM_X12_576 (ci := 12) rfl kd_337 rfl rfl (by decide) (by decide) [(0, x4)] rfl (sk := []) rfl (Nat.le_of_ble_eq_true rfl) rfl (m_X12_showsTrial hu M38 x4) (fun r47 M48 => ?_)
        refine r_aload_n 0 dX12_fewest_52 rfl rfl ?_
        refine r_gx (kz := 90) rfl hu dX12_fewest_53 kF_X12_209 kd_337 rfl rfl rfl fx_337_90 ?_
        refine r_iload_n 3 dX12_fewest_56 rfl rfl ?_
        refine r_iconst dX12_fewest_57 ⟨by decide, by decide⟩ ?_
        refine r_ok (fun h49 => ?_)
        refine r_iast hu dX12_fewest_58 kd_402 rfl (Or.inl rfl) rfl ln_402 h49 rfl (fun M50 eM50 => ?_)
        refine r_iconst dX12_fewest_59 ⟨by decide, by decide⟩ ?_
        refine r_istore dX12_fewest_60 (by decide) (ls' := [(5, 0, 0), (0, 2, 337), (1, 0, a1), (2, 0, a2), (3, 0, x3), (4, 0, x4)]) rfl ?_
        refine r_sub [1, 2, 3, 4, 5, 0] (ls' := [(0, 2, 337), (1, 0, a1), (2, 0, a2), (3, 0, x3), (4, 0, x4), (5, 0, 0)]) rfl ?_
        exact wl3_aw (P := fun M x3 x4 x5 o => AW g false RX12 cX12_fewest 6 (some .int) (4) n n nf 62 [(0, 2, 337), (1, 0, a1), (2, 0, a2), (3, 0, x3), (4, 0, x4), (5, 0, x5)] [] n M (o)) (fun M x3 x4 x5 => aw_none) (fun w hw M x3 x4 x5 => tb_X12_fewest_62 hu a1 a2 w15 w hw15 hw M x3 x4 x5) FU M50 x3 x4 0
set_option maxRecDepth 100000 in
theorem m_X12_fewest {g : GT} {n nf : Int} (hu : Up false nf n) (M : Mem) (a1 a2 : Int) : AM g false yX12_fewest cX12_fewest 6 (some .int) (4) n n nf [(2, 337), (0, a1), (0, a2)] M (f_X12_fewest M a1 a2) := by
  refine AM_of (by decide +kernel) (Nat.le_of_ble_eq_true rfl) (fun h => absurd h (Int.lt_irrefl n)) ?_
  show AW g false RX12 cX12_fewest 6 (some .int) (4) n n nf 0 [(0, 2, 337), (1, 0, a1), (2, 0, a2)] [] n M (f_X12_fewest M a1 a2)
  unfold f_X12_fewest
  refine r_aload_n 0 dX12_fewest_0 rfl rfl ?_
  refine r_iload_n 1 dX12_fewest_1 rfl rfl ?_
  refine r_inv (a := 337) hu ⟨Nat.le_refl _, Nat.le_refl _⟩ dX12_fewest_2 kM_X12_459 (ci := 12) rfl kd_337 rfl rfl (by decide) (by decide) [(0, a1)] rfl (sk := []) rfl (Nat.le_of_ble_eq_true rfl) rfl rfl (m_X12_isLaw hu M a1) (fun r1 M2 => ?_)
  refine r_if_ne (tgt := 10) dX12_fewest_5 rfl (fun h3 => ?_) (fun h4 => ?_)
  · refine r_iconst dX12_fewest_8 ⟨by decide, by decide⟩ ?_
    exact r_iret rfl rfl (Or.inl rfl) dX12_fewest_9
  · refine r_iconst dX12_fewest_10 ⟨by decide, by decide⟩ ?_
    refine r_istore_n dX12_fewest_11 rfl (by decide) (ls' := [(3, 0, 0), (0, 2, 337), (1, 0, a1), (2, 0, a2)]) rfl ?_
    refine r_iconst dX12_fewest_12 ⟨by decide, by decide⟩ ?_
    refine r_istore dX12_fewest_13 (by decide) (ls' := [(4, 0, 0), (3, 0, 0), (0, 2, 337), (1, 0, a1), (2, 0, a2)]) rfl ?_
    refine r_sub [2, 3, 4, 1, 0] (ls' := [(0, 2, 337), (1, 0, a1), (2, 0, a2), (3, 0, 0), (4, 0, 0)]) rfl ?_
    exact wl2_aw (P := fun M x3 x4 o => AW g false RX12 cX12_fewest 6 (some .int) (4) n n nf 15 [(0, 2, 337), (1, 0, a1), (2, 0, a2), (3, 0, x3), (4, 0, x4)] [] n M (o)) (fun M x3 x4 => aw_none) (fun w hw M x3 x4 => tb_X12_fewest_15 hu a1 a2 w hw M x3 x4) FU M2 0 0
theorem dX12_partedAt_0 : decode cX12_partedAt 0 = .ok (.aload_n 0, 1) := by decide +kernel
theorem dX12_partedAt_1 : decode cX12_partedAt 1 = .ok (.iload_n 3, 1) := by decide +kernel
theorem dX12_partedAt_2 : decode cX12_partedAt 2 = .ok (.iload 4, 2) := by decide +kernel
theorem dX12_partedAt_4 : decode cX12_partedAt 4 = .ok (.iload 5, 2) := by decide +kernel
theorem dX12_partedAt_6 : decode cX12_partedAt 6 = .ok (.invokevirtual 431, 3) := by decide +kernel
theorem dX12_partedAt_9 : decode cX12_partedAt 9 = .ok (.aload_n 0, 1) := by decide +kernel
theorem dX12_partedAt_10 : decode cX12_partedAt 10 = .ok (.iload_n 1, 1) := by decide +kernel
theorem dX12_partedAt_11 : decode cX12_partedAt 11 = .ok (.iconst 0, 1) := by decide +kernel
theorem dX12_partedAt_12 : decode cX12_partedAt 12 = .ok (.invokevirtual 435, 3) := by decide +kernel
theorem dX12_partedAt_15 : decode cX12_partedAt 15 = .ok (.aload_n 0, 1) := by decide +kernel
theorem dX12_partedAt_16 : decode cX12_partedAt 16 = .ok (.iload_n 2, 1) := by decide +kernel
theorem dX12_partedAt_17 : decode cX12_partedAt 17 = .ok (.iconst 0, 1) := by decide +kernel
theorem dX12_partedAt_18 : decode cX12_partedAt 18 = .ok (.invokevirtual 435, 3) := by decide +kernel
theorem dX12_partedAt_21 : decode cX12_partedAt 21 = .ok (.isub, 1) := by decide +kernel
theorem dX12_partedAt_22 : decode cX12_partedAt 22 = .ok (.istore 6, 2) := by decide +kernel
theorem dX12_partedAt_24 : decode cX12_partedAt 24 = .ok (.aload_n 0, 1) := by decide +kernel
theorem dX12_partedAt_25 : decode cX12_partedAt 25 = .ok (.getfield 125, 3) := by decide +kernel
theorem dX12_partedAt_28 : decode cX12_partedAt 28 = .ok (.iconst 5, 1) := by decide +kernel
theorem dX12_partedAt_29 : decode cX12_partedAt 29 = .ok (.iload_n 3, 1) := by decide +kernel
theorem dX12_partedAt_30 : decode cX12_partedAt 30 = .ok (.iadd, 1) := by decide +kernel
theorem dX12_partedAt_31 : decode cX12_partedAt 31 = .ok (.iaload, 1) := by decide +kernel
theorem dX12_partedAt_32 : decode cX12_partedAt 32 = .ok (.istore 7, 2) := by decide +kernel
theorem dX12_partedAt_34 : decode cX12_partedAt 34 = .ok (.iload 6, 2) := by decide +kernel
theorem dX12_partedAt_36 : decode cX12_partedAt 36 = .ok (.ifCond .ge 9, 3) := by decide +kernel
theorem dX12_partedAt_39 : decode cX12_partedAt 39 = .ok (.iload 6, 2) := by decide +kernel
theorem dX12_partedAt_41 : decode cX12_partedAt 41 = .ok (.ineg, 1) := by decide +kernel
theorem dX12_partedAt_42 : decode cX12_partedAt 42 = .ok (.goto 5, 3) := by decide +kernel
theorem dX12_partedAt_45 : decode cX12_partedAt 45 = .ok (.iload 6, 2) := by decide +kernel
theorem dX12_partedAt_47 : decode cX12_partedAt 47 = .ok (.iload 7, 2) := by decide +kernel
theorem dX12_partedAt_49 : decode cX12_partedAt 49 = .ok (.iconst 1, 1) := by decide +kernel
theorem dX12_partedAt_50 : decode cX12_partedAt 50 = .ok (.isub, 1) := by decide +kernel
theorem dX12_partedAt_51 : decode cX12_partedAt 51 = .ok (.imul, 1) := by decide +kernel
theorem dX12_partedAt_52 : decode cX12_partedAt 52 = .ok (.sipush 10000, 3) := by decide +kernel
theorem dX12_partedAt_55 : decode cX12_partedAt 55 = .ok (.imul, 1) := by decide +kernel
theorem dX12_partedAt_56 : decode cX12_partedAt 56 = .ok (.iload 7, 2) := by decide +kernel
theorem dX12_partedAt_58 : decode cX12_partedAt 58 = .ok (.idiv, 1) := by decide +kernel
theorem dX12_partedAt_59 : decode cX12_partedAt 59 = .ok (.ireturn, 1) := by decide +kernel
set_option maxRecDepth 100000 in
theorem m_X12_partedAt {g : GT} {n nf : Int} (hu : Up false nf n) (M : Mem) (a1 a2 a3 a4 a5 : Int) : AM g false yX12_partedAt cX12_partedAt 8 (some .int) (5) n n nf [(2, 337), (0, a1), (0, a2), (0, a3), (0, a4), (0, a5)] M (f_X12_partedAt M a1 a2 a3 a4 a5) := by
  refine AM_of (by decide +kernel) (Nat.le_of_ble_eq_true rfl) (fun h => absurd h (Int.lt_irrefl n)) ?_
  show AW g false RX12 cX12_partedAt 8 (some .int) (5) n n nf 0 [(0, 2, 337), (1, 0, a1), (2, 0, a2), (3, 0, a3), (4, 0, a4), (5, 0, a5)] [] n M (f_X12_partedAt M a1 a2 a3 a4 a5)
  unfold f_X12_partedAt
  refine r_aload_n 0 dX12_partedAt_0 rfl rfl ?_
  refine r_iload_n 3 dX12_partedAt_1 rfl rfl ?_
  refine r_iload 4 dX12_partedAt_2 rfl ?_
  refine r_iload 5 dX12_partedAt_4 rfl ?_
  refine r_invv (a := 337) hu ⟨Nat.le_refl _, Nat.le_refl _⟩ dX12_partedAt_6 kM_X12_431 (ci := 12) rfl kd_337 rfl rfl (by decide) (by decide) [(0, a3), (0, a4), (0, a5)] rfl (sk := []) rfl (Nat.le_of_ble_eq_true rfl) rfl (m_X12_shows hu M a3 a4 a5) (fun r1 M2 => ?_)
  refine r_aload_n 0 dX12_partedAt_9 rfl rfl ?_
  refine r_iload_n 1 dX12_partedAt_10 rfl rfl ?_
  refine r_iconst dX12_partedAt_11 ⟨by decide, by decide⟩ ?_
  refine r_inv (a := 337) hu ⟨Nat.le_refl _, Nat.le_refl _⟩ dX12_partedAt_12 kM_X12_435 (ci := 12) rfl kd_337 rfl rfl (by decide) (by decide) [(0, a1), (0, 0)] rfl (sk := []) rfl (Nat.le_of_ble_eq_true rfl) rfl rfl (m_X12_carried hu M2 a1 0) (fun r3 M4 => ?_)
  refine r_aload_n 0 dX12_partedAt_15 rfl rfl ?_
  refine r_iload_n 2 dX12_partedAt_16 rfl rfl ?_
  refine r_iconst dX12_partedAt_17 ⟨by decide, by decide⟩ ?_
  refine r_inv (a := 337) hu ⟨Nat.le_refl _, Nat.le_refl _⟩ dX12_partedAt_18 kM_X12_435 (ci := 12) rfl kd_337 rfl rfl (by decide) (by decide) [(0, a2), (0, 0)] rfl (sk := [(0, r3)]) rfl (Nat.le_of_ble_eq_true rfl) rfl rfl (m_X12_carried hu M4 a2 0) (fun r5 M6 => ?_)
  refine r_ok (fun h7 => ?_)
  refine r_isub dX12_partedAt_21 h7 ?_
  refine r_istoreB dX12_partedAt_22 (by decide) (lf := fun y8 => [(6, 0, y8), (0, 2, 337), (1, 0, a1), (2, 0, a2), (3, 0, a3), (4, 0, a4), (5, 0, a5)]) (fun _ => rfl) (fun y8 ey8 => ?_)
  refine r_aload_n 1 dX12_partedAt_24 rfl rfl ?_
  refine r_gx (kz := 49) rfl hu dX12_partedAt_25 kF_X12_125 kd_337 rfl rfl rfl fx_337_49 ?_
  refine r_iconst dX12_partedAt_28 ⟨by decide, by decide⟩ ?_
  refine r_iload_n 4 dX12_partedAt_29 rfl rfl ?_
  refine r_ok (fun h9 => ?_)
  refine r_iadd dX12_partedAt_30 h9 ?_
  refine r_ok (fun h10 => ?_)
  refine r_iald hu dX12_partedAt_31 kd_374 rfl (Or.inl rfl) rfl ln_374 h10 ?_
  refine r_istoreB dX12_partedAt_32 (by decide) (lf := fun y11 => [(7, 0, y11), (6, 0, y8), (0, 2, 337), (1, 0, a1), (2, 0, a2), (3, 0, a3), (4, 0, a4), (5, 0, a5)]) (fun _ => rfl) (fun y11 ey11 => ?_)
  refine r_iload 1 dX12_partedAt_34 rfl ?_
  refine r_if_ge (tgt := 45) dX12_partedAt_36 rfl (fun h12 => ?_) (fun h13 => ?_)
  · refine r_iload 1 dX12_partedAt_45 rfl ?_
    refine r_iload 0 dX12_partedAt_47 rfl ?_
    refine r_iconst dX12_partedAt_49 ⟨by decide, by decide⟩ ?_
    refine r_ok (fun h14 => ?_)
    refine r_isub dX12_partedAt_50 h14 ?_
    refine r_ok (fun h15 => ?_)
    refine r_imul dX12_partedAt_51 h15 ?_
    refine r_sipush dX12_partedAt_52 (by decide) ⟨by decide, by decide⟩ ?_
    refine r_ok (fun h16 => ?_)
    refine r_imul dX12_partedAt_55 h16 ?_
    refine r_iload 0 dX12_partedAt_56 rfl ?_
    refine r_ok (fun h17 => ?_)
    refine r_idivP dX12_partedAt_58 h17 ?_
    exact r_iret rfl rfl (Or.inl rfl) dX12_partedAt_59
  · refine r_iload 1 dX12_partedAt_39 rfl ?_
    refine r_ok (fun h18 => ?_)
    refine r_ineg dX12_partedAt_41 h18 ?_
    refine r_goto (tgt := 47) dX12_partedAt_42 rfl ?_
    refine r_iload 0 dX12_partedAt_47 rfl ?_
    refine r_iconst dX12_partedAt_49 ⟨by decide, by decide⟩ ?_
    refine r_ok (fun h19 => ?_)
    refine r_isub dX12_partedAt_50 h19 ?_
    refine r_ok (fun h20 => ?_)
    refine r_imul dX12_partedAt_51 h20 ?_
    refine r_sipush dX12_partedAt_52 (by decide) ⟨by decide, by decide⟩ ?_
    refine r_ok (fun h21 => ?_)
    refine r_imul dX12_partedAt_55 h21 ?_
    refine r_iload 0 dX12_partedAt_56 rfl ?_
    refine r_ok (fun h22 => ?_)
    refine r_idivP dX12_partedAt_58 h22 ?_
    exact r_iret rfl rfl (Or.inl rfl) dX12_partedAt_59
theorem dX12_whole_0 : decode cX12_whole 0 = .ok (.aload_n 0, 1) := by decide +kernel
theorem dX12_whole_1 : decode cX12_whole 1 = .ok (.iload_n 1, 1) := by decide +kernel
theorem dX12_whole_2 : decode cX12_whole 2 = .ok (.invokevirtual 459, 3) := by decide +kernel
theorem dX12_whole_5 : decode cX12_whole 5 = .ok (.ifCond .eq 39, 3) := by decide +kernel
theorem dX12_whole_8 : decode cX12_whole 8 = .ok (.aload_n 0, 1) := by decide +kernel
theorem dX12_whole_9 : decode cX12_whole 9 = .ok (.iload_n 2, 1) := by decide +kernel
theorem dX12_whole_10 : decode cX12_whole 10 = .ok (.iload_n 3, 1) := by decide +kernel
theorem dX12_whole_11 : decode cX12_whole 11 = .ok (.iload 4, 2) := by decide +kernel
theorem dX12_whole_13 : decode cX12_whole 13 = .ok (.iload 5, 2) := by decide +kernel
theorem dX12_whole_15 : decode cX12_whole 15 = .ok (.invokevirtual 541, 3) := by decide +kernel
theorem dX12_whole_18 : decode cX12_whole 18 = .ok (.ifCond .eq 26, 3) := by decide +kernel
theorem dX12_whole_21 : decode cX12_whole 21 = .ok (.iload 6, 2) := by decide +kernel
theorem dX12_whole_23 : decode cX12_whole 23 = .ok (.iload 7, 2) := by decide +kernel
theorem dX12_whole_25 : decode cX12_whole 25 = .ok (.invokestatic 518, 3) := by decide +kernel
theorem dX12_whole_28 : decode cX12_whole 28 = .ok (.ifCond .eq 16, 3) := by decide +kernel
theorem dX12_whole_31 : decode cX12_whole 31 = .ok (.iload 8, 2) := by decide +kernel
theorem dX12_whole_33 : decode cX12_whole 33 = .ok (.i2l, 1) := by decide +kernel
theorem dX12_whole_34 : decode cX12_whole 34 = .ok (.lconst 0, 1) := by decide +kernel
theorem dX12_whole_35 : decode cX12_whole 35 = .ok (.ldc2_w 481, 3) := by decide +kernel
theorem dX12_whole_38 : decode cX12_whole 38 = .ok (.invokestatic 267, 3) := by decide +kernel
theorem dX12_whole_41 : decode cX12_whole 41 = .ok (.ifCond .ne 7, 3) := by decide +kernel
theorem dX12_whole_44 : decode cX12_whole 44 = .ok (.sipush (-1000), 3) := by decide +kernel
theorem dX12_whole_47 : decode cX12_whole 47 = .ok (.ireturn, 1) := by decide +kernel
theorem dX12_whole_48 : decode cX12_whole 48 = .ok (.aload_n 0, 1) := by decide +kernel
theorem dX12_whole_49 : decode cX12_whole 49 = .ok (.iload_n 2, 1) := by decide +kernel
theorem dX12_whole_50 : decode cX12_whole 50 = .ok (.bipush 12, 2) := by decide +kernel
theorem dX12_whole_52 : decode cX12_whole 52 = .ok (.iload 4, 2) := by decide +kernel
theorem dX12_whole_54 : decode cX12_whole 54 = .ok (.imul, 1) := by decide +kernel
theorem dX12_whole_55 : decode cX12_whole 55 = .ok (.iload_n 3, 1) := by decide +kernel
theorem dX12_whole_56 : decode cX12_whole 56 = .ok (.iadd, 1) := by decide +kernel
theorem dX12_whole_57 : decode cX12_whole 57 = .ok (.iload 5, 2) := by decide +kernel
theorem dX12_whole_59 : decode cX12_whole 59 = .ok (.invokevirtual 431, 3) := by decide +kernel
theorem dX12_whole_62 : decode cX12_whole 62 = .ok (.aload_n 0, 1) := by decide +kernel
theorem dX12_whole_63 : decode cX12_whole 63 = .ok (.iload_n 1, 1) := by decide +kernel
theorem dX12_whole_64 : decode cX12_whole 64 = .ok (.iconst 0, 1) := by decide +kernel
theorem dX12_whole_65 : decode cX12_whole 65 = .ok (.invokevirtual 435, 3) := by decide +kernel
theorem dX12_whole_68 : decode cX12_whole 68 = .ok (.istore 9, 2) := by decide +kernel
theorem dX12_whole_70 : decode cX12_whole 70 = .ok (.aload_n 0, 1) := by decide +kernel
theorem dX12_whole_71 : decode cX12_whole 71 = .ok (.iload_n 1, 1) := by decide +kernel
theorem dX12_whole_72 : decode cX12_whole 72 = .ok (.iconst 1, 1) := by decide +kernel
theorem dX12_whole_73 : decode cX12_whole 73 = .ok (.invokevirtual 435, 3) := by decide +kernel
theorem dX12_whole_76 : decode cX12_whole 76 = .ok (.istore 10, 2) := by decide +kernel
theorem dX12_whole_78 : decode cX12_whole 78 = .ok (.iconst 0, 1) := by decide +kernel
theorem dX12_whole_79 : decode cX12_whole 79 = .ok (.istore 11, 2) := by decide +kernel
theorem dX12_whole_81 : decode cX12_whole 81 = .ok (.sipush 1000, 3) := by decide +kernel
theorem dX12_whole_84 : decode cX12_whole 84 = .ok (.istore 12, 2) := by decide +kernel
theorem dX12_whole_86 : decode cX12_whole 86 = .ok (.iconst 1, 1) := by decide +kernel
theorem dX12_whole_87 : decode cX12_whole 87 = .ok (.istore 13, 2) := by decide +kernel
theorem dX12_whole_89 : decode cX12_whole 89 = .ok (.iload 13, 2) := by decide +kernel
theorem dX12_whole_91 : decode cX12_whole 91 = .ok (.bipush 100, 2) := by decide +kernel
theorem dX12_whole_93 : decode cX12_whole 93 = .ok (.if_icmp .ge 68, 3) := by decide +kernel
theorem dX12_whole_96 : decode cX12_whole 96 = .ok (.aload_n 0, 1) := by decide +kernel
theorem dX12_whole_97 : decode cX12_whole 97 = .ok (.iload_n 2, 1) := by decide +kernel
theorem dX12_whole_98 : decode cX12_whole 98 = .ok (.bipush 12, 2) := by decide +kernel
theorem dX12_whole_100 : decode cX12_whole 100 = .ok (.iload 7, 2) := by decide +kernel
theorem dX12_whole_102 : decode cX12_whole 102 = .ok (.imul, 1) := by decide +kernel
theorem dX12_whole_103 : decode cX12_whole 103 = .ok (.iload 6, 2) := by decide +kernel
theorem dX12_whole_105 : decode cX12_whole 105 = .ok (.iadd, 1) := by decide +kernel
theorem dX12_whole_106 : decode cX12_whole 106 = .ok (.iload 13, 2) := by decide +kernel
theorem dX12_whole_108 : decode cX12_whole 108 = .ok (.invokevirtual 431, 3) := by decide +kernel
theorem dX12_whole_111 : decode cX12_whole 111 = .ok (.aload_n 0, 1) := by decide +kernel
theorem dX12_whole_112 : decode cX12_whole 112 = .ok (.iload_n 1, 1) := by decide +kernel
theorem dX12_whole_113 : decode cX12_whole 113 = .ok (.iconst 0, 1) := by decide +kernel
theorem dX12_whole_114 : decode cX12_whole 114 = .ok (.invokevirtual 435, 3) := by decide +kernel
theorem dX12_whole_117 : decode cX12_whole 117 = .ok (.iload 9, 2) := by decide +kernel
theorem dX12_whole_119 : decode cX12_whole 119 = .ok (.isub, 1) := by decide +kernel
theorem dX12_whole_120 : decode cX12_whole 120 = .ok (.istore 14, 2) := by decide +kernel
theorem dX12_whole_122 : decode cX12_whole 122 = .ok (.iload 14, 2) := by decide +kernel
theorem dX12_whole_124 : decode cX12_whole 124 = .ok (.ifCond .ge 9, 3) := by decide +kernel
theorem dX12_whole_127 : decode cX12_whole 127 = .ok (.iload 14, 2) := by decide +kernel
theorem dX12_whole_129 : decode cX12_whole 129 = .ok (.ineg, 1) := by decide +kernel
theorem dX12_whole_130 : decode cX12_whole 130 = .ok (.goto 5, 3) := by decide +kernel
theorem dX12_whole_133 : decode cX12_whole 133 = .ok (.iload 14, 2) := by decide +kernel
theorem dX12_whole_135 : decode cX12_whole 135 = .ok (.istore 14, 2) := by decide +kernel
theorem dX12_whole_137 : decode cX12_whole 137 = .ok (.iload 14, 2) := by decide +kernel
theorem dX12_whole_139 : decode cX12_whole 139 = .ok (.iload 12, 2) := by decide +kernel
theorem dX12_whole_141 : decode cX12_whole 141 = .ok (.if_icmp .lt 6, 3) := by decide +kernel
theorem dX12_whole_144 : decode cX12_whole 144 = .ok (.goto 11, 3) := by decide +kernel
theorem dX12_whole_147 : decode cX12_whole 147 = .ok (.iload 13, 2) := by decide +kernel
theorem dX12_whole_149 : decode cX12_whole 149 = .ok (.istore 11, 2) := by decide +kernel
theorem dX12_whole_151 : decode cX12_whole 151 = .ok (.iload 14, 2) := by decide +kernel
theorem dX12_whole_153 : decode cX12_whole 153 = .ok (.istore 12, 2) := by decide +kernel
theorem dX12_whole_155 : decode cX12_whole 155 = .ok (.iinc 13 1, 3) := by decide +kernel
theorem dX12_whole_158 : decode cX12_whole 158 = .ok (.goto (-69), 3) := by decide +kernel
theorem dX12_whole_161 : decode cX12_whole 161 = .ok (.aload_n 0, 1) := by decide +kernel
theorem dX12_whole_162 : decode cX12_whole 162 = .ok (.iload_n 2, 1) := by decide +kernel
theorem dX12_whole_163 : decode cX12_whole 163 = .ok (.bipush 12, 2) := by decide +kernel
theorem dX12_whole_165 : decode cX12_whole 165 = .ok (.iload 7, 2) := by decide +kernel
theorem dX12_whole_167 : decode cX12_whole 167 = .ok (.imul, 1) := by decide +kernel
theorem dX12_whole_168 : decode cX12_whole 168 = .ok (.iload 6, 2) := by decide +kernel
theorem dX12_whole_170 : decode cX12_whole 170 = .ok (.iadd, 1) := by decide +kernel
theorem dX12_whole_171 : decode cX12_whole 171 = .ok (.iload 11, 2) := by decide +kernel
theorem dX12_whole_173 : decode cX12_whole 173 = .ok (.invokevirtual 431, 3) := by decide +kernel
theorem dX12_whole_176 : decode cX12_whole 176 = .ok (.iload 8, 2) := by decide +kernel
theorem dX12_whole_178 : decode cX12_whole 178 = .ok (.ifCond .ne 8, 3) := by decide +kernel
theorem dX12_whole_181 : decode cX12_whole 181 = .ok (.iload 11, 2) := by decide +kernel
theorem dX12_whole_183 : decode cX12_whole 183 = .ok (.goto 27, 3) := by decide +kernel
theorem dX12_whole_186 : decode cX12_whole 186 = .ok (.iload 8, 2) := by decide +kernel
theorem dX12_whole_188 : decode cX12_whole 188 = .ok (.iconst 1, 1) := by decide +kernel
theorem dX12_whole_189 : decode cX12_whole 189 = .ok (.if_icmp .ne 12, 3) := by decide +kernel
theorem dX12_whole_192 : decode cX12_whole 192 = .ok (.aload_n 0, 1) := by decide +kernel
theorem dX12_whole_193 : decode cX12_whole 193 = .ok (.iload_n 1, 1) := by decide +kernel
theorem dX12_whole_194 : decode cX12_whole 194 = .ok (.iconst 0, 1) := by decide +kernel
theorem dX12_whole_195 : decode cX12_whole 195 = .ok (.invokevirtual 435, 3) := by decide +kernel
theorem dX12_whole_198 : decode cX12_whole 198 = .ok (.goto 12, 3) := by decide +kernel
theorem dX12_whole_201 : decode cX12_whole 201 = .ok (.aload_n 0, 1) := by decide +kernel
theorem dX12_whole_202 : decode cX12_whole 202 = .ok (.iload_n 1, 1) := by decide +kernel
theorem dX12_whole_203 : decode cX12_whole 203 = .ok (.iconst 1, 1) := by decide +kernel
theorem dX12_whole_204 : decode cX12_whole 204 = .ok (.invokevirtual 435, 3) := by decide +kernel
theorem dX12_whole_207 : decode cX12_whole 207 = .ok (.iload 10, 2) := by decide +kernel
theorem dX12_whole_209 : decode cX12_whole 209 = .ok (.isub, 1) := by decide +kernel
theorem dX12_whole_210 : decode cX12_whole 210 = .ok (.ireturn, 1) := by decide +kernel
set_option maxRecDepth 100000 in
theorem tj_X12_whole_135 {g : GT} {n nf : Int} (hu : Up false nf n) (a1 a2 a6 a7 a8 : Int) (w89 : Mem → Int → Int → Int → Int → Int → Res) (hw89 : ∀ (M : Mem) (x9 x10 x11 x12 x13 : Int), AW g false RX12 cX12_whole 15 (some .int) (5) n n nf 89 [(0, 2, 337), (1, 0, a1), (2, 0, a2), (6, 0, a6), (7, 0, a7), (8, 0, a8), (9, 0, x9), (10, 0, x10), (11, 0, x11), (12, 0, x12), (13, 0, x13)] [] n M (w89 M x9 x10 x11 x12 x13)) (M : Mem) (x9 x10 x11 x12 x13 s0 : Int) : AW g false RX12 cX12_whole 15 (some .int) (5) n n nf 135 [(0, 2, 337), (1, 0, a1), (2, 0, a2), (6, 0, a6), (7, 0, a7), (8, 0, a8), (9, 0, x9), (10, 0, x10), (11, 0, x11), (12, 0, x12), (13, 0, x13)] [(0, s0)] n M (j_X12_whole_135 a1 a2 a6 a7 a8 w89 M x9 x10 x11 x12 x13 s0) := by
  unfold j_X12_whole_135
  refine r_istore dX12_whole_135 (by decide) (ls' := [(14, 0, s0), (0, 2, 337), (1, 0, a1), (2, 0, a2), (6, 0, a6), (7, 0, a7), (8, 0, a8), (9, 0, x9), (10, 0, x10), (11, 0, x11), (12, 0, x12), (13, 0, x13)]) rfl ?_
  refine r_iload 0 dX12_whole_137 rfl ?_
  refine r_iload 10 dX12_whole_139 rfl ?_
  refine r_icmp_lt (tgt := 147) dX12_whole_141 rfl (fun h50 => ?_) (fun h51 => ?_)
  · refine r_iload 11 dX12_whole_147 rfl ?_
    refine r_istore dX12_whole_149 (by decide) (ls' := [(11, 0, x13), (14, 0, s0), (0, 2, 337), (1, 0, a1), (2, 0, a2), (6, 0, a6), (7, 0, a7), (8, 0, a8), (9, 0, x9), (10, 0, x10), (12, 0, x12), (13, 0, x13)]) rfl ?_
    refine r_iload 1 dX12_whole_151 rfl ?_
    refine r_istore dX12_whole_153 (by decide) (ls' := [(12, 0, s0), (11, 0, x13), (14, 0, s0), (0, 2, 337), (1, 0, a1), (2, 0, a2), (6, 0, a6), (7, 0, a7), (8, 0, a8), (9, 0, x9), (10, 0, x10), (13, 0, x13)]) rfl ?_
    refine r_ok (fun h52 => ?_)
    refine r_iincB 11 dX12_whole_155 rfl h52 (by decide) (lf := fun y53 => [(13, 0, y53), (12, 0, s0), (11, 0, x13), (14, 0, s0), (0, 2, 337), (1, 0, a1), (2, 0, a2), (6, 0, a6), (7, 0, a7), (8, 0, a8), (9, 0, x9), (10, 0, x10)]) (fun _ => rfl) (fun y53 ey53 => ?_)
    refine r_goto (tgt := 89) dX12_whole_158 rfl ?_
    refine r_sub [4, 5, 6, 7, 8, 9, 10, 11, 2, 1, 0] (ls' := [(0, 2, 337), (1, 0, a1), (2, 0, a2), (6, 0, a6), (7, 0, a7), (8, 0, a8), (9, 0, x9), (10, 0, x10), (11, 0, x13), (12, 0, s0), (13, 0, y53)]) rfl ?_
    exact hw89 M x9 x10 x13 s0 y53
  · refine r_goto (tgt := 155) dX12_whole_144 rfl ?_
    refine r_ok (fun h54 => ?_)
    refine r_iincB 11 dX12_whole_155 rfl h54 (by decide) (lf := fun y55 => [(13, 0, y55), (14, 0, s0), (0, 2, 337), (1, 0, a1), (2, 0, a2), (6, 0, a6), (7, 0, a7), (8, 0, a8), (9, 0, x9), (10, 0, x10), (11, 0, x11), (12, 0, x12)]) (fun _ => rfl) (fun y55 ey55 => ?_)
    refine r_goto (tgt := 89) dX12_whole_158 rfl ?_
    refine r_sub [2, 3, 4, 5, 6, 7, 8, 9, 10, 11, 0] (ls' := [(0, 2, 337), (1, 0, a1), (2, 0, a2), (6, 0, a6), (7, 0, a7), (8, 0, a8), (9, 0, x9), (10, 0, x10), (11, 0, x11), (12, 0, x12), (13, 0, y55)]) rfl ?_
    exact hw89 M x9 x10 x11 x12 y55
set_option maxRecDepth 100000 in
theorem tb_X12_whole_89 {g : GT} {n nf : Int} (hu : Up false nf n) (a1 a2 a6 a7 a8 : Int) (w89 : Mem → Int → Int → Int → Int → Int → Res) (hw89 : ∀ (M : Mem) (x9 x10 x11 x12 x13 : Int), AW g false RX12 cX12_whole 15 (some .int) (5) n n nf 89 [(0, 2, 337), (1, 0, a1), (2, 0, a2), (6, 0, a6), (7, 0, a7), (8, 0, a8), (9, 0, x9), (10, 0, x10), (11, 0, x11), (12, 0, x12), (13, 0, x13)] [] n M (w89 M x9 x10 x11 x12 x13)) (M : Mem) (x9 x10 x11 x12 x13 : Int) : AW g false RX12 cX12_whole 15 (some .int) (5) n n nf 89 [(0, 2, 337), (1, 0, a1), (2, 0, a2), (6, 0, a6), (7, 0, a7), (8, 0, a8), (9, 0, x9), (10, 0, x10), (11, 0, x11), (12, 0, x12), (13, 0, x13)] [] n M (b_X12_whole_89 a1 a2 a6 a7 a8 w89 M x9 x10 x11 x12 x13) := by
  unfold b_X12_whole_89
  refine r_iload 10 dX12_whole_89 rfl ?_
  refine r_bipush dX12_whole_91 (by decide) ⟨by decide, by decide⟩ ?_
  refine r_icmp_ge (tgt := 161) dX12_whole_93 rfl (fun h25 => ?_) (fun h26 => ?_)
  · refine r_aload_n 0 dX12_whole_161 rfl rfl ?_
    refine r_iload_n 2 dX12_whole_162 rfl rfl ?_
    refine r_bipush dX12_whole_163 (by decide) ⟨by decide, by decide⟩ ?_
    refine r_iload 4 dX12_whole_165 rfl ?_
    refine r_ok (fun h27 => ?_)
    refine r_imul dX12_whole_167 h27 ?_
    refine r_iload 3 dX12_whole_168 rfl ?_
    refine r_ok (fun h28 => ?_)
    refine r_iadd dX12_whole_170 h28 ?_
    refine r_iload 8 dX12_whole_171 rfl ?_
    refine r_invv (a := 337) hu ⟨Nat.le_refl _, Nat.le_refl _⟩ dX12_whole_173 kM_X12_431 (ci := 12) rfl kd_337 rfl rfl (by decide) (by decide) [(0, a2), (0, (12 * a7) + a6), (0, x11)] rfl (sk := []) rfl (Nat.le_of_ble_eq_true rfl) rfl (m_X12_shows hu M a2 ((12 * a7) + a6) x11) (fun r29 M30 => ?_)
    refine r_iload 5 dX12_whole_176 rfl ?_
    refine r_if_ne (tgt := 186) dX12_whole_178 rfl (fun h31 => ?_) (fun h32 => ?_)
    · refine r_iload 8 dX12_whole_181 rfl ?_
      refine r_goto (tgt := 210) dX12_whole_183 rfl ?_
      exact r_iret rfl rfl (Or.inl rfl) dX12_whole_210
    · refine r_iload 5 dX12_whole_186 rfl ?_
      refine r_iconst dX12_whole_188 ⟨by decide, by decide⟩ ?_
      refine r_icmp_ne (tgt := 201) dX12_whole_189 rfl (fun h33 => ?_) (fun h34 => ?_)
      · refine r_aload_n 0 dX12_whole_192 rfl rfl ?_
        refine r_iload_n 1 dX12_whole_193 rfl rfl ?_
        refine r_iconst dX12_whole_194 ⟨by decide, by decide⟩ ?_
        refine r_inv (a := 337) hu ⟨Nat.le_refl _, Nat.le_refl _⟩ dX12_whole_195 kM_X12_435 (ci := 12) rfl kd_337 rfl rfl (by decide) (by decide) [(0, a1), (0, 0)] rfl (sk := []) rfl (Nat.le_of_ble_eq_true rfl) rfl rfl (m_X12_carried hu M30 a1 0) (fun r35 M36 => ?_)
        refine r_goto (tgt := 210) dX12_whole_198 rfl ?_
        exact r_iret rfl rfl (Or.inl rfl) dX12_whole_210
      · refine r_aload_n 0 dX12_whole_201 rfl rfl ?_
        refine r_iload_n 1 dX12_whole_202 rfl rfl ?_
        refine r_iconst dX12_whole_203 ⟨by decide, by decide⟩ ?_
        refine r_inv (a := 337) hu ⟨Nat.le_refl _, Nat.le_refl _⟩ dX12_whole_204 kM_X12_435 (ci := 12) rfl kd_337 rfl rfl (by decide) (by decide) [(0, a1), (0, 1)] rfl (sk := []) rfl (Nat.le_of_ble_eq_true rfl) rfl rfl (m_X12_carried hu M30 a1 1) (fun r37 M38 => ?_)
        refine r_iload 7 dX12_whole_207 rfl ?_
        refine r_ok (fun h39 => ?_)
        refine r_isub dX12_whole_209 h39 ?_
        exact r_iret rfl rfl (Or.inl rfl) dX12_whole_210
  · refine r_aload_n 0 dX12_whole_96 rfl rfl ?_
    refine r_iload_n 2 dX12_whole_97 rfl rfl ?_
    refine r_bipush dX12_whole_98 (by decide) ⟨by decide, by decide⟩ ?_
    refine r_iload 4 dX12_whole_100 rfl ?_
    refine r_ok (fun h40 => ?_)
    refine r_imul dX12_whole_102 h40 ?_
    refine r_iload 3 dX12_whole_103 rfl ?_
    refine r_ok (fun h41 => ?_)
    refine r_iadd dX12_whole_105 h41 ?_
    refine r_iload 10 dX12_whole_106 rfl ?_
    refine r_invv (a := 337) hu ⟨Nat.le_refl _, Nat.le_refl _⟩ dX12_whole_108 kM_X12_431 (ci := 12) rfl kd_337 rfl rfl (by decide) (by decide) [(0, a2), (0, (12 * a7) + a6), (0, x13)] rfl (sk := []) rfl (Nat.le_of_ble_eq_true rfl) rfl (m_X12_shows hu M a2 ((12 * a7) + a6) x13) (fun r42 M43 => ?_)
    refine r_aload_n 0 dX12_whole_111 rfl rfl ?_
    refine r_iload_n 1 dX12_whole_112 rfl rfl ?_
    refine r_iconst dX12_whole_113 ⟨by decide, by decide⟩ ?_
    refine r_inv (a := 337) hu ⟨Nat.le_refl _, Nat.le_refl _⟩ dX12_whole_114 kM_X12_435 (ci := 12) rfl kd_337 rfl rfl (by decide) (by decide) [(0, a1), (0, 0)] rfl (sk := []) rfl (Nat.le_of_ble_eq_true rfl) rfl rfl (m_X12_carried hu M43 a1 0) (fun r44 M45 => ?_)
    refine r_iload 6 dX12_whole_117 rfl ?_
    refine r_ok (fun h46 => ?_)
    refine r_isub dX12_whole_119 h46 ?_
    refine r_istoreB dX12_whole_120 (by decide) (lf := fun y47 => [(14, 0, y47), (0, 2, 337), (1, 0, a1), (2, 0, a2), (6, 0, a6), (7, 0, a7), (8, 0, a8), (9, 0, x9), (10, 0, x10), (11, 0, x11), (12, 0, x12), (13, 0, x13)]) (fun _ => rfl) (fun y47 ey47 => ?_)
    refine r_iload 0 dX12_whole_122 rfl ?_
    refine r_if_ge (tgt := 133) dX12_whole_124 rfl (fun h48 => ?_) (fun h49 => ?_)
    · refine r_iload 0 dX12_whole_133 rfl ?_
      refine r_sub [1, 2, 3, 4, 5, 6, 7, 8, 9, 10, 11] (ls' := [(0, 2, 337), (1, 0, a1), (2, 0, a2), (6, 0, a6), (7, 0, a7), (8, 0, a8), (9, 0, x9), (10, 0, x10), (11, 0, x11), (12, 0, x12), (13, 0, x13)]) rfl ?_
      exact tj_X12_whole_135 hu a1 a2 a6 a7 a8 w89 hw89 M45 x9 x10 x11 x12 x13 y47
    · refine r_iload 0 dX12_whole_127 rfl ?_
      refine r_ok (fun h56 => ?_)
      refine r_ineg dX12_whole_129 h56 ?_
      refine r_goto (tgt := 135) dX12_whole_130 rfl ?_
      refine r_sub [1, 2, 3, 4, 5, 6, 7, 8, 9, 10, 11] (ls' := [(0, 2, 337), (1, 0, a1), (2, 0, a2), (6, 0, a6), (7, 0, a7), (8, 0, a8), (9, 0, x9), (10, 0, x10), (11, 0, x11), (12, 0, x12), (13, 0, x13)]) rfl ?_
      exact tj_X12_whole_135 hu a1 a2 a6 a7 a8 w89 hw89 M45 x9 x10 x11 x12 x13 (-y47)
set_option maxRecDepth 100000 in
theorem m_X12_whole {g : GT} {n nf : Int} (hu : Up false nf n) (M : Mem) (a1 a2 a3 a4 a5 a6 a7 a8 : Int) : AM g false yX12_whole cX12_whole 15 (some .int) (5) n n nf [(2, 337), (0, a1), (0, a2), (0, a3), (0, a4), (0, a5), (0, a6), (0, a7), (0, a8)] M (f_X12_whole M a1 a2 a3 a4 a5 a6 a7 a8) := by
  refine AM_of (by decide +kernel) (Nat.le_of_ble_eq_true rfl) (fun h => absurd h (Int.lt_irrefl n)) ?_
  show AW g false RX12 cX12_whole 15 (some .int) (5) n n nf 0 [(0, 2, 337), (1, 0, a1), (2, 0, a2), (3, 0, a3), (4, 0, a4), (5, 0, a5), (6, 0, a6), (7, 0, a7), (8, 0, a8)] [] n M (f_X12_whole M a1 a2 a3 a4 a5 a6 a7 a8)
  unfold f_X12_whole
  refine r_aload_n 0 dX12_whole_0 rfl rfl ?_
  refine r_iload_n 1 dX12_whole_1 rfl rfl ?_
  refine r_inv (a := 337) hu ⟨Nat.le_refl _, Nat.le_refl _⟩ dX12_whole_2 kM_X12_459 (ci := 12) rfl kd_337 rfl rfl (by decide) (by decide) [(0, a1)] rfl (sk := []) rfl (Nat.le_of_ble_eq_true rfl) rfl rfl (m_X12_isLaw hu M a1) (fun r1 M2 => ?_)
  refine r_if_eq (tgt := 44) dX12_whole_5 rfl (fun h3 => ?_) (fun h4 => ?_)
  · refine r_sipush dX12_whole_44 (by decide) ⟨by decide, by decide⟩ ?_
    exact r_iret rfl rfl (Or.inl rfl) dX12_whole_47
  · refine r_aload_n 0 dX12_whole_8 rfl rfl ?_
    refine r_iload_n 2 dX12_whole_9 rfl rfl ?_
    refine r_iload_n 3 dX12_whole_10 rfl rfl ?_
    refine r_iload 4 dX12_whole_11 rfl ?_
    refine r_iload 5 dX12_whole_13 rfl ?_
    refine r_inv (a := 337) hu ⟨Nat.le_refl _, Nat.le_refl _⟩ dX12_whole_15 kM_X12_541 (ci := 12) rfl kd_337 rfl rfl (by decide) (by decide) [(0, a2), (0, a3), (0, a4), (0, a5)] rfl (sk := []) rfl (Nat.le_of_ble_eq_true rfl) rfl rfl (m_X12_isShowing hu M2 a2 a3 a4 a5) (fun r5 M6 => ?_)
    refine r_if_eq (tgt := 44) dX12_whole_18 rfl (fun h7 => ?_) (fun h8 => ?_)
    · refine r_sipush dX12_whole_44 (by decide) ⟨by decide, by decide⟩ ?_
      exact r_iret rfl rfl (Or.inl rfl) dX12_whole_47
    · refine r_iload 6 dX12_whole_21 rfl ?_
      refine r_iload 7 dX12_whole_23 rfl ?_
      refine r_ins (a := 0) ⟨Nat.le_refl _, Nat.le_refl _⟩ dX12_whole_25 kM_X12_518 (by decide) (by decide) [(0, a6), (0, a7)] rfl (sk := []) rfl (Nat.le_of_ble_eq_true rfl) rfl rfl (m_X12_isSquare hu M6 a6 a7) (fun r9 M10 => ?_)
      refine r_if_eq (tgt := 44) dX12_whole_28 rfl (fun h11 => ?_) (fun h12 => ?_)
      · refine r_sipush dX12_whole_44 (by decide) ⟨by decide, by decide⟩ ?_
        exact r_iret rfl rfl (Or.inl rfl) dX12_whole_47
      · refine r_iload 8 dX12_whole_31 rfl ?_
        refine r_i2l dX12_whole_33 ?_
        refine r_lconst (v := 0) dX12_whole_34 (by decide) ⟨by decide, by decide⟩ ?_
        refine r_ldc2 (v := 2) dX12_whole_35 kC_X12_481 rfl ⟨by decide, by decide⟩ ?_
        refine r_ins (a := 0) ⟨Nat.le_refl _, Nat.le_refl _⟩ dX12_whole_38 kM_X12_267 (by decide) (by decide) [(1, a8), (1, 0), (1, 2)] rfl (sk := []) rfl (Nat.le_of_ble_eq_true rfl) rfl rfl (m_X12_isIn hu M10 a8 0 2) (fun r13 M14 => ?_)
        refine r_if_ne (tgt := 48) dX12_whole_41 rfl (fun h15 => ?_) (fun h16 => ?_)
        · refine r_sipush dX12_whole_44 (by decide) ⟨by decide, by decide⟩ ?_
          exact r_iret rfl rfl (Or.inl rfl) dX12_whole_47
        · refine r_aload_n 0 dX12_whole_48 rfl rfl ?_
          refine r_iload_n 2 dX12_whole_49 rfl rfl ?_
          refine r_bipush dX12_whole_50 (by decide) ⟨by decide, by decide⟩ ?_
          refine r_iload 4 dX12_whole_52 rfl ?_
          refine r_ok (fun h17 => ?_)
          refine r_imul dX12_whole_54 h17 ?_
          refine r_iload_n 3 dX12_whole_55 rfl rfl ?_
          refine r_ok (fun h18 => ?_)
          refine r_iadd dX12_whole_56 h18 ?_
          refine r_iload 5 dX12_whole_57 rfl ?_
          refine r_invv (a := 337) hu ⟨Nat.le_refl _, Nat.le_refl _⟩ dX12_whole_59 kM_X12_431 (ci := 12) rfl kd_337 rfl rfl (by decide) (by decide) [(0, a2), (0, (12 * a4) + a3), (0, a5)] rfl (sk := []) rfl (Nat.le_of_ble_eq_true rfl) rfl (m_X12_shows hu M14 a2 ((12 * a4) + a3) a5) (fun r19 M20 => ?_)
          refine r_aload_n 0 dX12_whole_62 rfl rfl ?_
          refine r_iload_n 1 dX12_whole_63 rfl rfl ?_
          refine r_iconst dX12_whole_64 ⟨by decide, by decide⟩ ?_
          refine r_inv (a := 337) hu ⟨Nat.le_refl _, Nat.le_refl _⟩ dX12_whole_65 kM_X12_435 (ci := 12) rfl kd_337 rfl rfl (by decide) (by decide) [(0, a1), (0, 0)] rfl (sk := []) rfl (Nat.le_of_ble_eq_true rfl) rfl rfl (m_X12_carried hu M20 a1 0) (fun r21 M22 => ?_)
          refine r_istore dX12_whole_68 (by decide) (ls' := [(9, 0, r21), (0, 2, 337), (1, 0, a1), (2, 0, a2), (3, 0, a3), (4, 0, a4), (5, 0, a5), (6, 0, a6), (7, 0, a7), (8, 0, a8)]) rfl ?_
          refine r_aload_n 1 dX12_whole_70 rfl rfl ?_
          refine r_iload_n 2 dX12_whole_71 rfl rfl ?_
          refine r_iconst dX12_whole_72 ⟨by decide, by decide⟩ ?_
          refine r_inv (a := 337) hu ⟨Nat.le_refl _, Nat.le_refl _⟩ dX12_whole_73 kM_X12_435 (ci := 12) rfl kd_337 rfl rfl (by decide) (by decide) [(0, a1), (0, 1)] rfl (sk := []) rfl (Nat.le_of_ble_eq_true rfl) rfl rfl (m_X12_carried hu M22 a1 1) (fun r23 M24 => ?_)
          refine r_istore dX12_whole_76 (by decide) (ls' := [(10, 0, r23), (9, 0, r21), (0, 2, 337), (1, 0, a1), (2, 0, a2), (3, 0, a3), (4, 0, a4), (5, 0, a5), (6, 0, a6), (7, 0, a7), (8, 0, a8)]) rfl ?_
          refine r_iconst dX12_whole_78 ⟨by decide, by decide⟩ ?_
          refine r_istore dX12_whole_79 (by decide) (ls' := [(11, 0, 0), (10, 0, r23), (9, 0, r21), (0, 2, 337), (1, 0, a1), (2, 0, a2), (3, 0, a3), (4, 0, a4), (5, 0, a5), (6, 0, a6), (7, 0, a7), (8, 0, a8)]) rfl ?_
          refine r_sipush dX12_whole_81 (by decide) ⟨by decide, by decide⟩ ?_
          refine r_istore dX12_whole_84 (by decide) (ls' := [(12, 0, 1000), (11, 0, 0), (10, 0, r23), (9, 0, r21), (0, 2, 337), (1, 0, a1), (2, 0, a2), (3, 0, a3), (4, 0, a4), (5, 0, a5), (6, 0, a6), (7, 0, a7), (8, 0, a8)]) rfl ?_
          refine r_iconst dX12_whole_86 ⟨by decide, by decide⟩ ?_
          refine r_istore dX12_whole_87 (by decide) (ls' := [(13, 0, 1), (12, 0, 1000), (11, 0, 0), (10, 0, r23), (9, 0, r21), (0, 2, 337), (1, 0, a1), (2, 0, a2), (3, 0, a3), (4, 0, a4), (5, 0, a5), (6, 0, a6), (7, 0, a7), (8, 0, a8)]) rfl ?_
          refine r_sub [5, 6, 7, 11, 12, 13, 4, 3, 2, 1, 0] (ls' := [(0, 2, 337), (1, 0, a1), (2, 0, a2), (6, 0, a6), (7, 0, a7), (8, 0, a8), (9, 0, r21), (10, 0, r23), (11, 0, 0), (12, 0, 1000), (13, 0, 1)]) rfl ?_
          exact wl5_aw (P := fun M x9 x10 x11 x12 x13 o => AW g false RX12 cX12_whole 15 (some .int) (5) n n nf 89 [(0, 2, 337), (1, 0, a1), (2, 0, a2), (6, 0, a6), (7, 0, a7), (8, 0, a8), (9, 0, x9), (10, 0, x10), (11, 0, x11), (12, 0, x12), (13, 0, x13)] [] n M (o)) (fun M x9 x10 x11 x12 x13 => aw_none) (fun w hw M x9 x10 x11 x12 x13 => tb_X12_whole_89 hu a1 a2 a6 a7 a8 w hw M x9 x10 x11 x12 x13) FU M24 r21 r23 0 1000 1
theorem dX12_parted_0 : decode cX12_parted 0 = .ok (.aload_n 0, 1) := by decide +kernel
theorem dX12_parted_1 : decode cX12_parted 1 = .ok (.iload_n 1, 1) := by decide +kernel
theorem dX12_parted_2 : decode cX12_parted 2 = .ok (.invokevirtual 459, 3) := by decide +kernel
theorem dX12_parted_5 : decode cX12_parted 5 = .ok (.ifCond .eq 45, 3) := by decide +kernel
theorem dX12_parted_8 : decode cX12_parted 8 = .ok (.aload_n 0, 1) := by decide +kernel
theorem dX12_parted_9 : decode cX12_parted 9 = .ok (.iload_n 2, 1) := by decide +kernel
theorem dX12_parted_10 : decode cX12_parted 10 = .ok (.invokevirtual 459, 3) := by decide +kernel
theorem dX12_parted_13 : decode cX12_parted 13 = .ok (.ifCond .eq 37, 3) := by decide +kernel
theorem dX12_parted_16 : decode cX12_parted 16 = .ok (.aload_n 0, 1) := by decide +kernel
theorem dX12_parted_17 : decode cX12_parted 17 = .ok (.iload_n 3, 1) := by decide +kernel
theorem dX12_parted_18 : decode cX12_parted 18 = .ok (.iload 4, 2) := by decide +kernel
theorem dX12_parted_20 : decode cX12_parted 20 = .ok (.iload 5, 2) := by decide +kernel
theorem dX12_parted_22 : decode cX12_parted 22 = .ok (.iload 6, 2) := by decide +kernel
theorem dX12_parted_24 : decode cX12_parted 24 = .ok (.invokevirtual 541, 3) := by decide +kernel
theorem dX12_parted_27 : decode cX12_parted 27 = .ok (.ifCond .eq 23, 3) := by decide +kernel
theorem dX12_parted_30 : decode cX12_parted 30 = .ok (.aload_n 0, 1) := by decide +kernel
theorem dX12_parted_31 : decode cX12_parted 31 = .ok (.iload_n 1, 1) := by decide +kernel
theorem dX12_parted_32 : decode cX12_parted 32 = .ok (.iload_n 2, 1) := by decide +kernel
theorem dX12_parted_33 : decode cX12_parted 33 = .ok (.iload_n 3, 1) := by decide +kernel
theorem dX12_parted_34 : decode cX12_parted 34 = .ok (.bipush 12, 2) := by decide +kernel
theorem dX12_parted_36 : decode cX12_parted 36 = .ok (.iload 5, 2) := by decide +kernel
theorem dX12_parted_38 : decode cX12_parted 38 = .ok (.imul, 1) := by decide +kernel
theorem dX12_parted_39 : decode cX12_parted 39 = .ok (.iload 4, 2) := by decide +kernel
theorem dX12_parted_41 : decode cX12_parted 41 = .ok (.iadd, 1) := by decide +kernel
theorem dX12_parted_42 : decode cX12_parted 42 = .ok (.iload 6, 2) := by decide +kernel
theorem dX12_parted_44 : decode cX12_parted 44 = .ok (.invokevirtual 621, 3) := by decide +kernel
theorem dX12_parted_47 : decode cX12_parted 47 = .ok (.goto 4, 3) := by decide +kernel
theorem dX12_parted_50 : decode cX12_parted 50 = .ok (.iconst (-1), 1) := by decide +kernel
theorem dX12_parted_51 : decode cX12_parted 51 = .ok (.ireturn, 1) := by decide +kernel
set_option maxRecDepth 100000 in
theorem m_X12_parted {g : GT} {n nf : Int} (hu : Up false nf n) (M : Mem) (a1 a2 a3 a4 a5 a6 : Int) : AM g false yX12_parted cX12_parted 7 (some .int) (6) n n nf [(2, 337), (0, a1), (0, a2), (0, a3), (0, a4), (0, a5), (0, a6)] M (f_X12_parted M a1 a2 a3 a4 a5 a6) := by
  refine AM_of (by decide +kernel) (Nat.le_of_ble_eq_true rfl) (fun h => absurd h (Int.lt_irrefl n)) ?_
  show AW g false RX12 cX12_parted 7 (some .int) (6) n n nf 0 [(0, 2, 337), (1, 0, a1), (2, 0, a2), (3, 0, a3), (4, 0, a4), (5, 0, a5), (6, 0, a6)] [] n M (f_X12_parted M a1 a2 a3 a4 a5 a6)
  unfold f_X12_parted
  refine r_aload_n 0 dX12_parted_0 rfl rfl ?_
  refine r_iload_n 1 dX12_parted_1 rfl rfl ?_
  refine r_inv (a := 337) hu ⟨Nat.le_refl _, Nat.le_refl _⟩ dX12_parted_2 kM_X12_459 (ci := 12) rfl kd_337 rfl rfl (by decide) (by decide) [(0, a1)] rfl (sk := []) rfl (Nat.le_of_ble_eq_true rfl) rfl rfl (m_X12_isLaw hu M a1) (fun r1 M2 => ?_)
  refine r_if_eq (tgt := 50) dX12_parted_5 rfl (fun h3 => ?_) (fun h4 => ?_)
  · refine r_iconst dX12_parted_50 ⟨by decide, by decide⟩ ?_
    exact r_iret rfl rfl (Or.inl rfl) dX12_parted_51
  · refine r_aload_n 0 dX12_parted_8 rfl rfl ?_
    refine r_iload_n 2 dX12_parted_9 rfl rfl ?_
    refine r_inv (a := 337) hu ⟨Nat.le_refl _, Nat.le_refl _⟩ dX12_parted_10 kM_X12_459 (ci := 12) rfl kd_337 rfl rfl (by decide) (by decide) [(0, a2)] rfl (sk := []) rfl (Nat.le_of_ble_eq_true rfl) rfl rfl (m_X12_isLaw hu M2 a2) (fun r5 M6 => ?_)
    refine r_if_eq (tgt := 50) dX12_parted_13 rfl (fun h7 => ?_) (fun h8 => ?_)
    · refine r_iconst dX12_parted_50 ⟨by decide, by decide⟩ ?_
      exact r_iret rfl rfl (Or.inl rfl) dX12_parted_51
    · refine r_aload_n 0 dX12_parted_16 rfl rfl ?_
      refine r_iload_n 3 dX12_parted_17 rfl rfl ?_
      refine r_iload 4 dX12_parted_18 rfl ?_
      refine r_iload 5 dX12_parted_20 rfl ?_
      refine r_iload 6 dX12_parted_22 rfl ?_
      refine r_inv (a := 337) hu ⟨Nat.le_refl _, Nat.le_refl _⟩ dX12_parted_24 kM_X12_541 (ci := 12) rfl kd_337 rfl rfl (by decide) (by decide) [(0, a3), (0, a4), (0, a5), (0, a6)] rfl (sk := []) rfl (Nat.le_of_ble_eq_true rfl) rfl rfl (m_X12_isShowing hu M6 a3 a4 a5 a6) (fun r9 M10 => ?_)
      refine r_if_eq (tgt := 50) dX12_parted_27 rfl (fun h11 => ?_) (fun h12 => ?_)
      · refine r_iconst dX12_parted_50 ⟨by decide, by decide⟩ ?_
        exact r_iret rfl rfl (Or.inl rfl) dX12_parted_51
      · refine r_aload_n 0 dX12_parted_30 rfl rfl ?_
        refine r_iload_n 1 dX12_parted_31 rfl rfl ?_
        refine r_iload_n 2 dX12_parted_32 rfl rfl ?_
        refine r_iload_n 3 dX12_parted_33 rfl rfl ?_
        refine r_bipush dX12_parted_34 (by decide) ⟨by decide, by decide⟩ ?_
        refine r_iload 5 dX12_parted_36 rfl ?_
        refine r_ok (fun h13 => ?_)
        refine r_imul dX12_parted_38 h13 ?_
        refine r_iload 4 dX12_parted_39 rfl ?_
        refine r_ok (fun h14 => ?_)
        refine r_iadd dX12_parted_41 h14 ?_
        refine r_iload 6 dX12_parted_42 rfl ?_
        refine r_inv (a := 337) hu ⟨Nat.le_refl _, Nat.le_refl _⟩ dX12_parted_44 kM_X12_621 (ci := 12) rfl kd_337 rfl rfl (by decide) (by decide) [(0, a1), (0, a2), (0, a3), (0, (12 * a5) + a4), (0, a6)] rfl (sk := []) rfl (Nat.le_of_ble_eq_true rfl) rfl rfl (m_X12_partedAt hu M10 a1 a2 a3 ((12 * a5) + a4) a6) (fun r15 M16 => ?_)
        refine r_goto (tgt := 51) dX12_parted_47 rfl ?_
        exact r_iret rfl rfl (Or.inl rfl) dX12_parted_51
theorem dX12_next_0 : decode cX12_next 0 = .ok (.aload_n 0, 1) := by decide +kernel
theorem dX12_next_1 : decode cX12_next 1 = .ok (.iload_n 1, 1) := by decide +kernel
theorem dX12_next_2 : decode cX12_next 2 = .ok (.invokevirtual 459, 3) := by decide +kernel
theorem dX12_next_5 : decode cX12_next 5 = .ok (.ifCond .eq 45, 3) := by decide +kernel
theorem dX12_next_8 : decode cX12_next 8 = .ok (.aload_n 0, 1) := by decide +kernel
theorem dX12_next_9 : decode cX12_next 9 = .ok (.iload_n 2, 1) := by decide +kernel
theorem dX12_next_10 : decode cX12_next 10 = .ok (.invokevirtual 459, 3) := by decide +kernel
theorem dX12_next_13 : decode cX12_next 13 = .ok (.ifCond .eq 37, 3) := by decide +kernel
theorem dX12_next_16 : decode cX12_next 16 = .ok (.iload_n 3, 1) := by decide +kernel
theorem dX12_next_17 : decode cX12_next 17 = .ok (.i2l, 1) := by decide +kernel
theorem dX12_next_18 : decode cX12_next 18 = .ok (.lconst 0, 1) := by decide +kernel
theorem dX12_next_19 : decode cX12_next 19 = .ok (.ldc2_w 429, 3) := by decide +kernel
theorem dX12_next_22 : decode cX12_next 22 = .ok (.invokestatic 267, 3) := by decide +kernel
theorem dX12_next_25 : decode cX12_next 25 = .ok (.ifCond .eq 25, 3) := by decide +kernel
theorem dX12_next_28 : decode cX12_next 28 = .ok (.iload 4, 2) := by decide +kernel
theorem dX12_next_30 : decode cX12_next 30 = .ok (.i2l, 1) := by decide +kernel
theorem dX12_next_31 : decode cX12_next 31 = .ok (.lconst 0, 1) := by decide +kernel
theorem dX12_next_32 : decode cX12_next 32 = .ok (.ldc2_w 625, 3) := by decide +kernel
theorem dX12_next_35 : decode cX12_next 35 = .ok (.invokestatic 267, 3) := by decide +kernel
theorem dX12_next_38 : decode cX12_next 38 = .ok (.ifCond .eq 12, 3) := by decide +kernel
theorem dX12_next_41 : decode cX12_next 41 = .ok (.aload_n 0, 1) := by decide +kernel
theorem dX12_next_42 : decode cX12_next 42 = .ok (.getfield 119, 3) := by decide +kernel
theorem dX12_next_45 : decode cX12_next 45 = .ok (.iconst 1, 1) := by decide +kernel
theorem dX12_next_46 : decode cX12_next 46 = .ok (.iaload, 1) := by decide +kernel
theorem dX12_next_47 : decode cX12_next 47 = .ok (.ifCond .ne 5, 3) := by decide +kernel
theorem dX12_next_50 : decode cX12_next 50 = .ok (.iconst (-1), 1) := by decide +kernel
theorem dX12_next_51 : decode cX12_next 51 = .ok (.ireturn, 1) := by decide +kernel
theorem dX12_next_52 : decode cX12_next 52 = .ok (.iconst 0, 1) := by decide +kernel
theorem dX12_next_53 : decode cX12_next 53 = .ok (.istore 5, 2) := by decide +kernel
theorem dX12_next_55 : decode cX12_next 55 = .ok (.iconst (-1), 1) := by decide +kernel
theorem dX12_next_56 : decode cX12_next 56 = .ok (.istore 6, 2) := by decide +kernel
theorem dX12_next_58 : decode cX12_next 58 = .ok (.iconst 0, 1) := by decide +kernel
theorem dX12_next_59 : decode cX12_next 59 = .ok (.istore 7, 2) := by decide +kernel
theorem dX12_next_61 : decode cX12_next 61 = .ok (.iload 7, 2) := by decide +kernel
theorem dX12_next_63 : decode cX12_next 63 = .ok (.aload_n 0, 1) := by decide +kernel
theorem dX12_next_64 : decode cX12_next 64 = .ok (.getfield 119, 3) := by decide +kernel
theorem dX12_next_67 : decode cX12_next 67 = .ok (.iconst 1, 1) := by decide +kernel
theorem dX12_next_68 : decode cX12_next 68 = .ok (.iaload, 1) := by decide +kernel
theorem dX12_next_69 : decode cX12_next 69 = .ok (.bipush 96, 2) := by decide +kernel
theorem dX12_next_71 : decode cX12_next 71 = .ok (.imul, 1) := by decide +kernel
theorem dX12_next_72 : decode cX12_next 72 = .ok (.if_icmp .ge 46, 3) := by decide +kernel
theorem dX12_next_75 : decode cX12_next 75 = .ok (.aload_n 0, 1) := by decide +kernel
theorem dX12_next_76 : decode cX12_next 76 = .ok (.iload_n 1, 1) := by decide +kernel
theorem dX12_next_77 : decode cX12_next 77 = .ok (.iload_n 2, 1) := by decide +kernel
theorem dX12_next_78 : decode cX12_next 78 = .ok (.iload 7, 2) := by decide +kernel
theorem dX12_next_80 : decode cX12_next 80 = .ok (.bipush 96, 2) := by decide +kernel
theorem dX12_next_82 : decode cX12_next 82 = .ok (.idiv, 1) := by decide +kernel
theorem dX12_next_83 : decode cX12_next 83 = .ok (.iload 7, 2) := by decide +kernel
theorem dX12_next_85 : decode cX12_next 85 = .ok (.bipush 96, 2) := by decide +kernel
theorem dX12_next_87 : decode cX12_next 87 = .ok (.irem, 1) := by decide +kernel
theorem dX12_next_88 : decode cX12_next 88 = .ok (.iload_n 3, 1) := by decide +kernel
theorem dX12_next_89 : decode cX12_next 89 = .ok (.invokevirtual 621, 3) := by decide +kernel
theorem dX12_next_92 : decode cX12_next 92 = .ok (.istore 8, 2) := by decide +kernel
theorem dX12_next_94 : decode cX12_next 94 = .ok (.iload 8, 2) := by decide +kernel
theorem dX12_next_96 : decode cX12_next 96 = .ok (.iload 6, 2) := by decide +kernel
theorem dX12_next_98 : decode cX12_next 98 = .ok (.if_icmp .gt 6, 3) := by decide +kernel
theorem dX12_next_101 : decode cX12_next 101 = .ok (.goto 11, 3) := by decide +kernel
theorem dX12_next_104 : decode cX12_next 104 = .ok (.iload 7, 2) := by decide +kernel
theorem dX12_next_106 : decode cX12_next 106 = .ok (.istore 5, 2) := by decide +kernel
theorem dX12_next_108 : decode cX12_next 108 = .ok (.iload 8, 2) := by decide +kernel
theorem dX12_next_110 : decode cX12_next 110 = .ok (.istore 6, 2) := by decide +kernel
theorem dX12_next_112 : decode cX12_next 112 = .ok (.iinc 7 1, 3) := by decide +kernel
theorem dX12_next_115 : decode cX12_next 115 = .ok (.goto (-54), 3) := by decide +kernel
theorem dX12_next_118 : decode cX12_next 118 = .ok (.iload 5, 2) := by decide +kernel
theorem dX12_next_120 : decode cX12_next 120 = .ok (.bipush 96, 2) := by decide +kernel
theorem dX12_next_122 : decode cX12_next 122 = .ok (.irem, 1) := by decide +kernel
theorem dX12_next_123 : decode cX12_next 123 = .ok (.istore 7, 2) := by decide +kernel
theorem dX12_next_125 : decode cX12_next 125 = .ok (.iload 4, 2) := by decide +kernel
theorem dX12_next_127 : decode cX12_next 127 = .ok (.ifCond .ne 11, 3) := by decide +kernel
theorem dX12_next_130 : decode cX12_next 130 = .ok (.iload 5, 2) := by decide +kernel
theorem dX12_next_132 : decode cX12_next 132 = .ok (.bipush 96, 2) := by decide +kernel
theorem dX12_next_134 : decode cX12_next 134 = .ok (.idiv, 1) := by decide +kernel
theorem dX12_next_135 : decode cX12_next 135 = .ok (.goto 33, 3) := by decide +kernel
theorem dX12_next_138 : decode cX12_next 138 = .ok (.iload 4, 2) := by decide +kernel
theorem dX12_next_140 : decode cX12_next 140 = .ok (.iconst 1, 1) := by decide +kernel
theorem dX12_next_141 : decode cX12_next 141 = .ok (.if_icmp .ne 11, 3) := by decide +kernel
theorem dX12_next_144 : decode cX12_next 144 = .ok (.iload 7, 2) := by decide +kernel
theorem dX12_next_146 : decode cX12_next 146 = .ok (.bipush 12, 2) := by decide +kernel
theorem dX12_next_148 : decode cX12_next 148 = .ok (.irem, 1) := by decide +kernel
theorem dX12_next_149 : decode cX12_next 149 = .ok (.goto 19, 3) := by decide +kernel
theorem dX12_next_152 : decode cX12_next 152 = .ok (.iload 4, 2) := by decide +kernel
theorem dX12_next_154 : decode cX12_next 154 = .ok (.iconst 2, 1) := by decide +kernel
theorem dX12_next_155 : decode cX12_next 155 = .ok (.if_icmp .ne 11, 3) := by decide +kernel
theorem dX12_next_158 : decode cX12_next 158 = .ok (.iload 7, 2) := by decide +kernel
theorem dX12_next_160 : decode cX12_next 160 = .ok (.bipush 12, 2) := by decide +kernel
theorem dX12_next_162 : decode cX12_next 162 = .ok (.idiv, 1) := by decide +kernel
theorem dX12_next_163 : decode cX12_next 163 = .ok (.goto 5, 3) := by decide +kernel
theorem dX12_next_166 : decode cX12_next 166 = .ok (.iload 6, 2) := by decide +kernel
theorem dX12_next_168 : decode cX12_next 168 = .ok (.ireturn, 1) := by decide +kernel
set_option maxRecDepth 100000 in
theorem tb_X12_next_61 {g : GT} {n nf : Int} (hu : Up false nf n) (a1 a2 a3 a4 : Int) (w61 : Mem → Int → Int → Int → Res) (hw61 : ∀ (M : Mem) (x5 x6 x7 : Int), AW g false RX12 cX12_next 9 (some .int) (6) n n nf 61 [(0, 2, 337), (1, 0, a1), (2, 0, a2), (3, 0, a3), (4, 0, a4), (5, 0, x5), (6, 0, x6), (7, 0, x7)] [] n M (w61 M x5 x6 x7)) (M : Mem) (x5 x6 x7 : Int) : AW g false RX12 cX12_next 9 (some .int) (6) n n nf 61 [(0, 2, 337), (1, 0, a1), (2, 0, a2), (3, 0, a3), (4, 0, a4), (5, 0, x5), (6, 0, x6), (7, 0, x7)] [] n M (b_X12_next_61 a1 a2 a3 a4 w61 M x5 x6 x7) := by
  unfold b_X12_next_61
  refine r_iload 7 dX12_next_61 rfl ?_
  refine r_aload_n 0 dX12_next_63 rfl rfl ?_
  refine r_gx (kz := 47) rfl hu dX12_next_64 kF_X12_119 kd_337 rfl rfl rfl fx_337_47 ?_
  refine r_iconst dX12_next_67 ⟨by decide, by decide⟩ ?_
  refine r_iald hu dX12_next_68 kd_372 rfl (Or.inl rfl) rfl ln_372 ⟨by decide, by decide⟩ ?_
  refine r_bipush dX12_next_69 (by decide) ⟨by decide, by decide⟩ ?_
  refine r_ok (fun h19 => ?_)
  refine r_imul dX12_next_71 h19 ?_
  refine r_icmp_ge (tgt := 118) dX12_next_72 rfl (fun h20 => ?_) (fun h21 => ?_)
  · refine r_iload 5 dX12_next_118 rfl ?_
    refine r_bipush dX12_next_120 (by decide) ⟨by decide, by decide⟩ ?_
    refine r_ok (fun h22 => ?_)
    refine r_iremP dX12_next_122 ⟨h22, by decide⟩ ?_
    refine r_istoreB dX12_next_123 (by decide) (lf := fun y23 => [(7, 0, y23), (0, 2, 337), (1, 0, a1), (2, 0, a2), (3, 0, a3), (4, 0, a4), (5, 0, x5), (6, 0, x6)]) (fun _ => rfl) (fun y23 ey23 => ?_)
    refine r_iload 5 dX12_next_125 rfl ?_
    refine r_if_ne (tgt := 138) dX12_next_127 rfl (fun h24 => ?_) (fun h25 => ?_)
    · refine r_iload 6 dX12_next_130 rfl ?_
      refine r_bipush dX12_next_132 (by decide) ⟨by decide, by decide⟩ ?_
      refine r_idivP dX12_next_134 ⟨h22, by decide⟩ ?_
      refine r_goto (tgt := 168) dX12_next_135 rfl ?_
      exact r_iret rfl rfl (Or.inl rfl) dX12_next_168
    · refine r_iload 5 dX12_next_138 rfl ?_
      refine r_iconst dX12_next_140 ⟨by decide, by decide⟩ ?_
      refine r_icmp_ne (tgt := 152) dX12_next_141 rfl (fun h26 => ?_) (fun h27 => ?_)
      · refine r_iload 0 dX12_next_144 rfl ?_
        refine r_bipush dX12_next_146 (by decide) ⟨by decide, by decide⟩ ?_
        refine r_ok (fun h28 => ?_)
        refine r_iremP dX12_next_148 ⟨h28, by decide⟩ ?_
        refine r_goto (tgt := 168) dX12_next_149 rfl ?_
        exact r_iret rfl rfl (Or.inl rfl) dX12_next_168
      · refine r_iload 5 dX12_next_152 rfl ?_
        refine r_iconst dX12_next_154 ⟨by decide, by decide⟩ ?_
        refine r_icmp_ne (tgt := 166) dX12_next_155 rfl (fun h29 => ?_) (fun h30 => ?_)
        · refine r_iload 0 dX12_next_158 rfl ?_
          refine r_bipush dX12_next_160 (by decide) ⟨by decide, by decide⟩ ?_
          refine r_ok (fun h31 => ?_)
          refine r_idivP dX12_next_162 ⟨h31, by decide⟩ ?_
          refine r_goto (tgt := 168) dX12_next_163 rfl ?_
          exact r_iret rfl rfl (Or.inl rfl) dX12_next_168
        · refine r_iload 7 dX12_next_166 rfl ?_
          exact r_iret rfl rfl (Or.inl rfl) dX12_next_168
  · refine r_aload_n 0 dX12_next_75 rfl rfl ?_
    refine r_iload_n 1 dX12_next_76 rfl rfl ?_
    refine r_iload_n 2 dX12_next_77 rfl rfl ?_
    refine r_iload 7 dX12_next_78 rfl ?_
    refine r_bipush dX12_next_80 (by decide) ⟨by decide, by decide⟩ ?_
    refine r_ok (fun h32 => ?_)
    refine r_idivP dX12_next_82 ⟨h32, by decide⟩ ?_
    refine r_iload 7 dX12_next_83 rfl ?_
    refine r_bipush dX12_next_85 (by decide) ⟨by decide, by decide⟩ ?_
    refine r_iremP dX12_next_87 ⟨h32, by decide⟩ ?_
    refine r_iload_n 3 dX12_next_88 rfl rfl ?_
    refine r_inv (a := 337) hu ⟨Nat.le_refl _, Nat.le_refl _⟩ dX12_next_89 kM_X12_621 (ci := 12) rfl kd_337 rfl rfl (by decide) (by decide) [(0, a1), (0, a2), (0, x7 / 96), (0, x7 % 96), (0, a3)] rfl (sk := []) rfl (Nat.le_of_ble_eq_true rfl) rfl rfl (m_X12_partedAt hu M a1 a2 (x7 / 96) (x7 % 96) a3) (fun r33 M34 => ?_)
    refine r_istore dX12_next_92 (by decide) (ls' := [(8, 0, r33), (0, 2, 337), (1, 0, a1), (2, 0, a2), (3, 0, a3), (4, 0, a4), (5, 0, x5), (6, 0, x6), (7, 0, x7)]) rfl ?_
    refine r_iload 0 dX12_next_94 rfl ?_
    refine r_iload 7 dX12_next_96 rfl ?_
    refine r_icmp_gt (tgt := 104) dX12_next_98 rfl (fun h35 => ?_) (fun h36 => ?_)
    · refine r_iload 8 dX12_next_104 rfl ?_
      refine r_istore dX12_next_106 (by decide) (ls' := [(5, 0, x7), (8, 0, r33), (0, 2, 337), (1, 0, a1), (2, 0, a2), (3, 0, a3), (4, 0, a4), (6, 0, x6), (7, 0, x7)]) rfl ?_
      refine r_iload 1 dX12_next_108 rfl ?_
      refine r_istore dX12_next_110 (by decide) (ls' := [(6, 0, r33), (5, 0, x7), (8, 0, r33), (0, 2, 337), (1, 0, a1), (2, 0, a2), (3, 0, a3), (4, 0, a4), (7, 0, x7)]) rfl ?_
      refine r_ok (fun h37 => ?_)
      refine r_iincB 8 dX12_next_112 rfl h37 (by decide) (lf := fun y38 => [(7, 0, y38), (6, 0, r33), (5, 0, x7), (8, 0, r33), (0, 2, 337), (1, 0, a1), (2, 0, a2), (3, 0, a3), (4, 0, a4)]) (fun _ => rfl) (fun y38 ey38 => ?_)
      refine r_goto (tgt := 61) dX12_next_115 rfl ?_
      refine r_sub [4, 5, 6, 7, 8, 2, 1, 0] (ls' := [(0, 2, 337), (1, 0, a1), (2, 0, a2), (3, 0, a3), (4, 0, a4), (5, 0, x7), (6, 0, r33), (7, 0, y38)]) rfl ?_
      exact hw61 M34 x7 r33 y38
    · refine r_goto (tgt := 112) dX12_next_101 rfl ?_
      refine r_ok (fun h39 => ?_)
      refine r_iincB 8 dX12_next_112 rfl h39 (by decide) (lf := fun y40 => [(7, 0, y40), (8, 0, r33), (0, 2, 337), (1, 0, a1), (2, 0, a2), (3, 0, a3), (4, 0, a4), (5, 0, x5), (6, 0, x6)]) (fun _ => rfl) (fun y40 ey40 => ?_)
      refine r_goto (tgt := 61) dX12_next_115 rfl ?_
      refine r_sub [2, 3, 4, 5, 6, 7, 8, 0] (ls' := [(0, 2, 337), (1, 0, a1), (2, 0, a2), (3, 0, a3), (4, 0, a4), (5, 0, x5), (6, 0, x6), (7, 0, y40)]) rfl ?_
      exact hw61 M34 x5 x6 y40
set_option maxRecDepth 100000 in
theorem m_X12_next {g : GT} {n nf : Int} (hu : Up false nf n) (M : Mem) (a1 a2 a3 a4 : Int) : AM g false yX12_next cX12_next 9 (some .int) (6) n n nf [(2, 337), (0, a1), (0, a2), (0, a3), (0, a4)] M (f_X12_next M a1 a2 a3 a4) := by
  refine AM_of (by decide +kernel) (Nat.le_of_ble_eq_true rfl) (fun h => absurd h (Int.lt_irrefl n)) ?_
  show AW g false RX12 cX12_next 9 (some .int) (6) n n nf 0 [(0, 2, 337), (1, 0, a1), (2, 0, a2), (3, 0, a3), (4, 0, a4)] [] n M (f_X12_next M a1 a2 a3 a4)
  unfold f_X12_next
  refine r_aload_n 0 dX12_next_0 rfl rfl ?_
  refine r_iload_n 1 dX12_next_1 rfl rfl ?_
  refine r_inv (a := 337) hu ⟨Nat.le_refl _, Nat.le_refl _⟩ dX12_next_2 kM_X12_459 (ci := 12) rfl kd_337 rfl rfl (by decide) (by decide) [(0, a1)] rfl (sk := []) rfl (Nat.le_of_ble_eq_true rfl) rfl rfl (m_X12_isLaw hu M a1) (fun r1 M2 => ?_)
  refine r_if_eq (tgt := 50) dX12_next_5 rfl (fun h3 => ?_) (fun h4 => ?_)
  · refine r_iconst dX12_next_50 ⟨by decide, by decide⟩ ?_
    exact r_iret rfl rfl (Or.inl rfl) dX12_next_51
  · refine r_aload_n 0 dX12_next_8 rfl rfl ?_
    refine r_iload_n 2 dX12_next_9 rfl rfl ?_
    refine r_inv (a := 337) hu ⟨Nat.le_refl _, Nat.le_refl _⟩ dX12_next_10 kM_X12_459 (ci := 12) rfl kd_337 rfl rfl (by decide) (by decide) [(0, a2)] rfl (sk := []) rfl (Nat.le_of_ble_eq_true rfl) rfl rfl (m_X12_isLaw hu M2 a2) (fun r5 M6 => ?_)
    refine r_if_eq (tgt := 50) dX12_next_13 rfl (fun h7 => ?_) (fun h8 => ?_)
    · refine r_iconst dX12_next_50 ⟨by decide, by decide⟩ ?_
      exact r_iret rfl rfl (Or.inl rfl) dX12_next_51
    · refine r_iload_n 3 dX12_next_16 rfl rfl ?_
      refine r_i2l dX12_next_17 ?_
      refine r_lconst (v := 0) dX12_next_18 (by decide) ⟨by decide, by decide⟩ ?_
      refine r_ldc2 (v := 99) dX12_next_19 kC_X12_429 rfl ⟨by decide, by decide⟩ ?_
      refine r_ins (a := 0) ⟨Nat.le_refl _, Nat.le_refl _⟩ dX12_next_22 kM_X12_267 (by decide) (by decide) [(1, a3), (1, 0), (1, 99)] rfl (sk := []) rfl (Nat.le_of_ble_eq_true rfl) rfl rfl (m_X12_isIn hu M6 a3 0 99) (fun r9 M10 => ?_)
      refine r_if_eq (tgt := 50) dX12_next_25 rfl (fun h11 => ?_) (fun h12 => ?_)
      · refine r_iconst dX12_next_50 ⟨by decide, by decide⟩ ?_
        exact r_iret rfl rfl (Or.inl rfl) dX12_next_51
      · refine r_iload 4 dX12_next_28 rfl ?_
        refine r_i2l dX12_next_30 ?_
        refine r_lconst (v := 0) dX12_next_31 (by decide) ⟨by decide, by decide⟩ ?_
        refine r_ldc2 (v := 3) dX12_next_32 kC_X12_625 rfl ⟨by decide, by decide⟩ ?_
        refine r_ins (a := 0) ⟨Nat.le_refl _, Nat.le_refl _⟩ dX12_next_35 kM_X12_267 (by decide) (by decide) [(1, a4), (1, 0), (1, 3)] rfl (sk := []) rfl (Nat.le_of_ble_eq_true rfl) rfl rfl (m_X12_isIn hu M10 a4 0 3) (fun r13 M14 => ?_)
        refine r_if_eq (tgt := 50) dX12_next_38 rfl (fun h15 => ?_) (fun h16 => ?_)
        · refine r_iconst dX12_next_50 ⟨by decide, by decide⟩ ?_
          exact r_iret rfl rfl (Or.inl rfl) dX12_next_51
        · refine r_aload_n 0 dX12_next_41 rfl rfl ?_
          refine r_gx (kz := 47) rfl hu dX12_next_42 kF_X12_119 kd_337 rfl rfl rfl fx_337_47 ?_
          refine r_iconst dX12_next_45 ⟨by decide, by decide⟩ ?_
          refine r_iald hu dX12_next_46 kd_372 rfl (Or.inl rfl) rfl ln_372 ⟨by decide, by decide⟩ ?_
          refine r_if_ne (tgt := 52) dX12_next_47 rfl (fun h17 => ?_) (fun h18 => ?_)
          · refine r_iconst dX12_next_50 ⟨by decide, by decide⟩ ?_
            exact r_iret rfl rfl (Or.inl rfl) dX12_next_51
          · refine r_iconst dX12_next_52 ⟨by decide, by decide⟩ ?_
            refine r_istore dX12_next_53 (by decide) (ls' := [(5, 0, 0), (0, 2, 337), (1, 0, a1), (2, 0, a2), (3, 0, a3), (4, 0, a4)]) rfl ?_
            refine r_iconst dX12_next_55 ⟨by decide, by decide⟩ ?_
            refine r_istore dX12_next_56 (by decide) (ls' := [(6, 0, (-1)), (5, 0, 0), (0, 2, 337), (1, 0, a1), (2, 0, a2), (3, 0, a3), (4, 0, a4)]) rfl ?_
            refine r_iconst dX12_next_58 ⟨by decide, by decide⟩ ?_
            refine r_istore dX12_next_59 (by decide) (ls' := [(7, 0, 0), (6, 0, (-1)), (5, 0, 0), (0, 2, 337), (1, 0, a1), (2, 0, a2), (3, 0, a3), (4, 0, a4)]) rfl ?_
            refine r_sub [3, 4, 5, 6, 7, 2, 1, 0] (ls' := [(0, 2, 337), (1, 0, a1), (2, 0, a2), (3, 0, a3), (4, 0, a4), (5, 0, 0), (6, 0, (-1)), (7, 0, 0)]) rfl ?_
            exact wl3_aw (P := fun M x5 x6 x7 o => AW g false RX12 cX12_next 9 (some .int) (6) n n nf 61 [(0, 2, 337), (1, 0, a1), (2, 0, a2), (3, 0, a3), (4, 0, a4), (5, 0, x5), (6, 0, x6), (7, 0, x7)] [] n M (o)) (fun M x5 x6 x7 => aw_none) (fun w hw M x5 x6 x7 => tb_X12_next_61 hu a1 a2 a3 a4 w hw M x5 x6 x7) FU M14 0 (-1) 0
theorem dX12_chair_0 : decode cX12_chair 0 = .ok (.iload_n 1, 1) := by decide +kernel
theorem dX12_chair_1 : decode cX12_chair 1 = .ok (.iload_n 2, 1) := by decide +kernel
theorem dX12_chair_2 : decode cX12_chair 2 = .ok (.invokestatic 518, 3) := by decide +kernel
theorem dX12_chair_5 : decode cX12_chair 5 = .ok (.ifCond .eq 18, 3) := by decide +kernel
theorem dX12_chair_8 : decode cX12_chair 8 = .ok (.aload_n 0, 1) := by decide +kernel
theorem dX12_chair_9 : decode cX12_chair 9 = .ok (.getfield 212, 3) := by decide +kernel
theorem dX12_chair_12 : decode cX12_chair 12 = .ok (.bipush 12, 2) := by decide +kernel
theorem dX12_chair_14 : decode cX12_chair 14 = .ok (.iload_n 2, 1) := by decide +kernel
theorem dX12_chair_15 : decode cX12_chair 15 = .ok (.imul, 1) := by decide +kernel
theorem dX12_chair_16 : decode cX12_chair 16 = .ok (.iload_n 1, 1) := by decide +kernel
theorem dX12_chair_17 : decode cX12_chair 17 = .ok (.iadd, 1) := by decide +kernel
theorem dX12_chair_18 : decode cX12_chair 18 = .ok (.baload, 1) := by decide +kernel
theorem dX12_chair_19 : decode cX12_chair 19 = .ok (.iload_n 3, 1) := by decide +kernel
theorem dX12_chair_20 : decode cX12_chair 20 = .ok (.if_icmp .ne 5, 3) := by decide +kernel
theorem dX12_chair_23 : decode cX12_chair 23 = .ok (.iconst (-1), 1) := by decide +kernel
theorem dX12_chair_24 : decode cX12_chair 24 = .ok (.ireturn, 1) := by decide +kernel
theorem dX12_chair_25 : decode cX12_chair 25 = .ok (.aload_n 0, 1) := by decide +kernel
theorem dX12_chair_26 : decode cX12_chair 26 = .ok (.getfield 212, 3) := by decide +kernel
theorem dX12_chair_29 : decode cX12_chair 29 = .ok (.bipush 12, 2) := by decide +kernel
theorem dX12_chair_31 : decode cX12_chair 31 = .ok (.iload_n 2, 1) := by decide +kernel
theorem dX12_chair_32 : decode cX12_chair 32 = .ok (.imul, 1) := by decide +kernel
theorem dX12_chair_33 : decode cX12_chair 33 = .ok (.iload_n 1, 1) := by decide +kernel
theorem dX12_chair_34 : decode cX12_chair 34 = .ok (.iadd, 1) := by decide +kernel
theorem dX12_chair_35 : decode cX12_chair 35 = .ok (.iload_n 3, 1) := by decide +kernel
theorem dX12_chair_36 : decode cX12_chair 36 = .ok (.bastore, 1) := by decide +kernel
theorem dX12_chair_37 : decode cX12_chair 37 = .ok (.aload_n 0, 1) := by decide +kernel
theorem dX12_chair_38 : decode cX12_chair 38 = .ok (.iconst 3, 1) := by decide +kernel
theorem dX12_chair_39 : decode cX12_chair 39 = .ok (.invokevirtual 627, 3) := by decide +kernel
theorem dX12_chair_42 : decode cX12_chair 42 = .ok (.ireturn, 1) := by decide +kernel
set_option maxRecDepth 100000 in
theorem m_X12_chair {g : GT} {n nf : Int} (hu : Up false nf n) (M : Mem) (a1 a2 a3 : Int) : AM g false yX12_chair cX12_chair 4 (some .int) (3) n n nf [(2, 337), (0, a1), (0, a2), (0, a3)] M (f_X12_chair M a1 a2 a3) := by
  refine AM_of (by decide +kernel) (Nat.le_of_ble_eq_true rfl) (fun h => absurd h (Int.lt_irrefl n)) ?_
  show AW g false RX12 cX12_chair 4 (some .int) (3) n n nf 0 [(0, 2, 337), (1, 0, a1), (2, 0, a2), (3, 0, a3)] [] n M (f_X12_chair M a1 a2 a3)
  unfold f_X12_chair
  refine r_iload_n 1 dX12_chair_0 rfl rfl ?_
  refine r_iload_n 2 dX12_chair_1 rfl rfl ?_
  refine r_ins (a := 0) ⟨Nat.le_refl _, Nat.le_refl _⟩ dX12_chair_2 kM_X12_518 (by decide) (by decide) [(0, a1), (0, a2)] rfl (sk := []) rfl (Nat.le_of_ble_eq_true rfl) rfl rfl (m_X12_isSquare hu M a1 a2) (fun r1 M2 => ?_)
  refine r_if_eq (tgt := 23) dX12_chair_5 rfl (fun h3 => ?_) (fun h4 => ?_)
  · refine r_iconst dX12_chair_23 ⟨by decide, by decide⟩ ?_
    exact r_iret rfl rfl (Or.inl rfl) dX12_chair_24
  · refine r_aload_n 0 dX12_chair_8 rfl rfl ?_
    refine r_gx (kz := 91) rfl hu dX12_chair_9 kF_X12_212 kd_337 rfl rfl rfl fx_337_91 ?_
    refine r_bipush dX12_chair_12 (by decide) ⟨by decide, by decide⟩ ?_
    refine r_iload_n 2 dX12_chair_14 rfl rfl ?_
    refine r_ok (fun h5 => ?_)
    refine r_imul dX12_chair_15 h5 ?_
    refine r_iload_n 1 dX12_chair_16 rfl rfl ?_
    refine r_ok (fun h6 => ?_)
    refine r_iadd dX12_chair_17 h6 ?_
    refine r_ok (fun h7 => ?_)
    refine r_zald hu dX12_chair_18 kd_403 rfl rfl rfl ln_403 h7 ?_
    refine r_iload_n 3 dX12_chair_19 rfl rfl ?_
    refine r_icmp_ne (tgt := 25) dX12_chair_20 rfl (fun h8 => ?_) (fun h9 => ?_)
    · refine r_iconst dX12_chair_23 ⟨by decide, by decide⟩ ?_
      exact r_iret rfl rfl (Or.inl rfl) dX12_chair_24
    · refine r_aload_n 0 dX12_chair_25 rfl rfl ?_
      refine r_gx (kz := 91) rfl hu dX12_chair_26 kF_X12_212 kd_337 rfl rfl rfl fx_337_91 ?_
      refine r_bipush dX12_chair_29 (by decide) ⟨by decide, by decide⟩ ?_
      refine r_iload_n 2 dX12_chair_31 rfl rfl ?_
      refine r_imul dX12_chair_32 h5 ?_
      refine r_iload_n 1 dX12_chair_33 rfl rfl ?_
      refine r_iadd dX12_chair_34 h6 ?_
      refine r_iload_n 3 dX12_chair_35 rfl rfl ?_
      refine r_ok (fun h10 => ?_)
      refine r_zast hu dX12_chair_36 kd_403 rfl rfl rfl ln_403 h7 h10 rfl (fun M11 eM11 => ?_)
      refine r_aload_n 0 dX12_chair_37 rfl rfl ?_
      refine r_iconst dX12_chair_38 ⟨by decide, by decide⟩ ?_
      refine r_inv (a := 337) hu ⟨Nat.le_refl _, Nat.le_refl _⟩ dX12_chair_39 kM_X12_627 (ci := 12) rfl kd_337 rfl rfl (by decide) (by decide) [(0, 3)] rfl (sk := []) rfl (Nat.le_of_ble_eq_true rfl) rfl rfl (m_X12_has hu M11 3) (fun r12 M13 => ?_)
      exact r_iret rfl rfl (Or.inl rfl) dX12_chair_42
