theorem dX11_spreadChances_0 : decode cX11_spreadChances 0 = .ok (.iload_n 1, 1) := by decide +kernel
theorem dX11_spreadChances_1 : decode cX11_spreadChances 1 = .ok (.bipush 40, 2) := by decide +kernel
theorem dX11_spreadChances_3 : decode cX11_spreadChances 3 = .ok (.invokestatic 384, 3) := by decide +kernel
theorem dX11_spreadChances_6 : decode cX11_spreadChances 6 = .ok (.istore_n 3, 1) := by decide +kernel
theorem dX11_spreadChances_7 : decode cX11_spreadChances 7 = .ok (.iload_n 3, 1) := by decide +kernel
theorem dX11_spreadChances_8 : decode cX11_spreadChances 8 = .ok (.ifCond .lt 50, 3) := by decide +kernel
theorem dX11_spreadChances_11 : decode cX11_spreadChances 11 = .ok (.iload_n 3, 1) := by decide +kernel
theorem dX11_spreadChances_12 : decode cX11_spreadChances 12 = .ok (.ifCond .le 14, 3) := by decide +kernel
theorem dX11_spreadChances_15 : decode cX11_spreadChances 15 = .ok (.aload_n 0, 1) := by decide +kernel
theorem dX11_spreadChances_16 : decode cX11_spreadChances 16 = .ok (.getfield 84, 3) := by decide +kernel
theorem dX11_spreadChances_19 : decode cX11_spreadChances 19 = .ok (.iload_n 3, 1) := by decide +kernel
theorem dX11_spreadChances_20 : decode cX11_spreadChances 20 = .ok (.iconst 1, 1) := by decide +kernel
theorem dX11_spreadChances_21 : decode cX11_spreadChances 21 = .ok (.isub, 1) := by decide +kernel
theorem dX11_spreadChances_22 : decode cX11_spreadChances 22 = .ok (.laload, 1) := by decide +kernel
theorem dX11_spreadChances_23 : decode cX11_spreadChances 23 = .ok (.goto 4, 3) := by decide +kernel
theorem dX11_spreadChances_26 : decode cX11_spreadChances 26 = .ok (.lconst 0, 1) := by decide +kernel
theorem dX11_spreadChances_27 : decode cX11_spreadChances 27 = .ok (.lstore 4, 2) := by decide +kernel
theorem dX11_spreadChances_29 : decode cX11_spreadChances 29 = .ok (.aload_n 0, 1) := by decide +kernel
theorem dX11_spreadChances_30 : decode cX11_spreadChances 30 = .ok (.getfield 84, 3) := by decide +kernel
theorem dX11_spreadChances_33 : decode cX11_spreadChances 33 = .ok (.iload_n 3, 1) := by decide +kernel
theorem dX11_spreadChances_34 : decode cX11_spreadChances 34 = .ok (.aload_n 0, 1) := by decide +kernel
theorem dX11_spreadChances_35 : decode cX11_spreadChances 35 = .ok (.getfield 84, 3) := by decide +kernel
theorem dX11_spreadChances_38 : decode cX11_spreadChances 38 = .ok (.iload_n 3, 1) := by decide +kernel
theorem dX11_spreadChances_39 : decode cX11_spreadChances 39 = .ok (.laload, 1) := by decide +kernel
theorem dX11_spreadChances_40 : decode cX11_spreadChances 40 = .ok (.iload_n 2, 1) := by decide +kernel
theorem dX11_spreadChances_41 : decode cX11_spreadChances 41 = .ok (.iconst 1, 1) := by decide +kernel
theorem dX11_spreadChances_42 : decode cX11_spreadChances 42 = .ok (.isub, 1) := by decide +kernel
theorem dX11_spreadChances_43 : decode cX11_spreadChances 43 = .ok (.i2l, 1) := by decide +kernel
theorem dX11_spreadChances_44 : decode cX11_spreadChances 44 = .ok (.lmul, 1) := by decide +kernel
theorem dX11_spreadChances_45 : decode cX11_spreadChances 45 = .ok (.lload 4, 2) := by decide +kernel
theorem dX11_spreadChances_47 : decode cX11_spreadChances 47 = .ok (.ladd, 1) := by decide +kernel
theorem dX11_spreadChances_48 : decode cX11_spreadChances 48 = .ok (.iload_n 2, 1) := by decide +kernel
theorem dX11_spreadChances_49 : decode cX11_spreadChances 49 = .ok (.i2l, 1) := by decide +kernel
theorem dX11_spreadChances_50 : decode cX11_spreadChances 50 = .ok (.ldiv, 1) := by decide +kernel
theorem dX11_spreadChances_51 : decode cX11_spreadChances 51 = .ok (.lastore, 1) := by decide +kernel
theorem dX11_spreadChances_52 : decode cX11_spreadChances 52 = .ok (.iinc 3 (-1), 3) := by decide +kernel
theorem dX11_spreadChances_55 : decode cX11_spreadChances 55 = .ok (.goto (-48), 3) := by decide +kernel
theorem dX11_spreadChances_58 : decode cX11_spreadChances 58 = .ok (.return_, 1) := by decide +kernel
set_option maxRecDepth 100000 in
theorem tj_X11_spreadChances_27 {g : GT} {n nf : Int} (hu : Up true nf n) (a2 : Int) (w7 : Mem → Int → Res) (hw7 : ∀ (M : Mem) (x3 : Int), AW g true RX11 cX11_spreadChances 6 none (1) n n nf 7 [(0, 2, 1), (2, 0, a2), (3, 0, x3)] [] n M (w7 M x3)) (M : Mem) (x3 s0 : Int) : AW g true RX11 cX11_spreadChances 6 none (1) n n nf 27 [(0, 2, 1), (2, 0, a2), (3, 0, x3)] [(1, s0)] n M (j_X11_spreadChances_27 a2 w7 M x3 s0) := by
  unfold j_X11_spreadChances_27
  refine r_lstore dX11_spreadChances_27 (by decide) (ls' := [(4, 1, s0), (0, 2, 1), (2, 0, a2), (3, 0, x3)]) rfl ?_
  refine r_aload_n 1 dX11_spreadChances_29 rfl rfl ?_
  refine r_gx (kz := 16) rfl hu dX11_spreadChances_30 kF_X11_84 kd_1 rfl rfl rfl fx_1_16 ?_
  refine r_iload_n 3 dX11_spreadChances_33 rfl rfl ?_
  refine r_aload_n 1 dX11_spreadChances_34 rfl rfl ?_
  refine r_gx (kz := 16) rfl hu dX11_spreadChances_35 kF_X11_84 kd_1 rfl rfl rfl fx_1_16 ?_
  refine r_iload_n 3 dX11_spreadChances_38 rfl rfl ?_
  refine r_ok (fun h7 => ?_)
  refine r_lald hu dX11_spreadChances_39 kd_203 rfl rfl rfl ln_203 h7 ?_
  refine r_iload_n 2 dX11_spreadChances_40 rfl rfl ?_
  refine r_iconst dX11_spreadChances_41 ⟨by decide, by decide⟩ ?_
  refine r_ok (fun h8 => ?_)
  refine r_isub dX11_spreadChances_42 h8 ?_
  refine r_i2l dX11_spreadChances_43 ?_
  refine r_ok (fun h9 => ?_)
  refine r_lmul dX11_spreadChances_44 h9 ?_
  refine r_lload 0 dX11_spreadChances_45 rfl ?_
  refine r_ok (fun h10 => ?_)
  refine r_ladd dX11_spreadChances_47 h10 ?_
  refine r_iload_n 2 dX11_spreadChances_48 rfl rfl ?_
  refine r_i2l dX11_spreadChances_49 ?_
  refine r_ok (fun h11 => ?_)
  refine r_ldivP dX11_spreadChances_50 h11 ?_
  refine r_last hu dX11_spreadChances_51 kd_203 rfl rfl rfl ln_203 h7 rfl (fun M12 eM12 => ?_)
  refine r_iincB 3 dX11_spreadChances_52 rfl ⟨by have := h7; omega, by have := h7; omega⟩ (by decide) (lf := fun y13 => [(3, 0, y13), (4, 1, s0), (0, 2, 1), (2, 0, a2)]) (fun _ => rfl) (fun y13 ey13 => ?_)
  refine r_goto (tgt := 7) dX11_spreadChances_55 rfl ?_
  refine r_sub [2, 3, 0] (ls' := [(0, 2, 1), (2, 0, a2), (3, 0, y13)]) rfl ?_
  exact hw7 M12 y13
set_option maxRecDepth 100000 in
theorem tb_X11_spreadChances_7 {g : GT} {n nf : Int} (hu : Up true nf n) (a2 : Int) (w7 : Mem → Int → Res) (hw7 : ∀ (M : Mem) (x3 : Int), AW g true RX11 cX11_spreadChances 6 none (1) n n nf 7 [(0, 2, 1), (2, 0, a2), (3, 0, x3)] [] n M (w7 M x3)) (M : Mem) (x3 : Int) : AW g true RX11 cX11_spreadChances 6 none (1) n n nf 7 [(0, 2, 1), (2, 0, a2), (3, 0, x3)] [] n M (b_X11_spreadChances_7 a2 w7 M x3) := by
  unfold b_X11_spreadChances_7
  refine r_iload_n 2 dX11_spreadChances_7 rfl rfl ?_
  refine r_if_lt (tgt := 58) dX11_spreadChances_8 rfl (fun h3 => ?_) (fun h4 => ?_)
  · exact r_vret rfl rfl dX11_spreadChances_58
  · refine r_iload_n 2 dX11_spreadChances_11 rfl rfl ?_
    refine r_if_le (tgt := 26) dX11_spreadChances_12 rfl (fun h5 => ?_) (fun h6 => ?_)
    · refine r_lconst (v := 0) dX11_spreadChances_26 (by decide) ⟨by decide, by decide⟩ ?_
      exact tj_X11_spreadChances_27 hu a2 w7 hw7 M x3 0
    · refine r_aload_n 0 dX11_spreadChances_15 rfl rfl ?_
      refine r_gx (kz := 16) rfl hu dX11_spreadChances_16 kF_X11_84 kd_1 rfl rfl rfl fx_1_16 ?_
      refine r_iload_n 2 dX11_spreadChances_19 rfl rfl ?_
      refine r_iconst dX11_spreadChances_20 ⟨by decide, by decide⟩ ?_
      refine r_ok (fun h14 => ?_)
      refine r_isub dX11_spreadChances_21 h14 ?_
      refine r_ok (fun h15 => ?_)
      refine r_lald hu dX11_spreadChances_22 kd_203 rfl rfl rfl ln_203 h15 ?_
      refine r_goto (tgt := 27) dX11_spreadChances_23 rfl ?_
      exact tj_X11_spreadChances_27 hu a2 w7 hw7 M x3 (M 203 (x3 - 1))
set_option maxRecDepth 100000 in
theorem m_X11_spreadChances {g : GT} {n nf : Int} (hu : Up true nf n) (M : Mem) (a1 a2 : Int) : AM g true yX11_spreadChances cX11_spreadChances 6 none (1) n n nf [(2, 1), (0, a1), (0, a2)] M (f_X11_spreadChances M a1 a2) := by
  refine AM_of (by decide +kernel) (Nat.le_of_ble_eq_true rfl) (fun h => absurd h (Int.lt_irrefl n)) ?_
  show AW g true RX11 cX11_spreadChances 6 none (1) n n nf 0 [(0, 2, 1), (1, 0, a1), (2, 0, a2)] [] n M (f_X11_spreadChances M a1 a2)
  unfold f_X11_spreadChances
  refine r_iload_n 1 dX11_spreadChances_0 rfl rfl ?_
  refine r_bipush dX11_spreadChances_1 (by decide) ⟨by decide, by decide⟩ ?_
  refine r_ins (a := 0) ⟨Nat.le_refl _, Nat.le_refl _⟩ dX11_spreadChances_3 kM_X11_384 (by decide) (by decide) [(0, a1), (0, 40)] rfl (sk := []) rfl (Nat.le_of_ble_eq_true rfl) rfl rfl (m_J9_min_7cf53 hu M a1 40) (fun r1 M2 => ?_)
  refine r_istore_n dX11_spreadChances_6 rfl (by decide) (ls' := [(3, 0, r1), (0, 2, 1), (1, 0, a1), (2, 0, a2)]) rfl ?_
  refine r_sub [1, 3, 0] (ls' := [(0, 2, 1), (2, 0, a2), (3, 0, r1)]) rfl ?_
  exact wl1_aw (P := fun M x3 o => AW g true RX11 cX11_spreadChances 6 none (1) n n nf 7 [(0, 2, 1), (2, 0, a2), (3, 0, x3)] [] n M (o)) (fun M x3 => aw_none) (fun w hw M x3 => tb_X11_spreadChances_7 hu a2 w hw M x3) FU M2 r1
theorem dX11_chanceOf_0 : decode cX11_chanceOf 0 = .ok (.iconst 0, 1) := by decide +kernel
theorem dX11_chanceOf_1 : decode cX11_chanceOf 1 = .ok (.istore_n 3, 1) := by decide +kernel
theorem dX11_chanceOf_2 : decode cX11_chanceOf 2 = .ok (.iload_n 3, 1) := by decide +kernel
theorem dX11_chanceOf_3 : decode cX11_chanceOf 3 = .ok (.aload_n 0, 1) := by decide +kernel
theorem dX11_chanceOf_4 : decode cX11_chanceOf 4 = .ok (.getfield 84, 3) := by decide +kernel
theorem dX11_chanceOf_7 : decode cX11_chanceOf 7 = .ok (.arraylength, 1) := by decide +kernel
theorem dX11_chanceOf_8 : decode cX11_chanceOf 8 = .ok (.if_icmp .ge 26, 3) := by decide +kernel
theorem dX11_chanceOf_11 : decode cX11_chanceOf 11 = .ok (.aload_n 0, 1) := by decide +kernel
theorem dX11_chanceOf_12 : decode cX11_chanceOf 12 = .ok (.getfield 84, 3) := by decide +kernel
theorem dX11_chanceOf_15 : decode cX11_chanceOf 15 = .ok (.iload_n 3, 1) := by decide +kernel
theorem dX11_chanceOf_16 : decode cX11_chanceOf 16 = .ok (.iload_n 3, 1) := by decide +kernel
theorem dX11_chanceOf_17 : decode cX11_chanceOf 17 = .ok (.ifCond .ne 9, 3) := by decide +kernel
theorem dX11_chanceOf_20 : decode cX11_chanceOf 20 = .ok (.ldc2_w 367, 3) := by decide +kernel
theorem dX11_chanceOf_23 : decode cX11_chanceOf 23 = .ok (.goto 4, 3) := by decide +kernel
theorem dX11_chanceOf_26 : decode cX11_chanceOf 26 = .ok (.lconst 0, 1) := by decide +kernel
theorem dX11_chanceOf_27 : decode cX11_chanceOf 27 = .ok (.lastore, 1) := by decide +kernel
theorem dX11_chanceOf_28 : decode cX11_chanceOf 28 = .ok (.iinc 3 1, 3) := by decide +kernel
theorem dX11_chanceOf_31 : decode cX11_chanceOf 31 = .ok (.goto (-29), 3) := by decide +kernel
theorem dX11_chanceOf_34 : decode cX11_chanceOf 34 = .ok (.iconst 0, 1) := by decide +kernel
theorem dX11_chanceOf_35 : decode cX11_chanceOf 35 = .ok (.istore_n 3, 1) := by decide +kernel
theorem dX11_chanceOf_36 : decode cX11_chanceOf 36 = .ok (.iconst 0, 1) := by decide +kernel
theorem dX11_chanceOf_37 : decode cX11_chanceOf 37 = .ok (.istore 4, 2) := by decide +kernel
theorem dX11_chanceOf_39 : decode cX11_chanceOf 39 = .ok (.iconst 0, 1) := by decide +kernel
theorem dX11_chanceOf_40 : decode cX11_chanceOf 40 = .ok (.istore 5, 2) := by decide +kernel
theorem dX11_chanceOf_42 : decode cX11_chanceOf 42 = .ok (.iload 5, 2) := by decide +kernel
theorem dX11_chanceOf_44 : decode cX11_chanceOf 44 = .ok (.aload_n 0, 1) := by decide +kernel
theorem dX11_chanceOf_45 : decode cX11_chanceOf 45 = .ok (.getfield 42, 3) := by decide +kernel
theorem dX11_chanceOf_48 : decode cX11_chanceOf 48 = .ok (.getfield 107, 3) := by decide +kernel
theorem dX11_chanceOf_51 : decode cX11_chanceOf 51 = .ok (.if_icmp .ge 85, 3) := by decide +kernel
theorem dX11_chanceOf_54 : decode cX11_chanceOf 54 = .ok (.aload_n 0, 1) := by decide +kernel
theorem dX11_chanceOf_55 : decode cX11_chanceOf 55 = .ok (.getfield 42, 3) := by decide +kernel
theorem dX11_chanceOf_58 : decode cX11_chanceOf 58 = .ok (.getfield 350, 3) := by decide +kernel
theorem dX11_chanceOf_61 : decode cX11_chanceOf 61 = .ok (.iload 5, 2) := by decide +kernel
theorem dX11_chanceOf_63 : decode cX11_chanceOf 63 = .ok (.aaload, 1) := by decide +kernel
theorem dX11_chanceOf_64 : decode cX11_chanceOf 64 = .ok (.astore 6, 2) := by decide +kernel
theorem dX11_chanceOf_66 : decode cX11_chanceOf 66 = .ok (.aload 6, 2) := by decide +kernel
theorem dX11_chanceOf_68 : decode cX11_chanceOf 68 = .ok (.iload_n 1, 1) := by decide +kernel
theorem dX11_chanceOf_69 : decode cX11_chanceOf 69 = .ok (.invokevirtual 354, 3) := by decide +kernel
theorem dX11_chanceOf_72 : decode cX11_chanceOf 72 = .ok (.ifCond .eq 58, 3) := by decide +kernel
theorem dX11_chanceOf_75 : decode cX11_chanceOf 75 = .ok (.iload_n 2, 1) := by decide +kernel
theorem dX11_chanceOf_76 : decode cX11_chanceOf 76 = .ok (.ifCond .eq 19, 3) := by decide +kernel
theorem dX11_chanceOf_79 : decode cX11_chanceOf 79 = .ok (.aload 6, 2) := by decide +kernel
theorem dX11_chanceOf_81 : decode cX11_chanceOf 81 = .ok (.getfield 310, 3) := by decide +kernel
theorem dX11_chanceOf_84 : decode cX11_chanceOf 84 = .ok (.ifCond .ne 46, 3) := by decide +kernel
theorem dX11_chanceOf_87 : decode cX11_chanceOf 87 = .ok (.aload 6, 2) := by decide +kernel
theorem dX11_chanceOf_89 : decode cX11_chanceOf 89 = .ok (.invokevirtual 434, 3) := by decide +kernel
theorem dX11_chanceOf_92 : decode cX11_chanceOf 92 = .ok (.ifCond .ne 38, 3) := by decide +kernel
theorem dX11_chanceOf_95 : decode cX11_chanceOf 95 = .ok (.iinc 3 1, 3) := by decide +kernel
theorem dX11_chanceOf_98 : decode cX11_chanceOf 98 = .ok (.aload_n 0, 1) := by decide +kernel
theorem dX11_chanceOf_99 : decode cX11_chanceOf 99 = .ok (.iload_n 3, 1) := by decide +kernel
theorem dX11_chanceOf_100 : decode cX11_chanceOf 100 = .ok (.aload_n 0, 1) := by decide +kernel
theorem dX11_chanceOf_101 : decode cX11_chanceOf 101 = .ok (.aload 6, 2) := by decide +kernel
theorem dX11_chanceOf_103 : decode cX11_chanceOf 103 = .ok (.getfield 326, 3) := by decide +kernel
theorem dX11_chanceOf_106 : decode cX11_chanceOf 106 = .ok (.invokevirtual 254, 3) := by decide +kernel
theorem dX11_chanceOf_109 : decode cX11_chanceOf 109 = .ok (.invokevirtual 437, 3) := by decide +kernel
theorem dX11_chanceOf_112 : decode cX11_chanceOf 112 = .ok (.iload 4, 2) := by decide +kernel
theorem dX11_chanceOf_114 : decode cX11_chanceOf 114 = .ok (.aload 6, 2) := by decide +kernel
theorem dX11_chanceOf_116 : decode cX11_chanceOf 116 = .ok (.invokevirtual 343, 3) := by decide +kernel
theorem dX11_chanceOf_119 : decode cX11_chanceOf 119 = .ok (.ifCond .eq 7, 3) := by decide +kernel
theorem dX11_chanceOf_122 : decode cX11_chanceOf 122 = .ok (.iconst 1, 1) := by decide +kernel
theorem dX11_chanceOf_123 : decode cX11_chanceOf 123 = .ok (.goto 4, 3) := by decide +kernel
theorem dX11_chanceOf_126 : decode cX11_chanceOf 126 = .ok (.iconst 0, 1) := by decide +kernel
theorem dX11_chanceOf_127 : decode cX11_chanceOf 127 = .ok (.iadd, 1) := by decide +kernel
theorem dX11_chanceOf_128 : decode cX11_chanceOf 128 = .ok (.istore 4, 2) := by decide +kernel
theorem dX11_chanceOf_130 : decode cX11_chanceOf 130 = .ok (.iinc 5 1, 3) := by decide +kernel
theorem dX11_chanceOf_133 : decode cX11_chanceOf 133 = .ok (.goto (-91), 3) := by decide +kernel
theorem dX11_chanceOf_136 : decode cX11_chanceOf 136 = .ok (.lconst 0, 1) := by decide +kernel
theorem dX11_chanceOf_137 : decode cX11_chanceOf 137 = .ok (.lstore 5, 2) := by decide +kernel
theorem dX11_chanceOf_139 : decode cX11_chanceOf 139 = .ok (.iload 4, 2) := by decide +kernel
theorem dX11_chanceOf_141 : decode cX11_chanceOf 141 = .ok (.istore 7, 2) := by decide +kernel
theorem dX11_chanceOf_143 : decode cX11_chanceOf 143 = .ok (.iload 7, 2) := by decide +kernel
theorem dX11_chanceOf_145 : decode cX11_chanceOf 145 = .ok (.aload_n 0, 1) := by decide +kernel
theorem dX11_chanceOf_146 : decode cX11_chanceOf 146 = .ok (.getfield 84, 3) := by decide +kernel
theorem dX11_chanceOf_149 : decode cX11_chanceOf 149 = .ok (.arraylength, 1) := by decide +kernel
theorem dX11_chanceOf_150 : decode cX11_chanceOf 150 = .ok (.if_icmp .ge 21, 3) := by decide +kernel
theorem dX11_chanceOf_153 : decode cX11_chanceOf 153 = .ok (.lload 5, 2) := by decide +kernel
theorem dX11_chanceOf_155 : decode cX11_chanceOf 155 = .ok (.aload_n 0, 1) := by decide +kernel
theorem dX11_chanceOf_156 : decode cX11_chanceOf 156 = .ok (.getfield 84, 3) := by decide +kernel
theorem dX11_chanceOf_159 : decode cX11_chanceOf 159 = .ok (.iload 7, 2) := by decide +kernel
theorem dX11_chanceOf_161 : decode cX11_chanceOf 161 = .ok (.laload, 1) := by decide +kernel
theorem dX11_chanceOf_162 : decode cX11_chanceOf 162 = .ok (.ladd, 1) := by decide +kernel
theorem dX11_chanceOf_163 : decode cX11_chanceOf 163 = .ok (.lstore 5, 2) := by decide +kernel
theorem dX11_chanceOf_165 : decode cX11_chanceOf 165 = .ok (.iinc 7 1, 3) := by decide +kernel
theorem dX11_chanceOf_168 : decode cX11_chanceOf 168 = .ok (.goto (-25), 3) := by decide +kernel
theorem dX11_chanceOf_171 : decode cX11_chanceOf 171 = .ok (.lload 5, 2) := by decide +kernel
theorem dX11_chanceOf_173 : decode cX11_chanceOf 173 = .ok (.lreturn, 1) := by decide +kernel
set_option maxRecDepth 100000 in
theorem tb_X11_chanceOf_143 {g : GT} {n nf : Int} (hu : Up true nf n) (w143 : Mem → Int → Int → Res) (hw143 : ∀ (M : Mem) (x5 x7 : Int), AW g true RX11 cX11_chanceOf 8 (some .long) (2) n n nf 143 [(0, 2, 1), (5, 1, x5), (7, 0, x7)] [] n M (w143 M x5 x7)) (M : Mem) (x5 x7 : Int) : AW g true RX11 cX11_chanceOf 8 (some .long) (2) n n nf 143 [(0, 2, 1), (5, 1, x5), (7, 0, x7)] [] n M (b_X11_chanceOf_143 w143 M x5 x7) := by
  unfold b_X11_chanceOf_143
  refine r_iload 2 dX11_chanceOf_143 rfl ?_
  refine r_aload_n 0 dX11_chanceOf_145 rfl rfl ?_
  refine r_gx (kz := 16) rfl hu dX11_chanceOf_146 kF_X11_84 kd_1 rfl rfl rfl fx_1_16 ?_
  refine r_alen hu dX11_chanceOf_149 kd_203 rfl (Or.inr (Or.inl rfl)) rfl ln_203 ⟨by decide, by decide⟩ ?_
  refine r_icmp_ge (tgt := 171) dX11_chanceOf_150 rfl (fun h5 => ?_) (fun h6 => ?_)
  · refine r_lload 1 dX11_chanceOf_171 rfl ?_
    exact r_lret rfl rfl dX11_chanceOf_173
  · refine r_lload 1 dX11_chanceOf_153 rfl ?_
    refine r_aload_n 0 dX11_chanceOf_155 rfl rfl ?_
    refine r_gx (kz := 16) rfl hu dX11_chanceOf_156 kF_X11_84 kd_1 rfl rfl rfl fx_1_16 ?_
    refine r_iload 2 dX11_chanceOf_159 rfl ?_
    refine r_ok (fun h7 => ?_)
    refine r_lald hu dX11_chanceOf_161 kd_203 rfl rfl rfl ln_203 h7 ?_
    refine r_ok (fun h8 => ?_)
    refine r_ladd dX11_chanceOf_162 h8 ?_
    refine r_lstoreB dX11_chanceOf_163 (by decide) (lf := fun y9 => [(5, 1, y9), (0, 2, 1), (7, 0, x7)]) (fun _ => rfl) (fun y9 ey9 => ?_)
    refine r_iincB 2 dX11_chanceOf_165 rfl ⟨by have := h7; omega, by have := h7; omega⟩ (by decide) (lf := fun y10 => [(7, 0, y10), (5, 1, y9), (0, 2, 1)]) (fun _ => rfl) (fun y10 ey10 => ?_)
    refine r_goto (tgt := 143) dX11_chanceOf_168 rfl ?_
    refine r_sub [2, 1, 0] (ls' := [(0, 2, 1), (5, 1, y9), (7, 0, y10)]) rfl ?_
    exact hw143 M y9 y10
set_option maxRecDepth 100000 in
theorem tj_X11_chanceOf_95 {g : GT} {n nf : Int} (hu : Up true nf n) (a1 a2 : Int) (w42 : Mem → Int → Int → Int → Res) (hw42 : ∀ (M : Mem) (x3 x4 x5 : Int), AW g true RX11 cX11_chanceOf 8 (some .long) (2) n n nf 42 [(0, 2, 1), (1, 0, a1), (2, 0, a2), (3, 0, x3), (4, 0, x4), (5, 0, x5)] [] n M (w42 M x3 x4 x5)) (M : Mem) (x3 x4 x5 x6 : Int) : AW g true RX11 cX11_chanceOf 8 (some .long) (2) n n nf 95 [(0, 2, 1), (1, 0, a1), (2, 0, a2), (3, 0, x3), (4, 0, x4), (5, 0, x5), (6, 2, x6)] [] n M (j_X11_chanceOf_95 a1 a2 w42 M x3 x4 x5 x6) := by
  unfold j_X11_chanceOf_95
  refine r_ok (fun h19 => ?_)
  refine r_iincB 3 dX11_chanceOf_95 rfl h19 (by decide) (lf := fun y20 => [(3, 0, y20), (0, 2, 1), (1, 0, a1), (2, 0, a2), (4, 0, x4), (5, 0, x5), (6, 2, x6)]) (fun _ => rfl) (fun y20 ey20 => ?_)
  refine r_aload_n 1 dX11_chanceOf_98 rfl rfl ?_
  refine r_iload_n 0 dX11_chanceOf_99 rfl rfl ?_
  refine r_aload_n 1 dX11_chanceOf_100 rfl rfl ?_
  refine r_aload 6 dX11_chanceOf_101 rfl ?_
  refine r_ok (fun h21 => ?_)
  refine r_gf (t := 0) (kz := 0) rfl hu dX11_chanceOf_103 kF_X11_326 h21 rfl rfl rfl ?_
  refine r_inv (a := 1) hu ⟨Nat.le_refl _, Nat.le_refl _⟩ dX11_chanceOf_106 kM_X11_254 (ci := 11) rfl kd_1 rfl rfl (by decide) (by decide) [(0, M x6 0)] rfl (sk := [(0, y20), (2, 1)]) rfl (Nat.le_of_ble_eq_true rfl) rfl rfl (m_X11_sortsOf hu M (M x6 0)) (fun r22 M23 => ?_)
  refine r_invv (a := 1) hu ⟨Nat.le_refl _, Nat.le_refl _⟩ dX11_chanceOf_109 kM_X11_437 (ci := 11) rfl kd_1 rfl rfl (by decide) (by decide) [(0, y20), (0, r22)] rfl (sk := []) rfl (Nat.le_of_ble_eq_true rfl) rfl (m_X11_spreadChances hu M23 y20 r22) (fun r24 M25 => ?_)
  refine r_iload 4 dX11_chanceOf_112 rfl ?_
  refine r_aload 6 dX11_chanceOf_114 rfl ?_
  refine r_inv (a := x6) hu ⟨Nat.le_refl _, Nat.le_refl _⟩ dX11_chanceOf_116 kM_X11_343 (ci := 10) rfl h21 rfl rfl (by decide) (by decide) [] rfl (sk := [(0, x4)]) rfl (Nat.le_of_ble_eq_true rfl) rfl rfl (m_X10_isRight hu M25 x6 h21) (fun r26 M27 => ?_)
  refine r_if_eq (tgt := 126) dX11_chanceOf_119 rfl (fun h28 => ?_) (fun h29 => ?_)
  · refine r_iconst dX11_chanceOf_126 ⟨by decide, by decide⟩ ?_
    refine r_ok (fun h30 => ?_)
    refine r_iadd dX11_chanceOf_127 h30 ?_
    refine r_istoreB dX11_chanceOf_128 (by decide) (lf := fun y31 => [(4, 0, y31), (3, 0, y20), (0, 2, 1), (1, 0, a1), (2, 0, a2), (5, 0, x5), (6, 2, x6)]) (fun _ => rfl) (fun y31 ey31 => ?_)
    refine r_ok (fun h32 => ?_)
    refine r_iincB 5 dX11_chanceOf_130 rfl h32 (by decide) (lf := fun y33 => [(5, 0, y33), (4, 0, y31), (3, 0, y20), (0, 2, 1), (1, 0, a1), (2, 0, a2), (6, 2, x6)]) (fun _ => rfl) (fun y33 ey33 => ?_)
    refine r_goto (tgt := 42) dX11_chanceOf_133 rfl ?_
    refine r_sub [3, 4, 5, 2, 1, 0] (ls' := [(0, 2, 1), (1, 0, a1), (2, 0, a2), (3, 0, y20), (4, 0, y31), (5, 0, y33)]) rfl ?_
    exact hw42 M27 y20 y31 y33
  · refine r_iconst dX11_chanceOf_122 ⟨by decide, by decide⟩ ?_
    refine r_goto (tgt := 127) dX11_chanceOf_123 rfl ?_
    refine r_ok (fun h34 => ?_)
    refine r_iadd dX11_chanceOf_127 h34 ?_
    refine r_istoreB dX11_chanceOf_128 (by decide) (lf := fun y35 => [(4, 0, y35), (3, 0, y20), (0, 2, 1), (1, 0, a1), (2, 0, a2), (5, 0, x5), (6, 2, x6)]) (fun _ => rfl) (fun y35 ey35 => ?_)
    refine r_ok (fun h36 => ?_)
    refine r_iincB 5 dX11_chanceOf_130 rfl h36 (by decide) (lf := fun y37 => [(5, 0, y37), (4, 0, y35), (3, 0, y20), (0, 2, 1), (1, 0, a1), (2, 0, a2), (6, 2, x6)]) (fun _ => rfl) (fun y37 ey37 => ?_)
    refine r_goto (tgt := 42) dX11_chanceOf_133 rfl ?_
    refine r_sub [3, 4, 5, 2, 1, 0] (ls' := [(0, 2, 1), (1, 0, a1), (2, 0, a2), (3, 0, y20), (4, 0, y35), (5, 0, y37)]) rfl ?_
    exact hw42 M27 y20 y35 y37
set_option maxRecDepth 100000 in
theorem tb_X11_chanceOf_42 {g : GT} {n nf : Int} (hu : Up true nf n) (a1 a2 : Int) (w42 : Mem → Int → Int → Int → Res) (hw42 : ∀ (M : Mem) (x3 x4 x5 : Int), AW g true RX11 cX11_chanceOf 8 (some .long) (2) n n nf 42 [(0, 2, 1), (1, 0, a1), (2, 0, a2), (3, 0, x3), (4, 0, x4), (5, 0, x5)] [] n M (w42 M x3 x4 x5)) (M : Mem) (x3 x4 x5 : Int) : AW g true RX11 cX11_chanceOf 8 (some .long) (2) n n nf 42 [(0, 2, 1), (1, 0, a1), (2, 0, a2), (3, 0, x3), (4, 0, x4), (5, 0, x5)] [] n M (b_X11_chanceOf_42 a1 a2 w42 M x3 x4 x5) := by
  unfold b_X11_chanceOf_42
  refine r_iload 5 dX11_chanceOf_42 rfl ?_
  refine r_aload_n 0 dX11_chanceOf_44 rfl rfl ?_
  refine r_gx (kz := 4) rfl hu dX11_chanceOf_45 kF_X11_42 kd_1 rfl rfl rfl fx_1_4 ?_
  refine r_gf (t := 0) (kz := 1) rfl hu dX11_chanceOf_48 kF_X11_107 kd_21 rfl rfl rfl ?_
  refine r_icmp_ge (tgt := 136) dX11_chanceOf_51 rfl (fun h3 => ?_) (fun h4 => ?_)
  · refine r_lconst (v := 0) dX11_chanceOf_136 (by decide) ⟨by decide, by decide⟩ ?_
    refine r_lstore dX11_chanceOf_137 (by decide) (ls' := [(5, 1, 0), (0, 2, 1), (1, 0, a1), (2, 0, a2), (3, 0, x3), (4, 0, x4)]) rfl ?_
    refine r_iload 5 dX11_chanceOf_139 rfl ?_
    refine r_istore dX11_chanceOf_141 (by decide) (ls' := [(7, 0, x4), (5, 1, 0), (0, 2, 1), (1, 0, a1), (2, 0, a2), (3, 0, x3), (4, 0, x4)]) rfl ?_
    refine r_sub [2, 1, 0] (ls' := [(0, 2, 1), (5, 1, 0), (7, 0, x4)]) rfl ?_
    exact wl2_aw (P := fun M x5 x7 o => AW g true RX11 cX11_chanceOf 8 (some .long) (2) n n nf 143 [(0, 2, 1), (5, 1, x5), (7, 0, x7)] [] n M (o)) (fun M x5 x7 => aw_none) (fun w hw M x5 x7 => tb_X11_chanceOf_143 hu w hw M x5 x7) FU M 0 x4
  · refine r_aload_n 0 dX11_chanceOf_54 rfl rfl ?_
    refine r_gx (kz := 4) rfl hu dX11_chanceOf_55 kF_X11_42 kd_1 rfl rfl rfl fx_1_4 ?_
    refine r_gx (kz := 0) rfl hu dX11_chanceOf_58 kF_X11_350 kd_21 rfl rfl rfl fx_21_0 ?_
    refine r_iload 5 dX11_chanceOf_61 rfl ?_
    refine r_ok (fun h11 => ?_)
    refine r_aalx hu dX11_chanceOf_63 kd_22 (Or.inr (Or.inr rfl)) rfl ln_22 h11 (fxTr _ h11) ?_
    refine r_astore dX11_chanceOf_64 (by decide) (ls' := [(6, 2, 23 + x5), (0, 2, 1), (1, 0, a1), (2, 0, a2), (3, 0, x3), (4, 0, x4), (5, 0, x5)]) rfl ?_
    refine r_aload 0 dX11_chanceOf_66 rfl ?_
    refine r_iload_n 2 dX11_chanceOf_68 rfl rfl ?_
    refine r_inv (a := 23 + x5) hu ⟨Nat.le_refl _, Nat.le_refl _⟩ dX11_chanceOf_69 kM_X11_354 (ci := 10) rfl (kdTr _ h11) rfl rfl (by decide) (by decide) [(0, a1)] rfl (sk := []) rfl (Nat.le_of_ble_eq_true rfl) rfl rfl (m_X10_isOf hu M (23 + x5) a1 (kdTr _ h11)) (fun r12 M13 => ?_)
    refine r_if_eq (tgt := 130) dX11_chanceOf_72 rfl (fun h14 => ?_) (fun h15 => ?_)
    · refine r_iincB 6 dX11_chanceOf_130 rfl ⟨by have := h11; omega, by have := h11; omega⟩ (by decide) (lf := fun y16 => [(5, 0, y16), (6, 2, 23 + x5), (0, 2, 1), (1, 0, a1), (2, 0, a2), (3, 0, x3), (4, 0, x4)]) (fun _ => rfl) (fun y16 ey16 => ?_)
      refine r_goto (tgt := 42) dX11_chanceOf_133 rfl ?_
      refine r_sub [2, 3, 4, 5, 6, 0] (ls' := [(0, 2, 1), (1, 0, a1), (2, 0, a2), (3, 0, x3), (4, 0, x4), (5, 0, y16)]) rfl ?_
      exact hw42 M13 x3 x4 y16
    · refine r_iload_n 3 dX11_chanceOf_75 rfl rfl ?_
      refine r_if_eq (tgt := 95) dX11_chanceOf_76 rfl (fun h17 => ?_) (fun h18 => ?_)
      · refine r_sub [1, 2, 3, 4, 5, 6, 0] (ls' := [(0, 2, 1), (1, 0, a1), (2, 0, a2), (3, 0, x3), (4, 0, x4), (5, 0, x5), (6, 2, 23 + x5)]) rfl ?_
        exact tj_X11_chanceOf_95 hu a1 a2 w42 hw42 M13 x3 x4 x5 (23 + x5)
      · refine r_aload 0 dX11_chanceOf_79 rfl ?_
        refine r_gf (t := 0) (kz := 7) rfl hu dX11_chanceOf_81 kF_X11_310 (kdTr _ h11) rfl rfl rfl ?_
        refine r_if_ne (tgt := 130) dX11_chanceOf_84 rfl (fun h38 => ?_) (fun h39 => ?_)
        · refine r_aload 0 dX11_chanceOf_87 rfl ?_
          refine r_inv (a := 23 + x5) hu ⟨Nat.le_refl _, Nat.le_refl _⟩ dX11_chanceOf_89 kM_X11_434 (ci := 10) rfl (kdTr _ h11) rfl rfl (by decide) (by decide) [] rfl (sk := []) rfl (Nat.le_of_ble_eq_true rfl) rfl rfl (m_X10_isLed hu M13 (23 + x5) (kdTr _ h11)) (fun r40 M41 => ?_)
          refine r_if_ne (tgt := 130) dX11_chanceOf_92 rfl (fun h42 => ?_) (fun h43 => ?_)
          · refine r_sub [1, 2, 3, 4, 5, 6, 0] (ls' := [(0, 2, 1), (1, 0, a1), (2, 0, a2), (3, 0, x3), (4, 0, x4), (5, 0, x5), (6, 2, 23 + x5)]) rfl ?_
            exact tj_X11_chanceOf_95 hu a1 a2 w42 hw42 M41 x3 x4 x5 (23 + x5)
          · refine r_iincB 6 dX11_chanceOf_130 rfl ⟨by have := h11; omega, by have := h11; omega⟩ (by decide) (lf := fun y44 => [(5, 0, y44), (6, 2, 23 + x5), (0, 2, 1), (1, 0, a1), (2, 0, a2), (3, 0, x3), (4, 0, x4)]) (fun _ => rfl) (fun y44 ey44 => ?_)
            refine r_goto (tgt := 42) dX11_chanceOf_133 rfl ?_
            refine r_sub [2, 3, 4, 5, 6, 0] (ls' := [(0, 2, 1), (1, 0, a1), (2, 0, a2), (3, 0, x3), (4, 0, x4), (5, 0, y44)]) rfl ?_
            exact hw42 M41 x3 x4 y44
        · refine r_iincB 6 dX11_chanceOf_130 rfl ⟨by have := h11; omega, by have := h11; omega⟩ (by decide) (lf := fun y45 => [(5, 0, y45), (6, 2, 23 + x5), (0, 2, 1), (1, 0, a1), (2, 0, a2), (3, 0, x3), (4, 0, x4)]) (fun _ => rfl) (fun y45 ey45 => ?_)
          refine r_goto (tgt := 42) dX11_chanceOf_133 rfl ?_
          refine r_sub [2, 3, 4, 5, 6, 0] (ls' := [(0, 2, 1), (1, 0, a1), (2, 0, a2), (3, 0, x3), (4, 0, x4), (5, 0, y45)]) rfl ?_
          exact hw42 M13 x3 x4 y45
set_option maxRecDepth 100000 in
theorem tb_X11_chanceOf_2 {g : GT} {n nf : Int} (hu : Up true nf n) (a1 a2 : Int) (w2 : Mem → Int → Res) (hw2 : ∀ (M : Mem) (x3 : Int), AW g true RX11 cX11_chanceOf 8 (some .long) (2) n n nf 2 [(0, 2, 1), (1, 0, a1), (2, 0, a2), (3, 0, x3)] [] n M (w2 M x3)) (M : Mem) (x3 : Int) : AW g true RX11 cX11_chanceOf 8 (some .long) (2) n n nf 2 [(0, 2, 1), (1, 0, a1), (2, 0, a2), (3, 0, x3)] [] n M (b_X11_chanceOf_2 a1 a2 w2 M x3) := by
  unfold b_X11_chanceOf_2
  refine r_iload_n 3 dX11_chanceOf_2 rfl rfl ?_
  refine r_aload_n 0 dX11_chanceOf_3 rfl rfl ?_
  refine r_gx (kz := 16) rfl hu dX11_chanceOf_4 kF_X11_84 kd_1 rfl rfl rfl fx_1_16 ?_
  refine r_alen hu dX11_chanceOf_7 kd_203 rfl (Or.inr (Or.inl rfl)) rfl ln_203 ⟨by decide, by decide⟩ ?_
  refine r_icmp_ge (tgt := 34) dX11_chanceOf_8 rfl (fun h1 => ?_) (fun h2 => ?_)
  · refine r_iconst dX11_chanceOf_34 ⟨by decide, by decide⟩ ?_
    refine r_istore_n dX11_chanceOf_35 rfl (by decide) (ls' := [(3, 0, 0), (0, 2, 1), (1, 0, a1), (2, 0, a2)]) rfl ?_
    refine r_iconst dX11_chanceOf_36 ⟨by decide, by decide⟩ ?_
    refine r_istore dX11_chanceOf_37 (by decide) (ls' := [(4, 0, 0), (3, 0, 0), (0, 2, 1), (1, 0, a1), (2, 0, a2)]) rfl ?_
    refine r_iconst dX11_chanceOf_39 ⟨by decide, by decide⟩ ?_
    refine r_istore dX11_chanceOf_40 (by decide) (ls' := [(5, 0, 0), (4, 0, 0), (3, 0, 0), (0, 2, 1), (1, 0, a1), (2, 0, a2)]) rfl ?_
    refine r_sub [3, 4, 5, 2, 1, 0] (ls' := [(0, 2, 1), (1, 0, a1), (2, 0, a2), (3, 0, 0), (4, 0, 0), (5, 0, 0)]) rfl ?_
    exact wl3_aw (P := fun M x3 x4 x5 o => AW g true RX11 cX11_chanceOf 8 (some .long) (2) n n nf 42 [(0, 2, 1), (1, 0, a1), (2, 0, a2), (3, 0, x3), (4, 0, x4), (5, 0, x5)] [] n M (o)) (fun M x3 x4 x5 => aw_none) (fun w hw M x3 x4 x5 => tb_X11_chanceOf_42 hu a1 a2 w hw M x3 x4 x5) FU M 0 0 0
  · refine r_aload_n 0 dX11_chanceOf_11 rfl rfl ?_
    refine r_gx (kz := 16) rfl hu dX11_chanceOf_12 kF_X11_84 kd_1 rfl rfl rfl fx_1_16 ?_
    refine r_iload_n 3 dX11_chanceOf_15 rfl rfl ?_
    refine r_iload_n 3 dX11_chanceOf_16 rfl rfl ?_
    refine r_if_ne (tgt := 26) dX11_chanceOf_17 rfl (fun h46 => ?_) (fun h47 => ?_)
    · refine r_ldc2 (v := 1000000000000) dX11_chanceOf_20 kC_X11_367 rfl ⟨by decide, by decide⟩ ?_
      refine r_goto (tgt := 27) dX11_chanceOf_23 rfl ?_
      refine r_ok (fun h48 => ?_)
      refine r_last hu dX11_chanceOf_27 kd_203 rfl rfl rfl ln_203 h48 rfl (fun M49 eM49 => ?_)
      refine r_iincB 3 dX11_chanceOf_28 rfl ⟨by have := h48; omega, by have := h48; omega⟩ (by decide) (lf := fun y50 => [(3, 0, y50), (0, 2, 1), (1, 0, a1), (2, 0, a2)]) (fun _ => rfl) (fun y50 ey50 => ?_)
      refine r_goto (tgt := 2) dX11_chanceOf_31 rfl ?_
      refine r_sub [1, 2, 3, 0] (ls' := [(0, 2, 1), (1, 0, a1), (2, 0, a2), (3, 0, y50)]) rfl ?_
      exact hw2 M49 y50
    · refine r_lconst (v := 0) dX11_chanceOf_26 (by decide) ⟨by decide, by decide⟩ ?_
      refine r_ok (fun h51 => ?_)
      refine r_last hu dX11_chanceOf_27 kd_203 rfl rfl rfl ln_203 h51 rfl (fun M52 eM52 => ?_)
      refine r_iincB 3 dX11_chanceOf_28 rfl ⟨by have := h51; omega, by have := h51; omega⟩ (by decide) (lf := fun y53 => [(3, 0, y53), (0, 2, 1), (1, 0, a1), (2, 0, a2)]) (fun _ => rfl) (fun y53 ey53 => ?_)
      refine r_goto (tgt := 2) dX11_chanceOf_31 rfl ?_
      refine r_sub [1, 2, 3, 0] (ls' := [(0, 2, 1), (1, 0, a1), (2, 0, a2), (3, 0, y53)]) rfl ?_
      exact hw2 M52 y53
set_option maxRecDepth 100000 in
theorem m_X11_chanceOf {g : GT} {n nf : Int} (hu : Up true nf n) (M : Mem) (a1 a2 : Int) : AM g true yX11_chanceOf cX11_chanceOf 8 (some .long) (2) n n nf [(2, 1), (0, a1), (0, a2)] M (f_X11_chanceOf M a1 a2) := by
  refine AM_of (by decide +kernel) (Nat.le_of_ble_eq_true rfl) (fun h => absurd h (Int.lt_irrefl n)) ?_
  show AW g true RX11 cX11_chanceOf 8 (some .long) (2) n n nf 0 [(0, 2, 1), (1, 0, a1), (2, 0, a2)] [] n M (f_X11_chanceOf M a1 a2)
  unfold f_X11_chanceOf
  refine r_iconst dX11_chanceOf_0 ⟨by decide, by decide⟩ ?_
  refine r_istore_n dX11_chanceOf_1 rfl (by decide) (ls' := [(3, 0, 0), (0, 2, 1), (1, 0, a1), (2, 0, a2)]) rfl ?_
  refine r_sub [1, 2, 3, 0] (ls' := [(0, 2, 1), (1, 0, a1), (2, 0, a2), (3, 0, 0)]) rfl ?_
  exact wl1_aw (P := fun M x3 o => AW g true RX11 cX11_chanceOf 8 (some .long) (2) n n nf 2 [(0, 2, 1), (1, 0, a1), (2, 0, a2), (3, 0, x3)] [] n M (o)) (fun M x3 => aw_none) (fun w hw M x3 => tb_X11_chanceOf_2 hu a1 a2 w hw M x3) FU M 0
theorem dX11_chance_0 : decode cX11_chance 0 = .ok (.aload_n 0, 1) := by decide +kernel
theorem dX11_chance_1 : decode cX11_chance 1 = .ok (.iload_n 1, 1) := by decide +kernel
theorem dX11_chance_2 : decode cX11_chance 2 = .ok (.invokevirtual 347, 3) := by decide +kernel
theorem dX11_chance_5 : decode cX11_chance 5 = .ok (.ifCond .eq 12, 3) := by decide +kernel
theorem dX11_chance_8 : decode cX11_chance 8 = .ok (.aload_n 0, 1) := by decide +kernel
theorem dX11_chance_9 : decode cX11_chance 9 = .ok (.iload_n 1, 1) := by decide +kernel
theorem dX11_chance_10 : decode cX11_chance 10 = .ok (.iconst 0, 1) := by decide +kernel
theorem dX11_chance_11 : decode cX11_chance 11 = .ok (.invokevirtual 361, 3) := by decide +kernel
theorem dX11_chance_14 : decode cX11_chance 14 = .ok (.goto 6, 3) := by decide +kernel
theorem dX11_chance_17 : decode cX11_chance 17 = .ok (.ldc2_w 365, 3) := by decide +kernel
theorem dX11_chance_20 : decode cX11_chance 20 = .ok (.lreturn, 1) := by decide +kernel
set_option maxRecDepth 100000 in
theorem m_X11_chance {g : GT} {n nf : Int} (hu : Up true nf n) (M : Mem) (a1 : Int) : AM g true yX11_chance cX11_chance 2 (some .long) (3) n n nf [(2, 1), (0, a1)] M (f_X11_chance M a1) := by
  refine AM_of (by decide +kernel) (Nat.le_of_ble_eq_true rfl) (fun h => absurd h (Int.lt_irrefl n)) ?_
  show AW g true RX11 cX11_chance 2 (some .long) (3) n n nf 0 [(0, 2, 1), (1, 0, a1)] [] n M (f_X11_chance M a1)
  unfold f_X11_chance
  refine r_aload_n 0 dX11_chance_0 rfl rfl ?_
  refine r_iload_n 1 dX11_chance_1 rfl rfl ?_
  refine r_inv (a := 1) hu ⟨Nat.le_refl _, Nat.le_refl _⟩ dX11_chance_2 kM_X11_347 (ci := 11) rfl kd_1 rfl rfl (by decide) (by decide) [(0, a1)] rfl (sk := []) rfl (Nat.le_of_ble_eq_true rfl) rfl rfl (m_X11_isThingOrAll hu M a1) (fun r1 M2 => ?_)
  refine r_if_eq (tgt := 17) dX11_chance_5 rfl (fun h3 => ?_) (fun h4 => ?_)
  · refine r_ldc2 (v := (-1)) dX11_chance_17 kC_X11_365 rfl ⟨by decide, by decide⟩ ?_
    exact r_lret rfl rfl dX11_chance_20
  · refine r_aload_n 0 dX11_chance_8 rfl rfl ?_
    refine r_iload_n 1 dX11_chance_9 rfl rfl ?_
    refine r_iconst dX11_chance_10 ⟨by decide, by decide⟩ ?_
    refine r_inv (a := 1) hu ⟨Nat.le_refl _, Nat.le_refl _⟩ dX11_chance_11 kM_X11_361 (ci := 11) rfl kd_1 rfl rfl (by decide) (by decide) [(0, a1), (0, 0)] rfl (sk := []) rfl (Nat.le_of_ble_eq_true rfl) rfl rfl (m_X11_chanceOf hu M2 a1 0) (fun r5 M6 => ?_)
    refine r_goto (tgt := 20) dX11_chance_14 rfl ?_
    exact r_lret rfl rfl dX11_chance_20
theorem dX11_honest_0 : decode cX11_honest 0 = .ok (.aload_n 0, 1) := by decide +kernel
theorem dX11_honest_1 : decode cX11_honest 1 = .ok (.iload_n 1, 1) := by decide +kernel
theorem dX11_honest_2 : decode cX11_honest 2 = .ok (.invokevirtual 347, 3) := by decide +kernel
theorem dX11_honest_5 : decode cX11_honest 5 = .ok (.ifCond .eq 12, 3) := by decide +kernel
theorem dX11_honest_8 : decode cX11_honest 8 = .ok (.aload_n 0, 1) := by decide +kernel
theorem dX11_honest_9 : decode cX11_honest 9 = .ok (.iload_n 1, 1) := by decide +kernel
theorem dX11_honest_10 : decode cX11_honest 10 = .ok (.iconst 1, 1) := by decide +kernel
theorem dX11_honest_11 : decode cX11_honest 11 = .ok (.invokevirtual 361, 3) := by decide +kernel
theorem dX11_honest_14 : decode cX11_honest 14 = .ok (.goto 6, 3) := by decide +kernel
theorem dX11_honest_17 : decode cX11_honest 17 = .ok (.ldc2_w 365, 3) := by decide +kernel
theorem dX11_honest_20 : decode cX11_honest 20 = .ok (.lreturn, 1) := by decide +kernel
set_option maxRecDepth 100000 in
theorem m_X11_honest {g : GT} {n nf : Int} (hu : Up true nf n) (M : Mem) (a1 : Int) : AM g true yX11_honest cX11_honest 2 (some .long) (3) n n nf [(2, 1), (0, a1)] M (f_X11_honest M a1) := by
  refine AM_of (by decide +kernel) (Nat.le_of_ble_eq_true rfl) (fun h => absurd h (Int.lt_irrefl n)) ?_
  show AW g true RX11 cX11_honest 2 (some .long) (3) n n nf 0 [(0, 2, 1), (1, 0, a1)] [] n M (f_X11_honest M a1)
  unfold f_X11_honest
  refine r_aload_n 0 dX11_honest_0 rfl rfl ?_
  refine r_iload_n 1 dX11_honest_1 rfl rfl ?_
  refine r_inv (a := 1) hu ⟨Nat.le_refl _, Nat.le_refl _⟩ dX11_honest_2 kM_X11_347 (ci := 11) rfl kd_1 rfl rfl (by decide) (by decide) [(0, a1)] rfl (sk := []) rfl (Nat.le_of_ble_eq_true rfl) rfl rfl (m_X11_isThingOrAll hu M a1) (fun r1 M2 => ?_)
  refine r_if_eq (tgt := 17) dX11_honest_5 rfl (fun h3 => ?_) (fun h4 => ?_)
  · refine r_ldc2 (v := (-1)) dX11_honest_17 kC_X11_365 rfl ⟨by decide, by decide⟩ ?_
    exact r_lret rfl rfl dX11_honest_20
  · refine r_aload_n 0 dX11_honest_8 rfl rfl ?_
    refine r_iload_n 1 dX11_honest_9 rfl rfl ?_
    refine r_iconst dX11_honest_10 ⟨by decide, by decide⟩ ?_
    refine r_inv (a := 1) hu ⟨Nat.le_refl _, Nat.le_refl _⟩ dX11_honest_11 kM_X11_361 (ci := 11) rfl kd_1 rfl rfl (by decide) (by decide) [(0, a1), (0, 1)] rfl (sk := []) rfl (Nat.le_of_ble_eq_true rfl) rfl rfl (m_X11_chanceOf hu M2 a1 1) (fun r5 M6 => ?_)
    refine r_goto (tgt := 20) dX11_honest_14 rfl ?_
    exact r_lret rfl rfl dX11_honest_20
theorem dX11_needed_0 : decode cX11_needed 0 = .ok (.iload_n 1, 1) := by decide +kernel
theorem dX11_needed_1 : decode cX11_needed 1 = .ok (.ifCond .lt 14, 3) := by decide +kernel
theorem dX11_needed_4 : decode cX11_needed 4 = .ok (.iload_n 1, 1) := by decide +kernel
theorem dX11_needed_5 : decode cX11_needed 5 = .ok (.aload_n 0, 1) := by decide +kernel
theorem dX11_needed_6 : decode cX11_needed 6 = .ok (.getfield 67, 3) := by decide +kernel
theorem dX11_needed_9 : decode cX11_needed 9 = .ok (.getfield 134, 3) := by decide +kernel
theorem dX11_needed_12 : decode cX11_needed 12 = .ok (.if_icmp .lt 5, 3) := by decide +kernel
theorem dX11_needed_15 : decode cX11_needed 15 = .ok (.iconst (-1), 1) := by decide +kernel
theorem dX11_needed_16 : decode cX11_needed 16 = .ok (.ireturn, 1) := by decide +kernel
theorem dX11_needed_17 : decode cX11_needed 17 = .ok (.ldc2_w 367, 3) := by decide +kernel
theorem dX11_needed_20 : decode cX11_needed 20 = .ok (.lstore 4, 2) := by decide +kernel
theorem dX11_needed_22 : decode cX11_needed 22 = .ok (.iconst 1, 1) := by decide +kernel
theorem dX11_needed_23 : decode cX11_needed 23 = .ok (.istore 6, 2) := by decide +kernel
theorem dX11_needed_25 : decode cX11_needed 25 = .ok (.iload 6, 2) := by decide +kernel
theorem dX11_needed_27 : decode cX11_needed 27 = .ok (.bipush 60, 2) := by decide +kernel
theorem dX11_needed_29 : decode cX11_needed 29 = .ok (.if_icmp .gt 30, 3) := by decide +kernel
theorem dX11_needed_32 : decode cX11_needed 32 = .ok (.lload 4, 2) := by decide +kernel
theorem dX11_needed_34 : decode cX11_needed 34 = .ok (.aload_n 0, 1) := by decide +kernel
theorem dX11_needed_35 : decode cX11_needed 35 = .ok (.iload_n 1, 1) := by decide +kernel
theorem dX11_needed_36 : decode cX11_needed 36 = .ok (.invokevirtual 254, 3) := by decide +kernel
theorem dX11_needed_39 : decode cX11_needed 39 = .ok (.i2l, 1) := by decide +kernel
theorem dX11_needed_40 : decode cX11_needed 40 = .ok (.ldiv, 1) := by decide +kernel
theorem dX11_needed_41 : decode cX11_needed 41 = .ok (.lstore 4, 2) := by decide +kernel
theorem dX11_needed_43 : decode cX11_needed 43 = .ok (.lload 4, 2) := by decide +kernel
theorem dX11_needed_45 : decode cX11_needed 45 = .ok (.lload_n 2, 1) := by decide +kernel
theorem dX11_needed_46 : decode cX11_needed 46 = .ok (.lcmp, 1) := by decide +kernel
theorem dX11_needed_47 : decode cX11_needed 47 = .ok (.ifCond .gt 6, 3) := by decide +kernel
theorem dX11_needed_50 : decode cX11_needed 50 = .ok (.iload 6, 2) := by decide +kernel
theorem dX11_needed_52 : decode cX11_needed 52 = .ok (.ireturn, 1) := by decide +kernel
theorem dX11_needed_53 : decode cX11_needed 53 = .ok (.iinc 6 1, 3) := by decide +kernel
theorem dX11_needed_56 : decode cX11_needed 56 = .ok (.goto (-31), 3) := by decide +kernel
theorem dX11_needed_59 : decode cX11_needed 59 = .ok (.iconst (-1), 1) := by decide +kernel
theorem dX11_needed_60 : decode cX11_needed 60 = .ok (.ireturn, 1) := by decide +kernel
set_option maxRecDepth 100000 in
theorem tb_X11_needed_25 {g : GT} {n nf : Int} (hu : Up true nf n) (a1 a2 : Int) (w25 : Mem → Int → Int → Res) (hw25 : ∀ (M : Mem) (x4 x6 : Int), AW g true RX11 cX11_needed 7 (some .int) (2) n n nf 25 [(0, 2, 1), (1, 0, a1), (2, 1, a2), (4, 1, x4), (6, 0, x6)] [] n M (w25 M x4 x6)) (M : Mem) (x4 x6 : Int) : AW g true RX11 cX11_needed 7 (some .int) (2) n n nf 25 [(0, 2, 1), (1, 0, a1), (2, 1, a2), (4, 1, x4), (6, 0, x6)] [] n M (b_X11_needed_25 a1 a2 w25 M x4 x6) := by
  unfold b_X11_needed_25
  refine r_iload 4 dX11_needed_25 rfl ?_
  refine r_bipush dX11_needed_27 (by decide) ⟨by decide, by decide⟩ ?_
  refine r_icmp_gt (tgt := 59) dX11_needed_29 rfl (fun h6 => ?_) (fun h7 => ?_)
  · refine r_iconst dX11_needed_59 ⟨by decide, by decide⟩ ?_
    exact r_iret rfl rfl (Or.inl rfl) dX11_needed_60
  · refine r_lload 3 dX11_needed_32 rfl ?_
    refine r_aload_n 0 dX11_needed_34 rfl rfl ?_
    refine r_iload_n 1 dX11_needed_35 rfl rfl ?_
    refine r_inv (a := 1) hu ⟨Nat.le_refl _, Nat.le_refl _⟩ dX11_needed_36 kM_X11_254 (ci := 11) rfl kd_1 rfl rfl (by decide) (by decide) [(0, a1)] rfl (sk := [(1, x4)]) rfl (Nat.le_of_ble_eq_true rfl) rfl rfl (m_X11_sortsOf hu M a1) (fun r8 M9 => ?_)
    refine r_i2l dX11_needed_39 ?_
    refine r_ok (fun h10 => ?_)
    refine r_ldivP dX11_needed_40 h10 ?_
    refine r_lstoreB dX11_needed_41 (by decide) (lf := fun y11 => [(4, 1, y11), (0, 2, 1), (1, 0, a1), (2, 1, a2), (6, 0, x6)]) (fun _ => rfl) (fun y11 ey11 => ?_)
    refine r_lload 0 dX11_needed_43 rfl ?_
    refine r_lload_n 3 dX11_needed_45 rfl rfl ?_
    refine r_lif_gt (tgt := 53) dX11_needed_46 dX11_needed_47 rfl (fun h12 => ?_) (fun h13 => ?_)
    · refine r_ok (fun h14 => ?_)
      refine r_iincB 4 dX11_needed_53 rfl h14 (by decide) (lf := fun y15 => [(6, 0, y15), (4, 1, y11), (0, 2, 1), (1, 0, a1), (2, 1, a2)]) (fun _ => rfl) (fun y15 ey15 => ?_)
      refine r_goto (tgt := 25) dX11_needed_56 rfl ?_
      refine r_sub [2, 3, 4, 1, 0] (ls' := [(0, 2, 1), (1, 0, a1), (2, 1, a2), (4, 1, y11), (6, 0, y15)]) rfl ?_
      exact hw25 M9 y11 y15
    · refine r_iload 4 dX11_needed_50 rfl ?_
      exact r_iret rfl rfl (Or.inl rfl) dX11_needed_52
set_option maxRecDepth 100000 in
theorem m_X11_needed {g : GT} {n nf : Int} (hu : Up true nf n) (M : Mem) (a1 a2 : Int) : AM g true yX11_needed cX11_needed 7 (some .int) (2) n n nf [(2, 1), (0, a1), (1, a2)] M (f_X11_needed M a1 a2) := by
  refine AM_of (by decide +kernel) (Nat.le_of_ble_eq_true rfl) (fun h => absurd h (Int.lt_irrefl n)) ?_
  show AW g true RX11 cX11_needed 7 (some .int) (2) n n nf 0 [(0, 2, 1), (1, 0, a1), (2, 1, a2)] [] n M (f_X11_needed M a1 a2)
  unfold f_X11_needed
  refine r_iload_n 1 dX11_needed_0 rfl rfl ?_
  refine r_if_lt (tgt := 15) dX11_needed_1 rfl (fun h1 => ?_) (fun h2 => ?_)
  · refine r_iconst dX11_needed_15 ⟨by decide, by decide⟩ ?_
    exact r_iret rfl rfl (Or.inl rfl) dX11_needed_16
  · refine r_iload_n 1 dX11_needed_4 rfl rfl ?_
    refine r_aload_n 0 dX11_needed_5 rfl rfl ?_
    refine r_gf (t := 2) (kz := 8) rfl hu dX11_needed_6 kF_X11_67 kd_1 rfl rfl rfl ?_
    refine r_ok (fun h3 => ?_)
    refine r_gf (t := 0) (kz := 3) rfl hu dX11_needed_9 kF_X11_134 h3 rfl rfl rfl ?_
    refine r_icmp_lt (tgt := 17) dX11_needed_12 rfl (fun h4 => ?_) (fun h5 => ?_)
    · refine r_ldc2 (v := 1000000000000) dX11_needed_17 kC_X11_367 rfl ⟨by decide, by decide⟩ ?_
      refine r_lstore dX11_needed_20 (by decide) (ls' := [(4, 1, 1000000000000), (0, 2, 1), (1, 0, a1), (2, 1, a2)]) rfl ?_
      refine r_iconst dX11_needed_22 ⟨by decide, by decide⟩ ?_
      refine r_istore dX11_needed_23 (by decide) (ls' := [(6, 0, 1), (4, 1, 1000000000000), (0, 2, 1), (1, 0, a1), (2, 1, a2)]) rfl ?_
      refine r_sub [2, 3, 4, 1, 0] (ls' := [(0, 2, 1), (1, 0, a1), (2, 1, a2), (4, 1, 1000000000000), (6, 0, 1)]) rfl ?_
      exact wl2_aw (P := fun M x4 x6 o => AW g true RX11 cX11_needed 7 (some .int) (2) n n nf 25 [(0, 2, 1), (1, 0, a1), (2, 1, a2), (4, 1, x4), (6, 0, x6)] [] n M (o)) (fun M x4 x6 => aw_none) (fun w hw M x4 x6 => tb_X11_needed_25 hu a1 a2 w hw M x4 x6) FU M 1000000000000 1
    · refine r_iconst dX11_needed_15 ⟨by decide, by decide⟩ ?_
      exact r_iret rfl rfl (Or.inl rfl) dX11_needed_16
theorem dX11_isScattered_0 : decode cX11_isScattered 0 = .ok (.aload_n 1, 1) := by decide +kernel
theorem dX11_isScattered_1 : decode cX11_isScattered 1 = .ok (.getfield 320, 3) := by decide +kernel
theorem dX11_isScattered_4 : decode cX11_isScattered 4 = .ok (.aload_n 0, 1) := by decide +kernel
theorem dX11_isScattered_5 : decode cX11_isScattered 5 = .ok (.getfield 35, 3) := by decide +kernel
theorem dX11_isScattered_8 : decode cX11_isScattered 8 = .ok (.getfield 146, 3) := by decide +kernel
theorem dX11_isScattered_11 : decode cX11_isScattered 11 = .ok (.if_icmp .eq 17, 3) := by decide +kernel
theorem dX11_isScattered_14 : decode cX11_isScattered 14 = .ok (.aload_n 0, 1) := by decide +kernel
theorem dX11_isScattered_15 : decode cX11_isScattered 15 = .ok (.getfield 35, 3) := by decide +kernel
theorem dX11_isScattered_18 : decode cX11_isScattered 18 = .ok (.aload_n 1, 1) := by decide +kernel
theorem dX11_isScattered_19 : decode cX11_isScattered 19 = .ok (.getfield 320, 3) := by decide +kernel
theorem dX11_isScattered_22 : decode cX11_isScattered 22 = .ok (.invokevirtual 390, 3) := by decide +kernel
theorem dX11_isScattered_25 : decode cX11_isScattered 25 = .ok (.ifCond .eq 7, 3) := by decide +kernel
theorem dX11_isScattered_28 : decode cX11_isScattered 28 = .ok (.iconst 1, 1) := by decide +kernel
theorem dX11_isScattered_29 : decode cX11_isScattered 29 = .ok (.goto 4, 3) := by decide +kernel
theorem dX11_isScattered_32 : decode cX11_isScattered 32 = .ok (.iconst 0, 1) := by decide +kernel
theorem dX11_isScattered_33 : decode cX11_isScattered 33 = .ok (.istore_n 2, 1) := by decide +kernel
theorem dX11_isScattered_34 : decode cX11_isScattered 34 = .ok (.iload_n 2, 1) := by decide +kernel
theorem dX11_isScattered_35 : decode cX11_isScattered 35 = .ok (.ifCond .eq 26, 3) := by decide +kernel
theorem dX11_isScattered_38 : decode cX11_isScattered 38 = .ok (.aload_n 0, 1) := by decide +kernel
theorem dX11_isScattered_39 : decode cX11_isScattered 39 = .ok (.getfield 35, 3) := by decide +kernel
theorem dX11_isScattered_42 : decode cX11_isScattered 42 = .ok (.aload_n 1, 1) := by decide +kernel
theorem dX11_isScattered_43 : decode cX11_isScattered 43 = .ok (.getfield 320, 3) := by decide +kernel
theorem dX11_isScattered_46 : decode cX11_isScattered 46 = .ok (.aload_n 1, 1) := by decide +kernel
theorem dX11_isScattered_47 : decode cX11_isScattered 47 = .ok (.getfield 329, 3) := by decide +kernel
theorem dX11_isScattered_50 : decode cX11_isScattered 50 = .ok (.invokevirtual 224, 3) := by decide +kernel
theorem dX11_isScattered_53 : decode cX11_isScattered 53 = .ok (.iconst 5, 1) := by decide +kernel
theorem dX11_isScattered_54 : decode cX11_isScattered 54 = .ok (.if_icmp .lt 7, 3) := by decide +kernel
theorem dX11_isScattered_57 : decode cX11_isScattered 57 = .ok (.iconst 1, 1) := by decide +kernel
theorem dX11_isScattered_58 : decode cX11_isScattered 58 = .ok (.goto 4, 3) := by decide +kernel
theorem dX11_isScattered_61 : decode cX11_isScattered 61 = .ok (.iconst 0, 1) := by decide +kernel
theorem dX11_isScattered_62 : decode cX11_isScattered 62 = .ok (.ireturn, 1) := by decide +kernel
set_option maxRecDepth 100000 in
theorem tj_X11_isScattered_33 {g : GT} {n nf : Int} (hu : Up true nf n) (a1 : Int) (hk1 : kd a1 = 20) (M : Mem) (s0 : Int) : AW g true RX11 cX11_isScattered 3 (some .boolean) (2) n n nf 33 [(0, 2, 1), (1, 2, a1)] [(0, s0)] n M (j_X11_isScattered_33 a1 M s0) := by
  unfold j_X11_isScattered_33
  refine r_istore_n dX11_isScattered_33 rfl (by decide) (ls' := [(2, 0, s0), (0, 2, 1), (1, 2, a1)]) rfl ?_
  refine r_iload_n 0 dX11_isScattered_34 rfl rfl ?_
  refine r_if_eq (tgt := 61) dX11_isScattered_35 rfl (fun h3 => ?_) (fun h4 => ?_)
  · refine r_iconst dX11_isScattered_61 ⟨by decide, by decide⟩ ?_
    exact r_iret rfl rfl (Or.inr ⟨rfl, Or.inl rfl⟩) dX11_isScattered_62
  · refine r_aload_n 1 dX11_isScattered_38 rfl rfl ?_
    refine r_gx (kz := 3) rfl hu dX11_isScattered_39 kF_X11_35 kd_1 rfl rfl rfl fx_1_3 ?_
    refine r_aload_n 2 dX11_isScattered_42 rfl rfl ?_
    refine r_gf (t := 0) (kz := 1) rfl hu dX11_isScattered_43 kF_X11_320 hk1 rfl rfl rfl ?_
    refine r_aload_n 2 dX11_isScattered_46 rfl rfl ?_
    refine r_gf (t := 0) (kz := 2) rfl hu dX11_isScattered_47 kF_X11_329 hk1 rfl rfl rfl ?_
    refine r_inv (a := 13) hu ⟨Nat.le_refl _, Nat.le_refl _⟩ dX11_isScattered_50 kM_X11_224 (ci := 3) rfl kd_13 rfl rfl (by decide) (by decide) [(0, M a1 1), (0, M a1 2)] rfl (sk := []) rfl (Nat.le_of_ble_eq_true rfl) rfl rfl (m_X3_lightAt hu M (M a1 1) (M a1 2)) (fun r5 M6 => ?_)
    refine r_iconst dX11_isScattered_53 ⟨by decide, by decide⟩ ?_
    refine r_icmp_lt (tgt := 61) dX11_isScattered_54 rfl (fun h7 => ?_) (fun h8 => ?_)
    · refine r_iconst dX11_isScattered_61 ⟨by decide, by decide⟩ ?_
      exact r_iret rfl rfl (Or.inr ⟨rfl, Or.inl rfl⟩) dX11_isScattered_62
    · refine r_iconst dX11_isScattered_57 ⟨by decide, by decide⟩ ?_
      refine r_goto (tgt := 62) dX11_isScattered_58 rfl ?_
      exact r_iret rfl rfl (Or.inr ⟨rfl, Or.inr rfl⟩) dX11_isScattered_62
set_option maxRecDepth 100000 in
theorem tj_X11_isScattered_28 {g : GT} {n nf : Int} (hu : Up true nf n) (a1 : Int) (hk1 : kd a1 = 20) (M : Mem) : AW g true RX11 cX11_isScattered 3 (some .boolean) (2) n n nf 28 [(0, 2, 1), (1, 2, a1)] [] n M (j_X11_isScattered_28 a1 M) := by
  unfold j_X11_isScattered_28
  refine r_iconst dX11_isScattered_28 ⟨by decide, by decide⟩ ?_
  refine r_goto (tgt := 33) dX11_isScattered_29 rfl ?_
  exact tj_X11_isScattered_33 hu a1 hk1 M 1
set_option maxRecDepth 100000 in
theorem m_X11_isScattered {g : GT} {n nf : Int} (hu : Up true nf n) (M : Mem) (a1 : Int) (hk1 : kd a1 = 20) : AM g true yX11_isScattered cX11_isScattered 3 (some .boolean) (2) n n nf [(2, 1), (2, a1)] M (f_X11_isScattered M a1) := by
  refine AM_of (by decide +kernel) (Nat.le_of_ble_eq_true rfl) (fun h => absurd h (Int.lt_irrefl n)) ?_
  show AW g true RX11 cX11_isScattered 3 (some .boolean) (2) n n nf 0 [(0, 2, 1), (1, 2, a1)] [] n M (f_X11_isScattered M a1)
  unfold f_X11_isScattered
  refine r_aload_n 1 dX11_isScattered_0 rfl rfl ?_
  refine r_gf (t := 0) (kz := 1) rfl hu dX11_isScattered_1 kF_X11_320 hk1 rfl rfl rfl ?_
  refine r_aload_n 0 dX11_isScattered_4 rfl rfl ?_
  refine r_gx (kz := 3) rfl hu dX11_isScattered_5 kF_X11_35 kd_1 rfl rfl rfl fx_1_3 ?_
  refine r_gf (t := 0) (kz := 11) rfl hu dX11_isScattered_8 kF_X11_146 kd_13 rfl rfl rfl ?_
  refine r_icmp_eq (tgt := 28) dX11_isScattered_11 rfl (fun h1 => ?_) (fun h2 => ?_)
  · exact tj_X11_isScattered_28 hu a1 hk1 M
  · refine r_aload_n 0 dX11_isScattered_14 rfl rfl ?_
    refine r_gx (kz := 3) rfl hu dX11_isScattered_15 kF_X11_35 kd_1 rfl rfl rfl fx_1_3 ?_
    refine r_aload_n 1 dX11_isScattered_18 rfl rfl ?_
    refine r_gf (t := 0) (kz := 1) rfl hu dX11_isScattered_19 kF_X11_320 hk1 rfl rfl rfl ?_
    refine r_inv (a := 13) hu ⟨Nat.le_refl _, Nat.le_refl _⟩ dX11_isScattered_22 kM_X11_390 (ci := 3) rfl kd_13 rfl rfl (by decide) (by decide) [(0, M a1 1)] rfl (sk := []) rfl (Nat.le_of_ble_eq_true rfl) rfl rfl (m_X3_isGone hu M (M a1 1)) (fun r9 M10 => ?_)
    refine r_if_eq (tgt := 32) dX11_isScattered_25 rfl (fun h11 => ?_) (fun h12 => ?_)
    · refine r_iconst dX11_isScattered_32 ⟨by decide, by decide⟩ ?_
      exact tj_X11_isScattered_33 hu a1 hk1 M10 0
    · exact tj_X11_isScattered_28 hu a1 hk1 M10
theorem dX11_putTrial_0 : decode cX11_putTrial 0 = .ok (.aload_n 0, 1) := by decide +kernel
theorem dX11_putTrial_1 : decode cX11_putTrial 1 = .ok (.aload_n 1, 1) := by decide +kernel
theorem dX11_putTrial_2 : decode cX11_putTrial 2 = .ok (.getfield 326, 3) := by decide +kernel
theorem dX11_putTrial_5 : decode cX11_putTrial 5 = .ok (.aload_n 1, 1) := by decide +kernel
theorem dX11_putTrial_6 : decode cX11_putTrial 6 = .ok (.getfield 320, 3) := by decide +kernel
theorem dX11_putTrial_9 : decode cX11_putTrial 9 = .ok (.aload_n 1, 1) := by decide +kernel
theorem dX11_putTrial_10 : decode cX11_putTrial 10 = .ok (.getfield 329, 3) := by decide +kernel
theorem dX11_putTrial_13 : decode cX11_putTrial 13 = .ok (.invokevirtual 251, 3) := by decide +kernel
theorem dX11_putTrial_16 : decode cX11_putTrial 16 = .ok (.return_, 1) := by decide +kernel
set_option maxRecDepth 100000 in
theorem m_X11_putTrial {g : GT} {n nf : Int} (hu : Up true nf n) (M : Mem) (a1 : Int) (hk1 : kd a1 = 20) : AM g true yX11_putTrial cX11_putTrial 2 none (3) n n nf [(2, 1), (2, a1)] M (f_X11_putTrial M a1) := by
  refine AM_of (by decide +kernel) (Nat.le_of_ble_eq_true rfl) (fun h => absurd h (Int.lt_irrefl n)) ?_
  show AW g true RX11 cX11_putTrial 2 none (3) n n nf 0 [(0, 2, 1), (1, 2, a1)] [] n M (f_X11_putTrial M a1)
  unfold f_X11_putTrial
  refine r_aload_n 0 dX11_putTrial_0 rfl rfl ?_
  refine r_aload_n 1 dX11_putTrial_1 rfl rfl ?_
  refine r_gf (t := 0) (kz := 0) rfl hu dX11_putTrial_2 kF_X11_326 hk1 rfl rfl rfl ?_
  refine r_aload_n 1 dX11_putTrial_5 rfl rfl ?_
  refine r_gf (t := 0) (kz := 1) rfl hu dX11_putTrial_6 kF_X11_320 hk1 rfl rfl rfl ?_
  refine r_aload_n 1 dX11_putTrial_9 rfl rfl ?_
  refine r_gf (t := 0) (kz := 2) rfl hu dX11_putTrial_10 kF_X11_329 hk1 rfl rfl rfl ?_
  refine r_invv (a := 1) hu ⟨Nat.le_refl _, Nat.le_refl _⟩ dX11_putTrial_13 kM_X11_251 (ci := 11) rfl kd_1 rfl rfl (by decide) (by decide) [(0, M a1 0), (0, M a1 1), (0, M a1 2)] rfl (sk := []) rfl (Nat.le_of_ble_eq_true rfl) rfl (m_X11_putShowing hu M (M a1 0) (M a1 1) (M a1 2)) (fun r1 M2 => ?_)
  exact r_vret rfl rfl dX11_putTrial_16
theorem dX11_kindOf_0 : decode cX11_kindOf 0 = .ok (.aload_n 2, 1) := by decide +kernel
theorem dX11_kindOf_1 : decode cX11_kindOf 1 = .ok (.invokevirtual 343, 3) := by decide +kernel
theorem dX11_kindOf_4 : decode cX11_kindOf 4 = .ok (.ifCond .ne 5, 3) := by decide +kernel
theorem dX11_kindOf_7 : decode cX11_kindOf 7 = .ok (.iconst 0, 1) := by decide +kernel
theorem dX11_kindOf_8 : decode cX11_kindOf 8 = .ok (.ireturn, 1) := by decide +kernel
theorem dX11_kindOf_9 : decode cX11_kindOf 9 = .ok (.aload_n 2, 1) := by decide +kernel
theorem dX11_kindOf_10 : decode cX11_kindOf 10 = .ok (.getfield 310, 3) := by decide +kernel
theorem dX11_kindOf_13 : decode cX11_kindOf 13 = .ok (.ifCond .eq 5, 3) := by decide +kernel
theorem dX11_kindOf_16 : decode cX11_kindOf 16 = .ok (.iconst 1, 1) := by decide +kernel
theorem dX11_kindOf_17 : decode cX11_kindOf 17 = .ok (.ireturn, 1) := by decide +kernel
theorem dX11_kindOf_18 : decode cX11_kindOf 18 = .ok (.aload_n 2, 1) := by decide +kernel
theorem dX11_kindOf_19 : decode cX11_kindOf 19 = .ok (.invokevirtual 434, 3) := by decide +kernel
theorem dX11_kindOf_22 : decode cX11_kindOf 22 = .ok (.ifCond .eq 5, 3) := by decide +kernel
theorem dX11_kindOf_25 : decode cX11_kindOf 25 = .ok (.iconst 2, 1) := by decide +kernel
theorem dX11_kindOf_26 : decode cX11_kindOf 26 = .ok (.ireturn, 1) := by decide +kernel
theorem dX11_kindOf_27 : decode cX11_kindOf 27 = .ok (.aload_n 2, 1) := by decide +kernel
theorem dX11_kindOf_28 : decode cX11_kindOf 28 = .ok (.getfield 337, 3) := by decide +kernel
theorem dX11_kindOf_31 : decode cX11_kindOf 31 = .ok (.ifCond .eq 5, 3) := by decide +kernel
theorem dX11_kindOf_34 : decode cX11_kindOf 34 = .ok (.iconst 3, 1) := by decide +kernel
theorem dX11_kindOf_35 : decode cX11_kindOf 35 = .ok (.ireturn, 1) := by decide +kernel
theorem dX11_kindOf_36 : decode cX11_kindOf 36 = .ok (.aload_n 0, 1) := by decide +kernel
theorem dX11_kindOf_37 : decode cX11_kindOf 37 = .ok (.aload_n 2, 1) := by decide +kernel
theorem dX11_kindOf_38 : decode cX11_kindOf 38 = .ok (.invokevirtual 440, 3) := by decide +kernel
theorem dX11_kindOf_41 : decode cX11_kindOf 41 = .ok (.ifCond .eq 5, 3) := by decide +kernel
theorem dX11_kindOf_44 : decode cX11_kindOf 44 = .ok (.iconst 4, 1) := by decide +kernel
theorem dX11_kindOf_45 : decode cX11_kindOf 45 = .ok (.ireturn, 1) := by decide +kernel
theorem dX11_kindOf_46 : decode cX11_kindOf 46 = .ok (.aload_n 0, 1) := by decide +kernel
theorem dX11_kindOf_47 : decode cX11_kindOf 47 = .ok (.getfield 35, 3) := by decide +kernel
theorem dX11_kindOf_50 : decode cX11_kindOf 50 = .ok (.aload_n 0, 1) := by decide +kernel
theorem dX11_kindOf_51 : decode cX11_kindOf 51 = .ok (.getfield 35, 3) := by decide +kernel
theorem dX11_kindOf_54 : decode cX11_kindOf 54 = .ok (.getfield 206, 3) := by decide +kernel
theorem dX11_kindOf_57 : decode cX11_kindOf 57 = .ok (.aload_n 2, 1) := by decide +kernel
theorem dX11_kindOf_58 : decode cX11_kindOf 58 = .ok (.getfield 320, 3) := by decide +kernel
theorem dX11_kindOf_61 : decode cX11_kindOf 61 = .ok (.iaload, 1) := by decide +kernel
theorem dX11_kindOf_62 : decode cX11_kindOf 62 = .ok (.invokevirtual 218, 3) := by decide +kernel
theorem dX11_kindOf_65 : decode cX11_kindOf 65 = .ok (.ifCond .eq 5, 3) := by decide +kernel
theorem dX11_kindOf_68 : decode cX11_kindOf 68 = .ok (.iconst 5, 1) := by decide +kernel
theorem dX11_kindOf_69 : decode cX11_kindOf 69 = .ok (.ireturn, 1) := by decide +kernel
theorem dX11_kindOf_70 : decode cX11_kindOf 70 = .ok (.aload_n 0, 1) := by decide +kernel
theorem dX11_kindOf_71 : decode cX11_kindOf 71 = .ok (.aload_n 2, 1) := by decide +kernel
theorem dX11_kindOf_72 : decode cX11_kindOf 72 = .ok (.invokevirtual 380, 3) := by decide +kernel
theorem dX11_kindOf_75 : decode cX11_kindOf 75 = .ok (.aload_n 1, 1) := by decide +kernel
theorem dX11_kindOf_76 : decode cX11_kindOf 76 = .ok (.aload_n 0, 1) := by decide +kernel
theorem dX11_kindOf_77 : decode cX11_kindOf 77 = .ok (.getfield 28, 3) := by decide +kernel
theorem dX11_kindOf_80 : decode cX11_kindOf 80 = .ok (.iconst 1, 1) := by decide +kernel
theorem dX11_kindOf_81 : decode cX11_kindOf 81 = .ok (.invokevirtual 231, 3) := by decide +kernel
theorem dX11_kindOf_84 : decode cX11_kindOf 84 = .ok (.istore_n 3, 1) := by decide +kernel
theorem dX11_kindOf_85 : decode cX11_kindOf 85 = .ok (.iload_n 3, 1) := by decide +kernel
theorem dX11_kindOf_86 : decode cX11_kindOf 86 = .ok (.ifCond .le 20, 3) := by decide +kernel
theorem dX11_kindOf_89 : decode cX11_kindOf 89 = .ok (.iload_n 3, 1) := by decide +kernel
theorem dX11_kindOf_90 : decode cX11_kindOf 90 = .ok (.aload_n 1, 1) := by decide +kernel
theorem dX11_kindOf_91 : decode cX11_kindOf 91 = .ok (.aload_n 0, 1) := by decide +kernel
theorem dX11_kindOf_92 : decode cX11_kindOf 92 = .ok (.getfield 28, 3) := by decide +kernel
theorem dX11_kindOf_95 : decode cX11_kindOf 95 = .ok (.invokevirtual 235, 3) := by decide +kernel
theorem dX11_kindOf_98 : decode cX11_kindOf 98 = .ok (.if_icmp .ge 8, 3) := by decide +kernel
theorem dX11_kindOf_101 : decode cX11_kindOf 101 = .ok (.bipush 6, 2) := by decide +kernel
theorem dX11_kindOf_103 : decode cX11_kindOf 103 = .ok (.goto 5, 3) := by decide +kernel
theorem dX11_kindOf_106 : decode cX11_kindOf 106 = .ok (.bipush 7, 2) := by decide +kernel
theorem dX11_kindOf_108 : decode cX11_kindOf 108 = .ok (.ireturn, 1) := by decide +kernel
set_option maxRecDepth 100000 in
theorem m_X11_kindOf {g : GT} {n nf : Int} (hu : Up true nf n) (M : Mem) (a1 a2 : Int) (hk1 : kd a1 = 17) (hk2 : kd a2 = 20) : AM g true yX11_kindOf cX11_kindOf 4 (some .int) (5) n n nf [(2, 1), (2, a1), (2, a2)] M (f_X11_kindOf M a1 a2) := by
  refine AM_of (by decide +kernel) (Nat.le_of_ble_eq_true rfl) (fun h => absurd h (Int.lt_irrefl n)) ?_
  show AW g true RX11 cX11_kindOf 4 (some .int) (5) n n nf 0 [(0, 2, 1), (1, 2, a1), (2, 2, a2)] [] n M (f_X11_kindOf M a1 a2)
  unfold f_X11_kindOf
  refine r_aload_n 2 dX11_kindOf_0 rfl rfl ?_
  refine r_inv (a := a2) hu ⟨Nat.le_refl _, Nat.le_refl _⟩ dX11_kindOf_1 kM_X11_343 (ci := 10) rfl hk2 rfl rfl (by decide) (by decide) [] rfl (sk := []) rfl (Nat.le_of_ble_eq_true rfl) rfl rfl (m_X10_isRight hu M a2 hk2) (fun r1 M2 => ?_)
  refine r_if_ne (tgt := 9) dX11_kindOf_4 rfl (fun h3 => ?_) (fun h4 => ?_)
  · refine r_iconst dX11_kindOf_7 ⟨by decide, by decide⟩ ?_
    exact r_iret rfl rfl (Or.inl rfl) dX11_kindOf_8
  · refine r_aload_n 2 dX11_kindOf_9 rfl rfl ?_
    refine r_gf (t := 0) (kz := 7) rfl hu dX11_kindOf_10 kF_X11_310 hk2 rfl rfl rfl ?_
    refine r_if_eq (tgt := 18) dX11_kindOf_13 rfl (fun h5 => ?_) (fun h6 => ?_)
    · refine r_aload_n 2 dX11_kindOf_18 rfl rfl ?_
      refine r_inv (a := a2) hu ⟨Nat.le_refl _, Nat.le_refl _⟩ dX11_kindOf_19 kM_X11_434 (ci := 10) rfl hk2 rfl rfl (by decide) (by decide) [] rfl (sk := []) rfl (Nat.le_of_ble_eq_true rfl) rfl rfl (m_X10_isLed hu M2 a2 hk2) (fun r7 M8 => ?_)
      refine r_if_eq (tgt := 27) dX11_kindOf_22 rfl (fun h9 => ?_) (fun h10 => ?_)
      · refine r_aload_n 2 dX11_kindOf_27 rfl rfl ?_
        refine r_gf (t := 0) (kz := 5) rfl hu dX11_kindOf_28 kF_X11_337 hk2 rfl rfl rfl ?_
        refine r_if_eq (tgt := 36) dX11_kindOf_31 rfl (fun h11 => ?_) (fun h12 => ?_)
        · refine r_aload_n 0 dX11_kindOf_36 rfl rfl ?_
          refine r_aload_n 2 dX11_kindOf_37 rfl rfl ?_
          refine r_inv (a := 1) hu ⟨Nat.le_refl _, Nat.le_refl _⟩ dX11_kindOf_38 kM_X11_440 (ci := 11) rfl kd_1 rfl rfl (by decide) (by decide) [(2, a2)] rfl (sk := []) rfl (Nat.le_of_ble_eq_true rfl) rfl rfl (m_X11_isScattered hu M8 a2 hk2) (fun r13 M14 => ?_)
          refine r_if_eq (tgt := 46) dX11_kindOf_41 rfl (fun h15 => ?_) (fun h16 => ?_)
          · refine r_aload_n 0 dX11_kindOf_46 rfl rfl ?_
            refine r_gx (kz := 3) rfl hu dX11_kindOf_47 kF_X11_35 kd_1 rfl rfl rfl fx_1_3 ?_
            refine r_aload_n 0 dX11_kindOf_50 rfl rfl ?_
            refine r_gx (kz := 3) rfl hu dX11_kindOf_51 kF_X11_35 kd_1 rfl rfl rfl fx_1_3 ?_
            refine r_gx (kz := 1) rfl hu dX11_kindOf_54 kF_X11_206 kd_13 rfl rfl rfl fx_13_1 ?_
            refine r_aload_n 2 dX11_kindOf_57 rfl rfl ?_
            refine r_gf (t := 0) (kz := 1) rfl hu dX11_kindOf_58 kF_X11_320 hk2 rfl rfl rfl ?_
            refine r_ok (fun h17 => ?_)
            refine r_iald hu dX11_kindOf_61 kd_15 rfl (Or.inl rfl) rfl ln_15 h17 ?_
            refine r_inv (a := 13) hu ⟨Nat.le_refl _, Nat.le_refl _⟩ dX11_kindOf_62 kM_X11_218 (ci := 3) rfl kd_13 rfl rfl (by decide) (by decide) [(0, M14 15 (M14 a2 1))] rfl (sk := []) rfl (Nat.le_of_ble_eq_true rfl) rfl rfl (m_X3_isIsland hu M14 (M14 15 (M14 a2 1))) (fun r18 M19 => ?_)
            refine r_if_eq (tgt := 70) dX11_kindOf_65 rfl (fun h20 => ?_) (fun h21 => ?_)
            · refine r_aload_n 0 dX11_kindOf_70 rfl rfl ?_
              refine r_aload_n 2 dX11_kindOf_71 rfl rfl ?_
              refine r_invv (a := 1) hu ⟨Nat.le_refl _, Nat.le_refl _⟩ dX11_kindOf_72 kM_X11_380 (ci := 11) rfl kd_1 rfl rfl (by decide) (by decide) [(2, a2)] rfl (sk := []) rfl (Nat.le_of_ble_eq_true rfl) rfl (m_X11_putTrial hu M19 a2 hk2) (fun r22 M23 => ?_)
              refine r_aload_n 1 dX11_kindOf_75 rfl rfl ?_
              refine r_aload_n 0 dX11_kindOf_76 rfl rfl ?_
              refine r_gx (kz := 2) rfl hu dX11_kindOf_77 kF_X11_28 kd_1 rfl rfl rfl fx_1_2 ?_
              refine r_iconst dX11_kindOf_80 ⟨by decide, by decide⟩ ?_
              refine r_inv (a := a1) hu ⟨Nat.le_refl _, Nat.le_refl _⟩ dX11_kindOf_81 kM_X11_231 (ci := 7) rfl hk1 rfl rfl (by decide) (by decide) [(2, 10), (0, 1)] rfl (sk := []) rfl (Nat.le_of_ble_eq_true rfl) rfl rfl (m_X7_carriedMost hu M23 a1 1 hk1) (fun r24 M25 => ?_)
              refine r_istore_n dX11_kindOf_84 rfl (by decide) (ls' := [(3, 0, r24), (0, 2, 1), (1, 2, a1), (2, 2, a2)]) rfl ?_
              refine r_iload_n 0 dX11_kindOf_85 rfl rfl ?_
              refine r_if_le (tgt := 106) dX11_kindOf_86 rfl (fun h26 => ?_) (fun h27 => ?_)
              · refine r_bipush dX11_kindOf_106 (by decide) ⟨by decide, by decide⟩ ?_
                exact r_iret rfl rfl (Or.inl rfl) dX11_kindOf_108
              · refine r_iload_n 0 dX11_kindOf_89 rfl rfl ?_
                refine r_aload_n 2 dX11_kindOf_90 rfl rfl ?_
                refine r_aload_n 1 dX11_kindOf_91 rfl rfl ?_
                refine r_gx (kz := 2) rfl hu dX11_kindOf_92 kF_X11_28 kd_1 rfl rfl rfl fx_1_2 ?_
                refine r_inv (a := a1) hu ⟨Nat.le_refl _, Nat.le_refl _⟩ dX11_kindOf_95 kM_X11_235 (ci := 7) rfl hk1 rfl rfl (by decide) (by decide) [(2, 10)] rfl (sk := [(0, r24)]) rfl (Nat.le_of_ble_eq_true rfl) rfl rfl (m_X7_lineBy hu M25 a1 hk1) (fun r28 M29 => ?_)
                refine r_icmp_ge (tgt := 106) dX11_kindOf_98 rfl (fun h30 => ?_) (fun h31 => ?_)
                · refine r_bipush dX11_kindOf_106 (by decide) ⟨by decide, by decide⟩ ?_
                  exact r_iret rfl rfl (Or.inl rfl) dX11_kindOf_108
                · refine r_bipush dX11_kindOf_101 (by decide) ⟨by decide, by decide⟩ ?_
                  refine r_goto (tgt := 108) dX11_kindOf_103 rfl ?_
                  exact r_iret rfl rfl (Or.inl rfl) dX11_kindOf_108
            · refine r_iconst dX11_kindOf_68 ⟨by decide, by decide⟩ ?_
              exact r_iret rfl rfl (Or.inl rfl) dX11_kindOf_69
          · refine r_iconst dX11_kindOf_44 ⟨by decide, by decide⟩ ?_
            exact r_iret rfl rfl (Or.inl rfl) dX11_kindOf_45
        · refine r_iconst dX11_kindOf_34 ⟨by decide, by decide⟩ ?_
          exact r_iret rfl rfl (Or.inl rfl) dX11_kindOf_35
      · refine r_iconst dX11_kindOf_25 ⟨by decide, by decide⟩ ?_
        exact r_iret rfl rfl (Or.inl rfl) dX11_kindOf_26
    · refine r_iconst dX11_kindOf_16 ⟨by decide, by decide⟩ ?_
      exact r_iret rfl rfl (Or.inl rfl) dX11_kindOf_17
theorem dX11_kind_0 : decode cX11_kind 0 = .ok (.aload_n 0, 1) := by decide +kernel
theorem dX11_kind_1 : decode cX11_kind 1 = .ok (.iload_n 1, 1) := by decide +kernel
theorem dX11_kind_2 : decode cX11_kind 2 = .ok (.invokevirtual 153, 3) := by decide +kernel
theorem dX11_kind_5 : decode cX11_kind 5 = .ok (.astore_n 3, 1) := by decide +kernel
theorem dX11_kind_6 : decode cX11_kind 6 = .ok (.aload_n 0, 1) := by decide +kernel
theorem dX11_kind_7 : decode cX11_kind 7 = .ok (.getfield 42, 3) := by decide +kernel
theorem dX11_kind_10 : decode cX11_kind 10 = .ok (.iload_n 2, 1) := by decide +kernel
theorem dX11_kind_11 : decode cX11_kind 11 = .ok (.invokevirtual 306, 3) := by decide +kernel
theorem dX11_kind_14 : decode cX11_kind 14 = .ok (.astore 4, 2) := by decide +kernel
theorem dX11_kind_16 : decode cX11_kind 16 = .ok (.aload_n 3, 1) := by decide +kernel
theorem dX11_kind_17 : decode cX11_kind 17 = .ok (.ifnull 8, 3) := by decide +kernel
theorem dX11_kind_20 : decode cX11_kind 20 = .ok (.aload 4, 2) := by decide +kernel
theorem dX11_kind_22 : decode cX11_kind 22 = .ok (.ifnonnull 7, 3) := by decide +kernel
theorem dX11_kind_25 : decode cX11_kind 25 = .ok (.iconst (-1), 1) := by decide +kernel
theorem dX11_kind_26 : decode cX11_kind 26 = .ok (.goto 10, 3) := by decide +kernel
theorem dX11_kind_29 : decode cX11_kind 29 = .ok (.aload_n 0, 1) := by decide +kernel
theorem dX11_kind_30 : decode cX11_kind 30 = .ok (.aload_n 3, 1) := by decide +kernel
theorem dX11_kind_31 : decode cX11_kind 31 = .ok (.aload 4, 2) := by decide +kernel
theorem dX11_kind_33 : decode cX11_kind 33 = .ok (.invokevirtual 369, 3) := by decide +kernel
theorem dX11_kind_36 : decode cX11_kind 36 = .ok (.ireturn, 1) := by decide +kernel
set_option maxRecDepth 100000 in
theorem m_X11_kind {g : GT} {n nf : Int} (hu : Up true nf n) (M : Mem) (a1 a2 : Int) : AM g true yX11_kind cX11_kind 5 (some .int) (6) n n nf [(2, 1), (0, a1), (0, a2)] M (f_X11_kind M a1 a2) := by
  refine AM_of (by decide +kernel) (Nat.le_of_ble_eq_true rfl) (fun h => absurd h (Int.lt_irrefl n)) ?_
  show AW g true RX11 cX11_kind 5 (some .int) (6) n n nf 0 [(0, 2, 1), (1, 0, a1), (2, 0, a2)] [] n M (f_X11_kind M a1 a2)
  unfold f_X11_kind
  refine r_aload_n 0 dX11_kind_0 rfl rfl ?_
  refine r_iload_n 1 dX11_kind_1 rfl rfl ?_
  refine r_inv (a := 1) hu ⟨Nat.le_refl _, Nat.le_refl _⟩ dX11_kind_2 kM_X11_153 (ci := 11) rfl kd_1 rfl rfl (by decide) (by decide) [(0, a1)] rfl (sk := []) rfl (Nat.le_of_ble_eq_true rfl) rfl rfl (m_X11_lawAt hu M a1) (fun r1 M2 => ?_)
  refine r_astore_n dX11_kind_5 rfl (by decide) (ls' := [(3, 2, r1), (0, 2, 1), (1, 0, a1), (2, 0, a2)]) rfl ?_
  refine r_aload_n 1 dX11_kind_6 rfl rfl ?_
  refine r_gx (kz := 4) rfl hu dX11_kind_7 kF_X11_42 kd_1 rfl rfl rfl fx_1_4 ?_
  refine r_iload_n 3 dX11_kind_10 rfl rfl ?_
  refine r_inv (a := 21) hu ⟨Nat.le_refl _, Nat.le_refl _⟩ dX11_kind_11 kM_X11_306 (ci := 0) rfl kd_21 rfl rfl (by decide) (by decide) [(0, a2)] rfl (sk := []) rfl (Nat.le_of_ble_eq_true rfl) rfl rfl (m_X0_trialAt hu M2 a2) (fun r3 M4 => ?_)
  refine r_astore dX11_kind_14 (by decide) (ls' := [(4, 2, r3), (3, 2, r1), (0, 2, 1), (1, 0, a1), (2, 0, a2)]) rfl ?_
  refine r_aload_n 1 dX11_kind_16 rfl rfl ?_
  refine r_ifnull (tgt := 25) dX11_kind_17 rfl (fun h5 => ?_) (fun h6 => ?_)
  · refine r_iconst dX11_kind_25 ⟨by decide, by decide⟩ ?_
    refine r_goto (tgt := 36) dX11_kind_26 rfl ?_
    exact r_iret rfl rfl (Or.inl rfl) dX11_kind_36
  · refine r_aload 0 dX11_kind_20 rfl ?_
    refine r_ifnonnull (tgt := 29) dX11_kind_22 rfl (fun h7 => ?_) (fun h8 => ?_)
    · refine r_iconst dX11_kind_25 ⟨by decide, by decide⟩ ?_
      refine r_goto (tgt := 36) dX11_kind_26 rfl ?_
      exact r_iret rfl rfl (Or.inl rfl) dX11_kind_36
    · refine r_aload_n 2 dX11_kind_29 rfl rfl ?_
      refine r_aload_n 1 dX11_kind_30 rfl rfl ?_
      refine r_aload 0 dX11_kind_31 rfl ?_
      refine r_ok (fun h9 => ?_)
      refine r_ok (fun h10 => ?_)
      refine r_inv (a := 1) hu ⟨Nat.le_refl _, Nat.le_refl _⟩ dX11_kind_33 kM_X11_369 (ci := 11) rfl kd_1 rfl rfl (by decide) (by decide) [(2, r1), (2, r3)] rfl (sk := []) rfl (Nat.le_of_ble_eq_true rfl) rfl rfl (m_X11_kindOf hu M4 r1 r3 h9 h10) (fun r11 M12 => ?_)
      exact r_iret rfl rfl (Or.inl rfl) dX11_kind_36
theorem dX11_kinds_0 : decode cX11_kinds 0 = .ok (.aload_n 0, 1) := by decide +kernel
theorem dX11_kinds_1 : decode cX11_kinds 1 = .ok (.iload_n 1, 1) := by decide +kernel
theorem dX11_kinds_2 : decode cX11_kinds 2 = .ok (.invokevirtual 153, 3) := by decide +kernel
theorem dX11_kinds_5 : decode cX11_kinds 5 = .ok (.astore_n 3, 1) := by decide +kernel
theorem dX11_kinds_6 : decode cX11_kinds 6 = .ok (.aload_n 3, 1) := by decide +kernel
theorem dX11_kinds_7 : decode cX11_kinds 7 = .ok (.ifnull 13, 3) := by decide +kernel
theorem dX11_kinds_10 : decode cX11_kinds 10 = .ok (.iload_n 2, 1) := by decide +kernel
theorem dX11_kinds_11 : decode cX11_kinds 11 = .ok (.ifCond .lt 9, 3) := by decide +kernel
theorem dX11_kinds_14 : decode cX11_kinds 14 = .ok (.iload_n 2, 1) := by decide +kernel
theorem dX11_kinds_15 : decode cX11_kinds 15 = .ok (.bipush 8, 2) := by decide +kernel
theorem dX11_kinds_17 : decode cX11_kinds 17 = .ok (.if_icmp .lt 5, 3) := by decide +kernel
theorem dX11_kinds_20 : decode cX11_kinds 20 = .ok (.iconst (-1), 1) := by decide +kernel
theorem dX11_kinds_21 : decode cX11_kinds 21 = .ok (.ireturn, 1) := by decide +kernel
theorem dX11_kinds_22 : decode cX11_kinds 22 = .ok (.iconst 0, 1) := by decide +kernel
theorem dX11_kinds_23 : decode cX11_kinds 23 = .ok (.istore 4, 2) := by decide +kernel
theorem dX11_kinds_25 : decode cX11_kinds 25 = .ok (.iconst 0, 1) := by decide +kernel
theorem dX11_kinds_26 : decode cX11_kinds 26 = .ok (.istore 5, 2) := by decide +kernel
theorem dX11_kinds_28 : decode cX11_kinds 28 = .ok (.iload 5, 2) := by decide +kernel
theorem dX11_kinds_30 : decode cX11_kinds 30 = .ok (.aload_n 0, 1) := by decide +kernel
theorem dX11_kinds_31 : decode cX11_kinds 31 = .ok (.getfield 42, 3) := by decide +kernel
theorem dX11_kinds_34 : decode cX11_kinds 34 = .ok (.getfield 107, 3) := by decide +kernel
theorem dX11_kinds_37 : decode cX11_kinds 37 = .ok (.if_icmp .ge 38, 3) := by decide +kernel
theorem dX11_kinds_40 : decode cX11_kinds 40 = .ok (.iload 4, 2) := by decide +kernel
theorem dX11_kinds_42 : decode cX11_kinds 42 = .ok (.aload_n 0, 1) := by decide +kernel
theorem dX11_kinds_43 : decode cX11_kinds 43 = .ok (.aload_n 3, 1) := by decide +kernel
theorem dX11_kinds_44 : decode cX11_kinds 44 = .ok (.aload_n 0, 1) := by decide +kernel
theorem dX11_kinds_45 : decode cX11_kinds 45 = .ok (.getfield 42, 3) := by decide +kernel
theorem dX11_kinds_48 : decode cX11_kinds 48 = .ok (.getfield 350, 3) := by decide +kernel
theorem dX11_kinds_51 : decode cX11_kinds 51 = .ok (.iload 5, 2) := by decide +kernel
theorem dX11_kinds_53 : decode cX11_kinds 53 = .ok (.aaload, 1) := by decide +kernel
theorem dX11_kinds_54 : decode cX11_kinds 54 = .ok (.invokevirtual 369, 3) := by decide +kernel
theorem dX11_kinds_57 : decode cX11_kinds 57 = .ok (.iload_n 2, 1) := by decide +kernel
theorem dX11_kinds_58 : decode cX11_kinds 58 = .ok (.if_icmp .ne 7, 3) := by decide +kernel
theorem dX11_kinds_61 : decode cX11_kinds 61 = .ok (.iconst 1, 1) := by decide +kernel
theorem dX11_kinds_62 : decode cX11_kinds 62 = .ok (.goto 4, 3) := by decide +kernel
theorem dX11_kinds_65 : decode cX11_kinds 65 = .ok (.iconst 0, 1) := by decide +kernel
theorem dX11_kinds_66 : decode cX11_kinds 66 = .ok (.iadd, 1) := by decide +kernel
theorem dX11_kinds_67 : decode cX11_kinds 67 = .ok (.istore 4, 2) := by decide +kernel
theorem dX11_kinds_69 : decode cX11_kinds 69 = .ok (.iinc 5 1, 3) := by decide +kernel
theorem dX11_kinds_72 : decode cX11_kinds 72 = .ok (.goto (-44), 3) := by decide +kernel
theorem dX11_kinds_75 : decode cX11_kinds 75 = .ok (.iload 4, 2) := by decide +kernel
theorem dX11_kinds_77 : decode cX11_kinds 77 = .ok (.ireturn, 1) := by decide +kernel
set_option maxRecDepth 100000 in
theorem tb_X11_kinds_28 {g : GT} {n nf : Int} (hu : Up true nf n) (a2 : Int) (w28 : Mem → Int → Int → Int → Res) (hw28 : ∀ (M : Mem) (x3 x4 x5 : Int), AW g true RX11 cX11_kinds 6 (some .int) (6) n n nf 28 [(0, 2, 1), (2, 0, a2), (3, 2, x3), (4, 0, x4), (5, 0, x5)] [] n M (w28 M x3 x4 x5)) (M : Mem) (x3 x4 x5 : Int) : AW g true RX11 cX11_kinds 6 (some .int) (6) n n nf 28 [(0, 2, 1), (2, 0, a2), (3, 2, x3), (4, 0, x4), (5, 0, x5)] [] n M (b_X11_kinds_28 a2 w28 M x3 x4 x5) := by
  unfold b_X11_kinds_28
  refine r_iload 4 dX11_kinds_28 rfl ?_
  refine r_aload_n 0 dX11_kinds_30 rfl rfl ?_
  refine r_gx (kz := 4) rfl hu dX11_kinds_31 kF_X11_42 kd_1 rfl rfl rfl fx_1_4 ?_
  refine r_gf (t := 0) (kz := 1) rfl hu dX11_kinds_34 kF_X11_107 kd_21 rfl rfl rfl ?_
  refine r_icmp_ge (tgt := 75) dX11_kinds_37 rfl (fun h9 => ?_) (fun h10 => ?_)
  · refine r_iload 3 dX11_kinds_75 rfl ?_
    exact r_iret rfl rfl (Or.inl rfl) dX11_kinds_77
  · refine r_iload 3 dX11_kinds_40 rfl ?_
    refine r_aload_n 0 dX11_kinds_42 rfl rfl ?_
    refine r_aload_n 2 dX11_kinds_43 rfl rfl ?_
    refine r_aload_n 0 dX11_kinds_44 rfl rfl ?_
    refine r_gx (kz := 4) rfl hu dX11_kinds_45 kF_X11_42 kd_1 rfl rfl rfl fx_1_4 ?_
    refine r_gx (kz := 0) rfl hu dX11_kinds_48 kF_X11_350 kd_21 rfl rfl rfl fx_21_0 ?_
    refine r_iload 4 dX11_kinds_51 rfl ?_
    refine r_ok (fun h11 => ?_)
    refine r_aalx hu dX11_kinds_53 kd_22 (Or.inr (Or.inr rfl)) rfl ln_22 h11 (fxTr _ h11) ?_
    refine r_ok (fun h12 => ?_)
    refine r_inv (a := 1) hu ⟨Nat.le_refl _, Nat.le_refl _⟩ dX11_kinds_54 kM_X11_369 (ci := 11) rfl kd_1 rfl rfl (by decide) (by decide) [(2, x3), (2, 23 + x5)] rfl (sk := [(0, x4)]) rfl (Nat.le_of_ble_eq_true rfl) rfl rfl (m_X11_kindOf hu M x3 (23 + x5) h12 (kdTr _ h11)) (fun r13 M14 => ?_)
    refine r_iload_n 1 dX11_kinds_57 rfl rfl ?_
    refine r_icmp_ne (tgt := 65) dX11_kinds_58 rfl (fun h15 => ?_) (fun h16 => ?_)
    · refine r_iconst dX11_kinds_61 ⟨by decide, by decide⟩ ?_
      refine r_goto (tgt := 66) dX11_kinds_62 rfl ?_
      refine r_ok (fun h17 => ?_)
      refine r_iadd dX11_kinds_66 h17 ?_
      refine r_istoreB dX11_kinds_67 (by decide) (lf := fun y18 => [(4, 0, y18), (0, 2, 1), (2, 0, a2), (3, 2, x3), (5, 0, x5)]) (fun _ => rfl) (fun y18 ey18 => ?_)
      refine r_iincB 4 dX11_kinds_69 rfl ⟨by have := h11; omega, by have := h11; omega⟩ (by decide) (lf := fun y19 => [(5, 0, y19), (4, 0, y18), (0, 2, 1), (2, 0, a2), (3, 2, x3)]) (fun _ => rfl) (fun y19 ey19 => ?_)
      refine r_goto (tgt := 28) dX11_kinds_72 rfl ?_
      refine r_sub [2, 3, 4, 1, 0] (ls' := [(0, 2, 1), (2, 0, a2), (3, 2, x3), (4, 0, y18), (5, 0, y19)]) rfl ?_
      exact hw28 M14 x3 y18 y19
    · refine r_iconst dX11_kinds_65 ⟨by decide, by decide⟩ ?_
      refine r_ok (fun h20 => ?_)
      refine r_iadd dX11_kinds_66 h20 ?_
      refine r_istoreB dX11_kinds_67 (by decide) (lf := fun y21 => [(4, 0, y21), (0, 2, 1), (2, 0, a2), (3, 2, x3), (5, 0, x5)]) (fun _ => rfl) (fun y21 ey21 => ?_)
      refine r_iincB 4 dX11_kinds_69 rfl ⟨by have := h11; omega, by have := h11; omega⟩ (by decide) (lf := fun y22 => [(5, 0, y22), (4, 0, y21), (0, 2, 1), (2, 0, a2), (3, 2, x3)]) (fun _ => rfl) (fun y22 ey22 => ?_)
      refine r_goto (tgt := 28) dX11_kinds_72 rfl ?_
      refine r_sub [2, 3, 4, 1, 0] (ls' := [(0, 2, 1), (2, 0, a2), (3, 2, x3), (4, 0, y21), (5, 0, y22)]) rfl ?_
      exact hw28 M14 x3 y21 y22
set_option maxRecDepth 100000 in
theorem m_X11_kinds {g : GT} {n nf : Int} (hu : Up true nf n) (M : Mem) (a1 a2 : Int) : AM g true yX11_kinds cX11_kinds 6 (some .int) (6) n n nf [(2, 1), (0, a1), (0, a2)] M (f_X11_kinds M a1 a2) := by
  refine AM_of (by decide +kernel) (Nat.le_of_ble_eq_true rfl) (fun h => absurd h (Int.lt_irrefl n)) ?_
  show AW g true RX11 cX11_kinds 6 (some .int) (6) n n nf 0 [(0, 2, 1), (1, 0, a1), (2, 0, a2)] [] n M (f_X11_kinds M a1 a2)
  unfold f_X11_kinds
  refine r_aload_n 0 dX11_kinds_0 rfl rfl ?_
  refine r_iload_n 1 dX11_kinds_1 rfl rfl ?_
  refine r_inv (a := 1) hu ⟨Nat.le_refl _, Nat.le_refl _⟩ dX11_kinds_2 kM_X11_153 (ci := 11) rfl kd_1 rfl rfl (by decide) (by decide) [(0, a1)] rfl (sk := []) rfl (Nat.le_of_ble_eq_true rfl) rfl rfl (m_X11_lawAt hu M a1) (fun r1 M2 => ?_)
  refine r_astore_n dX11_kinds_5 rfl (by decide) (ls' := [(3, 2, r1), (0, 2, 1), (1, 0, a1), (2, 0, a2)]) rfl ?_
  refine r_aload_n 0 dX11_kinds_6 rfl rfl ?_
  refine r_ifnull (tgt := 20) dX11_kinds_7 rfl (fun h3 => ?_) (fun h4 => ?_)
  · refine r_iconst dX11_kinds_20 ⟨by decide, by decide⟩ ?_
    exact r_iret rfl rfl (Or.inl rfl) dX11_kinds_21
  · refine r_iload_n 3 dX11_kinds_10 rfl rfl ?_
    refine r_if_lt (tgt := 20) dX11_kinds_11 rfl (fun h5 => ?_) (fun h6 => ?_)
    · refine r_iconst dX11_kinds_20 ⟨by decide, by decide⟩ ?_
      exact r_iret rfl rfl (Or.inl rfl) dX11_kinds_21
    · refine r_iload_n 3 dX11_kinds_14 rfl rfl ?_
      refine r_bipush dX11_kinds_15 (by decide) ⟨by decide, by decide⟩ ?_
      refine r_icmp_lt (tgt := 22) dX11_kinds_17 rfl (fun h7 => ?_) (fun h8 => ?_)
      · refine r_iconst dX11_kinds_22 ⟨by decide, by decide⟩ ?_
        refine r_istore dX11_kinds_23 (by decide) (ls' := [(4, 0, 0), (3, 2, r1), (0, 2, 1), (1, 0, a1), (2, 0, a2)]) rfl ?_
        refine r_iconst dX11_kinds_25 ⟨by decide, by decide⟩ ?_
        refine r_istore dX11_kinds_26 (by decide) (ls' := [(5, 0, 0), (4, 0, 0), (3, 2, r1), (0, 2, 1), (1, 0, a1), (2, 0, a2)]) rfl ?_
        refine r_sub [3, 5, 2, 1, 0] (ls' := [(0, 2, 1), (2, 0, a2), (3, 2, r1), (4, 0, 0), (5, 0, 0)]) rfl ?_
        exact wl3_aw (P := fun M x3 x4 x5 o => AW g true RX11 cX11_kinds 6 (some .int) (6) n n nf 28 [(0, 2, 1), (2, 0, a2), (3, 2, x3), (4, 0, x4), (5, 0, x5)] [] n M (o)) (fun M x3 x4 x5 => aw_none) (fun w hw M x3 x4 x5 => tb_X11_kinds_28 hu a2 w hw M x3 x4 x5) FU M2 r1 0 0
      · refine r_iconst dX11_kinds_20 ⟨by decide, by decide⟩ ?_
        exact r_iret rfl rfl (Or.inl rfl) dX11_kinds_21
theorem dX11_oddsOfGuess_0 : decode cX11_oddsOfGuess 0 = .ok (.aload_n 0, 1) := by decide +kernel
theorem dX11_oddsOfGuess_1 : decode cX11_oddsOfGuess 1 = .ok (.aload_n 2, 1) := by decide +kernel
theorem dX11_oddsOfGuess_2 : decode cX11_oddsOfGuess 2 = .ok (.invokevirtual 380, 3) := by decide +kernel
theorem dX11_oddsOfGuess_5 : decode cX11_oddsOfGuess 5 = .ok (.aload_n 1, 1) := by decide +kernel
theorem dX11_oddsOfGuess_6 : decode cX11_oddsOfGuess 6 = .ok (.aload_n 0, 1) := by decide +kernel
theorem dX11_oddsOfGuess_7 : decode cX11_oddsOfGuess 7 = .ok (.getfield 28, 3) := by decide +kernel
theorem dX11_oddsOfGuess_10 : decode cX11_oddsOfGuess 10 = .ok (.iconst 0, 1) := by decide +kernel
theorem dX11_oddsOfGuess_11 : decode cX11_oddsOfGuess 11 = .ok (.invokevirtual 231, 3) := by decide +kernel
theorem dX11_oddsOfGuess_14 : decode cX11_oddsOfGuess 14 = .ok (.aload_n 0, 1) := by decide +kernel
theorem dX11_oddsOfGuess_15 : decode cX11_oddsOfGuess 15 = .ok (.aload_n 2, 1) := by decide +kernel
theorem dX11_oddsOfGuess_16 : decode cX11_oddsOfGuess 16 = .ok (.getfield 326, 3) := by decide +kernel
theorem dX11_oddsOfGuess_19 : decode cX11_oddsOfGuess 19 = .ok (.invokevirtual 254, 3) := by decide +kernel
theorem dX11_oddsOfGuess_22 : decode cX11_oddsOfGuess 22 = .ok (.aload_n 2, 1) := by decide +kernel
theorem dX11_oddsOfGuess_23 : decode cX11_oddsOfGuess 23 = .ok (.invokevirtual 343, 3) := by decide +kernel
theorem dX11_oddsOfGuess_26 : decode cX11_oddsOfGuess 26 = .ok (.invokestatic 257, 3) := by decide +kernel
theorem dX11_oddsOfGuess_29 : decode cX11_oddsOfGuess 29 = .ok (.ireturn, 1) := by decide +kernel
set_option maxRecDepth 100000 in
theorem m_X11_oddsOfGuess {g : GT} {n nf : Int} (hu : Up true nf n) (M : Mem) (a1 a2 : Int) (hk1 : kd a1 = 17) (hk2 : kd a2 = 20) : AM g true yX11_oddsOfGuess cX11_oddsOfGuess 3 (some .int) (5) n n nf [(2, 1), (2, a1), (2, a2)] M (f_X11_oddsOfGuess M a1 a2) := by
  refine AM_of (by decide +kernel) (Nat.le_of_ble_eq_true rfl) (fun h => absurd h (Int.lt_irrefl n)) ?_
  show AW g true RX11 cX11_oddsOfGuess 3 (some .int) (5) n n nf 0 [(0, 2, 1), (1, 2, a1), (2, 2, a2)] [] n M (f_X11_oddsOfGuess M a1 a2)
  unfold f_X11_oddsOfGuess
  refine r_aload_n 0 dX11_oddsOfGuess_0 rfl rfl ?_
  refine r_aload_n 2 dX11_oddsOfGuess_1 rfl rfl ?_
  refine r_invv (a := 1) hu ⟨Nat.le_refl _, Nat.le_refl _⟩ dX11_oddsOfGuess_2 kM_X11_380 (ci := 11) rfl kd_1 rfl rfl (by decide) (by decide) [(2, a2)] rfl (sk := []) rfl (Nat.le_of_ble_eq_true rfl) rfl (m_X11_putTrial hu M a2 hk2) (fun r1 M2 => ?_)
  refine r_aload_n 1 dX11_oddsOfGuess_5 rfl rfl ?_
  refine r_aload_n 0 dX11_oddsOfGuess_6 rfl rfl ?_
  refine r_gx (kz := 2) rfl hu dX11_oddsOfGuess_7 kF_X11_28 kd_1 rfl rfl rfl fx_1_2 ?_
  refine r_iconst dX11_oddsOfGuess_10 ⟨by decide, by decide⟩ ?_
  refine r_inv (a := a1) hu ⟨Nat.le_refl _, Nat.le_refl _⟩ dX11_oddsOfGuess_11 kM_X11_231 (ci := 7) rfl hk1 rfl rfl (by decide) (by decide) [(2, 10), (0, 0)] rfl (sk := []) rfl (Nat.le_of_ble_eq_true rfl) rfl rfl (m_X7_carriedMost hu M2 a1 0 hk1) (fun r3 M4 => ?_)
  refine r_aload_n 0 dX11_oddsOfGuess_14 rfl rfl ?_
  refine r_aload_n 2 dX11_oddsOfGuess_15 rfl rfl ?_
  refine r_gf (t := 0) (kz := 0) rfl hu dX11_oddsOfGuess_16 kF_X11_326 hk2 rfl rfl rfl ?_
  refine r_inv (a := 1) hu ⟨Nat.le_refl _, Nat.le_refl _⟩ dX11_oddsOfGuess_19 kM_X11_254 (ci := 11) rfl kd_1 rfl rfl (by decide) (by decide) [(0, M4 a2 0)] rfl (sk := [(0, r3)]) rfl (Nat.le_of_ble_eq_true rfl) rfl rfl (m_X11_sortsOf hu M4 (M4 a2 0)) (fun r5 M6 => ?_)
  refine r_aload_n 2 dX11_oddsOfGuess_22 rfl rfl ?_
  refine r_inv (a := a2) hu ⟨Nat.le_refl _, Nat.le_refl _⟩ dX11_oddsOfGuess_23 kM_X11_343 (ci := 10) rfl hk2 rfl rfl (by decide) (by decide) [] rfl (sk := [(0, r5), (0, r3)]) rfl (Nat.le_of_ble_eq_true rfl) rfl rfl (m_X10_isRight hu M6 a2 hk2) (fun r7 M8 => ?_)
  refine r_ins (a := 0) ⟨Nat.le_refl _, Nat.le_refl _⟩ dX11_oddsOfGuess_26 kM_X11_257 (by decide) (by decide) [(0, r3), (0, r5), (0, r7)] rfl (sk := []) rfl (Nat.le_of_ble_eq_true rfl) rfl rfl (m_X11_oddsOver hu M8 r3 r5 r7) (fun r9 M10 => ?_)
  exact r_iret rfl rfl (Or.inl rfl) dX11_oddsOfGuess_29
theorem dX11_weightOf_0 : decode cX11_weightOf 0 = .ok (.ldc2_w 367, 3) := by decide +kernel
theorem dX11_weightOf_3 : decode cX11_weightOf 3 = .ok (.lstore_n 2, 1) := by decide +kernel
theorem dX11_weightOf_4 : decode cX11_weightOf 4 = .ok (.iconst 0, 1) := by decide +kernel
theorem dX11_weightOf_5 : decode cX11_weightOf 5 = .ok (.istore 4, 2) := by decide +kernel
theorem dX11_weightOf_7 : decode cX11_weightOf 7 = .ok (.iload 4, 2) := by decide +kernel
theorem dX11_weightOf_9 : decode cX11_weightOf 9 = .ok (.aload_n 0, 1) := by decide +kernel
theorem dX11_weightOf_10 : decode cX11_weightOf 10 = .ok (.getfield 42, 3) := by decide +kernel
theorem dX11_weightOf_13 : decode cX11_weightOf 13 = .ok (.getfield 107, 3) := by decide +kernel
theorem dX11_weightOf_16 : decode cX11_weightOf 16 = .ok (.if_icmp .ge 53, 3) := by decide +kernel
theorem dX11_weightOf_19 : decode cX11_weightOf 19 = .ok (.lload_n 2, 1) := by decide +kernel
theorem dX11_weightOf_20 : decode cX11_weightOf 20 = .ok (.lconst 0, 1) := by decide +kernel
theorem dX11_weightOf_21 : decode cX11_weightOf 21 = .ok (.lcmp, 1) := by decide +kernel
theorem dX11_weightOf_22 : decode cX11_weightOf 22 = .ok (.ifCond .le 47, 3) := by decide +kernel
theorem dX11_weightOf_25 : decode cX11_weightOf 25 = .ok (.aload_n 0, 1) := by decide +kernel
theorem dX11_weightOf_26 : decode cX11_weightOf 26 = .ok (.getfield 42, 3) := by decide +kernel
theorem dX11_weightOf_29 : decode cX11_weightOf 29 = .ok (.getfield 350, 3) := by decide +kernel
theorem dX11_weightOf_32 : decode cX11_weightOf 32 = .ok (.iload 4, 2) := by decide +kernel
theorem dX11_weightOf_34 : decode cX11_weightOf 34 = .ok (.aaload, 1) := by decide +kernel
theorem dX11_weightOf_35 : decode cX11_weightOf 35 = .ok (.astore 5, 2) := by decide +kernel
theorem dX11_weightOf_37 : decode cX11_weightOf 37 = .ok (.lload_n 2, 1) := by decide +kernel
theorem dX11_weightOf_38 : decode cX11_weightOf 38 = .ok (.aload_n 0, 1) := by decide +kernel
theorem dX11_weightOf_39 : decode cX11_weightOf 39 = .ok (.aload_n 1, 1) := by decide +kernel
theorem dX11_weightOf_40 : decode cX11_weightOf 40 = .ok (.aload 5, 2) := by decide +kernel
theorem dX11_weightOf_42 : decode cX11_weightOf 42 = .ok (.invokevirtual 377, 3) := by decide +kernel
theorem dX11_weightOf_45 : decode cX11_weightOf 45 = .ok (.i2l, 1) := by decide +kernel
theorem dX11_weightOf_46 : decode cX11_weightOf 46 = .ok (.lmul, 1) := by decide +kernel
theorem dX11_weightOf_47 : decode cX11_weightOf 47 = .ok (.ldc2_w 444, 3) := by decide +kernel
theorem dX11_weightOf_50 : decode cX11_weightOf 50 = .ok (.aload_n 0, 1) := by decide +kernel
theorem dX11_weightOf_51 : decode cX11_weightOf 51 = .ok (.aload 5, 2) := by decide +kernel
theorem dX11_weightOf_53 : decode cX11_weightOf 53 = .ok (.getfield 326, 3) := by decide +kernel
theorem dX11_weightOf_56 : decode cX11_weightOf 56 = .ok (.invokevirtual 254, 3) := by decide +kernel
theorem dX11_weightOf_59 : decode cX11_weightOf 59 = .ok (.i2l, 1) := by decide +kernel
theorem dX11_weightOf_60 : decode cX11_weightOf 60 = .ok (.lmul, 1) := by decide +kernel
theorem dX11_weightOf_61 : decode cX11_weightOf 61 = .ok (.ldiv, 1) := by decide +kernel
theorem dX11_weightOf_62 : decode cX11_weightOf 62 = .ok (.lstore_n 2, 1) := by decide +kernel
theorem dX11_weightOf_63 : decode cX11_weightOf 63 = .ok (.iinc 4 1, 3) := by decide +kernel
theorem dX11_weightOf_66 : decode cX11_weightOf 66 = .ok (.goto (-59), 3) := by decide +kernel
theorem dX11_weightOf_69 : decode cX11_weightOf 69 = .ok (.lload_n 2, 1) := by decide +kernel
theorem dX11_weightOf_70 : decode cX11_weightOf 70 = .ok (.lreturn, 1) := by decide +kernel
set_option maxRecDepth 100000 in
theorem tb_X11_weightOf_7 {g : GT} {n nf : Int} (hu : Up true nf n) (a1 : Int) (hk1 : kd a1 = 17) (w7 : Mem → Int → Int → Res) (hw7 : ∀ (M : Mem) (x2 x4 : Int), AW g true RX11 cX11_weightOf 6 (some .long) (6) n n nf 7 [(0, 2, 1), (1, 2, a1), (2, 1, x2), (4, 0, x4)] [] n M (w7 M x2 x4)) (M : Mem) (x2 x4 : Int) : AW g true RX11 cX11_weightOf 6 (some .long) (6) n n nf 7 [(0, 2, 1), (1, 2, a1), (2, 1, x2), (4, 0, x4)] [] n M (b_X11_weightOf_7 a1 w7 M x2 x4) := by
  unfold b_X11_weightOf_7
  refine r_iload 3 dX11_weightOf_7 rfl ?_
  refine r_aload_n 0 dX11_weightOf_9 rfl rfl ?_
  refine r_gx (kz := 4) rfl hu dX11_weightOf_10 kF_X11_42 kd_1 rfl rfl rfl fx_1_4 ?_
  refine r_gf (t := 0) (kz := 1) rfl hu dX11_weightOf_13 kF_X11_107 kd_21 rfl rfl rfl ?_
  refine r_icmp_ge (tgt := 69) dX11_weightOf_16 rfl (fun h1 => ?_) (fun h2 => ?_)
  · refine r_lload_n 2 dX11_weightOf_69 rfl rfl ?_
    exact r_lret rfl rfl dX11_weightOf_70
  · refine r_lload_n 2 dX11_weightOf_19 rfl rfl ?_
    refine r_lconst (v := 0) dX11_weightOf_20 (by decide) ⟨by decide, by decide⟩ ?_
    refine r_lif_le (tgt := 69) dX11_weightOf_21 dX11_weightOf_22 rfl (fun h3 => ?_) (fun h4 => ?_)
    · refine r_lload_n 2 dX11_weightOf_69 rfl rfl ?_
      exact r_lret rfl rfl dX11_weightOf_70
    · refine r_aload_n 0 dX11_weightOf_25 rfl rfl ?_
      refine r_gx (kz := 4) rfl hu dX11_weightOf_26 kF_X11_42 kd_1 rfl rfl rfl fx_1_4 ?_
      refine r_gx (kz := 0) rfl hu dX11_weightOf_29 kF_X11_350 kd_21 rfl rfl rfl fx_21_0 ?_
      refine r_iload 3 dX11_weightOf_32 rfl ?_
      refine r_ok (fun h5 => ?_)
      refine r_aalx hu dX11_weightOf_34 kd_22 (Or.inr (Or.inr rfl)) rfl ln_22 h5 (fxTr _ h5) ?_
      refine r_astore dX11_weightOf_35 (by decide) (ls' := [(5, 2, 23 + x4), (0, 2, 1), (1, 2, a1), (2, 1, x2), (4, 0, x4)]) rfl ?_
      refine r_lload_n 3 dX11_weightOf_37 rfl rfl ?_
      refine r_aload_n 1 dX11_weightOf_38 rfl rfl ?_
      refine r_aload_n 2 dX11_weightOf_39 rfl rfl ?_
      refine r_aload 0 dX11_weightOf_40 rfl ?_
      refine r_inv (a := 1) hu ⟨Nat.le_refl _, Nat.le_refl _⟩ dX11_weightOf_42 kM_X11_377 (ci := 11) rfl kd_1 rfl rfl (by decide) (by decide) [(2, a1), (2, 23 + x4)] rfl (sk := [(1, x2)]) rfl (Nat.le_of_ble_eq_true rfl) rfl rfl (m_X11_oddsOfGuess hu M a1 (23 + x4) hk1 (kdTr _ h5)) (fun r6 M7 => ?_)
      refine r_i2l dX11_weightOf_45 ?_
      refine r_ok (fun h8 => ?_)
      refine r_lmul dX11_weightOf_46 h8 ?_
      refine r_ldc2 (v := 100) dX11_weightOf_47 kC_X11_444 rfl ⟨by decide, by decide⟩ ?_
      refine r_aload_n 1 dX11_weightOf_50 rfl rfl ?_
      refine r_aload 0 dX11_weightOf_51 rfl ?_
      refine r_gf (t := 0) (kz := 0) rfl hu dX11_weightOf_53 kF_X11_326 (kdTr _ h5) rfl rfl rfl ?_
      refine r_inv (a := 1) hu ⟨Nat.le_refl _, Nat.le_refl _⟩ dX11_weightOf_56 kM_X11_254 (ci := 11) rfl kd_1 rfl rfl (by decide) (by decide) [(0, M7 (23 + x4) 0)] rfl (sk := [(1, 100), (1, x2 * r6)]) rfl (Nat.le_of_ble_eq_true rfl) rfl rfl (m_X11_sortsOf hu M7 (M7 (23 + x4) 0)) (fun r9 M10 => ?_)
      refine r_i2l dX11_weightOf_59 ?_
      refine r_ok (fun h11 => ?_)
      refine r_lmul dX11_weightOf_60 h11 ?_
      refine r_ok (fun h12 => ?_)
      refine r_ldivP dX11_weightOf_61 h12 ?_
      refine r_lstore_nB dX11_weightOf_62 rfl (by decide) (lf := fun y13 => [(2, 1, y13), (5, 2, 23 + x4), (0, 2, 1), (1, 2, a1), (4, 0, x4)]) (fun _ => rfl) (fun y13 ey13 => ?_)
      refine r_iincB 4 dX11_weightOf_63 rfl ⟨by have := h5; omega, by have := h5; omega⟩ (by decide) (lf := fun y14 => [(4, 0, y14), (2, 1, y13), (5, 2, 23 + x4), (0, 2, 1), (1, 2, a1)]) (fun _ => rfl) (fun y14 ey14 => ?_)
      refine r_goto (tgt := 7) dX11_weightOf_66 rfl ?_
      refine r_sub [3, 4, 1, 0] (ls' := [(0, 2, 1), (1, 2, a1), (2, 1, y13), (4, 0, y14)]) rfl ?_
      exact hw7 M10 y13 y14
set_option maxRecDepth 100000 in
theorem m_X11_weightOf {g : GT} {n nf : Int} (hu : Up true nf n) (M : Mem) (a1 : Int) (hk1 : kd a1 = 17) : AM g true yX11_weightOf cX11_weightOf 6 (some .long) (6) n n nf [(2, 1), (2, a1)] M (f_X11_weightOf M a1) := by
  refine AM_of (by decide +kernel) (Nat.le_of_ble_eq_true rfl) (fun h => absurd h (Int.lt_irrefl n)) ?_
  show AW g true RX11 cX11_weightOf 6 (some .long) (6) n n nf 0 [(0, 2, 1), (1, 2, a1)] [] n M (f_X11_weightOf M a1)
  unfold f_X11_weightOf
  refine r_ldc2 (v := 1000000000000) dX11_weightOf_0 kC_X11_367 rfl ⟨by decide, by decide⟩ ?_
  refine r_lstore_n dX11_weightOf_3 rfl (by decide) (ls' := [(2, 1, 1000000000000), (0, 2, 1), (1, 2, a1)]) rfl ?_
  refine r_iconst dX11_weightOf_4 ⟨by decide, by decide⟩ ?_
  refine r_istore dX11_weightOf_5 (by decide) (ls' := [(4, 0, 0), (2, 1, 1000000000000), (0, 2, 1), (1, 2, a1)]) rfl ?_
  refine r_sub [2, 3, 1, 0] (ls' := [(0, 2, 1), (1, 2, a1), (2, 1, 1000000000000), (4, 0, 0)]) rfl ?_
  exact wl2_aw (P := fun M x2 x4 o => AW g true RX11 cX11_weightOf 6 (some .long) (6) n n nf 7 [(0, 2, 1), (1, 2, a1), (2, 1, x2), (4, 0, x4)] [] n M (o)) (fun M x2 x4 => aw_none) (fun w hw M x2 x4 => tb_X11_weightOf_7 hu a1 hk1 w hw M x2 x4) FU M 1000000000000 0
theorem dX11_weight_0 : decode cX11_weight 0 = .ok (.aload_n 0, 1) := by decide +kernel
theorem dX11_weight_1 : decode cX11_weight 1 = .ok (.iload_n 1, 1) := by decide +kernel
theorem dX11_weight_2 : decode cX11_weight 2 = .ok (.invokevirtual 153, 3) := by decide +kernel
theorem dX11_weight_5 : decode cX11_weight 5 = .ok (.astore_n 2, 1) := by decide +kernel
theorem dX11_weight_6 : decode cX11_weight 6 = .ok (.aload_n 2, 1) := by decide +kernel
theorem dX11_weight_7 : decode cX11_weight 7 = .ok (.ifnonnull 9, 3) := by decide +kernel
theorem dX11_weight_10 : decode cX11_weight 10 = .ok (.ldc2_w 365, 3) := by decide +kernel
theorem dX11_weight_13 : decode cX11_weight 13 = .ok (.goto 8, 3) := by decide +kernel
theorem dX11_weight_16 : decode cX11_weight 16 = .ok (.aload_n 0, 1) := by decide +kernel
theorem dX11_weight_17 : decode cX11_weight 17 = .ok (.aload_n 2, 1) := by decide +kernel
theorem dX11_weight_18 : decode cX11_weight 18 = .ok (.invokevirtual 373, 3) := by decide +kernel
theorem dX11_weight_21 : decode cX11_weight 21 = .ok (.lreturn, 1) := by decide +kernel
set_option maxRecDepth 100000 in
theorem m_X11_weight {g : GT} {n nf : Int} (hu : Up true nf n) (M : Mem) (a1 : Int) : AM g true yX11_weight cX11_weight 3 (some .long) (7) n n nf [(2, 1), (0, a1)] M (f_X11_weight M a1) := by
  refine AM_of (by decide +kernel) (Nat.le_of_ble_eq_true rfl) (fun h => absurd h (Int.lt_irrefl n)) ?_
  show AW g true RX11 cX11_weight 3 (some .long) (7) n n nf 0 [(0, 2, 1), (1, 0, a1)] [] n M (f_X11_weight M a1)
  unfold f_X11_weight
  refine r_aload_n 0 dX11_weight_0 rfl rfl ?_
  refine r_iload_n 1 dX11_weight_1 rfl rfl ?_
  refine r_inv (a := 1) hu ⟨Nat.le_refl _, Nat.le_refl _⟩ dX11_weight_2 kM_X11_153 (ci := 11) rfl kd_1 rfl rfl (by decide) (by decide) [(0, a1)] rfl (sk := []) rfl (Nat.le_of_ble_eq_true rfl) rfl rfl (m_X11_lawAt hu M a1) (fun r1 M2 => ?_)
  refine r_astore_n dX11_weight_5 rfl (by decide) (ls' := [(2, 2, r1), (0, 2, 1), (1, 0, a1)]) rfl ?_
  refine r_aload_n 0 dX11_weight_6 rfl rfl ?_
  refine r_ifnonnull (tgt := 16) dX11_weight_7 rfl (fun h3 => ?_) (fun h4 => ?_)
  · refine r_ldc2 (v := (-1)) dX11_weight_10 kC_X11_365 rfl ⟨by decide, by decide⟩ ?_
    refine r_goto (tgt := 21) dX11_weight_13 rfl ?_
    exact r_lret rfl rfl dX11_weight_21
  · refine r_aload_n 1 dX11_weight_16 rfl rfl ?_
    refine r_aload_n 0 dX11_weight_17 rfl rfl ?_
    refine r_ok (fun h5 => ?_)
    refine r_inv (a := 1) hu ⟨Nat.le_refl _, Nat.le_refl _⟩ dX11_weight_18 kM_X11_373 (ci := 11) rfl kd_1 rfl rfl (by decide) (by decide) [(2, r1)] rfl (sk := []) rfl (Nat.le_of_ble_eq_true rfl) rfl rfl (m_X11_weightOf hu M2 r1 h5) (fun r6 M7 => ?_)
    exact r_lret rfl rfl dX11_weight_21
theorem dX11_thrown_0 : decode cX11_thrown 0 = .ok (.aload_n 0, 1) := by decide +kernel
theorem dX11_thrown_1 : decode cX11_thrown 1 = .ok (.iload_n 1, 1) := by decide +kernel
theorem dX11_thrown_2 : decode cX11_thrown 2 = .ok (.invokevirtual 153, 3) := by decide +kernel
theorem dX11_thrown_5 : decode cX11_thrown 5 = .ok (.astore_n 2, 1) := by decide +kernel
theorem dX11_thrown_6 : decode cX11_thrown 6 = .ok (.aload_n 2, 1) := by decide +kernel
theorem dX11_thrown_7 : decode cX11_thrown 7 = .ok (.ifnonnull 5, 3) := by decide +kernel
theorem dX11_thrown_10 : decode cX11_thrown 10 = .ok (.iconst (-1), 1) := by decide +kernel
theorem dX11_thrown_11 : decode cX11_thrown 11 = .ok (.ireturn, 1) := by decide +kernel
theorem dX11_thrown_12 : decode cX11_thrown 12 = .ok (.iconst 0, 1) := by decide +kernel
theorem dX11_thrown_13 : decode cX11_thrown 13 = .ok (.istore_n 3, 1) := by decide +kernel
theorem dX11_thrown_14 : decode cX11_thrown 14 = .ok (.iload_n 3, 1) := by decide +kernel
theorem dX11_thrown_15 : decode cX11_thrown 15 = .ok (.aload_n 0, 1) := by decide +kernel
theorem dX11_thrown_16 : decode cX11_thrown 16 = .ok (.getfield 42, 3) := by decide +kernel
theorem dX11_thrown_19 : decode cX11_thrown 19 = .ok (.getfield 107, 3) := by decide +kernel
theorem dX11_thrown_22 : decode cX11_thrown 22 = .ok (.if_icmp .ge 28, 3) := by decide +kernel
theorem dX11_thrown_25 : decode cX11_thrown 25 = .ok (.aload_n 0, 1) := by decide +kernel
theorem dX11_thrown_26 : decode cX11_thrown 26 = .ok (.aload_n 2, 1) := by decide +kernel
theorem dX11_thrown_27 : decode cX11_thrown 27 = .ok (.aload_n 0, 1) := by decide +kernel
theorem dX11_thrown_28 : decode cX11_thrown 28 = .ok (.getfield 42, 3) := by decide +kernel
theorem dX11_thrown_31 : decode cX11_thrown 31 = .ok (.getfield 350, 3) := by decide +kernel
theorem dX11_thrown_34 : decode cX11_thrown 34 = .ok (.iload_n 3, 1) := by decide +kernel
theorem dX11_thrown_35 : decode cX11_thrown 35 = .ok (.aaload, 1) := by decide +kernel
theorem dX11_thrown_36 : decode cX11_thrown 36 = .ok (.invokevirtual 377, 3) := by decide +kernel
theorem dX11_thrown_39 : decode cX11_thrown 39 = .ok (.ifCond .ne 5, 3) := by decide +kernel
theorem dX11_thrown_42 : decode cX11_thrown 42 = .ok (.iload_n 3, 1) := by decide +kernel
theorem dX11_thrown_43 : decode cX11_thrown 43 = .ok (.ireturn, 1) := by decide +kernel
theorem dX11_thrown_44 : decode cX11_thrown 44 = .ok (.iinc 3 1, 3) := by decide +kernel
theorem dX11_thrown_47 : decode cX11_thrown 47 = .ok (.goto (-33), 3) := by decide +kernel
theorem dX11_thrown_50 : decode cX11_thrown 50 = .ok (.iconst (-1), 1) := by decide +kernel
theorem dX11_thrown_51 : decode cX11_thrown 51 = .ok (.ireturn, 1) := by decide +kernel
set_option maxRecDepth 100000 in
theorem tb_X11_thrown_14 {g : GT} {n nf : Int} (hu : Up true nf n) (w14 : Mem → Int → Int → Res) (hw14 : ∀ (M : Mem) (x2 x3 : Int), AW g true RX11 cX11_thrown 4 (some .int) (6) n n nf 14 [(0, 2, 1), (2, 2, x2), (3, 0, x3)] [] n M (w14 M x2 x3)) (M : Mem) (x2 x3 : Int) : AW g true RX11 cX11_thrown 4 (some .int) (6) n n nf 14 [(0, 2, 1), (2, 2, x2), (3, 0, x3)] [] n M (b_X11_thrown_14 w14 M x2 x3) := by
  unfold b_X11_thrown_14
  refine r_iload_n 2 dX11_thrown_14 rfl rfl ?_
  refine r_aload_n 0 dX11_thrown_15 rfl rfl ?_
  refine r_gx (kz := 4) rfl hu dX11_thrown_16 kF_X11_42 kd_1 rfl rfl rfl fx_1_4 ?_
  refine r_gf (t := 0) (kz := 1) rfl hu dX11_thrown_19 kF_X11_107 kd_21 rfl rfl rfl ?_
  refine r_icmp_ge (tgt := 50) dX11_thrown_22 rfl (fun h5 => ?_) (fun h6 => ?_)
  · refine r_iconst dX11_thrown_50 ⟨by decide, by decide⟩ ?_
    exact r_iret rfl rfl (Or.inl rfl) dX11_thrown_51
  · refine r_aload_n 0 dX11_thrown_25 rfl rfl ?_
    refine r_aload_n 1 dX11_thrown_26 rfl rfl ?_
    refine r_aload_n 0 dX11_thrown_27 rfl rfl ?_
    refine r_gx (kz := 4) rfl hu dX11_thrown_28 kF_X11_42 kd_1 rfl rfl rfl fx_1_4 ?_
    refine r_gx (kz := 0) rfl hu dX11_thrown_31 kF_X11_350 kd_21 rfl rfl rfl fx_21_0 ?_
    refine r_iload_n 2 dX11_thrown_34 rfl rfl ?_
    refine r_ok (fun h7 => ?_)
    refine r_aalx hu dX11_thrown_35 kd_22 (Or.inr (Or.inr rfl)) rfl ln_22 h7 (fxTr _ h7) ?_
    refine r_ok (fun h8 => ?_)
    refine r_inv (a := 1) hu ⟨Nat.le_refl _, Nat.le_refl _⟩ dX11_thrown_36 kM_X11_377 (ci := 11) rfl kd_1 rfl rfl (by decide) (by decide) [(2, x2), (2, 23 + x3)] rfl (sk := []) rfl (Nat.le_of_ble_eq_true rfl) rfl rfl (m_X11_oddsOfGuess hu M x2 (23 + x3) h8 (kdTr _ h7)) (fun r9 M10 => ?_)
    refine r_if_ne (tgt := 44) dX11_thrown_39 rfl (fun h11 => ?_) (fun h12 => ?_)
    · refine r_iload_n 2 dX11_thrown_42 rfl rfl ?_
      exact r_iret rfl rfl (Or.inl rfl) dX11_thrown_43
    · refine r_iincB 2 dX11_thrown_44 rfl ⟨by have := h7; omega, by have := h7; omega⟩ (by decide) (lf := fun y13 => [(3, 0, y13), (0, 2, 1), (2, 2, x2)]) (fun _ => rfl) (fun y13 ey13 => ?_)
      refine r_goto (tgt := 14) dX11_thrown_47 rfl ?_
      refine r_sub [1, 2, 0] (ls' := [(0, 2, 1), (2, 2, x2), (3, 0, y13)]) rfl ?_
      exact hw14 M10 x2 y13
set_option maxRecDepth 100000 in
theorem m_X11_thrown {g : GT} {n nf : Int} (hu : Up true nf n) (M : Mem) (a1 : Int) : AM g true yX11_thrown cX11_thrown 4 (some .int) (6) n n nf [(2, 1), (0, a1)] M (f_X11_thrown M a1) := by
  refine AM_of (by decide +kernel) (Nat.le_of_ble_eq_true rfl) (fun h => absurd h (Int.lt_irrefl n)) ?_
  show AW g true RX11 cX11_thrown 4 (some .int) (6) n n nf 0 [(0, 2, 1), (1, 0, a1)] [] n M (f_X11_thrown M a1)
  unfold f_X11_thrown
  refine r_aload_n 0 dX11_thrown_0 rfl rfl ?_
  refine r_iload_n 1 dX11_thrown_1 rfl rfl ?_
  refine r_inv (a := 1) hu ⟨Nat.le_refl _, Nat.le_refl _⟩ dX11_thrown_2 kM_X11_153 (ci := 11) rfl kd_1 rfl rfl (by decide) (by decide) [(0, a1)] rfl (sk := []) rfl (Nat.le_of_ble_eq_true rfl) rfl rfl (m_X11_lawAt hu M a1) (fun r1 M2 => ?_)
  refine r_astore_n dX11_thrown_5 rfl (by decide) (ls' := [(2, 2, r1), (0, 2, 1), (1, 0, a1)]) rfl ?_
  refine r_aload_n 0 dX11_thrown_6 rfl rfl ?_
  refine r_ifnonnull (tgt := 12) dX11_thrown_7 rfl (fun h3 => ?_) (fun h4 => ?_)
  · refine r_iconst dX11_thrown_10 ⟨by decide, by decide⟩ ?_
    exact r_iret rfl rfl (Or.inl rfl) dX11_thrown_11
  · refine r_iconst dX11_thrown_12 ⟨by decide, by decide⟩ ?_
    refine r_istore_n dX11_thrown_13 rfl (by decide) (ls' := [(3, 0, 0), (2, 2, r1), (0, 2, 1), (1, 0, a1)]) rfl ?_
    refine r_sub [2, 1, 0] (ls' := [(0, 2, 1), (2, 2, r1), (3, 0, 0)]) rfl ?_
    exact wl2_aw (P := fun M x2 x3 o => AW g true RX11 cX11_thrown 4 (some .int) (6) n n nf 14 [(0, 2, 1), (2, 2, x2), (3, 0, x3)] [] n M (o)) (fun M x2 x3 => aw_none) (fun w hw M x2 x3 => tb_X11_thrown_14 hu w hw M x2 x3) FU M2 r1 0
theorem dX11_likely_0 : decode cX11_likely 0 = .ok (.iconst (-1), 1) := by decide +kernel
theorem dX11_likely_1 : decode cX11_likely 1 = .ok (.istore_n 1, 1) := by decide +kernel
theorem dX11_likely_2 : decode cX11_likely 2 = .ok (.ldc2_w 365, 3) := by decide +kernel
theorem dX11_likely_5 : decode cX11_likely 5 = .ok (.lstore_n 2, 1) := by decide +kernel
theorem dX11_likely_6 : decode cX11_likely 6 = .ok (.iconst 0, 1) := by decide +kernel
theorem dX11_likely_7 : decode cX11_likely 7 = .ok (.istore 4, 2) := by decide +kernel
theorem dX11_likely_9 : decode cX11_likely 9 = .ok (.iload 4, 2) := by decide +kernel
theorem dX11_likely_11 : decode cX11_likely 11 = .ok (.iconst 3, 1) := by decide +kernel
theorem dX11_likely_12 : decode cX11_likely 12 = .ok (.if_icmp .ge 54, 3) := by decide +kernel
theorem dX11_likely_15 : decode cX11_likely 15 = .ok (.aload_n 0, 1) := by decide +kernel
theorem dX11_likely_16 : decode cX11_likely 16 = .ok (.getfield 62, 3) := by decide +kernel
theorem dX11_likely_19 : decode cX11_likely 19 = .ok (.iload 4, 2) := by decide +kernel
theorem dX11_likely_21 : decode cX11_likely 21 = .ok (.aaload, 1) := by decide +kernel
theorem dX11_likely_22 : decode cX11_likely 22 = .ok (.getfield 110, 3) := by decide +kernel
theorem dX11_likely_25 : decode cX11_likely 25 = .ok (.ifCond .eq 17, 3) := by decide +kernel
theorem dX11_likely_28 : decode cX11_likely 28 = .ok (.aload_n 0, 1) := by decide +kernel
theorem dX11_likely_29 : decode cX11_likely 29 = .ok (.aload_n 0, 1) := by decide +kernel
theorem dX11_likely_30 : decode cX11_likely 30 = .ok (.getfield 62, 3) := by decide +kernel
theorem dX11_likely_33 : decode cX11_likely 33 = .ok (.iload 4, 2) := by decide +kernel
theorem dX11_likely_35 : decode cX11_likely 35 = .ok (.aaload, 1) := by decide +kernel
theorem dX11_likely_36 : decode cX11_likely 36 = .ok (.invokevirtual 373, 3) := by decide +kernel
theorem dX11_likely_39 : decode cX11_likely 39 = .ok (.goto 6, 3) := by decide +kernel
theorem dX11_likely_42 : decode cX11_likely 42 = .ok (.ldc2_w 365, 3) := by decide +kernel
theorem dX11_likely_45 : decode cX11_likely 45 = .ok (.lstore 5, 2) := by decide +kernel
theorem dX11_likely_47 : decode cX11_likely 47 = .ok (.lload 5, 2) := by decide +kernel
theorem dX11_likely_49 : decode cX11_likely 49 = .ok (.lload_n 2, 1) := by decide +kernel
theorem dX11_likely_50 : decode cX11_likely 50 = .ok (.lcmp, 1) := by decide +kernel
theorem dX11_likely_51 : decode cX11_likely 51 = .ok (.ifCond .le 9, 3) := by decide +kernel
theorem dX11_likely_54 : decode cX11_likely 54 = .ok (.lload 5, 2) := by decide +kernel
theorem dX11_likely_56 : decode cX11_likely 56 = .ok (.lstore_n 2, 1) := by decide +kernel
theorem dX11_likely_57 : decode cX11_likely 57 = .ok (.iload 4, 2) := by decide +kernel
theorem dX11_likely_59 : decode cX11_likely 59 = .ok (.istore_n 1, 1) := by decide +kernel
theorem dX11_likely_60 : decode cX11_likely 60 = .ok (.iinc 4 1, 3) := by decide +kernel
theorem dX11_likely_63 : decode cX11_likely 63 = .ok (.goto (-54), 3) := by decide +kernel
theorem dX11_likely_66 : decode cX11_likely 66 = .ok (.iload_n 1, 1) := by decide +kernel
theorem dX11_likely_67 : decode cX11_likely 67 = .ok (.ireturn, 1) := by decide +kernel
set_option maxRecDepth 100000 in
theorem tj_X11_likely_45 {g : GT} {n nf : Int} (hu : Up true nf n) (w9 : Mem → Int → Int → Int → Res) (hw9 : ∀ (M : Mem) (x1 x2 x4 : Int), AW g true RX11 cX11_likely 7 (some .int) (7) n n nf 9 [(0, 2, 1), (1, 0, x1), (2, 1, x2), (4, 0, x4)] [] n M (w9 M x1 x2 x4)) (M : Mem) (x1 x2 x4 s0 : Int) : AW g true RX11 cX11_likely 7 (some .int) (7) n n nf 45 [(0, 2, 1), (1, 0, x1), (2, 1, x2), (4, 0, x4)] [(1, s0)] n M (j_X11_likely_45 w9 M x1 x2 x4 s0) := by
  unfold j_X11_likely_45
  refine r_lstore dX11_likely_45 (by decide) (ls' := [(5, 1, s0), (0, 2, 1), (1, 0, x1), (2, 1, x2), (4, 0, x4)]) rfl ?_
  refine r_lload 0 dX11_likely_47 rfl ?_
  refine r_lload_n 3 dX11_likely_49 rfl rfl ?_
  refine r_lif_le (tgt := 60) dX11_likely_50 dX11_likely_51 rfl (fun h7 => ?_) (fun h8 => ?_)
  · refine r_ok (fun h9 => ?_)
    refine r_iincB 4 dX11_likely_60 rfl h9 (by decide) (lf := fun y10 => [(4, 0, y10), (5, 1, s0), (0, 2, 1), (1, 0, x1), (2, 1, x2)]) (fun _ => rfl) (fun y10 ey10 => ?_)
    refine r_goto (tgt := 9) dX11_likely_63 rfl ?_
    refine r_sub [2, 3, 4, 0] (ls' := [(0, 2, 1), (1, 0, x1), (2, 1, x2), (4, 0, y10)]) rfl ?_
    exact hw9 M x1 x2 y10
  · refine r_lload 0 dX11_likely_54 rfl ?_
    refine r_lstore_n dX11_likely_56 rfl (by decide) (ls' := [(2, 1, s0), (5, 1, s0), (0, 2, 1), (1, 0, x1), (4, 0, x4)]) rfl ?_
    refine r_iload 4 dX11_likely_57 rfl ?_
    refine r_istore_n dX11_likely_59 rfl (by decide) (ls' := [(1, 0, x4), (2, 1, s0), (5, 1, s0), (0, 2, 1), (4, 0, x4)]) rfl ?_
    refine r_ok (fun h11 => ?_)
    refine r_iincB 4 dX11_likely_60 rfl h11 (by decide) (lf := fun y12 => [(4, 0, y12), (1, 0, x4), (2, 1, s0), (5, 1, s0), (0, 2, 1)]) (fun _ => rfl) (fun y12 ey12 => ?_)
    refine r_goto (tgt := 9) dX11_likely_63 rfl ?_
    refine r_sub [4, 1, 2, 0] (ls' := [(0, 2, 1), (1, 0, x4), (2, 1, s0), (4, 0, y12)]) rfl ?_
    exact hw9 M x4 s0 y12
set_option maxRecDepth 100000 in
theorem tb_X11_likely_9 {g : GT} {n nf : Int} (hu : Up true nf n) (w9 : Mem → Int → Int → Int → Res) (hw9 : ∀ (M : Mem) (x1 x2 x4 : Int), AW g true RX11 cX11_likely 7 (some .int) (7) n n nf 9 [(0, 2, 1), (1, 0, x1), (2, 1, x2), (4, 0, x4)] [] n M (w9 M x1 x2 x4)) (M : Mem) (x1 x2 x4 : Int) : AW g true RX11 cX11_likely 7 (some .int) (7) n n nf 9 [(0, 2, 1), (1, 0, x1), (2, 1, x2), (4, 0, x4)] [] n M (b_X11_likely_9 w9 M x1 x2 x4) := by
  unfold b_X11_likely_9
  refine r_iload 3 dX11_likely_9 rfl ?_
  refine r_iconst dX11_likely_11 ⟨by decide, by decide⟩ ?_
  refine r_icmp_ge (tgt := 66) dX11_likely_12 rfl (fun h1 => ?_) (fun h2 => ?_)
  · refine r_iload_n 1 dX11_likely_66 rfl rfl ?_
    exact r_iret rfl rfl (Or.inl rfl) dX11_likely_67
  · refine r_aload_n 0 dX11_likely_15 rfl rfl ?_
    refine r_gx (kz := 7) rfl hu dX11_likely_16 kF_X11_62 kd_1 rfl rfl rfl fx_1_7 ?_
    refine r_iload 3 dX11_likely_19 rfl ?_
    refine r_ok (fun h3 => ?_)
    refine r_aald hu dX11_likely_21 kd_68 (Or.inl rfl) rfl ln_68 h3 ?_
    refine r_ok (fun h4 => ?_)
    refine r_gf (t := 0) (kz := 6) rfl hu dX11_likely_22 kF_X11_110 h4 rfl rfl rfl ?_
    refine r_if_eq (tgt := 42) dX11_likely_25 rfl (fun h5 => ?_) (fun h6 => ?_)
    · refine r_ldc2 (v := (-1)) dX11_likely_42 kC_X11_365 rfl ⟨by decide, by decide⟩ ?_
      exact tj_X11_likely_45 hu w9 hw9 M x1 x2 x4 (-1)
    · refine r_aload_n 0 dX11_likely_28 rfl rfl ?_
      refine r_aload_n 0 dX11_likely_29 rfl rfl ?_
      refine r_gx (kz := 7) rfl hu dX11_likely_30 kF_X11_62 kd_1 rfl rfl rfl fx_1_7 ?_
      refine r_iload 3 dX11_likely_33 rfl ?_
      refine r_aald hu dX11_likely_35 kd_68 (Or.inl rfl) rfl ln_68 h3 ?_
      refine r_inv (a := 1) hu ⟨Nat.le_refl _, Nat.le_refl _⟩ dX11_likely_36 kM_X11_373 (ci := 11) rfl kd_1 rfl rfl (by decide) (by decide) [(2, M 68 x4)] rfl (sk := []) rfl (Nat.le_of_ble_eq_true rfl) rfl rfl (m_X11_weightOf hu M (M 68 x4) h4) (fun r13 M14 => ?_)
      refine r_goto (tgt := 45) dX11_likely_39 rfl ?_
      exact tj_X11_likely_45 hu w9 hw9 M14 x1 x2 x4 r13
set_option maxRecDepth 100000 in
theorem m_X11_likely {g : GT} {n nf : Int} (hu : Up true nf n) (M : Mem) : AM g true yX11_likely cX11_likely 7 (some .int) (7) n n nf [(2, 1)] M (f_X11_likely M) := by
  refine AM_of (by decide +kernel) (Nat.le_of_ble_eq_true rfl) (fun h => absurd h (Int.lt_irrefl n)) ?_
  show AW g true RX11 cX11_likely 7 (some .int) (7) n n nf 0 [(0, 2, 1)] [] n M (f_X11_likely M)
  unfold f_X11_likely
  refine r_iconst dX11_likely_0 ⟨by decide, by decide⟩ ?_
  refine r_istore_n dX11_likely_1 rfl (by decide) (ls' := [(1, 0, (-1)), (0, 2, 1)]) rfl ?_
  refine r_ldc2 (v := (-1)) dX11_likely_2 kC_X11_365 rfl ⟨by decide, by decide⟩ ?_
  refine r_lstore_n dX11_likely_5 rfl (by decide) (ls' := [(2, 1, (-1)), (1, 0, (-1)), (0, 2, 1)]) rfl ?_
  refine r_iconst dX11_likely_6 ⟨by decide, by decide⟩ ?_
  refine r_istore dX11_likely_7 (by decide) (ls' := [(4, 0, 0), (2, 1, (-1)), (1, 0, (-1)), (0, 2, 1)]) rfl ?_
  refine r_sub [3, 2, 1, 0] (ls' := [(0, 2, 1), (1, 0, (-1)), (2, 1, (-1)), (4, 0, 0)]) rfl ?_
  exact wl3_aw (P := fun M x1 x2 x4 o => AW g true RX11 cX11_likely 7 (some .int) (7) n n nf 9 [(0, 2, 1), (1, 0, x1), (2, 1, x2), (4, 0, x4)] [] n M (o)) (fun M x1 x2 x4 => aw_none) (fun w hw M x1 x2 x4 => tb_X11_likely_9 hu w hw M x1 x2 x4) FU M (-1) (-1) 0
theorem dX11_lies_0 : decode cX11_lies 0 = .ok (.aload_n 0, 1) := by decide +kernel
theorem dX11_lies_1 : decode cX11_lies 1 = .ok (.iload_n 1, 1) := by decide +kernel
theorem dX11_lies_2 : decode cX11_lies 2 = .ok (.invokevirtual 153, 3) := by decide +kernel
theorem dX11_lies_5 : decode cX11_lies 5 = .ok (.astore_n 2, 1) := by decide +kernel
theorem dX11_lies_6 : decode cX11_lies 6 = .ok (.aload_n 2, 1) := by decide +kernel
theorem dX11_lies_7 : decode cX11_lies 7 = .ok (.ifnonnull 5, 3) := by decide +kernel
theorem dX11_lies_10 : decode cX11_lies 10 = .ok (.iconst (-1), 1) := by decide +kernel
theorem dX11_lies_11 : decode cX11_lies 11 = .ok (.ireturn, 1) := by decide +kernel
theorem dX11_lies_12 : decode cX11_lies 12 = .ok (.iconst 0, 1) := by decide +kernel
theorem dX11_lies_13 : decode cX11_lies 13 = .ok (.istore_n 3, 1) := by decide +kernel
theorem dX11_lies_14 : decode cX11_lies 14 = .ok (.iconst 0, 1) := by decide +kernel
theorem dX11_lies_15 : decode cX11_lies 15 = .ok (.istore 4, 2) := by decide +kernel
theorem dX11_lies_17 : decode cX11_lies 17 = .ok (.iload 4, 2) := by decide +kernel
theorem dX11_lies_19 : decode cX11_lies 19 = .ok (.aload_n 0, 1) := by decide +kernel
theorem dX11_lies_20 : decode cX11_lies 20 = .ok (.getfield 42, 3) := by decide +kernel
theorem dX11_lies_23 : decode cX11_lies 23 = .ok (.getfield 107, 3) := by decide +kernel
theorem dX11_lies_26 : decode cX11_lies 26 = .ok (.if_icmp .ge 51, 3) := by decide +kernel
theorem dX11_lies_29 : decode cX11_lies 29 = .ok (.aload_n 0, 1) := by decide +kernel
theorem dX11_lies_30 : decode cX11_lies 30 = .ok (.getfield 42, 3) := by decide +kernel
theorem dX11_lies_33 : decode cX11_lies 33 = .ok (.getfield 350, 3) := by decide +kernel
theorem dX11_lies_36 : decode cX11_lies 36 = .ok (.iload 4, 2) := by decide +kernel
theorem dX11_lies_38 : decode cX11_lies 38 = .ok (.aaload, 1) := by decide +kernel
theorem dX11_lies_39 : decode cX11_lies 39 = .ok (.astore 5, 2) := by decide +kernel
theorem dX11_lies_41 : decode cX11_lies 41 = .ok (.aload_n 0, 1) := by decide +kernel
theorem dX11_lies_42 : decode cX11_lies 42 = .ok (.aload 5, 2) := by decide +kernel
theorem dX11_lies_44 : decode cX11_lies 44 = .ok (.invokevirtual 380, 3) := by decide +kernel
theorem dX11_lies_47 : decode cX11_lies 47 = .ok (.iload_n 3, 1) := by decide +kernel
theorem dX11_lies_48 : decode cX11_lies 48 = .ok (.aload_n 2, 1) := by decide +kernel
theorem dX11_lies_49 : decode cX11_lies 49 = .ok (.aload_n 0, 1) := by decide +kernel
theorem dX11_lies_50 : decode cX11_lies 50 = .ok (.getfield 28, 3) := by decide +kernel
theorem dX11_lies_53 : decode cX11_lies 53 = .ok (.invokevirtual 243, 3) := by decide +kernel
theorem dX11_lies_56 : decode cX11_lies 56 = .ok (.aload 5, 2) := by decide +kernel
theorem dX11_lies_58 : decode cX11_lies 58 = .ok (.getfield 337, 3) := by decide +kernel
theorem dX11_lies_61 : decode cX11_lies 61 = .ok (.if_icmp .eq 7, 3) := by decide +kernel
theorem dX11_lies_64 : decode cX11_lies 64 = .ok (.iconst 1, 1) := by decide +kernel
theorem dX11_lies_65 : decode cX11_lies 65 = .ok (.goto 4, 3) := by decide +kernel
theorem dX11_lies_68 : decode cX11_lies 68 = .ok (.iconst 0, 1) := by decide +kernel
theorem dX11_lies_69 : decode cX11_lies 69 = .ok (.iadd, 1) := by decide +kernel
theorem dX11_lies_70 : decode cX11_lies 70 = .ok (.istore_n 3, 1) := by decide +kernel
theorem dX11_lies_71 : decode cX11_lies 71 = .ok (.iinc 4 1, 3) := by decide +kernel
theorem dX11_lies_74 : decode cX11_lies 74 = .ok (.goto (-57), 3) := by decide +kernel
theorem dX11_lies_77 : decode cX11_lies 77 = .ok (.iload_n 3, 1) := by decide +kernel
theorem dX11_lies_78 : decode cX11_lies 78 = .ok (.ireturn, 1) := by decide +kernel
set_option maxRecDepth 100000 in
theorem tb_X11_lies_17 {g : GT} {n nf : Int} (hu : Up true nf n) (w17 : Mem → Int → Int → Int → Res) (hw17 : ∀ (M : Mem) (x2 x3 x4 : Int), AW g true RX11 cX11_lies 6 (some .int) (6) n n nf 17 [(0, 2, 1), (2, 2, x2), (3, 0, x3), (4, 0, x4)] [] n M (w17 M x2 x3 x4)) (M : Mem) (x2 x3 x4 : Int) : AW g true RX11 cX11_lies 6 (some .int) (6) n n nf 17 [(0, 2, 1), (2, 2, x2), (3, 0, x3), (4, 0, x4)] [] n M (b_X11_lies_17 w17 M x2 x3 x4) := by
  unfold b_X11_lies_17
  refine r_iload 3 dX11_lies_17 rfl ?_
  refine r_aload_n 0 dX11_lies_19 rfl rfl ?_
  refine r_gx (kz := 4) rfl hu dX11_lies_20 kF_X11_42 kd_1 rfl rfl rfl fx_1_4 ?_
  refine r_gf (t := 0) (kz := 1) rfl hu dX11_lies_23 kF_X11_107 kd_21 rfl rfl rfl ?_
  refine r_icmp_ge (tgt := 77) dX11_lies_26 rfl (fun h5 => ?_) (fun h6 => ?_)
  · refine r_iload_n 2 dX11_lies_77 rfl rfl ?_
    exact r_iret rfl rfl (Or.inl rfl) dX11_lies_78
  · refine r_aload_n 0 dX11_lies_29 rfl rfl ?_
    refine r_gx (kz := 4) rfl hu dX11_lies_30 kF_X11_42 kd_1 rfl rfl rfl fx_1_4 ?_
    refine r_gx (kz := 0) rfl hu dX11_lies_33 kF_X11_350 kd_21 rfl rfl rfl fx_21_0 ?_
    refine r_iload 3 dX11_lies_36 rfl ?_
    refine r_ok (fun h7 => ?_)
    refine r_aalx hu dX11_lies_38 kd_22 (Or.inr (Or.inr rfl)) rfl ln_22 h7 (fxTr _ h7) ?_
    refine r_astore dX11_lies_39 (by decide) (ls' := [(5, 2, 23 + x4), (0, 2, 1), (2, 2, x2), (3, 0, x3), (4, 0, x4)]) rfl ?_
    refine r_aload_n 1 dX11_lies_41 rfl rfl ?_
    refine r_aload 0 dX11_lies_42 rfl ?_
    refine r_invv (a := 1) hu ⟨Nat.le_refl _, Nat.le_refl _⟩ dX11_lies_44 kM_X11_380 (ci := 11) rfl kd_1 rfl rfl (by decide) (by decide) [(2, 23 + x4)] rfl (sk := []) rfl (Nat.le_of_ble_eq_true rfl) rfl (m_X11_putTrial hu M (23 + x4) (kdTr _ h7)) (fun r8 M9 => ?_)
    refine r_iload_n 3 dX11_lies_47 rfl rfl ?_
    refine r_aload_n 2 dX11_lies_48 rfl rfl ?_
    refine r_aload_n 1 dX11_lies_49 rfl rfl ?_
    refine r_gx (kz := 2) rfl hu dX11_lies_50 kF_X11_28 kd_1 rfl rfl rfl fx_1_2 ?_
    refine r_ok (fun h10 => ?_)
    refine r_inv (a := x2) hu ⟨Nat.le_refl _, Nat.le_refl _⟩ dX11_lies_53 kM_X11_243 (ci := 7) rfl h10 rfl rfl (by decide) (by decide) [(2, 10)] rfl (sk := [(0, x3)]) rfl (Nat.le_of_ble_eq_true rfl) rfl rfl (m_X7_saysBy hu M9 x2 h10) (fun r11 M12 => ?_)
    refine r_aload 0 dX11_lies_56 rfl ?_
    refine r_gf (t := 0) (kz := 5) rfl hu dX11_lies_58 kF_X11_337 (kdTr _ h7) rfl rfl rfl ?_
    refine r_icmp_eq (tgt := 68) dX11_lies_61 rfl (fun h13 => ?_) (fun h14 => ?_)
    · refine r_iconst dX11_lies_68 ⟨by decide, by decide⟩ ?_
      refine r_ok (fun h15 => ?_)
      refine r_iadd dX11_lies_69 h15 ?_
      refine r_istore_nB dX11_lies_70 rfl (by decide) (lf := fun y16 => [(3, 0, y16), (5, 2, 23 + x4), (0, 2, 1), (2, 2, x2), (4, 0, x4)]) (fun _ => rfl) (fun y16 ey16 => ?_)
      refine r_iincB 4 dX11_lies_71 rfl ⟨by have := h7; omega, by have := h7; omega⟩ (by decide) (lf := fun y17 => [(4, 0, y17), (3, 0, y16), (5, 2, 23 + x4), (0, 2, 1), (2, 2, x2)]) (fun _ => rfl) (fun y17 ey17 => ?_)
      refine r_goto (tgt := 17) dX11_lies_74 rfl ?_
      refine r_sub [3, 4, 1, 0] (ls' := [(0, 2, 1), (2, 2, x2), (3, 0, y16), (4, 0, y17)]) rfl ?_
      exact hw17 M12 x2 y16 y17
    · refine r_iconst dX11_lies_64 ⟨by decide, by decide⟩ ?_
      refine r_goto (tgt := 69) dX11_lies_65 rfl ?_
      refine r_ok (fun h18 => ?_)
      refine r_iadd dX11_lies_69 h18 ?_
      refine r_istore_nB dX11_lies_70 rfl (by decide) (lf := fun y19 => [(3, 0, y19), (5, 2, 23 + x4), (0, 2, 1), (2, 2, x2), (4, 0, x4)]) (fun _ => rfl) (fun y19 ey19 => ?_)
      refine r_iincB 4 dX11_lies_71 rfl ⟨by have := h7; omega, by have := h7; omega⟩ (by decide) (lf := fun y20 => [(4, 0, y20), (3, 0, y19), (5, 2, 23 + x4), (0, 2, 1), (2, 2, x2)]) (fun _ => rfl) (fun y20 ey20 => ?_)
      refine r_goto (tgt := 17) dX11_lies_74 rfl ?_
      refine r_sub [3, 4, 1, 0] (ls' := [(0, 2, 1), (2, 2, x2), (3, 0, y19), (4, 0, y20)]) rfl ?_
      exact hw17 M12 x2 y19 y20
set_option maxRecDepth 100000 in
theorem m_X11_lies {g : GT} {n nf : Int} (hu : Up true nf n) (M : Mem) (a1 : Int) : AM g true yX11_lies cX11_lies 6 (some .int) (6) n n nf [(2, 1), (0, a1)] M (f_X11_lies M a1) := by
  refine AM_of (by decide +kernel) (Nat.le_of_ble_eq_true rfl) (fun h => absurd h (Int.lt_irrefl n)) ?_
  show AW g true RX11 cX11_lies 6 (some .int) (6) n n nf 0 [(0, 2, 1), (1, 0, a1)] [] n M (f_X11_lies M a1)
  unfold f_X11_lies
  refine r_aload_n 0 dX11_lies_0 rfl rfl ?_
  refine r_iload_n 1 dX11_lies_1 rfl rfl ?_
  refine r_inv (a := 1) hu ⟨Nat.le_refl _, Nat.le_refl _⟩ dX11_lies_2 kM_X11_153 (ci := 11) rfl kd_1 rfl rfl (by decide) (by decide) [(0, a1)] rfl (sk := []) rfl (Nat.le_of_ble_eq_true rfl) rfl rfl (m_X11_lawAt hu M a1) (fun r1 M2 => ?_)
  refine r_astore_n dX11_lies_5 rfl (by decide) (ls' := [(2, 2, r1), (0, 2, 1), (1, 0, a1)]) rfl ?_
  refine r_aload_n 0 dX11_lies_6 rfl rfl ?_
  refine r_ifnonnull (tgt := 12) dX11_lies_7 rfl (fun h3 => ?_) (fun h4 => ?_)
  · refine r_iconst dX11_lies_10 ⟨by decide, by decide⟩ ?_
    exact r_iret rfl rfl (Or.inl rfl) dX11_lies_11
  · refine r_iconst dX11_lies_12 ⟨by decide, by decide⟩ ?_
    refine r_istore_n dX11_lies_13 rfl (by decide) (ls' := [(3, 0, 0), (2, 2, r1), (0, 2, 1), (1, 0, a1)]) rfl ?_
    refine r_iconst dX11_lies_14 ⟨by decide, by decide⟩ ?_
    refine r_istore dX11_lies_15 (by decide) (ls' := [(4, 0, 0), (3, 0, 0), (2, 2, r1), (0, 2, 1), (1, 0, a1)]) rfl ?_
    refine r_sub [3, 2, 1, 0] (ls' := [(0, 2, 1), (2, 2, r1), (3, 0, 0), (4, 0, 0)]) rfl ?_
    exact wl3_aw (P := fun M x2 x3 x4 o => AW g true RX11 cX11_lies 6 (some .int) (6) n n nf 17 [(0, 2, 1), (2, 2, x2), (3, 0, x3), (4, 0, x4)] [] n M (o)) (fun M x2 x3 x4 => aw_none) (fun w hw M x2 x3 x4 => tb_X11_lies_17 hu w hw M x2 x3 x4) FU M2 r1 0 0
theorem dX11_span_0 : decode cX11_span 0 = .ok (.aload_n 0, 1) := by decide +kernel
theorem dX11_span_1 : decode cX11_span 1 = .ok (.iload_n 1, 1) := by decide +kernel
theorem dX11_span_2 : decode cX11_span 2 = .ok (.invokevirtual 153, 3) := by decide +kernel
theorem dX11_span_5 : decode cX11_span 5 = .ok (.astore_n 3, 1) := by decide +kernel
theorem dX11_span_6 : decode cX11_span 6 = .ok (.aload_n 3, 1) := by decide +kernel
theorem dX11_span_7 : decode cX11_span 7 = .ok (.ifnonnull 5, 3) := by decide +kernel
theorem dX11_span_10 : decode cX11_span 10 = .ok (.iconst (-1), 1) := by decide +kernel
theorem dX11_span_11 : decode cX11_span 11 = .ok (.ireturn, 1) := by decide +kernel
theorem dX11_span_12 : decode cX11_span 12 = .ok (.iconst 0, 1) := by decide +kernel
theorem dX11_span_13 : decode cX11_span 13 = .ok (.istore 4, 2) := by decide +kernel
theorem dX11_span_15 : decode cX11_span 15 = .ok (.bipush 101, 2) := by decide +kernel
theorem dX11_span_17 : decode cX11_span 17 = .ok (.istore 5, 2) := by decide +kernel
theorem dX11_span_19 : decode cX11_span 19 = .ok (.iconst 0, 1) := by decide +kernel
theorem dX11_span_20 : decode cX11_span 20 = .ok (.istore 6, 2) := by decide +kernel
theorem dX11_span_22 : decode cX11_span 22 = .ok (.iload 6, 2) := by decide +kernel
theorem dX11_span_24 : decode cX11_span 24 = .ok (.aload_n 0, 1) := by decide +kernel
theorem dX11_span_25 : decode cX11_span 25 = .ok (.getfield 42, 3) := by decide +kernel
theorem dX11_span_28 : decode cX11_span 28 = .ok (.getfield 107, 3) := by decide +kernel
theorem dX11_span_31 : decode cX11_span 31 = .ok (.if_icmp .ge 69, 3) := by decide +kernel
theorem dX11_span_34 : decode cX11_span 34 = .ok (.aload_n 0, 1) := by decide +kernel
theorem dX11_span_35 : decode cX11_span 35 = .ok (.getfield 42, 3) := by decide +kernel
theorem dX11_span_38 : decode cX11_span 38 = .ok (.getfield 350, 3) := by decide +kernel
theorem dX11_span_41 : decode cX11_span 41 = .ok (.iload 6, 2) := by decide +kernel
theorem dX11_span_43 : decode cX11_span 43 = .ok (.aaload, 1) := by decide +kernel
theorem dX11_span_44 : decode cX11_span 44 = .ok (.astore 7, 2) := by decide +kernel
theorem dX11_span_46 : decode cX11_span 46 = .ok (.aload_n 0, 1) := by decide +kernel
theorem dX11_span_47 : decode cX11_span 47 = .ok (.aload 7, 2) := by decide +kernel
theorem dX11_span_49 : decode cX11_span 49 = .ok (.invokevirtual 380, 3) := by decide +kernel
theorem dX11_span_52 : decode cX11_span 52 = .ok (.aload_n 3, 1) := by decide +kernel
theorem dX11_span_53 : decode cX11_span 53 = .ok (.aload_n 0, 1) := by decide +kernel
theorem dX11_span_54 : decode cX11_span 54 = .ok (.getfield 28, 3) := by decide +kernel
theorem dX11_span_57 : decode cX11_span 57 = .ok (.iconst 1, 1) := by decide +kernel
theorem dX11_span_58 : decode cX11_span 58 = .ok (.invokevirtual 231, 3) := by decide +kernel
theorem dX11_span_61 : decode cX11_span 61 = .ok (.istore 8, 2) := by decide +kernel
theorem dX11_span_63 : decode cX11_span 63 = .ok (.aload 7, 2) := by decide +kernel
theorem dX11_span_65 : decode cX11_span 65 = .ok (.getfield 337, 3) := by decide +kernel
theorem dX11_span_68 : decode cX11_span 68 = .ok (.ifCond .eq 15, 3) := by decide +kernel
theorem dX11_span_71 : decode cX11_span 71 = .ok (.iload 5, 2) := by decide +kernel
theorem dX11_span_73 : decode cX11_span 73 = .ok (.iload 8, 2) := by decide +kernel
theorem dX11_span_75 : decode cX11_span 75 = .ok (.invokestatic 384, 3) := by decide +kernel
theorem dX11_span_78 : decode cX11_span 78 = .ok (.istore 5, 2) := by decide +kernel
theorem dX11_span_80 : decode cX11_span 80 = .ok (.goto 14, 3) := by decide +kernel
theorem dX11_span_83 : decode cX11_span 83 = .ok (.iload 4, 2) := by decide +kernel
theorem dX11_span_85 : decode cX11_span 85 = .ok (.iload 8, 2) := by decide +kernel
theorem dX11_span_87 : decode cX11_span 87 = .ok (.iconst 1, 1) := by decide +kernel
theorem dX11_span_88 : decode cX11_span 88 = .ok (.iadd, 1) := by decide +kernel
theorem dX11_span_89 : decode cX11_span 89 = .ok (.invokestatic 188, 3) := by decide +kernel
theorem dX11_span_92 : decode cX11_span 92 = .ok (.istore 4, 2) := by decide +kernel
theorem dX11_span_94 : decode cX11_span 94 = .ok (.iinc 6 1, 3) := by decide +kernel
theorem dX11_span_97 : decode cX11_span 97 = .ok (.goto (-75), 3) := by decide +kernel
theorem dX11_span_100 : decode cX11_span 100 = .ok (.iload 4, 2) := by decide +kernel
theorem dX11_span_102 : decode cX11_span 102 = .ok (.iload 5, 2) := by decide +kernel
theorem dX11_span_104 : decode cX11_span 104 = .ok (.if_icmp .le 5, 3) := by decide +kernel
theorem dX11_span_107 : decode cX11_span 107 = .ok (.iconst (-1), 1) := by decide +kernel
theorem dX11_span_108 : decode cX11_span 108 = .ok (.ireturn, 1) := by decide +kernel
theorem dX11_span_109 : decode cX11_span 109 = .ok (.iload_n 2, 1) := by decide +kernel
theorem dX11_span_110 : decode cX11_span 110 = .ok (.ifCond .eq 8, 3) := by decide +kernel
theorem dX11_span_113 : decode cX11_span 113 = .ok (.iload 5, 2) := by decide +kernel
theorem dX11_span_115 : decode cX11_span 115 = .ok (.goto 5, 3) := by decide +kernel
theorem dX11_span_118 : decode cX11_span 118 = .ok (.iload 4, 2) := by decide +kernel
theorem dX11_span_120 : decode cX11_span 120 = .ok (.ireturn, 1) := by decide +kernel
set_option maxRecDepth 100000 in
theorem tb_X11_span_22 {g : GT} {n nf : Int} (hu : Up true nf n) (a2 : Int) (w22 : Mem → Int → Int → Int → Int → Res) (hw22 : ∀ (M : Mem) (x3 x4 x5 x6 : Int), AW g true RX11 cX11_span 9 (some .int) (5) n n nf 22 [(0, 2, 1), (2, 0, a2), (3, 2, x3), (4, 0, x4), (5, 0, x5), (6, 0, x6)] [] n M (w22 M x3 x4 x5 x6)) (M : Mem) (x3 x4 x5 x6 : Int) : AW g true RX11 cX11_span 9 (some .int) (5) n n nf 22 [(0, 2, 1), (2, 0, a2), (3, 2, x3), (4, 0, x4), (5, 0, x5), (6, 0, x6)] [] n M (b_X11_span_22 a2 w22 M x3 x4 x5 x6) := by
  unfold b_X11_span_22
  refine r_iload 5 dX11_span_22 rfl ?_
  refine r_aload_n 0 dX11_span_24 rfl rfl ?_
  refine r_gx (kz := 4) rfl hu dX11_span_25 kF_X11_42 kd_1 rfl rfl rfl fx_1_4 ?_
  refine r_gf (t := 0) (kz := 1) rfl hu dX11_span_28 kF_X11_107 kd_21 rfl rfl rfl ?_
  refine r_icmp_ge (tgt := 100) dX11_span_31 rfl (fun h5 => ?_) (fun h6 => ?_)
  · refine r_iload 3 dX11_span_100 rfl ?_
    refine r_iload 4 dX11_span_102 rfl ?_
    refine r_icmp_le (tgt := 109) dX11_span_104 rfl (fun h7 => ?_) (fun h8 => ?_)
    · refine r_iload_n 1 dX11_span_109 rfl rfl ?_
      refine r_if_eq (tgt := 118) dX11_span_110 rfl (fun h9 => ?_) (fun h10 => ?_)
      · refine r_iload 3 dX11_span_118 rfl ?_
        exact r_iret rfl rfl (Or.inl rfl) dX11_span_120
      · refine r_iload 4 dX11_span_113 rfl ?_
        refine r_goto (tgt := 120) dX11_span_115 rfl ?_
        exact r_iret rfl rfl (Or.inl rfl) dX11_span_120
    · refine r_iconst dX11_span_107 ⟨by decide, by decide⟩ ?_
      exact r_iret rfl rfl (Or.inl rfl) dX11_span_108
  · refine r_aload_n 0 dX11_span_34 rfl rfl ?_
    refine r_gx (kz := 4) rfl hu dX11_span_35 kF_X11_42 kd_1 rfl rfl rfl fx_1_4 ?_
    refine r_gx (kz := 0) rfl hu dX11_span_38 kF_X11_350 kd_21 rfl rfl rfl fx_21_0 ?_
    refine r_iload 5 dX11_span_41 rfl ?_
    refine r_ok (fun h11 => ?_)
    refine r_aalx hu dX11_span_43 kd_22 (Or.inr (Or.inr rfl)) rfl ln_22 h11 (fxTr _ h11) ?_
    refine r_astore dX11_span_44 (by decide) (ls' := [(7, 2, 23 + x6), (0, 2, 1), (2, 0, a2), (3, 2, x3), (4, 0, x4), (5, 0, x5), (6, 0, x6)]) rfl ?_
    refine r_aload_n 1 dX11_span_46 rfl rfl ?_
    refine r_aload 0 dX11_span_47 rfl ?_
    refine r_invv (a := 1) hu ⟨Nat.le_refl _, Nat.le_refl _⟩ dX11_span_49 kM_X11_380 (ci := 11) rfl kd_1 rfl rfl (by decide) (by decide) [(2, 23 + x6)] rfl (sk := []) rfl (Nat.le_of_ble_eq_true rfl) rfl (m_X11_putTrial hu M (23 + x6) (kdTr _ h11)) (fun r12 M13 => ?_)
    refine r_aload_n 3 dX11_span_52 rfl rfl ?_
    refine r_aload_n 1 dX11_span_53 rfl rfl ?_
    refine r_gx (kz := 2) rfl hu dX11_span_54 kF_X11_28 kd_1 rfl rfl rfl fx_1_2 ?_
    refine r_iconst dX11_span_57 ⟨by decide, by decide⟩ ?_
    refine r_ok (fun h14 => ?_)
    refine r_inv (a := x3) hu ⟨Nat.le_refl _, Nat.le_refl _⟩ dX11_span_58 kM_X11_231 (ci := 7) rfl h14 rfl rfl (by decide) (by decide) [(2, 10), (0, 1)] rfl (sk := []) rfl (Nat.le_of_ble_eq_true rfl) rfl rfl (m_X7_carriedMost hu M13 x3 1 h14) (fun r15 M16 => ?_)
    refine r_istore dX11_span_61 (by decide) (ls' := [(8, 0, r15), (7, 2, 23 + x6), (0, 2, 1), (2, 0, a2), (3, 2, x3), (4, 0, x4), (5, 0, x5), (6, 0, x6)]) rfl ?_
    refine r_aload 1 dX11_span_63 rfl ?_
    refine r_gf (t := 0) (kz := 5) rfl hu dX11_span_65 kF_X11_337 (kdTr _ h11) rfl rfl rfl ?_
    refine r_if_eq (tgt := 83) dX11_span_68 rfl (fun h17 => ?_) (fun h18 => ?_)
    · refine r_iload 5 dX11_span_83 rfl ?_
      refine r_iload 0 dX11_span_85 rfl ?_
      refine r_iconst dX11_span_87 ⟨by decide, by decide⟩ ?_
      refine r_ok (fun h19 => ?_)
      refine r_iadd dX11_span_88 h19 ?_
      refine r_ins (a := 0) ⟨Nat.le_refl _, Nat.le_refl _⟩ dX11_span_89 kM_X11_188 (by decide) (by decide) [(0, x4), (0, r15 + 1)] rfl (sk := []) rfl (Nat.le_of_ble_eq_true rfl) rfl rfl (m_J9_max_7cf53 hu M16 x4 (r15 + 1)) (fun r20 M21 => ?_)
      refine r_istore dX11_span_92 (by decide) (ls' := [(4, 0, r20), (8, 0, r15), (7, 2, 23 + x6), (0, 2, 1), (2, 0, a2), (3, 2, x3), (5, 0, x5), (6, 0, x6)]) rfl ?_
      refine r_iincB 7 dX11_span_94 rfl ⟨by have := h11; omega, by have := h11; omega⟩ (by decide) (lf := fun y22 => [(6, 0, y22), (4, 0, r20), (8, 0, r15), (7, 2, 23 + x6), (0, 2, 1), (2, 0, a2), (3, 2, x3), (5, 0, x5)]) (fun _ => rfl) (fun y22 ey22 => ?_)
      refine r_goto (tgt := 22) dX11_span_97 rfl ?_
      refine r_sub [4, 5, 6, 1, 7, 0] (ls' := [(0, 2, 1), (2, 0, a2), (3, 2, x3), (4, 0, r20), (5, 0, x5), (6, 0, y22)]) rfl ?_
      exact hw22 M21 x3 r20 x5 y22
    · refine r_iload 6 dX11_span_71 rfl ?_
      refine r_iload 0 dX11_span_73 rfl ?_
      refine r_ins (a := 0) ⟨Nat.le_refl _, Nat.le_refl _⟩ dX11_span_75 kM_X11_384 (by decide) (by decide) [(0, x5), (0, r15)] rfl (sk := []) rfl (Nat.le_of_ble_eq_true rfl) rfl rfl (m_J9_min_7cf53 hu M16 x5 r15) (fun r23 M24 => ?_)
      refine r_istore dX11_span_78 (by decide) (ls' := [(5, 0, r23), (8, 0, r15), (7, 2, 23 + x6), (0, 2, 1), (2, 0, a2), (3, 2, x3), (4, 0, x4), (6, 0, x6)]) rfl ?_
      refine r_goto (tgt := 94) dX11_span_80 rfl ?_
      refine r_iincB 7 dX11_span_94 rfl ⟨by have := h11; omega, by have := h11; omega⟩ (by decide) (lf := fun y25 => [(6, 0, y25), (5, 0, r23), (8, 0, r15), (7, 2, 23 + x6), (0, 2, 1), (2, 0, a2), (3, 2, x3), (4, 0, x4)]) (fun _ => rfl) (fun y25 ey25 => ?_)
      refine r_goto (tgt := 22) dX11_span_97 rfl ?_
      refine r_sub [4, 5, 6, 7, 1, 0] (ls' := [(0, 2, 1), (2, 0, a2), (3, 2, x3), (4, 0, x4), (5, 0, r23), (6, 0, y25)]) rfl ?_
      exact hw22 M24 x3 x4 r23 y25
set_option maxRecDepth 100000 in
theorem m_X11_span {g : GT} {n nf : Int} (hu : Up true nf n) (M : Mem) (a1 a2 : Int) : AM g true yX11_span cX11_span 9 (some .int) (5) n n nf [(2, 1), (0, a1), (0, a2)] M (f_X11_span M a1 a2) := by
  refine AM_of (by decide +kernel) (Nat.le_of_ble_eq_true rfl) (fun h => absurd h (Int.lt_irrefl n)) ?_
  show AW g true RX11 cX11_span 9 (some .int) (5) n n nf 0 [(0, 2, 1), (1, 0, a1), (2, 0, a2)] [] n M (f_X11_span M a1 a2)
  unfold f_X11_span
  refine r_aload_n 0 dX11_span_0 rfl rfl ?_
  refine r_iload_n 1 dX11_span_1 rfl rfl ?_
  refine r_inv (a := 1) hu ⟨Nat.le_refl _, Nat.le_refl _⟩ dX11_span_2 kM_X11_153 (ci := 11) rfl kd_1 rfl rfl (by decide) (by decide) [(0, a1)] rfl (sk := []) rfl (Nat.le_of_ble_eq_true rfl) rfl rfl (m_X11_lawAt hu M a1) (fun r1 M2 => ?_)
  refine r_astore_n dX11_span_5 rfl (by decide) (ls' := [(3, 2, r1), (0, 2, 1), (1, 0, a1), (2, 0, a2)]) rfl ?_
  refine r_aload_n 0 dX11_span_6 rfl rfl ?_
  refine r_ifnonnull (tgt := 12) dX11_span_7 rfl (fun h3 => ?_) (fun h4 => ?_)
  · refine r_iconst dX11_span_10 ⟨by decide, by decide⟩ ?_
    exact r_iret rfl rfl (Or.inl rfl) dX11_span_11
  · refine r_iconst dX11_span_12 ⟨by decide, by decide⟩ ?_
    refine r_istore dX11_span_13 (by decide) (ls' := [(4, 0, 0), (3, 2, r1), (0, 2, 1), (1, 0, a1), (2, 0, a2)]) rfl ?_
    refine r_bipush dX11_span_15 (by decide) ⟨by decide, by decide⟩ ?_
    refine r_istore dX11_span_17 (by decide) (ls' := [(5, 0, 101), (4, 0, 0), (3, 2, r1), (0, 2, 1), (1, 0, a1), (2, 0, a2)]) rfl ?_
    refine r_iconst dX11_span_19 ⟨by decide, by decide⟩ ?_
    refine r_istore dX11_span_20 (by decide) (ls' := [(6, 0, 0), (5, 0, 101), (4, 0, 0), (3, 2, r1), (0, 2, 1), (1, 0, a1), (2, 0, a2)]) rfl ?_
    refine r_sub [4, 6, 3, 2, 1, 0] (ls' := [(0, 2, 1), (2, 0, a2), (3, 2, r1), (4, 0, 0), (5, 0, 101), (6, 0, 0)]) rfl ?_
    exact wl4_aw (P := fun M x3 x4 x5 x6 o => AW g true RX11 cX11_span 9 (some .int) (5) n n nf 22 [(0, 2, 1), (2, 0, a2), (3, 2, x3), (4, 0, x4), (5, 0, x5), (6, 0, x6)] [] n M (o)) (fun M x3 x4 x5 x6 => aw_none) (fun w hw M x3 x4 x5 x6 => tb_X11_span_22 hu a2 w hw M x3 x4 x5 x6) FU M2 r1 0 101 0
theorem dX11_bound_0 : decode cX11_bound 0 = .ok (.iconst 0, 1) := by decide +kernel
theorem dX11_bound_1 : decode cX11_bound 1 = .ok (.istore_n 1, 1) := by decide +kernel
theorem dX11_bound_2 : decode cX11_bound 2 = .ok (.iconst 0, 1) := by decide +kernel
theorem dX11_bound_3 : decode cX11_bound 3 = .ok (.istore_n 2, 1) := by decide +kernel
theorem dX11_bound_4 : decode cX11_bound 4 = .ok (.iload_n 2, 1) := by decide +kernel
theorem dX11_bound_5 : decode cX11_bound 5 = .ok (.aload_n 0, 1) := by decide +kernel
theorem dX11_bound_6 : decode cX11_bound 6 = .ok (.getfield 42, 3) := by decide +kernel
theorem dX11_bound_9 : decode cX11_bound 9 = .ok (.getfield 107, 3) := by decide +kernel
theorem dX11_bound_12 : decode cX11_bound 12 = .ok (.if_icmp .ge 53, 3) := by decide +kernel
theorem dX11_bound_15 : decode cX11_bound 15 = .ok (.aload_n 0, 1) := by decide +kernel
theorem dX11_bound_16 : decode cX11_bound 16 = .ok (.getfield 42, 3) := by decide +kernel
theorem dX11_bound_19 : decode cX11_bound 19 = .ok (.getfield 350, 3) := by decide +kernel
theorem dX11_bound_22 : decode cX11_bound 22 = .ok (.iload_n 2, 1) := by decide +kernel
theorem dX11_bound_23 : decode cX11_bound 23 = .ok (.aaload, 1) := by decide +kernel
theorem dX11_bound_24 : decode cX11_bound 24 = .ok (.astore_n 3, 1) := by decide +kernel
theorem dX11_bound_25 : decode cX11_bound 25 = .ok (.aload_n 3, 1) := by decide +kernel
theorem dX11_bound_26 : decode cX11_bound 26 = .ok (.getfield 320, 3) := by decide +kernel
theorem dX11_bound_29 : decode cX11_bound 29 = .ok (.aload_n 0, 1) := by decide +kernel
theorem dX11_bound_30 : decode cX11_bound 30 = .ok (.getfield 35, 3) := by decide +kernel
theorem dX11_bound_33 : decode cX11_bound 33 = .ok (.getfield 146, 3) := by decide +kernel
theorem dX11_bound_36 : decode cX11_bound 36 = .ok (.if_icmp .ne 23, 3) := by decide +kernel
theorem dX11_bound_39 : decode cX11_bound 39 = .ok (.iload_n 1, 1) := by decide +kernel
theorem dX11_bound_40 : decode cX11_bound 40 = .ok (.aload_n 0, 1) := by decide +kernel
theorem dX11_bound_41 : decode cX11_bound 41 = .ok (.getfield 35, 3) := by decide +kernel
theorem dX11_bound_44 : decode cX11_bound 44 = .ok (.aload_n 3, 1) := by decide +kernel
theorem dX11_bound_45 : decode cX11_bound 45 = .ok (.getfield 320, 3) := by decide +kernel
theorem dX11_bound_48 : decode cX11_bound 48 = .ok (.aload_n 3, 1) := by decide +kernel
theorem dX11_bound_49 : decode cX11_bound 49 = .ok (.getfield 329, 3) := by decide +kernel
theorem dX11_bound_52 : decode cX11_bound 52 = .ok (.invokevirtual 224, 3) := by decide +kernel
theorem dX11_bound_55 : decode cX11_bound 55 = .ok (.invokestatic 188, 3) := by decide +kernel
theorem dX11_bound_58 : decode cX11_bound 58 = .ok (.istore_n 1, 1) := by decide +kernel
theorem dX11_bound_59 : decode cX11_bound 59 = .ok (.iinc 2 1, 3) := by decide +kernel
theorem dX11_bound_62 : decode cX11_bound 62 = .ok (.goto (-58), 3) := by decide +kernel
theorem dX11_bound_65 : decode cX11_bound 65 = .ok (.iload_n 1, 1) := by decide +kernel
theorem dX11_bound_66 : decode cX11_bound 66 = .ok (.ireturn, 1) := by decide +kernel
set_option maxRecDepth 100000 in
theorem tb_X11_bound_4 {g : GT} {n nf : Int} (hu : Up true nf n) (w4 : Mem → Int → Int → Res) (hw4 : ∀ (M : Mem) (x1 x2 : Int), AW g true RX11 cX11_bound 4 (some .int) (2) n n nf 4 [(0, 2, 1), (1, 0, x1), (2, 0, x2)] [] n M (w4 M x1 x2)) (M : Mem) (x1 x2 : Int) : AW g true RX11 cX11_bound 4 (some .int) (2) n n nf 4 [(0, 2, 1), (1, 0, x1), (2, 0, x2)] [] n M (b_X11_bound_4 w4 M x1 x2) := by
  unfold b_X11_bound_4
  refine r_iload_n 2 dX11_bound_4 rfl rfl ?_
  refine r_aload_n 0 dX11_bound_5 rfl rfl ?_
  refine r_gx (kz := 4) rfl hu dX11_bound_6 kF_X11_42 kd_1 rfl rfl rfl fx_1_4 ?_
  refine r_gf (t := 0) (kz := 1) rfl hu dX11_bound_9 kF_X11_107 kd_21 rfl rfl rfl ?_
  refine r_icmp_ge (tgt := 65) dX11_bound_12 rfl (fun h1 => ?_) (fun h2 => ?_)
  · refine r_iload_n 1 dX11_bound_65 rfl rfl ?_
    exact r_iret rfl rfl (Or.inl rfl) dX11_bound_66
  · refine r_aload_n 0 dX11_bound_15 rfl rfl ?_
    refine r_gx (kz := 4) rfl hu dX11_bound_16 kF_X11_42 kd_1 rfl rfl rfl fx_1_4 ?_
    refine r_gx (kz := 0) rfl hu dX11_bound_19 kF_X11_350 kd_21 rfl rfl rfl fx_21_0 ?_
    refine r_iload_n 2 dX11_bound_22 rfl rfl ?_
    refine r_ok (fun h3 => ?_)
    refine r_aalx hu dX11_bound_23 kd_22 (Or.inr (Or.inr rfl)) rfl ln_22 h3 (fxTr _ h3) ?_
    refine r_astore_n dX11_bound_24 rfl (by decide) (ls' := [(3, 2, 23 + x2), (0, 2, 1), (1, 0, x1), (2, 0, x2)]) rfl ?_
    refine r_aload_n 0 dX11_bound_25 rfl rfl ?_
    refine r_gf (t := 0) (kz := 1) rfl hu dX11_bound_26 kF_X11_320 (kdTr _ h3) rfl rfl rfl ?_
    refine r_aload_n 1 dX11_bound_29 rfl rfl ?_
    refine r_gx (kz := 3) rfl hu dX11_bound_30 kF_X11_35 kd_1 rfl rfl rfl fx_1_3 ?_
    refine r_gf (t := 0) (kz := 11) rfl hu dX11_bound_33 kF_X11_146 kd_13 rfl rfl rfl ?_
    refine r_icmp_ne (tgt := 59) dX11_bound_36 rfl (fun h4 => ?_) (fun h5 => ?_)
    · refine r_iload_n 2 dX11_bound_39 rfl rfl ?_
      refine r_aload_n 1 dX11_bound_40 rfl rfl ?_
      refine r_gx (kz := 3) rfl hu dX11_bound_41 kF_X11_35 kd_1 rfl rfl rfl fx_1_3 ?_
      refine r_aload_n 0 dX11_bound_44 rfl rfl ?_
      refine r_gf (t := 0) (kz := 1) rfl hu dX11_bound_45 kF_X11_320 (kdTr _ h3) rfl rfl rfl ?_
      refine r_aload_n 0 dX11_bound_48 rfl rfl ?_
      refine r_gf (t := 0) (kz := 2) rfl hu dX11_bound_49 kF_X11_329 (kdTr _ h3) rfl rfl rfl ?_
      refine r_inv (a := 13) hu ⟨Nat.le_refl _, Nat.le_refl _⟩ dX11_bound_52 kM_X11_224 (ci := 3) rfl kd_13 rfl rfl (by decide) (by decide) [(0, M (23 + x2) 1), (0, M (23 + x2) 2)] rfl (sk := [(0, x1)]) rfl (Nat.le_of_ble_eq_true rfl) rfl rfl (m_X3_lightAt hu M (M (23 + x2) 1) (M (23 + x2) 2)) (fun r6 M7 => ?_)
      refine r_ins (a := 0) ⟨Nat.le_refl _, Nat.le_refl _⟩ dX11_bound_55 kM_X11_188 (by decide) (by decide) [(0, x1), (0, r6)] rfl (sk := []) rfl (Nat.le_of_ble_eq_true rfl) rfl rfl (m_J9_max_7cf53 hu M7 x1 r6) (fun r8 M9 => ?_)
      refine r_istore_n dX11_bound_58 rfl (by decide) (ls' := [(1, 0, r8), (3, 2, 23 + x2), (0, 2, 1), (2, 0, x2)]) rfl ?_
      refine r_iincB 3 dX11_bound_59 rfl ⟨by have := h3; omega, by have := h3; omega⟩ (by decide) (lf := fun y10 => [(2, 0, y10), (1, 0, r8), (3, 2, 23 + x2), (0, 2, 1)]) (fun _ => rfl) (fun y10 ey10 => ?_)
      refine r_goto (tgt := 4) dX11_bound_62 rfl ?_
      refine r_sub [3, 1, 0] (ls' := [(0, 2, 1), (1, 0, r8), (2, 0, y10)]) rfl ?_
      exact hw4 M9 r8 y10
    · refine r_iincB 3 dX11_bound_59 rfl ⟨by have := h3; omega, by have := h3; omega⟩ (by decide) (lf := fun y11 => [(2, 0, y11), (3, 2, 23 + x2), (0, 2, 1), (1, 0, x1)]) (fun _ => rfl) (fun y11 ey11 => ?_)
      refine r_goto (tgt := 4) dX11_bound_62 rfl ?_
      refine r_sub [2, 3, 0] (ls' := [(0, 2, 1), (1, 0, x1), (2, 0, y11)]) rfl ?_
      exact hw4 M x1 y11
set_option maxRecDepth 100000 in
theorem m_X11_bound {g : GT} {n nf : Int} (hu : Up true nf n) (M : Mem) : AM g true yX11_bound cX11_bound 4 (some .int) (2) n n nf [(2, 1)] M (f_X11_bound M) := by
  refine AM_of (by decide +kernel) (Nat.le_of_ble_eq_true rfl) (fun h => absurd h (Int.lt_irrefl n)) ?_
  show AW g true RX11 cX11_bound 4 (some .int) (2) n n nf 0 [(0, 2, 1)] [] n M (f_X11_bound M)
  unfold f_X11_bound
  refine r_iconst dX11_bound_0 ⟨by decide, by decide⟩ ?_
  refine r_istore_n dX11_bound_1 rfl (by decide) (ls' := [(1, 0, 0), (0, 2, 1)]) rfl ?_
  refine r_iconst dX11_bound_2 ⟨by decide, by decide⟩ ?_
  refine r_istore_n dX11_bound_3 rfl (by decide) (ls' := [(2, 0, 0), (1, 0, 0), (0, 2, 1)]) rfl ?_
  refine r_sub [2, 1, 0] (ls' := [(0, 2, 1), (1, 0, 0), (2, 0, 0)]) rfl ?_
  exact wl2_aw (P := fun M x1 x2 o => AW g true RX11 cX11_bound 4 (some .int) (2) n n nf 4 [(0, 2, 1), (1, 0, x1), (2, 0, x2)] [] n M (o)) (fun M x1 x2 => aw_none) (fun w hw M x1 x2 => tb_X11_bound_4 hu w hw M x1 x2) FU M 0 0
theorem dX11_left_0 : decode cX11_left 0 = .ok (.aload_n 0, 1) := by decide +kernel
theorem dX11_left_1 : decode cX11_left 1 = .ok (.invokevirtual 387, 3) := by decide +kernel
theorem dX11_left_4 : decode cX11_left 4 = .ok (.istore_n 1, 1) := by decide +kernel
theorem dX11_left_5 : decode cX11_left 5 = .ok (.iconst 0, 1) := by decide +kernel
theorem dX11_left_6 : decode cX11_left 6 = .ok (.istore_n 2, 1) := by decide +kernel
theorem dX11_left_7 : decode cX11_left 7 = .ok (.iconst 0, 1) := by decide +kernel
theorem dX11_left_8 : decode cX11_left 8 = .ok (.istore_n 3, 1) := by decide +kernel
theorem dX11_left_9 : decode cX11_left 9 = .ok (.iload_n 3, 1) := by decide +kernel
theorem dX11_left_10 : decode cX11_left 10 = .ok (.aload_n 0, 1) := by decide +kernel
theorem dX11_left_11 : decode cX11_left 11 = .ok (.getfield 42, 3) := by decide +kernel
theorem dX11_left_14 : decode cX11_left 14 = .ok (.getfield 107, 3) := by decide +kernel
theorem dX11_left_17 : decode cX11_left 17 = .ok (.if_icmp .ge 84, 3) := by decide +kernel
theorem dX11_left_20 : decode cX11_left 20 = .ok (.aload_n 0, 1) := by decide +kernel
theorem dX11_left_21 : decode cX11_left 21 = .ok (.getfield 42, 3) := by decide +kernel
theorem dX11_left_24 : decode cX11_left 24 = .ok (.getfield 350, 3) := by decide +kernel
theorem dX11_left_27 : decode cX11_left 27 = .ok (.iload_n 3, 1) := by decide +kernel
theorem dX11_left_28 : decode cX11_left 28 = .ok (.aaload, 1) := by decide +kernel
theorem dX11_left_29 : decode cX11_left 29 = .ok (.astore 4, 2) := by decide +kernel
theorem dX11_left_31 : decode cX11_left 31 = .ok (.aload 4, 2) := by decide +kernel
theorem dX11_left_33 : decode cX11_left 33 = .ok (.invokevirtual 343, 3) := by decide +kernel
theorem dX11_left_36 : decode cX11_left 36 = .ok (.ifCond .eq 22, 3) := by decide +kernel
theorem dX11_left_39 : decode cX11_left 39 = .ok (.aload_n 0, 1) := by decide +kernel
theorem dX11_left_40 : decode cX11_left 40 = .ok (.getfield 35, 3) := by decide +kernel
theorem dX11_left_43 : decode cX11_left 43 = .ok (.aload 4, 2) := by decide +kernel
theorem dX11_left_45 : decode cX11_left 45 = .ok (.getfield 320, 3) := by decide +kernel
theorem dX11_left_48 : decode cX11_left 48 = .ok (.invokevirtual 390, 3) := by decide +kernel
theorem dX11_left_51 : decode cX11_left 51 = .ok (.ifCond .eq 7, 3) := by decide +kernel
theorem dX11_left_54 : decode cX11_left 54 = .ok (.iconst 1, 1) := by decide +kernel
theorem dX11_left_55 : decode cX11_left 55 = .ok (.goto 4, 3) := by decide +kernel
theorem dX11_left_58 : decode cX11_left 58 = .ok (.iconst 0, 1) := by decide +kernel
theorem dX11_left_59 : decode cX11_left 59 = .ok (.istore 5, 2) := by decide +kernel
theorem dX11_left_61 : decode cX11_left 61 = .ok (.iload_n 2, 1) := by decide +kernel
theorem dX11_left_62 : decode cX11_left 62 = .ok (.iload 5, 2) := by decide +kernel
theorem dX11_left_64 : decode cX11_left 64 = .ok (.ifCond .eq 28, 3) := by decide +kernel
theorem dX11_left_67 : decode cX11_left 67 = .ok (.aload_n 0, 1) := by decide +kernel
theorem dX11_left_68 : decode cX11_left 68 = .ok (.getfield 35, 3) := by decide +kernel
theorem dX11_left_71 : decode cX11_left 71 = .ok (.aload 4, 2) := by decide +kernel
theorem dX11_left_73 : decode cX11_left 73 = .ok (.getfield 320, 3) := by decide +kernel
theorem dX11_left_76 : decode cX11_left 76 = .ok (.aload 4, 2) := by decide +kernel
theorem dX11_left_78 : decode cX11_left 78 = .ok (.getfield 329, 3) := by decide +kernel
theorem dX11_left_81 : decode cX11_left 81 = .ok (.invokevirtual 224, 3) := by decide +kernel
theorem dX11_left_84 : decode cX11_left 84 = .ok (.iload_n 1, 1) := by decide +kernel
theorem dX11_left_85 : decode cX11_left 85 = .ok (.if_icmp .gt 7, 3) := by decide +kernel
theorem dX11_left_88 : decode cX11_left 88 = .ok (.iconst 1, 1) := by decide +kernel
theorem dX11_left_89 : decode cX11_left 89 = .ok (.goto 4, 3) := by decide +kernel
theorem dX11_left_92 : decode cX11_left 92 = .ok (.iconst 0, 1) := by decide +kernel
theorem dX11_left_93 : decode cX11_left 93 = .ok (.iadd, 1) := by decide +kernel
theorem dX11_left_94 : decode cX11_left 94 = .ok (.istore_n 2, 1) := by decide +kernel
theorem dX11_left_95 : decode cX11_left 95 = .ok (.iinc 3 1, 3) := by decide +kernel
theorem dX11_left_98 : decode cX11_left 98 = .ok (.goto (-89), 3) := by decide +kernel
theorem dX11_left_101 : decode cX11_left 101 = .ok (.iload_n 2, 1) := by decide +kernel
theorem dX11_left_102 : decode cX11_left 102 = .ok (.ireturn, 1) := by decide +kernel
set_option maxRecDepth 100000 in
theorem tj_X11_left_59 {g : GT} {n nf : Int} (hu : Up true nf n) (w9 : Mem → Int → Int → Int → Res) (hw9 : ∀ (M : Mem) (x1 x2 x3 : Int), AW g true RX11 cX11_left 6 (some .int) (3) n n nf 9 [(0, 2, 1), (1, 0, x1), (2, 0, x2), (3, 0, x3)] [] n M (w9 M x1 x2 x3)) (M : Mem) (x1 x2 x3 x4 s0 : Int) : AW g true RX11 cX11_left 6 (some .int) (3) n n nf 59 [(0, 2, 1), (1, 0, x1), (2, 0, x2), (3, 0, x3), (4, 2, x4)] [(0, s0)] n M (j_X11_left_59 w9 M x1 x2 x3 x4 s0) := by
  unfold j_X11_left_59
  refine r_istore dX11_left_59 (by decide) (ls' := [(5, 0, s0), (0, 2, 1), (1, 0, x1), (2, 0, x2), (3, 0, x3), (4, 2, x4)]) rfl ?_
  refine r_iload_n 3 dX11_left_61 rfl rfl ?_
  refine r_iload 0 dX11_left_62 rfl ?_
  refine r_if_eq (tgt := 92) dX11_left_64 rfl (fun h10 => ?_) (fun h11 => ?_)
  · refine r_iconst dX11_left_92 ⟨by decide, by decide⟩ ?_
    refine r_ok (fun h12 => ?_)
    refine r_iadd dX11_left_93 h12 ?_
    refine r_istore_nB dX11_left_94 rfl (by decide) (lf := fun y13 => [(2, 0, y13), (5, 0, s0), (0, 2, 1), (1, 0, x1), (3, 0, x3), (4, 2, x4)]) (fun _ => rfl) (fun y13 ey13 => ?_)
    refine r_ok (fun h14 => ?_)
    refine r_iincB 4 dX11_left_95 rfl h14 (by decide) (lf := fun y15 => [(3, 0, y15), (2, 0, y13), (5, 0, s0), (0, 2, 1), (1, 0, x1), (4, 2, x4)]) (fun _ => rfl) (fun y15 ey15 => ?_)
    refine r_goto (tgt := 9) dX11_left_98 rfl ?_
    refine r_sub [3, 4, 1, 0] (ls' := [(0, 2, 1), (1, 0, x1), (2, 0, y13), (3, 0, y15)]) rfl ?_
    exact hw9 M x1 y13 y15
  · refine r_aload_n 1 dX11_left_67 rfl rfl ?_
    refine r_gx (kz := 3) rfl hu dX11_left_68 kF_X11_35 kd_1 rfl rfl rfl fx_1_3 ?_
    refine r_aload 5 dX11_left_71 rfl ?_
    refine r_ok (fun h16 => ?_)
    refine r_gf (t := 0) (kz := 1) rfl hu dX11_left_73 kF_X11_320 h16 rfl rfl rfl ?_
    refine r_aload 5 dX11_left_76 rfl ?_
    refine r_gf (t := 0) (kz := 2) rfl hu dX11_left_78 kF_X11_329 h16 rfl rfl rfl ?_
    refine r_inv (a := 13) hu ⟨Nat.le_refl _, Nat.le_refl _⟩ dX11_left_81 kM_X11_224 (ci := 3) rfl kd_13 rfl rfl (by decide) (by decide) [(0, M x4 1), (0, M x4 2)] rfl (sk := [(0, x2)]) rfl (Nat.le_of_ble_eq_true rfl) rfl rfl (m_X3_lightAt hu M (M x4 1) (M x4 2)) (fun r17 M18 => ?_)
    refine r_iload_n 2 dX11_left_84 rfl rfl ?_
    refine r_icmp_gt (tgt := 92) dX11_left_85 rfl (fun h19 => ?_) (fun h20 => ?_)
    · refine r_iconst dX11_left_92 ⟨by decide, by decide⟩ ?_
      refine r_ok (fun h21 => ?_)
      refine r_iadd dX11_left_93 h21 ?_
      refine r_istore_nB dX11_left_94 rfl (by decide) (lf := fun y22 => [(2, 0, y22), (5, 0, s0), (0, 2, 1), (1, 0, x1), (3, 0, x3), (4, 2, x4)]) (fun _ => rfl) (fun y22 ey22 => ?_)
      refine r_ok (fun h23 => ?_)
      refine r_iincB 4 dX11_left_95 rfl h23 (by decide) (lf := fun y24 => [(3, 0, y24), (2, 0, y22), (5, 0, s0), (0, 2, 1), (1, 0, x1), (4, 2, x4)]) (fun _ => rfl) (fun y24 ey24 => ?_)
      refine r_goto (tgt := 9) dX11_left_98 rfl ?_
      refine r_sub [3, 4, 1, 0] (ls' := [(0, 2, 1), (1, 0, x1), (2, 0, y22), (3, 0, y24)]) rfl ?_
      exact hw9 M18 x1 y22 y24
    · refine r_iconst dX11_left_88 ⟨by decide, by decide⟩ ?_
      refine r_goto (tgt := 93) dX11_left_89 rfl ?_
      refine r_ok (fun h25 => ?_)
      refine r_iadd dX11_left_93 h25 ?_
      refine r_istore_nB dX11_left_94 rfl (by decide) (lf := fun y26 => [(2, 0, y26), (5, 0, s0), (0, 2, 1), (1, 0, x1), (3, 0, x3), (4, 2, x4)]) (fun _ => rfl) (fun y26 ey26 => ?_)
      refine r_ok (fun h27 => ?_)
      refine r_iincB 4 dX11_left_95 rfl h27 (by decide) (lf := fun y28 => [(3, 0, y28), (2, 0, y26), (5, 0, s0), (0, 2, 1), (1, 0, x1), (4, 2, x4)]) (fun _ => rfl) (fun y28 ey28 => ?_)
      refine r_goto (tgt := 9) dX11_left_98 rfl ?_
      refine r_sub [3, 4, 1, 0] (ls' := [(0, 2, 1), (1, 0, x1), (2, 0, y26), (3, 0, y28)]) rfl ?_
      exact hw9 M18 x1 y26 y28
set_option maxRecDepth 100000 in
theorem tj_X11_left_58 {g : GT} {n nf : Int} (hu : Up true nf n) (w9 : Mem → Int → Int → Int → Res) (hw9 : ∀ (M : Mem) (x1 x2 x3 : Int), AW g true RX11 cX11_left 6 (some .int) (3) n n nf 9 [(0, 2, 1), (1, 0, x1), (2, 0, x2), (3, 0, x3)] [] n M (w9 M x1 x2 x3)) (M : Mem) (x1 x2 x3 x4 : Int) : AW g true RX11 cX11_left 6 (some .int) (3) n n nf 58 [(0, 2, 1), (1, 0, x1), (2, 0, x2), (3, 0, x3), (4, 2, x4)] [] n M (j_X11_left_58 w9 M x1 x2 x3 x4) := by
  unfold j_X11_left_58
  refine r_iconst dX11_left_58 ⟨by decide, by decide⟩ ?_
  exact tj_X11_left_59 hu w9 hw9 M x1 x2 x3 x4 0
set_option maxRecDepth 100000 in
theorem tb_X11_left_9 {g : GT} {n nf : Int} (hu : Up true nf n) (w9 : Mem → Int → Int → Int → Res) (hw9 : ∀ (M : Mem) (x1 x2 x3 : Int), AW g true RX11 cX11_left 6 (some .int) (3) n n nf 9 [(0, 2, 1), (1, 0, x1), (2, 0, x2), (3, 0, x3)] [] n M (w9 M x1 x2 x3)) (M : Mem) (x1 x2 x3 : Int) : AW g true RX11 cX11_left 6 (some .int) (3) n n nf 9 [(0, 2, 1), (1, 0, x1), (2, 0, x2), (3, 0, x3)] [] n M (b_X11_left_9 w9 M x1 x2 x3) := by
  unfold b_X11_left_9
  refine r_iload_n 3 dX11_left_9 rfl rfl ?_
  refine r_aload_n 0 dX11_left_10 rfl rfl ?_
  refine r_gx (kz := 4) rfl hu dX11_left_11 kF_X11_42 kd_1 rfl rfl rfl fx_1_4 ?_
  refine r_gf (t := 0) (kz := 1) rfl hu dX11_left_14 kF_X11_107 kd_21 rfl rfl rfl ?_
  refine r_icmp_ge (tgt := 101) dX11_left_17 rfl (fun h3 => ?_) (fun h4 => ?_)
  · refine r_iload_n 2 dX11_left_101 rfl rfl ?_
    exact r_iret rfl rfl (Or.inl rfl) dX11_left_102
  · refine r_aload_n 0 dX11_left_20 rfl rfl ?_
    refine r_gx (kz := 4) rfl hu dX11_left_21 kF_X11_42 kd_1 rfl rfl rfl fx_1_4 ?_
    refine r_gx (kz := 0) rfl hu dX11_left_24 kF_X11_350 kd_21 rfl rfl rfl fx_21_0 ?_
    refine r_iload_n 3 dX11_left_27 rfl rfl ?_
    refine r_ok (fun h5 => ?_)
    refine r_aalx hu dX11_left_28 kd_22 (Or.inr (Or.inr rfl)) rfl ln_22 h5 (fxTr _ h5) ?_
    refine r_astore dX11_left_29 (by decide) (ls' := [(4, 2, 23 + x3), (0, 2, 1), (1, 0, x1), (2, 0, x2), (3, 0, x3)]) rfl ?_
    refine r_aload 0 dX11_left_31 rfl ?_
    refine r_inv (a := 23 + x3) hu ⟨Nat.le_refl _, Nat.le_refl _⟩ dX11_left_33 kM_X11_343 (ci := 10) rfl (kdTr _ h5) rfl rfl (by decide) (by decide) [] rfl (sk := []) rfl (Nat.le_of_ble_eq_true rfl) rfl rfl (m_X10_isRight hu M (23 + x3) (kdTr _ h5)) (fun r6 M7 => ?_)
    refine r_if_eq (tgt := 58) dX11_left_36 rfl (fun h8 => ?_) (fun h9 => ?_)
    · refine r_sub [1, 2, 3, 4, 0] (ls' := [(0, 2, 1), (1, 0, x1), (2, 0, x2), (3, 0, x3), (4, 2, 23 + x3)]) rfl ?_
      exact tj_X11_left_58 hu w9 hw9 M7 x1 x2 x3 (23 + x3)
    · refine r_aload_n 1 dX11_left_39 rfl rfl ?_
      refine r_gx (kz := 3) rfl hu dX11_left_40 kF_X11_35 kd_1 rfl rfl rfl fx_1_3 ?_
      refine r_aload 0 dX11_left_43 rfl ?_
      refine r_gf (t := 0) (kz := 1) rfl hu dX11_left_45 kF_X11_320 (kdTr _ h5) rfl rfl rfl ?_
      refine r_inv (a := 13) hu ⟨Nat.le_refl _, Nat.le_refl _⟩ dX11_left_48 kM_X11_390 (ci := 3) rfl kd_13 rfl rfl (by decide) (by decide) [(0, M7 (23 + x3) 1)] rfl (sk := []) rfl (Nat.le_of_ble_eq_true rfl) rfl rfl (m_X3_isGone hu M7 (M7 (23 + x3) 1)) (fun r29 M30 => ?_)
      refine r_if_eq (tgt := 58) dX11_left_51 rfl (fun h31 => ?_) (fun h32 => ?_)
      · refine r_sub [1, 2, 3, 4, 0] (ls' := [(0, 2, 1), (1, 0, x1), (2, 0, x2), (3, 0, x3), (4, 2, 23 + x3)]) rfl ?_
        exact tj_X11_left_58 hu w9 hw9 M30 x1 x2 x3 (23 + x3)
      · refine r_iconst dX11_left_54 ⟨by decide, by decide⟩ ?_
        refine r_goto (tgt := 59) dX11_left_55 rfl ?_
        refine r_sub [1, 2, 3, 4, 0] (ls' := [(0, 2, 1), (1, 0, x1), (2, 0, x2), (3, 0, x3), (4, 2, 23 + x3)]) rfl ?_
        exact tj_X11_left_59 hu w9 hw9 M30 x1 x2 x3 (23 + x3) 1
set_option maxRecDepth 100000 in
theorem m_X11_left {g : GT} {n nf : Int} (hu : Up true nf n) (M : Mem) : AM g true yX11_left cX11_left 6 (some .int) (3) n n nf [(2, 1)] M (f_X11_left M) := by
  refine AM_of (by decide +kernel) (Nat.le_of_ble_eq_true rfl) (fun h => absurd h (Int.lt_irrefl n)) ?_
  show AW g true RX11 cX11_left 6 (some .int) (3) n n nf 0 [(0, 2, 1)] [] n M (f_X11_left M)
  unfold f_X11_left
  refine r_aload_n 0 dX11_left_0 rfl rfl ?_
  refine r_inv (a := 1) hu ⟨Nat.le_refl _, Nat.le_refl _⟩ dX11_left_1 kM_X11_387 (ci := 11) rfl kd_1 rfl rfl (by decide) (by decide) [] rfl (sk := []) rfl (Nat.le_of_ble_eq_true rfl) rfl rfl (m_X11_bound hu M) (fun r1 M2 => ?_)
  refine r_istore_n dX11_left_4 rfl (by decide) (ls' := [(1, 0, r1), (0, 2, 1)]) rfl ?_
  refine r_iconst dX11_left_5 ⟨by decide, by decide⟩ ?_
  refine r_istore_n dX11_left_6 rfl (by decide) (ls' := [(2, 0, 0), (1, 0, r1), (0, 2, 1)]) rfl ?_
  refine r_iconst dX11_left_7 ⟨by decide, by decide⟩ ?_
  refine r_istore_n dX11_left_8 rfl (by decide) (ls' := [(3, 0, 0), (2, 0, 0), (1, 0, r1), (0, 2, 1)]) rfl ?_
  refine r_sub [3, 2, 1, 0] (ls' := [(0, 2, 1), (1, 0, r1), (2, 0, 0), (3, 0, 0)]) rfl ?_
  exact wl3_aw (P := fun M x1 x2 x3 o => AW g true RX11 cX11_left 6 (some .int) (3) n n nf 9 [(0, 2, 1), (1, 0, x1), (2, 0, x2), (3, 0, x3)] [] n M (o)) (fun M x1 x2 x3 => aw_none) (fun w hw M x1 x2 x3 => tb_X11_left_9 hu w hw M x1 x2 x3) FU M2 r1 0 0
theorem dX11_listHelpers_0 : decode cX11_listHelpers 0 = .ok (.iconst 0, 1) := by decide +kernel
theorem dX11_listHelpers_1 : decode cX11_listHelpers 1 = .ok (.istore_n 2, 1) := by decide +kernel
theorem dX11_listHelpers_2 : decode cX11_listHelpers 2 = .ok (.iconst 0, 1) := by decide +kernel
theorem dX11_listHelpers_3 : decode cX11_listHelpers 3 = .ok (.istore_n 3, 1) := by decide +kernel
theorem dX11_listHelpers_4 : decode cX11_listHelpers 4 = .ok (.iload_n 3, 1) := by decide +kernel
theorem dX11_listHelpers_5 : decode cX11_listHelpers 5 = .ok (.aload_n 0, 1) := by decide +kernel
theorem dX11_listHelpers_6 : decode cX11_listHelpers 6 = .ok (.getfield 42, 3) := by decide +kernel
theorem dX11_listHelpers_9 : decode cX11_listHelpers 9 = .ok (.getfield 107, 3) := by decide +kernel
theorem dX11_listHelpers_12 : decode cX11_listHelpers 12 = .ok (.if_icmp .ge 59, 3) := by decide +kernel
theorem dX11_listHelpers_15 : decode cX11_listHelpers 15 = .ok (.aload_n 0, 1) := by decide +kernel
theorem dX11_listHelpers_16 : decode cX11_listHelpers 16 = .ok (.getfield 42, 3) := by decide +kernel
theorem dX11_listHelpers_19 : decode cX11_listHelpers 19 = .ok (.getfield 350, 3) := by decide +kernel
theorem dX11_listHelpers_22 : decode cX11_listHelpers 22 = .ok (.iload_n 3, 1) := by decide +kernel
theorem dX11_listHelpers_23 : decode cX11_listHelpers 23 = .ok (.aaload, 1) := by decide +kernel
theorem dX11_listHelpers_24 : decode cX11_listHelpers 24 = .ok (.astore 4, 2) := by decide +kernel
theorem dX11_listHelpers_26 : decode cX11_listHelpers 26 = .ok (.aload 4, 2) := by decide +kernel
theorem dX11_listHelpers_28 : decode cX11_listHelpers 28 = .ok (.invokevirtual 343, 3) := by decide +kernel
theorem dX11_listHelpers_31 : decode cX11_listHelpers 31 = .ok (.ifCond .eq 34, 3) := by decide +kernel
theorem dX11_listHelpers_34 : decode cX11_listHelpers 34 = .ok (.aload 4, 2) := by decide +kernel
theorem dX11_listHelpers_36 : decode cX11_listHelpers 36 = .ok (.getfield 329, 3) := by decide +kernel
theorem dX11_listHelpers_39 : decode cX11_listHelpers 39 = .ok (.ifCond .le 26, 3) := by decide +kernel
theorem dX11_listHelpers_42 : decode cX11_listHelpers 42 = .ok (.aload_n 0, 1) := by decide +kernel
theorem dX11_listHelpers_43 : decode cX11_listHelpers 43 = .ok (.aload 4, 2) := by decide +kernel
theorem dX11_listHelpers_45 : decode cX11_listHelpers 45 = .ok (.invokevirtual 380, 3) := by decide +kernel
theorem dX11_listHelpers_48 : decode cX11_listHelpers 48 = .ok (.aload_n 0, 1) := by decide +kernel
theorem dX11_listHelpers_49 : decode cX11_listHelpers 49 = .ok (.getfield 88, 3) := by decide +kernel
theorem dX11_listHelpers_52 : decode cX11_listHelpers 52 = .ok (.iload_n 2, 1) := by decide +kernel
theorem dX11_listHelpers_53 : decode cX11_listHelpers 53 = .ok (.aload_n 1, 1) := by decide +kernel
theorem dX11_listHelpers_54 : decode cX11_listHelpers 54 = .ok (.aload_n 0, 1) := by decide +kernel
theorem dX11_listHelpers_55 : decode cX11_listHelpers 55 = .ok (.getfield 28, 3) := by decide +kernel
theorem dX11_listHelpers_58 : decode cX11_listHelpers 58 = .ok (.invokevirtual 446, 3) := by decide +kernel
theorem dX11_listHelpers_61 : decode cX11_listHelpers 61 = .ok (.iastore, 1) := by decide +kernel
theorem dX11_listHelpers_62 : decode cX11_listHelpers 62 = .ok (.iinc 2 1, 3) := by decide +kernel
theorem dX11_listHelpers_65 : decode cX11_listHelpers 65 = .ok (.iinc 3 1, 3) := by decide +kernel
theorem dX11_listHelpers_68 : decode cX11_listHelpers 68 = .ok (.goto (-64), 3) := by decide +kernel
theorem dX11_listHelpers_71 : decode cX11_listHelpers 71 = .ok (.iload_n 2, 1) := by decide +kernel
theorem dX11_listHelpers_72 : decode cX11_listHelpers 72 = .ok (.ireturn, 1) := by decide +kernel
set_option maxRecDepth 100000 in
theorem tb_X11_listHelpers_4 {g : GT} {n nf : Int} (hu : Up true nf n) (a1 : Int) (hk1 : kd a1 = 17) (w4 : Mem → Int → Int → Res) (hw4 : ∀ (M : Mem) (x2 x3 : Int), AW g true RX11 cX11_listHelpers 5 (some .int) (5) n n nf 4 [(0, 2, 1), (1, 2, a1), (2, 0, x2), (3, 0, x3)] [] n M (w4 M x2 x3)) (M : Mem) (x2 x3 : Int) : AW g true RX11 cX11_listHelpers 5 (some .int) (5) n n nf 4 [(0, 2, 1), (1, 2, a1), (2, 0, x2), (3, 0, x3)] [] n M (b_X11_listHelpers_4 a1 w4 M x2 x3) := by
  unfold b_X11_listHelpers_4
  refine r_iload_n 3 dX11_listHelpers_4 rfl rfl ?_
  refine r_aload_n 0 dX11_listHelpers_5 rfl rfl ?_
  refine r_gx (kz := 4) rfl hu dX11_listHelpers_6 kF_X11_42 kd_1 rfl rfl rfl fx_1_4 ?_
  refine r_gf (t := 0) (kz := 1) rfl hu dX11_listHelpers_9 kF_X11_107 kd_21 rfl rfl rfl ?_
  refine r_icmp_ge (tgt := 71) dX11_listHelpers_12 rfl (fun h1 => ?_) (fun h2 => ?_)
  · refine r_iload_n 2 dX11_listHelpers_71 rfl rfl ?_
    exact r_iret rfl rfl (Or.inl rfl) dX11_listHelpers_72
  · refine r_aload_n 0 dX11_listHelpers_15 rfl rfl ?_
    refine r_gx (kz := 4) rfl hu dX11_listHelpers_16 kF_X11_42 kd_1 rfl rfl rfl fx_1_4 ?_
    refine r_gx (kz := 0) rfl hu dX11_listHelpers_19 kF_X11_350 kd_21 rfl rfl rfl fx_21_0 ?_
    refine r_iload_n 3 dX11_listHelpers_22 rfl rfl ?_
    refine r_ok (fun h3 => ?_)
    refine r_aalx hu dX11_listHelpers_23 kd_22 (Or.inr (Or.inr rfl)) rfl ln_22 h3 (fxTr _ h3) ?_
    refine r_astore dX11_listHelpers_24 (by decide) (ls' := [(4, 2, 23 + x3), (0, 2, 1), (1, 2, a1), (2, 0, x2), (3, 0, x3)]) rfl ?_
    refine r_aload 0 dX11_listHelpers_26 rfl ?_
    refine r_inv (a := 23 + x3) hu ⟨Nat.le_refl _, Nat.le_refl _⟩ dX11_listHelpers_28 kM_X11_343 (ci := 10) rfl (kdTr _ h3) rfl rfl (by decide) (by decide) [] rfl (sk := []) rfl (Nat.le_of_ble_eq_true rfl) rfl rfl (m_X10_isRight hu M (23 + x3) (kdTr _ h3)) (fun r4 M5 => ?_)
    refine r_if_eq (tgt := 65) dX11_listHelpers_31 rfl (fun h6 => ?_) (fun h7 => ?_)
    · refine r_iincB 4 dX11_listHelpers_65 rfl ⟨by have := h3; omega, by have := h3; omega⟩ (by decide) (lf := fun y8 => [(3, 0, y8), (4, 2, 23 + x3), (0, 2, 1), (1, 2, a1), (2, 0, x2)]) (fun _ => rfl) (fun y8 ey8 => ?_)
      refine r_goto (tgt := 4) dX11_listHelpers_68 rfl ?_
      refine r_sub [2, 3, 4, 0] (ls' := [(0, 2, 1), (1, 2, a1), (2, 0, x2), (3, 0, y8)]) rfl ?_
      exact hw4 M5 x2 y8
    · refine r_aload 0 dX11_listHelpers_34 rfl ?_
      refine r_gf (t := 0) (kz := 2) rfl hu dX11_listHelpers_36 kF_X11_329 (kdTr _ h3) rfl rfl rfl ?_
      refine r_if_le (tgt := 65) dX11_listHelpers_39 rfl (fun h9 => ?_) (fun h10 => ?_)
      · refine r_iincB 4 dX11_listHelpers_65 rfl ⟨by have := h3; omega, by have := h3; omega⟩ (by decide) (lf := fun y11 => [(3, 0, y11), (4, 2, 23 + x3), (0, 2, 1), (1, 2, a1), (2, 0, x2)]) (fun _ => rfl) (fun y11 ey11 => ?_)
        refine r_goto (tgt := 4) dX11_listHelpers_68 rfl ?_
        refine r_sub [2, 3, 4, 0] (ls' := [(0, 2, 1), (1, 2, a1), (2, 0, x2), (3, 0, y11)]) rfl ?_
        exact hw4 M5 x2 y11
      · refine r_aload_n 1 dX11_listHelpers_42 rfl rfl ?_
        refine r_aload 0 dX11_listHelpers_43 rfl ?_
        refine r_invv (a := 1) hu ⟨Nat.le_refl _, Nat.le_refl _⟩ dX11_listHelpers_45 kM_X11_380 (ci := 11) rfl kd_1 rfl rfl (by decide) (by decide) [(2, 23 + x3)] rfl (sk := []) rfl (Nat.le_of_ble_eq_true rfl) rfl (m_X11_putTrial hu M5 (23 + x3) (kdTr _ h3)) (fun r12 M13 => ?_)
        refine r_aload_n 1 dX11_listHelpers_48 rfl rfl ?_
        refine r_gx (kz := 17) rfl hu dX11_listHelpers_49 kF_X11_88 kd_1 rfl rfl rfl fx_1_17 ?_
        refine r_iload_n 3 dX11_listHelpers_52 rfl rfl ?_
        refine r_aload_n 2 dX11_listHelpers_53 rfl rfl ?_
        refine r_aload_n 1 dX11_listHelpers_54 rfl rfl ?_
        refine r_gx (kz := 2) rfl hu dX11_listHelpers_55 kF_X11_28 kd_1 rfl rfl rfl fx_1_2 ?_
        refine r_inv (a := a1) hu ⟨Nat.le_refl _, Nat.le_refl _⟩ dX11_listHelpers_58 kM_X11_446 (ci := 7) rfl hk1 rfl rfl (by decide) (by decide) [(2, 10)] rfl (sk := [(0, x2), (2, 204)]) rfl (Nat.le_of_ble_eq_true rfl) rfl rfl (m_X7_carriersBy hu M13 a1 hk1) (fun r14 M15 => ?_)
        refine r_ok (fun h16 => ?_)
        refine r_iast hu dX11_listHelpers_61 kd_204 rfl (Or.inl rfl) rfl ln_204 h16 rfl (fun M17 eM17 => ?_)
        refine r_iincB 3 dX11_listHelpers_62 rfl ⟨by have := h16; omega, by have := h16; omega⟩ (by decide) (lf := fun y18 => [(2, 0, y18), (4, 2, 23 + x3), (0, 2, 1), (1, 2, a1), (3, 0, x3)]) (fun _ => rfl) (fun y18 ey18 => ?_)
        refine r_iincB 4 dX11_listHelpers_65 rfl ⟨by have := h3; omega, by have := h3; omega⟩ (by decide) (lf := fun y19 => [(3, 0, y19), (2, 0, y18), (4, 2, 23 + x3), (0, 2, 1), (1, 2, a1)]) (fun _ => rfl) (fun y19 ey19 => ?_)
        refine r_goto (tgt := 4) dX11_listHelpers_68 rfl ?_
        refine r_sub [3, 4, 1, 0] (ls' := [(0, 2, 1), (1, 2, a1), (2, 0, y18), (3, 0, y19)]) rfl ?_
        exact hw4 M17 y18 y19
set_option maxRecDepth 100000 in
theorem m_X11_listHelpers {g : GT} {n nf : Int} (hu : Up true nf n) (M : Mem) (a1 : Int) (hk1 : kd a1 = 17) : AM g true yX11_listHelpers cX11_listHelpers 5 (some .int) (5) n n nf [(2, 1), (2, a1)] M (f_X11_listHelpers M a1) := by
  refine AM_of (by decide +kernel) (Nat.le_of_ble_eq_true rfl) (fun h => absurd h (Int.lt_irrefl n)) ?_
  show AW g true RX11 cX11_listHelpers 5 (some .int) (5) n n nf 0 [(0, 2, 1), (1, 2, a1)] [] n M (f_X11_listHelpers M a1)
  unfold f_X11_listHelpers
  refine r_iconst dX11_listHelpers_0 ⟨by decide, by decide⟩ ?_
  refine r_istore_n dX11_listHelpers_1 rfl (by decide) (ls' := [(2, 0, 0), (0, 2, 1), (1, 2, a1)]) rfl ?_
  refine r_iconst dX11_listHelpers_2 ⟨by decide, by decide⟩ ?_
  refine r_istore_n dX11_listHelpers_3 rfl (by decide) (ls' := [(3, 0, 0), (2, 0, 0), (0, 2, 1), (1, 2, a1)]) rfl ?_
  refine r_sub [2, 3, 1, 0] (ls' := [(0, 2, 1), (1, 2, a1), (2, 0, 0), (3, 0, 0)]) rfl ?_
  exact wl2_aw (P := fun M x2 x3 o => AW g true RX11 cX11_listHelpers 5 (some .int) (5) n n nf 4 [(0, 2, 1), (1, 2, a1), (2, 0, x2), (3, 0, x3)] [] n M (o)) (fun M x2 x3 => aw_none) (fun w hw M x2 x3 => tb_X11_listHelpers_4 hu a1 hk1 w hw M x2 x3) FU M 0 0
theorem dJ6_bitCount_0f7a4_0 : decode cJ6_bitCount_0f7a4 0 = .ok (.iload_n 0, 1) := by decide +kernel
theorem dJ6_bitCount_0f7a4_1 : decode cJ6_bitCount_0f7a4 1 = .ok (.iload_n 0, 1) := by decide +kernel
theorem dJ6_bitCount_0f7a4_2 : decode cJ6_bitCount_0f7a4 2 = .ok (.iconst 1, 1) := by decide +kernel
theorem dJ6_bitCount_0f7a4_3 : decode cJ6_bitCount_0f7a4 3 = .ok (.iushr, 1) := by decide +kernel
theorem dJ6_bitCount_0f7a4_4 : decode cJ6_bitCount_0f7a4 4 = .ok (.ldc_w 265, 3) := by decide +kernel
theorem dJ6_bitCount_0f7a4_7 : decode cJ6_bitCount_0f7a4 7 = .ok (.iand, 1) := by decide +kernel
theorem dJ6_bitCount_0f7a4_8 : decode cJ6_bitCount_0f7a4 8 = .ok (.isub, 1) := by decide +kernel
theorem dJ6_bitCount_0f7a4_9 : decode cJ6_bitCount_0f7a4 9 = .ok (.istore_n 0, 1) := by decide +kernel
theorem dJ6_bitCount_0f7a4_10 : decode cJ6_bitCount_0f7a4 10 = .ok (.iload_n 0, 1) := by decide +kernel
theorem dJ6_bitCount_0f7a4_11 : decode cJ6_bitCount_0f7a4 11 = .ok (.ldc_w 266, 3) := by decide +kernel
theorem dJ6_bitCount_0f7a4_14 : decode cJ6_bitCount_0f7a4 14 = .ok (.iand, 1) := by decide +kernel
theorem dJ6_bitCount_0f7a4_15 : decode cJ6_bitCount_0f7a4 15 = .ok (.iload_n 0, 1) := by decide +kernel
theorem dJ6_bitCount_0f7a4_16 : decode cJ6_bitCount_0f7a4 16 = .ok (.iconst 2, 1) := by decide +kernel
theorem dJ6_bitCount_0f7a4_17 : decode cJ6_bitCount_0f7a4 17 = .ok (.iushr, 1) := by decide +kernel
theorem dJ6_bitCount_0f7a4_18 : decode cJ6_bitCount_0f7a4 18 = .ok (.ldc_w 266, 3) := by decide +kernel
theorem dJ6_bitCount_0f7a4_21 : decode cJ6_bitCount_0f7a4 21 = .ok (.iand, 1) := by decide +kernel
theorem dJ6_bitCount_0f7a4_22 : decode cJ6_bitCount_0f7a4 22 = .ok (.iadd, 1) := by decide +kernel
theorem dJ6_bitCount_0f7a4_23 : decode cJ6_bitCount_0f7a4 23 = .ok (.istore_n 0, 1) := by decide +kernel
theorem dJ6_bitCount_0f7a4_24 : decode cJ6_bitCount_0f7a4 24 = .ok (.iload_n 0, 1) := by decide +kernel
theorem dJ6_bitCount_0f7a4_25 : decode cJ6_bitCount_0f7a4 25 = .ok (.iload_n 0, 1) := by decide +kernel
theorem dJ6_bitCount_0f7a4_26 : decode cJ6_bitCount_0f7a4 26 = .ok (.iconst 4, 1) := by decide +kernel
theorem dJ6_bitCount_0f7a4_27 : decode cJ6_bitCount_0f7a4 27 = .ok (.iushr, 1) := by decide +kernel
theorem dJ6_bitCount_0f7a4_28 : decode cJ6_bitCount_0f7a4 28 = .ok (.iadd, 1) := by decide +kernel
theorem dJ6_bitCount_0f7a4_29 : decode cJ6_bitCount_0f7a4 29 = .ok (.ldc_w 267, 3) := by decide +kernel
theorem dJ6_bitCount_0f7a4_32 : decode cJ6_bitCount_0f7a4 32 = .ok (.iand, 1) := by decide +kernel
theorem dJ6_bitCount_0f7a4_33 : decode cJ6_bitCount_0f7a4 33 = .ok (.istore_n 0, 1) := by decide +kernel
theorem dJ6_bitCount_0f7a4_34 : decode cJ6_bitCount_0f7a4 34 = .ok (.iload_n 0, 1) := by decide +kernel
theorem dJ6_bitCount_0f7a4_35 : decode cJ6_bitCount_0f7a4 35 = .ok (.iload_n 0, 1) := by decide +kernel
theorem dJ6_bitCount_0f7a4_36 : decode cJ6_bitCount_0f7a4 36 = .ok (.bipush 8, 2) := by decide +kernel
theorem dJ6_bitCount_0f7a4_38 : decode cJ6_bitCount_0f7a4 38 = .ok (.iushr, 1) := by decide +kernel
theorem dJ6_bitCount_0f7a4_39 : decode cJ6_bitCount_0f7a4 39 = .ok (.iadd, 1) := by decide +kernel
theorem dJ6_bitCount_0f7a4_40 : decode cJ6_bitCount_0f7a4 40 = .ok (.istore_n 0, 1) := by decide +kernel
theorem dJ6_bitCount_0f7a4_41 : decode cJ6_bitCount_0f7a4 41 = .ok (.iload_n 0, 1) := by decide +kernel
theorem dJ6_bitCount_0f7a4_42 : decode cJ6_bitCount_0f7a4 42 = .ok (.iload_n 0, 1) := by decide +kernel
theorem dJ6_bitCount_0f7a4_43 : decode cJ6_bitCount_0f7a4 43 = .ok (.bipush 16, 2) := by decide +kernel
theorem dJ6_bitCount_0f7a4_45 : decode cJ6_bitCount_0f7a4 45 = .ok (.iushr, 1) := by decide +kernel
theorem dJ6_bitCount_0f7a4_46 : decode cJ6_bitCount_0f7a4 46 = .ok (.iadd, 1) := by decide +kernel
theorem dJ6_bitCount_0f7a4_47 : decode cJ6_bitCount_0f7a4 47 = .ok (.istore_n 0, 1) := by decide +kernel
theorem dJ6_bitCount_0f7a4_48 : decode cJ6_bitCount_0f7a4 48 = .ok (.iload_n 0, 1) := by decide +kernel
theorem dJ6_bitCount_0f7a4_49 : decode cJ6_bitCount_0f7a4 49 = .ok (.bipush 63, 2) := by decide +kernel
theorem dJ6_bitCount_0f7a4_51 : decode cJ6_bitCount_0f7a4 51 = .ok (.iand, 1) := by decide +kernel
theorem dJ6_bitCount_0f7a4_52 : decode cJ6_bitCount_0f7a4 52 = .ok (.ireturn, 1) := by decide +kernel
set_option maxRecDepth 100000 in
theorem m_J6_bitCount_0f7a4 {g : GT} {n nf : Int} (hu : Up true nf n) (M : Mem) (a0 : Int) : AM g true yJ6_bitCount_0f7a4 cJ6_bitCount_0f7a4 1 (some .int) (0) n n nf [(0, a0)] M (f_J6_bitCount_0f7a4 M a0) := by
  refine AM_ofF (by decide +kernel) (Nat.le_of_ble_eq_true rfl) (fun h => absurd h (Int.lt_irrefl n)) ?_
  show AW g true RJ6 cJ6_bitCount_0f7a4 1 (some .int) (0) n n nf 0 [(0, 0, a0)] [] n M (f_J6_bitCount_0f7a4 M a0)
  unfold f_J6_bitCount_0f7a4
  refine r_iload_n 0 dJ6_bitCount_0f7a4_0 rfl rfl ?_
  refine r_iload_n 0 dJ6_bitCount_0f7a4_1 rfl rfl ?_
  refine r_iconst dJ6_bitCount_0f7a4_2 ⟨by decide, by decide⟩ ?_
  refine r_iushr dJ6_bitCount_0f7a4_3 ?_
  refine r_ldcw (v := 1431655765) dJ6_bitCount_0f7a4_4 kC_J6_265 rfl ⟨by decide, by decide⟩ ?_
  refine r_iand dJ6_bitCount_0f7a4_7 ?_
  refine r_ok (fun h1 => ?_)
  refine r_isub dJ6_bitCount_0f7a4_8 h1 ?_
  refine r_istore_nB dJ6_bitCount_0f7a4_9 rfl (by decide) (lf := fun y2 => [(0, 0, y2)]) (fun _ => rfl) (fun y2 ey2 => ?_)
  refine r_iload_n 0 dJ6_bitCount_0f7a4_10 rfl rfl ?_
  refine r_ldcw (v := 858993459) dJ6_bitCount_0f7a4_11 kC_J6_266 rfl ⟨by decide, by decide⟩ ?_
  refine r_iand dJ6_bitCount_0f7a4_14 ?_
  refine r_iload_n 0 dJ6_bitCount_0f7a4_15 rfl rfl ?_
  refine r_iconst dJ6_bitCount_0f7a4_16 ⟨by decide, by decide⟩ ?_
  refine r_iushr dJ6_bitCount_0f7a4_17 ?_
  refine r_ldcw (v := 858993459) dJ6_bitCount_0f7a4_18 kC_J6_266 rfl ⟨by decide, by decide⟩ ?_
  refine r_iand dJ6_bitCount_0f7a4_21 ?_
  refine r_ok (fun h3 => ?_)
  refine r_iadd dJ6_bitCount_0f7a4_22 h3 ?_
  refine r_istore_nB dJ6_bitCount_0f7a4_23 rfl (by decide) (lf := fun y4 => [(0, 0, y4)]) (fun _ => rfl) (fun y4 ey4 => ?_)
  refine r_iload_n 0 dJ6_bitCount_0f7a4_24 rfl rfl ?_
  refine r_iload_n 0 dJ6_bitCount_0f7a4_25 rfl rfl ?_
  refine r_iconst dJ6_bitCount_0f7a4_26 ⟨by decide, by decide⟩ ?_
  refine r_iushr dJ6_bitCount_0f7a4_27 ?_
  refine r_ok (fun h5 => ?_)
  refine r_iadd dJ6_bitCount_0f7a4_28 h5 ?_
  refine r_ldcw (v := 252645135) dJ6_bitCount_0f7a4_29 kC_J6_267 rfl ⟨by decide, by decide⟩ ?_
  refine r_iand dJ6_bitCount_0f7a4_32 ?_
  refine r_istore_nB dJ6_bitCount_0f7a4_33 rfl (by decide) (lf := fun y6 => [(0, 0, y6)]) (fun _ => rfl) (fun y6 ey6 => ?_)
  refine r_iload_n 0 dJ6_bitCount_0f7a4_34 rfl rfl ?_
  refine r_iload_n 0 dJ6_bitCount_0f7a4_35 rfl rfl ?_
  refine r_bipush dJ6_bitCount_0f7a4_36 (by decide) ⟨by decide, by decide⟩ ?_
  refine r_iushr dJ6_bitCount_0f7a4_38 ?_
  refine r_ok (fun h7 => ?_)
  refine r_iadd dJ6_bitCount_0f7a4_39 h7 ?_
  refine r_istore_nB dJ6_bitCount_0f7a4_40 rfl (by decide) (lf := fun y8 => [(0, 0, y8)]) (fun _ => rfl) (fun y8 ey8 => ?_)
  refine r_iload_n 0 dJ6_bitCount_0f7a4_41 rfl rfl ?_
  refine r_iload_n 0 dJ6_bitCount_0f7a4_42 rfl rfl ?_
  refine r_bipush dJ6_bitCount_0f7a4_43 (by decide) ⟨by decide, by decide⟩ ?_
  refine r_iushr dJ6_bitCount_0f7a4_45 ?_
  refine r_ok (fun h9 => ?_)
  refine r_iadd dJ6_bitCount_0f7a4_46 h9 ?_
  refine r_istore_nB dJ6_bitCount_0f7a4_47 rfl (by decide) (lf := fun y10 => [(0, 0, y10)]) (fun _ => rfl) (fun y10 ey10 => ?_)
  refine r_iload_n 0 dJ6_bitCount_0f7a4_48 rfl rfl ?_
  refine r_bipush dJ6_bitCount_0f7a4_49 (by decide) ⟨by decide, by decide⟩ ?_
  refine r_iand dJ6_bitCount_0f7a4_51 ?_
  exact r_iret rfl rfl (Or.inl rfl) dJ6_bitCount_0f7a4_52
theorem dX11_explains_0 : decode cX11_explains 0 = .ok (.iconst 0, 1) := by decide +kernel
theorem dX11_explains_1 : decode cX11_explains 1 = .ok (.istore_n 3, 1) := by decide +kernel
theorem dX11_explains_2 : decode cX11_explains 2 = .ok (.iload_n 3, 1) := by decide +kernel
theorem dX11_explains_3 : decode cX11_explains 3 = .ok (.iload_n 2, 1) := by decide +kernel
theorem dX11_explains_4 : decode cX11_explains 4 = .ok (.if_icmp .ge 28, 3) := by decide +kernel
theorem dX11_explains_7 : decode cX11_explains 7 = .ok (.iload_n 3, 1) := by decide +kernel
theorem dX11_explains_8 : decode cX11_explains 8 = .ok (.bipush 40, 2) := by decide +kernel
theorem dX11_explains_10 : decode cX11_explains 10 = .ok (.if_icmp .ge 22, 3) := by decide +kernel
theorem dX11_explains_13 : decode cX11_explains 13 = .ok (.aload_n 0, 1) := by decide +kernel
theorem dX11_explains_14 : decode cX11_explains 14 = .ok (.getfield 88, 3) := by decide +kernel
theorem dX11_explains_17 : decode cX11_explains 17 = .ok (.iload_n 3, 1) := by decide +kernel
theorem dX11_explains_18 : decode cX11_explains 18 = .ok (.iaload, 1) := by decide +kernel
theorem dX11_explains_19 : decode cX11_explains 19 = .ok (.iload_n 1, 1) := by decide +kernel
theorem dX11_explains_20 : decode cX11_explains 20 = .ok (.iand, 1) := by decide +kernel
theorem dX11_explains_21 : decode cX11_explains 21 = .ok (.ifCond .ne 5, 3) := by decide +kernel
theorem dX11_explains_24 : decode cX11_explains 24 = .ok (.iconst 0, 1) := by decide +kernel
theorem dX11_explains_25 : decode cX11_explains 25 = .ok (.ireturn, 1) := by decide +kernel
theorem dX11_explains_26 : decode cX11_explains 26 = .ok (.iinc 3 1, 3) := by decide +kernel
theorem dX11_explains_29 : decode cX11_explains 29 = .ok (.goto (-27), 3) := by decide +kernel
theorem dX11_explains_32 : decode cX11_explains 32 = .ok (.iconst 1, 1) := by decide +kernel
theorem dX11_explains_33 : decode cX11_explains 33 = .ok (.ireturn, 1) := by decide +kernel
set_option maxRecDepth 100000 in
theorem tb_X11_explains_2 {g : GT} {n nf : Int} (hu : Up true nf n) (a1 a2 : Int) (w2 : Mem → Int → Res) (hw2 : ∀ (M : Mem) (x3 : Int), AW g true RX11 cX11_explains 4 (some .boolean) (0) n n nf 2 [(0, 2, 1), (1, 0, a1), (2, 0, a2), (3, 0, x3)] [] n M (w2 M x3)) (M : Mem) (x3 : Int) : AW g true RX11 cX11_explains 4 (some .boolean) (0) n n nf 2 [(0, 2, 1), (1, 0, a1), (2, 0, a2), (3, 0, x3)] [] n M (b_X11_explains_2 a1 a2 w2 M x3) := by
  unfold b_X11_explains_2
  refine r_iload_n 3 dX11_explains_2 rfl rfl ?_
  refine r_iload_n 2 dX11_explains_3 rfl rfl ?_
  refine r_icmp_ge (tgt := 32) dX11_explains_4 rfl (fun h1 => ?_) (fun h2 => ?_)
  · refine r_iconst dX11_explains_32 ⟨by decide, by decide⟩ ?_
    exact r_iret rfl rfl (Or.inr ⟨rfl, Or.inr rfl⟩) dX11_explains_33
  · refine r_iload_n 3 dX11_explains_7 rfl rfl ?_
    refine r_bipush dX11_explains_8 (by decide) ⟨by decide, by decide⟩ ?_
    refine r_icmp_ge (tgt := 32) dX11_explains_10 rfl (fun h3 => ?_) (fun h4 => ?_)
    · refine r_iconst dX11_explains_32 ⟨by decide, by decide⟩ ?_
      exact r_iret rfl rfl (Or.inr ⟨rfl, Or.inr rfl⟩) dX11_explains_33
    · refine r_aload_n 0 dX11_explains_13 rfl rfl ?_
      refine r_gx (kz := 17) rfl hu dX11_explains_14 kF_X11_88 kd_1 rfl rfl rfl fx_1_17 ?_
      refine r_iload_n 3 dX11_explains_17 rfl rfl ?_
      refine r_ok (fun h5 => ?_)
      refine r_iald hu dX11_explains_18 kd_204 rfl (Or.inl rfl) rfl ln_204 h5 ?_
      refine r_iload_n 1 dX11_explains_19 rfl rfl ?_
      refine r_iand dX11_explains_20 ?_
      refine r_if_ne (tgt := 26) dX11_explains_21 rfl (fun h6 => ?_) (fun h7 => ?_)
      · refine r_iconst dX11_explains_24 ⟨by decide, by decide⟩ ?_
        exact r_iret rfl rfl (Or.inr ⟨rfl, Or.inl rfl⟩) dX11_explains_25
      · refine r_iincB 3 dX11_explains_26 rfl ⟨by have := h5; omega, by have := h5; omega⟩ (by decide) (lf := fun y8 => [(3, 0, y8), (0, 2, 1), (1, 0, a1), (2, 0, a2)]) (fun _ => rfl) (fun y8 ey8 => ?_)
        refine r_goto (tgt := 2) dX11_explains_29 rfl ?_
        refine r_sub [1, 2, 3, 0] (ls' := [(0, 2, 1), (1, 0, a1), (2, 0, a2), (3, 0, y8)]) rfl ?_
        exact hw2 M y8
set_option maxRecDepth 100000 in
theorem m_X11_explains {g : GT} {n nf : Int} (hu : Up true nf n) (M : Mem) (a1 a2 : Int) : AM g true yX11_explains cX11_explains 4 (some .boolean) (0) n n nf [(2, 1), (0, a1), (0, a2)] M (f_X11_explains M a1 a2) := by
  refine AM_of (by decide +kernel) (Nat.le_of_ble_eq_true rfl) (fun h => absurd h (Int.lt_irrefl n)) ?_
  show AW g true RX11 cX11_explains 4 (some .boolean) (0) n n nf 0 [(0, 2, 1), (1, 0, a1), (2, 0, a2)] [] n M (f_X11_explains M a1 a2)
  unfold f_X11_explains
  refine r_iconst dX11_explains_0 ⟨by decide, by decide⟩ ?_
  refine r_istore_n dX11_explains_1 rfl (by decide) (ls' := [(3, 0, 0), (0, 2, 1), (1, 0, a1), (2, 0, a2)]) rfl ?_
  refine r_sub [1, 2, 3, 0] (ls' := [(0, 2, 1), (1, 0, a1), (2, 0, a2), (3, 0, 0)]) rfl ?_
  exact wl1_aw (P := fun M x3 o => AW g true RX11 cX11_explains 4 (some .boolean) (0) n n nf 2 [(0, 2, 1), (1, 0, a1), (2, 0, a2), (3, 0, x3)] [] n M (o)) (fun M x3 => aw_none) (fun w hw M x3 => tb_X11_explains_2 hu a1 a2 w hw M x3) FU M 0
theorem dX11_fewest_0 : decode cX11_fewest 0 = .ok (.aload_n 0, 1) := by decide +kernel
theorem dX11_fewest_1 : decode cX11_fewest 1 = .ok (.iload_n 1, 1) := by decide +kernel
theorem dX11_fewest_2 : decode cX11_fewest 2 = .ok (.invokevirtual 153, 3) := by decide +kernel
theorem dX11_fewest_5 : decode cX11_fewest 5 = .ok (.astore_n 3, 1) := by decide +kernel
theorem dX11_fewest_6 : decode cX11_fewest 6 = .ok (.aload_n 3, 1) := by decide +kernel
theorem dX11_fewest_7 : decode cX11_fewest 7 = .ok (.ifnonnull 5, 3) := by decide +kernel
theorem dX11_fewest_10 : decode cX11_fewest 10 = .ok (.iconst (-1), 1) := by decide +kernel
theorem dX11_fewest_11 : decode cX11_fewest 11 = .ok (.ireturn, 1) := by decide +kernel
theorem dX11_fewest_12 : decode cX11_fewest 12 = .ok (.aload_n 0, 1) := by decide +kernel
theorem dX11_fewest_13 : decode cX11_fewest 13 = .ok (.aload_n 3, 1) := by decide +kernel
theorem dX11_fewest_14 : decode cX11_fewest 14 = .ok (.invokevirtual 393, 3) := by decide +kernel
theorem dX11_fewest_17 : decode cX11_fewest 17 = .ok (.istore 4, 2) := by decide +kernel
theorem dX11_fewest_19 : decode cX11_fewest 19 = .ok (.iconst (-1), 1) := by decide +kernel
theorem dX11_fewest_20 : decode cX11_fewest 20 = .ok (.istore 5, 2) := by decide +kernel
theorem dX11_fewest_22 : decode cX11_fewest 22 = .ok (.bipush 6, 2) := by decide +kernel
theorem dX11_fewest_24 : decode cX11_fewest 24 = .ok (.istore 6, 2) := by decide +kernel
theorem dX11_fewest_26 : decode cX11_fewest 26 = .ok (.iconst 0, 1) := by decide +kernel
theorem dX11_fewest_27 : decode cX11_fewest 27 = .ok (.istore 7, 2) := by decide +kernel
theorem dX11_fewest_29 : decode cX11_fewest 29 = .ok (.iload 7, 2) := by decide +kernel
theorem dX11_fewest_31 : decode cX11_fewest 31 = .ok (.iconst 1, 1) := by decide +kernel
theorem dX11_fewest_32 : decode cX11_fewest 32 = .ok (.aload_n 3, 1) := by decide +kernel
theorem dX11_fewest_33 : decode cX11_fewest 33 = .ok (.getfield 134, 3) := by decide +kernel
theorem dX11_fewest_36 : decode cX11_fewest 36 = .ok (.ishl, 1) := by decide +kernel
theorem dX11_fewest_37 : decode cX11_fewest 37 = .ok (.if_icmp .ge 42, 3) := by decide +kernel
theorem dX11_fewest_40 : decode cX11_fewest 40 = .ok (.iload 7, 2) := by decide +kernel
theorem dX11_fewest_42 : decode cX11_fewest 42 = .ok (.invokestatic 397, 3) := by decide +kernel
theorem dX11_fewest_45 : decode cX11_fewest 45 = .ok (.istore 8, 2) := by decide +kernel
theorem dX11_fewest_47 : decode cX11_fewest 47 = .ok (.iload 8, 2) := by decide +kernel
theorem dX11_fewest_49 : decode cX11_fewest 49 = .ok (.iload 6, 2) := by decide +kernel
theorem dX11_fewest_51 : decode cX11_fewest 51 = .ok (.if_icmp .ge 22, 3) := by decide +kernel
theorem dX11_fewest_54 : decode cX11_fewest 54 = .ok (.aload_n 0, 1) := by decide +kernel
theorem dX11_fewest_55 : decode cX11_fewest 55 = .ok (.iload 7, 2) := by decide +kernel
theorem dX11_fewest_57 : decode cX11_fewest 57 = .ok (.iload 4, 2) := by decide +kernel
theorem dX11_fewest_59 : decode cX11_fewest 59 = .ok (.invokevirtual 402, 3) := by decide +kernel
theorem dX11_fewest_62 : decode cX11_fewest 62 = .ok (.ifCond .eq 11, 3) := by decide +kernel
theorem dX11_fewest_65 : decode cX11_fewest 65 = .ok (.iload 8, 2) := by decide +kernel
theorem dX11_fewest_67 : decode cX11_fewest 67 = .ok (.istore 6, 2) := by decide +kernel
theorem dX11_fewest_69 : decode cX11_fewest 69 = .ok (.iload 7, 2) := by decide +kernel
theorem dX11_fewest_71 : decode cX11_fewest 71 = .ok (.istore 5, 2) := by decide +kernel
theorem dX11_fewest_73 : decode cX11_fewest 73 = .ok (.iinc 7 1, 3) := by decide +kernel
theorem dX11_fewest_76 : decode cX11_fewest 76 = .ok (.goto (-47), 3) := by decide +kernel
theorem dX11_fewest_79 : decode cX11_fewest 79 = .ok (.iload_n 2, 1) := by decide +kernel
theorem dX11_fewest_80 : decode cX11_fewest 80 = .ok (.ifCond .ne 9, 3) := by decide +kernel
theorem dX11_fewest_83 : decode cX11_fewest 83 = .ok (.iload 5, 2) := by decide +kernel
theorem dX11_fewest_85 : decode cX11_fewest 85 = .ok (.iconst (-1), 1) := by decide +kernel
theorem dX11_fewest_86 : decode cX11_fewest 86 = .ok (.if_icmp .ne 8, 3) := by decide +kernel
theorem dX11_fewest_89 : decode cX11_fewest 89 = .ok (.iload 5, 2) := by decide +kernel
theorem dX11_fewest_91 : decode cX11_fewest 91 = .ok (.goto 5, 3) := by decide +kernel
theorem dX11_fewest_94 : decode cX11_fewest 94 = .ok (.iload 6, 2) := by decide +kernel
theorem dX11_fewest_96 : decode cX11_fewest 96 = .ok (.ireturn, 1) := by decide +kernel
set_option maxRecDepth 100000 in
theorem tb_X11_fewest_29 {g : GT} {n nf : Int} (hu : Up true nf n) (a2 : Int) (w29 : Mem → Int → Int → Int → Int → Int → Res) (hw29 : ∀ (M : Mem) (x3 x4 x5 x6 x7 : Int), AW g true RX11 cX11_fewest 9 (some .int) (6) n n nf 29 [(0, 2, 1), (2, 0, a2), (3, 2, x3), (4, 0, x4), (5, 0, x5), (6, 0, x6), (7, 0, x7)] [] n M (w29 M x3 x4 x5 x6 x7)) (M : Mem) (x3 x4 x5 x6 x7 : Int) : AW g true RX11 cX11_fewest 9 (some .int) (6) n n nf 29 [(0, 2, 1), (2, 0, a2), (3, 2, x3), (4, 0, x4), (5, 0, x5), (6, 0, x6), (7, 0, x7)] [] n M (b_X11_fewest_29 a2 w29 M x3 x4 x5 x6 x7) := by
  unfold b_X11_fewest_29
  refine r_iload 6 dX11_fewest_29 rfl ?_
  refine r_iconst dX11_fewest_31 ⟨by decide, by decide⟩ ?_
  refine r_aload_n 2 dX11_fewest_32 rfl rfl ?_
  refine r_ok (fun h8 => ?_)
  refine r_gf (t := 0) (kz := 3) rfl hu dX11_fewest_33 kF_X11_134 h8 rfl rfl rfl ?_
  refine r_ishl dX11_fewest_36 ?_
  refine r_icmp_ge (tgt := 79) dX11_fewest_37 rfl (fun h9 => ?_) (fun h10 => ?_)
  · refine r_iload_n 1 dX11_fewest_79 rfl rfl ?_
    refine r_if_ne (tgt := 89) dX11_fewest_80 rfl (fun h11 => ?_) (fun h12 => ?_)
    · refine r_iload 4 dX11_fewest_83 rfl ?_
      refine r_iconst dX11_fewest_85 ⟨by decide, by decide⟩ ?_
      refine r_icmp_ne (tgt := 94) dX11_fewest_86 rfl (fun h13 => ?_) (fun h14 => ?_)
      · refine r_iload 4 dX11_fewest_89 rfl ?_
        refine r_goto (tgt := 96) dX11_fewest_91 rfl ?_
        exact r_iret rfl rfl (Or.inl rfl) dX11_fewest_96
      · refine r_iload 5 dX11_fewest_94 rfl ?_
        exact r_iret rfl rfl (Or.inl rfl) dX11_fewest_96
    · refine r_iload 4 dX11_fewest_89 rfl ?_
      refine r_goto (tgt := 96) dX11_fewest_91 rfl ?_
      exact r_iret rfl rfl (Or.inl rfl) dX11_fewest_96
  · refine r_iload 6 dX11_fewest_40 rfl ?_
    refine r_ins (a := 0) ⟨Nat.le_refl _, Nat.le_refl _⟩ dX11_fewest_42 kM_X11_397 (by decide) (by decide) [(0, x7)] rfl (sk := []) rfl (Nat.le_of_ble_eq_true rfl) rfl rfl (m_J6_bitCount_0f7a4 hu M x7) (fun r15 M16 => ?_)
    refine r_istore dX11_fewest_45 (by decide) (ls' := [(8, 0, r15), (0, 2, 1), (2, 0, a2), (3, 2, x3), (4, 0, x4), (5, 0, x5), (6, 0, x6), (7, 0, x7)]) rfl ?_
    refine r_iload 0 dX11_fewest_47 rfl ?_
    refine r_iload 6 dX11_fewest_49 rfl ?_
    refine r_icmp_ge (tgt := 73) dX11_fewest_51 rfl (fun h17 => ?_) (fun h18 => ?_)
    · refine r_ok (fun h19 => ?_)
      refine r_iincB 7 dX11_fewest_73 rfl h19 (by decide) (lf := fun y20 => [(7, 0, y20), (8, 0, r15), (0, 2, 1), (2, 0, a2), (3, 2, x3), (4, 0, x4), (5, 0, x5), (6, 0, x6)]) (fun _ => rfl) (fun y20 ey20 => ?_)
      refine r_goto (tgt := 29) dX11_fewest_76 rfl ?_
      refine r_sub [2, 3, 4, 5, 6, 7, 0] (ls' := [(0, 2, 1), (2, 0, a2), (3, 2, x3), (4, 0, x4), (5, 0, x5), (6, 0, x6), (7, 0, y20)]) rfl ?_
      exact hw29 M16 x3 x4 x5 x6 y20
    · refine r_aload_n 1 dX11_fewest_54 rfl rfl ?_
      refine r_iload 7 dX11_fewest_55 rfl ?_
      refine r_iload 4 dX11_fewest_57 rfl ?_
      refine r_inv (a := 1) hu ⟨Nat.le_refl _, Nat.le_refl _⟩ dX11_fewest_59 kM_X11_402 (ci := 11) rfl kd_1 rfl rfl (by decide) (by decide) [(0, x7), (0, x4)] rfl (sk := []) rfl (Nat.le_of_ble_eq_true rfl) rfl rfl (m_X11_explains hu M16 x7 x4) (fun r21 M22 => ?_)
      refine r_if_eq (tgt := 73) dX11_fewest_62 rfl (fun h23 => ?_) (fun h24 => ?_)
      · refine r_ok (fun h25 => ?_)
        refine r_iincB 7 dX11_fewest_73 rfl h25 (by decide) (lf := fun y26 => [(7, 0, y26), (8, 0, r15), (0, 2, 1), (2, 0, a2), (3, 2, x3), (4, 0, x4), (5, 0, x5), (6, 0, x6)]) (fun _ => rfl) (fun y26 ey26 => ?_)
        refine r_goto (tgt := 29) dX11_fewest_76 rfl ?_
        refine r_sub [2, 3, 4, 5, 6, 7, 0] (ls' := [(0, 2, 1), (2, 0, a2), (3, 2, x3), (4, 0, x4), (5, 0, x5), (6, 0, x6), (7, 0, y26)]) rfl ?_
        exact hw29 M22 x3 x4 x5 x6 y26
      · refine r_iload 0 dX11_fewest_65 rfl ?_
        refine r_istore dX11_fewest_67 (by decide) (ls' := [(6, 0, r15), (8, 0, r15), (0, 2, 1), (2, 0, a2), (3, 2, x3), (4, 0, x4), (5, 0, x5), (7, 0, x7)]) rfl ?_
        refine r_iload 7 dX11_fewest_69 rfl ?_
        refine r_istore dX11_fewest_71 (by decide) (ls' := [(5, 0, x7), (6, 0, r15), (8, 0, r15), (0, 2, 1), (2, 0, a2), (3, 2, x3), (4, 0, x4), (7, 0, x7)]) rfl ?_
        refine r_ok (fun h27 => ?_)
        refine r_iincB 7 dX11_fewest_73 rfl h27 (by decide) (lf := fun y28 => [(7, 0, y28), (5, 0, x7), (6, 0, r15), (8, 0, r15), (0, 2, 1), (2, 0, a2), (3, 2, x3), (4, 0, x4)]) (fun _ => rfl) (fun y28 ey28 => ?_)
        refine r_goto (tgt := 29) dX11_fewest_76 rfl ?_
        refine r_sub [4, 5, 6, 7, 1, 2, 0] (ls' := [(0, 2, 1), (2, 0, a2), (3, 2, x3), (4, 0, x4), (5, 0, x7), (6, 0, r15), (7, 0, y28)]) rfl ?_
        exact hw29 M22 x3 x4 x7 r15 y28
set_option maxRecDepth 100000 in
theorem m_X11_fewest {g : GT} {n nf : Int} (hu : Up true nf n) (M : Mem) (a1 a2 : Int) : AM g true yX11_fewest cX11_fewest 9 (some .int) (6) n n nf [(2, 1), (0, a1), (0, a2)] M (f_X11_fewest M a1 a2) := by
  refine AM_of (by decide +kernel) (Nat.le_of_ble_eq_true rfl) (fun h => absurd h (Int.lt_irrefl n)) ?_
  show AW g true RX11 cX11_fewest 9 (some .int) (6) n n nf 0 [(0, 2, 1), (1, 0, a1), (2, 0, a2)] [] n M (f_X11_fewest M a1 a2)
  unfold f_X11_fewest
  refine r_aload_n 0 dX11_fewest_0 rfl rfl ?_
  refine r_iload_n 1 dX11_fewest_1 rfl rfl ?_
  refine r_inv (a := 1) hu ⟨Nat.le_refl _, Nat.le_refl _⟩ dX11_fewest_2 kM_X11_153 (ci := 11) rfl kd_1 rfl rfl (by decide) (by decide) [(0, a1)] rfl (sk := []) rfl (Nat.le_of_ble_eq_true rfl) rfl rfl (m_X11_lawAt hu M a1) (fun r1 M2 => ?_)
  refine r_astore_n dX11_fewest_5 rfl (by decide) (ls' := [(3, 2, r1), (0, 2, 1), (1, 0, a1), (2, 0, a2)]) rfl ?_
  refine r_aload_n 0 dX11_fewest_6 rfl rfl ?_
  refine r_ifnonnull (tgt := 12) dX11_fewest_7 rfl (fun h3 => ?_) (fun h4 => ?_)
  · refine r_iconst dX11_fewest_10 ⟨by decide, by decide⟩ ?_
    exact r_iret rfl rfl (Or.inl rfl) dX11_fewest_11
  · refine r_aload_n 1 dX11_fewest_12 rfl rfl ?_
    refine r_aload_n 0 dX11_fewest_13 rfl rfl ?_
    refine r_ok (fun h5 => ?_)
    refine r_inv (a := 1) hu ⟨Nat.le_refl _, Nat.le_refl _⟩ dX11_fewest_14 kM_X11_393 (ci := 11) rfl kd_1 rfl rfl (by decide) (by decide) [(2, r1)] rfl (sk := []) rfl (Nat.le_of_ble_eq_true rfl) rfl rfl (m_X11_listHelpers hu M2 r1 h5) (fun r6 M7 => ?_)
    refine r_istore dX11_fewest_17 (by decide) (ls' := [(4, 0, r6), (3, 2, r1), (0, 2, 1), (1, 0, a1), (2, 0, a2)]) rfl ?_
    refine r_iconst dX11_fewest_19 ⟨by decide, by decide⟩ ?_
    refine r_istore dX11_fewest_20 (by decide) (ls' := [(5, 0, (-1)), (4, 0, r6), (3, 2, r1), (0, 2, 1), (1, 0, a1), (2, 0, a2)]) rfl ?_
    refine r_bipush dX11_fewest_22 (by decide) ⟨by decide, by decide⟩ ?_
    refine r_istore dX11_fewest_24 (by decide) (ls' := [(6, 0, 6), (5, 0, (-1)), (4, 0, r6), (3, 2, r1), (0, 2, 1), (1, 0, a1), (2, 0, a2)]) rfl ?_
    refine r_iconst dX11_fewest_26 ⟨by decide, by decide⟩ ?_
    refine r_istore dX11_fewest_27 (by decide) (ls' := [(7, 0, 0), (6, 0, 6), (5, 0, (-1)), (4, 0, r6), (3, 2, r1), (0, 2, 1), (1, 0, a1), (2, 0, a2)]) rfl ?_
    refine r_sub [5, 7, 4, 3, 2, 1, 0] (ls' := [(0, 2, 1), (2, 0, a2), (3, 2, r1), (4, 0, r6), (5, 0, (-1)), (6, 0, 6), (7, 0, 0)]) rfl ?_
    exact wl5_aw (P := fun M x3 x4 x5 x6 x7 o => AW g true RX11 cX11_fewest 9 (some .int) (6) n n nf 29 [(0, 2, 1), (2, 0, a2), (3, 2, x3), (4, 0, x4), (5, 0, x5), (6, 0, x6), (7, 0, x7)] [] n M (o)) (fun M x3 x4 x5 x6 x7 => aw_none) (fun w hw M x3 x4 x5 x6 x7 => tb_X11_fewest_29 hu a2 w hw M x3 x4 x5 x6 x7) FU M7 r1 r6 (-1) 6 0
theorem dX11_partedBy_0 : decode cX11_partedBy 0 = .ok (.aload_n 1, 1) := by decide +kernel
theorem dX11_partedBy_1 : decode cX11_partedBy 1 = .ok (.aload_n 0, 1) := by decide +kernel
theorem dX11_partedBy_2 : decode cX11_partedBy 2 = .ok (.getfield 28, 3) := by decide +kernel
theorem dX11_partedBy_5 : decode cX11_partedBy 5 = .ok (.iconst 0, 1) := by decide +kernel
theorem dX11_partedBy_6 : decode cX11_partedBy 6 = .ok (.invokevirtual 231, 3) := by decide +kernel
theorem dX11_partedBy_9 : decode cX11_partedBy 9 = .ok (.aload_n 2, 1) := by decide +kernel
theorem dX11_partedBy_10 : decode cX11_partedBy 10 = .ok (.aload_n 0, 1) := by decide +kernel
theorem dX11_partedBy_11 : decode cX11_partedBy 11 = .ok (.getfield 28, 3) := by decide +kernel
theorem dX11_partedBy_14 : decode cX11_partedBy 14 = .ok (.iconst 0, 1) := by decide +kernel
theorem dX11_partedBy_15 : decode cX11_partedBy 15 = .ok (.invokevirtual 231, 3) := by decide +kernel
theorem dX11_partedBy_18 : decode cX11_partedBy 18 = .ok (.isub, 1) := by decide +kernel
theorem dX11_partedBy_19 : decode cX11_partedBy 19 = .ok (.invokestatic 286, 3) := by decide +kernel
theorem dX11_partedBy_22 : decode cX11_partedBy 22 = .ok (.istore 4, 2) := by decide +kernel
theorem dX11_partedBy_24 : decode cX11_partedBy 24 = .ok (.iload 4, 2) := by decide +kernel
theorem dX11_partedBy_26 : decode cX11_partedBy 26 = .ok (.iload_n 3, 1) := by decide +kernel
theorem dX11_partedBy_27 : decode cX11_partedBy 27 = .ok (.iconst 1, 1) := by decide +kernel
theorem dX11_partedBy_28 : decode cX11_partedBy 28 = .ok (.isub, 1) := by decide +kernel
theorem dX11_partedBy_29 : decode cX11_partedBy 29 = .ok (.imul, 1) := by decide +kernel
theorem dX11_partedBy_30 : decode cX11_partedBy 30 = .ok (.sipush 10000, 3) := by decide +kernel
theorem dX11_partedBy_33 : decode cX11_partedBy 33 = .ok (.imul, 1) := by decide +kernel
theorem dX11_partedBy_34 : decode cX11_partedBy 34 = .ok (.iload_n 3, 1) := by decide +kernel
theorem dX11_partedBy_35 : decode cX11_partedBy 35 = .ok (.idiv, 1) := by decide +kernel
theorem dX11_partedBy_36 : decode cX11_partedBy 36 = .ok (.ireturn, 1) := by decide +kernel
set_option maxRecDepth 100000 in
theorem m_X11_partedBy {g : GT} {n nf : Int} (hu : Up true nf n) (M : Mem) (a1 a2 a3 : Int) (hk1 : kd a1 = 17) (hk2 : kd a2 = 17) : AM g true yX11_partedBy cX11_partedBy 5 (some .int) (5) n n nf [(2, 1), (2, a1), (2, a2), (0, a3)] M (f_X11_partedBy M a1 a2 a3) := by
  refine AM_of (by decide +kernel) (Nat.le_of_ble_eq_true rfl) (fun h => absurd h (Int.lt_irrefl n)) ?_
  show AW g true RX11 cX11_partedBy 5 (some .int) (5) n n nf 0 [(0, 2, 1), (1, 2, a1), (2, 2, a2), (3, 0, a3)] [] n M (f_X11_partedBy M a1 a2 a3)
  unfold f_X11_partedBy
  refine r_aload_n 1 dX11_partedBy_0 rfl rfl ?_
  refine r_aload_n 0 dX11_partedBy_1 rfl rfl ?_
  refine r_gx (kz := 2) rfl hu dX11_partedBy_2 kF_X11_28 kd_1 rfl rfl rfl fx_1_2 ?_
  refine r_iconst dX11_partedBy_5 ⟨by decide, by decide⟩ ?_
  refine r_inv (a := a1) hu ⟨Nat.le_refl _, Nat.le_refl _⟩ dX11_partedBy_6 kM_X11_231 (ci := 7) rfl hk1 rfl rfl (by decide) (by decide) [(2, 10), (0, 0)] rfl (sk := []) rfl (Nat.le_of_ble_eq_true rfl) rfl rfl (m_X7_carriedMost hu M a1 0 hk1) (fun r1 M2 => ?_)
  refine r_aload_n 2 dX11_partedBy_9 rfl rfl ?_
  refine r_aload_n 0 dX11_partedBy_10 rfl rfl ?_
  refine r_gx (kz := 2) rfl hu dX11_partedBy_11 kF_X11_28 kd_1 rfl rfl rfl fx_1_2 ?_
  refine r_iconst dX11_partedBy_14 ⟨by decide, by decide⟩ ?_
  refine r_inv (a := a2) hu ⟨Nat.le_refl _, Nat.le_refl _⟩ dX11_partedBy_15 kM_X11_231 (ci := 7) rfl hk2 rfl rfl (by decide) (by decide) [(2, 10), (0, 0)] rfl (sk := [(0, r1)]) rfl (Nat.le_of_ble_eq_true rfl) rfl rfl (m_X7_carriedMost hu M2 a2 0 hk2) (fun r3 M4 => ?_)
  refine r_ok (fun h5 => ?_)
  refine r_isub dX11_partedBy_18 h5 ?_
  refine r_ins (a := 0) ⟨Nat.le_refl _, Nat.le_refl _⟩ dX11_partedBy_19 kM_X11_286 (by decide) (by decide) [(0, r1 - r3)] rfl (sk := []) rfl (Nat.le_of_ble_eq_true rfl) rfl rfl (m_J9_abs_0f7a4 hu M4 (r1 - r3)) (fun r6 M7 => ?_)
  refine r_istore dX11_partedBy_22 (by decide) (ls' := [(4, 0, r6), (0, 2, 1), (1, 2, a1), (2, 2, a2), (3, 0, a3)]) rfl ?_
  refine r_iload 0 dX11_partedBy_24 rfl ?_
  refine r_iload_n 4 dX11_partedBy_26 rfl rfl ?_
  refine r_iconst dX11_partedBy_27 ⟨by decide, by decide⟩ ?_
  refine r_ok (fun h8 => ?_)
  refine r_isub dX11_partedBy_28 h8 ?_
  refine r_ok (fun h9 => ?_)
  refine r_imul dX11_partedBy_29 h9 ?_
  refine r_sipush dX11_partedBy_30 (by decide) ⟨by decide, by decide⟩ ?_
  refine r_ok (fun h10 => ?_)
  refine r_imul dX11_partedBy_33 h10 ?_
  refine r_iload_n 4 dX11_partedBy_34 rfl rfl ?_
  refine r_ok (fun h11 => ?_)
  refine r_idivP dX11_partedBy_35 h11 ?_
  exact r_iret rfl rfl (Or.inl rfl) dX11_partedBy_36
theorem dX11_parted_0 : decode cX11_parted 0 = .ok (.aload_n 0, 1) := by decide +kernel
theorem dX11_parted_1 : decode cX11_parted 1 = .ok (.iload_n 1, 1) := by decide +kernel
theorem dX11_parted_2 : decode cX11_parted 2 = .ok (.invokevirtual 153, 3) := by decide +kernel
theorem dX11_parted_5 : decode cX11_parted 5 = .ok (.astore 7, 2) := by decide +kernel
theorem dX11_parted_7 : decode cX11_parted 7 = .ok (.aload_n 0, 1) := by decide +kernel
theorem dX11_parted_8 : decode cX11_parted 8 = .ok (.iload_n 2, 1) := by decide +kernel
theorem dX11_parted_9 : decode cX11_parted 9 = .ok (.invokevirtual 153, 3) := by decide +kernel
theorem dX11_parted_12 : decode cX11_parted 12 = .ok (.astore 8, 2) := by decide +kernel
theorem dX11_parted_14 : decode cX11_parted 14 = .ok (.aload 7, 2) := by decide +kernel
theorem dX11_parted_16 : decode cX11_parted 16 = .ok (.ifnull 22, 3) := by decide +kernel
theorem dX11_parted_19 : decode cX11_parted 19 = .ok (.aload 8, 2) := by decide +kernel
theorem dX11_parted_21 : decode cX11_parted 21 = .ok (.ifnull 17, 3) := by decide +kernel
theorem dX11_parted_24 : decode cX11_parted 24 = .ok (.aload_n 0, 1) := by decide +kernel
theorem dX11_parted_25 : decode cX11_parted 25 = .ok (.iload_n 3, 1) := by decide +kernel
theorem dX11_parted_26 : decode cX11_parted 26 = .ok (.iload 4, 2) := by decide +kernel
theorem dX11_parted_28 : decode cX11_parted 28 = .ok (.iload 5, 2) := by decide +kernel
theorem dX11_parted_30 : decode cX11_parted 30 = .ok (.iload 6, 2) := by decide +kernel
theorem dX11_parted_32 : decode cX11_parted 32 = .ok (.invokevirtual 227, 3) := by decide +kernel
theorem dX11_parted_35 : decode cX11_parted 35 = .ok (.ifCond .ne 5, 3) := by decide +kernel
theorem dX11_parted_38 : decode cX11_parted 38 = .ok (.iconst (-1), 1) := by decide +kernel
theorem dX11_parted_39 : decode cX11_parted 39 = .ok (.ireturn, 1) := by decide +kernel
theorem dX11_parted_40 : decode cX11_parted 40 = .ok (.aload_n 0, 1) := by decide +kernel
theorem dX11_parted_41 : decode cX11_parted 41 = .ok (.aload 7, 2) := by decide +kernel
theorem dX11_parted_43 : decode cX11_parted 43 = .ok (.aload 8, 2) := by decide +kernel
theorem dX11_parted_45 : decode cX11_parted 45 = .ok (.aload_n 0, 1) := by decide +kernel
theorem dX11_parted_46 : decode cX11_parted 46 = .ok (.iload_n 3, 1) := by decide +kernel
theorem dX11_parted_47 : decode cX11_parted 47 = .ok (.invokevirtual 254, 3) := by decide +kernel
theorem dX11_parted_50 : decode cX11_parted 50 = .ok (.invokevirtual 449, 3) := by decide +kernel
theorem dX11_parted_53 : decode cX11_parted 53 = .ok (.ireturn, 1) := by decide +kernel
set_option maxRecDepth 100000 in
theorem m_X11_parted {g : GT} {n nf : Int} (hu : Up true nf n) (M : Mem) (a1 a2 a3 a4 a5 a6 : Int) : AM g true yX11_parted cX11_parted 9 (some .int) (6) n n nf [(2, 1), (0, a1), (0, a2), (0, a3), (0, a4), (0, a5), (0, a6)] M (f_X11_parted M a1 a2 a3 a4 a5 a6) := by
  refine AM_of (by decide +kernel) (Nat.le_of_ble_eq_true rfl) (fun h => absurd h (Int.lt_irrefl n)) ?_
  show AW g true RX11 cX11_parted 9 (some .int) (6) n n nf 0 [(0, 2, 1), (1, 0, a1), (2, 0, a2), (3, 0, a3), (4, 0, a4), (5, 0, a5), (6, 0, a6)] [] n M (f_X11_parted M a1 a2 a3 a4 a5 a6)
  unfold f_X11_parted
  refine r_aload_n 0 dX11_parted_0 rfl rfl ?_
  refine r_iload_n 1 dX11_parted_1 rfl rfl ?_
  refine r_inv (a := 1) hu ⟨Nat.le_refl _, Nat.le_refl _⟩ dX11_parted_2 kM_X11_153 (ci := 11) rfl kd_1 rfl rfl (by decide) (by decide) [(0, a1)] rfl (sk := []) rfl (Nat.le_of_ble_eq_true rfl) rfl rfl (m_X11_lawAt hu M a1) (fun r1 M2 => ?_)
  refine r_astore dX11_parted_5 (by decide) (ls' := [(7, 2, r1), (0, 2, 1), (1, 0, a1), (2, 0, a2), (3, 0, a3), (4, 0, a4), (5, 0, a5), (6, 0, a6)]) rfl ?_
  refine r_aload_n 1 dX11_parted_7 rfl rfl ?_
  refine r_iload_n 3 dX11_parted_8 rfl rfl ?_
  refine r_inv (a := 1) hu ⟨Nat.le_refl _, Nat.le_refl _⟩ dX11_parted_9 kM_X11_153 (ci := 11) rfl kd_1 rfl rfl (by decide) (by decide) [(0, a2)] rfl (sk := []) rfl (Nat.le_of_ble_eq_true rfl) rfl rfl (m_X11_lawAt hu M2 a2) (fun r3 M4 => ?_)
  refine r_astore dX11_parted_12 (by decide) (ls' := [(8, 2, r3), (7, 2, r1), (0, 2, 1), (1, 0, a1), (2, 0, a2), (3, 0, a3), (4, 0, a4), (5, 0, a5), (6, 0, a6)]) rfl ?_
  refine r_aload 1 dX11_parted_14 rfl ?_
  refine r_ifnull (tgt := 38) dX11_parted_16 rfl (fun h5 => ?_) (fun h6 => ?_)
  · refine r_iconst dX11_parted_38 ⟨by decide, by decide⟩ ?_
    exact r_iret rfl rfl (Or.inl rfl) dX11_parted_39
  · refine r_aload 0 dX11_parted_19 rfl ?_
    refine r_ifnull (tgt := 38) dX11_parted_21 rfl (fun h7 => ?_) (fun h8 => ?_)
    · refine r_iconst dX11_parted_38 ⟨by decide, by decide⟩ ?_
      exact r_iret rfl rfl (Or.inl rfl) dX11_parted_39
    · refine r_aload_n 2 dX11_parted_24 rfl rfl ?_
      refine r_iload_n 5 dX11_parted_25 rfl rfl ?_
      refine r_iload 6 dX11_parted_26 rfl ?_
      refine r_iload 7 dX11_parted_28 rfl ?_
      refine r_iload 8 dX11_parted_30 rfl ?_
      refine r_inv (a := 1) hu ⟨Nat.le_refl _, Nat.le_refl _⟩ dX11_parted_32 kM_X11_227 (ci := 11) rfl kd_1 rfl rfl (by decide) (by decide) [(0, a3), (0, a4), (0, a5), (0, a6)] rfl (sk := []) rfl (Nat.le_of_ble_eq_true rfl) rfl rfl (m_X11_showsTold hu M4 a3 a4 a5 a6) (fun r9 M10 => ?_)
      refine r_if_ne (tgt := 40) dX11_parted_35 rfl (fun h11 => ?_) (fun h12 => ?_)
      · refine r_iconst dX11_parted_38 ⟨by decide, by decide⟩ ?_
        exact r_iret rfl rfl (Or.inl rfl) dX11_parted_39
      · refine r_aload_n 2 dX11_parted_40 rfl rfl ?_
        refine r_aload 1 dX11_parted_41 rfl ?_
        refine r_aload 0 dX11_parted_43 rfl ?_
        refine r_aload_n 2 dX11_parted_45 rfl rfl ?_
        refine r_iload_n 5 dX11_parted_46 rfl rfl ?_
        refine r_inv (a := 1) hu ⟨Nat.le_refl _, Nat.le_refl _⟩ dX11_parted_47 kM_X11_254 (ci := 11) rfl kd_1 rfl rfl (by decide) (by decide) [(0, a3)] rfl (sk := [(2, r3), (2, r1), (2, 1)]) rfl (Nat.le_of_ble_eq_true rfl) rfl rfl (m_X11_sortsOf hu M10 a3) (fun r13 M14 => ?_)
        refine r_ok (fun h15 => ?_)
        refine r_ok (fun h16 => ?_)
        refine r_inv (a := 1) hu ⟨Nat.le_refl _, Nat.le_refl _⟩ dX11_parted_50 kM_X11_449 (ci := 11) rfl kd_1 rfl rfl (by decide) (by decide) [(2, r1), (2, r3), (0, r13)] rfl (sk := []) rfl (Nat.le_of_ble_eq_true rfl) rfl rfl (m_X11_partedBy hu M14 r1 r3 r13 h15 h16) (fun r17 M18 => ?_)
        exact r_iret rfl rfl (Or.inl rfl) dX11_parted_53
theorem dX11_next_0 : decode cX11_next 0 = .ok (.aload_n 0, 1) := by decide +kernel
theorem dX11_next_1 : decode cX11_next 1 = .ok (.iload_n 1, 1) := by decide +kernel
theorem dX11_next_2 : decode cX11_next 2 = .ok (.invokevirtual 153, 3) := by decide +kernel
theorem dX11_next_5 : decode cX11_next 5 = .ok (.astore 5, 2) := by decide +kernel
theorem dX11_next_7 : decode cX11_next 7 = .ok (.aload_n 0, 1) := by decide +kernel
theorem dX11_next_8 : decode cX11_next 8 = .ok (.iload_n 2, 1) := by decide +kernel
theorem dX11_next_9 : decode cX11_next 9 = .ok (.invokevirtual 153, 3) := by decide +kernel
theorem dX11_next_12 : decode cX11_next 12 = .ok (.astore 6, 2) := by decide +kernel
theorem dX11_next_14 : decode cX11_next 14 = .ok (.iload 4, 2) := by decide +kernel
theorem dX11_next_16 : decode cX11_next 16 = .ok (.ifCond .lt 20, 3) := by decide +kernel
theorem dX11_next_19 : decode cX11_next 19 = .ok (.iload 4, 2) := by decide +kernel
theorem dX11_next_21 : decode cX11_next 21 = .ok (.iconst 3, 1) := by decide +kernel
theorem dX11_next_22 : decode cX11_next 22 = .ok (.if_icmp .gt 14, 3) := by decide +kernel
theorem dX11_next_25 : decode cX11_next 25 = .ok (.iload_n 3, 1) := by decide +kernel
theorem dX11_next_26 : decode cX11_next 26 = .ok (.invokestatic 221, 3) := by decide +kernel
theorem dX11_next_29 : decode cX11_next 29 = .ok (.ifCond .eq 7, 3) := by decide +kernel
theorem dX11_next_32 : decode cX11_next 32 = .ok (.iconst 1, 1) := by decide +kernel
theorem dX11_next_33 : decode cX11_next 33 = .ok (.goto 4, 3) := by decide +kernel
theorem dX11_next_36 : decode cX11_next 36 = .ok (.iconst 0, 1) := by decide +kernel
theorem dX11_next_37 : decode cX11_next 37 = .ok (.istore 7, 2) := by decide +kernel
theorem dX11_next_39 : decode cX11_next 39 = .ok (.iload 7, 2) := by decide +kernel
theorem dX11_next_41 : decode cX11_next 41 = .ok (.ifCond .eq 23, 3) := by decide +kernel
theorem dX11_next_44 : decode cX11_next 44 = .ok (.aload 5, 2) := by decide +kernel
theorem dX11_next_46 : decode cX11_next 46 = .ok (.ifnull 18, 3) := by decide +kernel
theorem dX11_next_49 : decode cX11_next 49 = .ok (.aload 6, 2) := by decide +kernel
theorem dX11_next_51 : decode cX11_next 51 = .ok (.ifnull 13, 3) := by decide +kernel
theorem dX11_next_54 : decode cX11_next 54 = .ok (.aload_n 0, 1) := by decide +kernel
theorem dX11_next_55 : decode cX11_next 55 = .ok (.getfield 67, 3) := by decide +kernel
theorem dX11_next_58 : decode cX11_next 58 = .ok (.getfield 134, 3) := by decide +kernel
theorem dX11_next_61 : decode cX11_next 61 = .ok (.ifCond .ne 5, 3) := by decide +kernel
theorem dX11_next_64 : decode cX11_next 64 = .ok (.iconst (-1), 1) := by decide +kernel
theorem dX11_next_65 : decode cX11_next 65 = .ok (.ireturn, 1) := by decide +kernel
theorem dX11_next_66 : decode cX11_next 66 = .ok (.iconst 0, 1) := by decide +kernel
theorem dX11_next_67 : decode cX11_next 67 = .ok (.istore 8, 2) := by decide +kernel
theorem dX11_next_69 : decode cX11_next 69 = .ok (.iconst (-1), 1) := by decide +kernel
theorem dX11_next_70 : decode cX11_next 70 = .ok (.istore 9, 2) := by decide +kernel
theorem dX11_next_72 : decode cX11_next 72 = .ok (.iconst 0, 1) := by decide +kernel
theorem dX11_next_73 : decode cX11_next 73 = .ok (.istore 10, 2) := by decide +kernel
theorem dX11_next_75 : decode cX11_next 75 = .ok (.iload 10, 2) := by decide +kernel
theorem dX11_next_77 : decode cX11_next 77 = .ok (.aload_n 0, 1) := by decide +kernel
theorem dX11_next_78 : decode cX11_next 78 = .ok (.getfield 67, 3) := by decide +kernel
theorem dX11_next_81 : decode cX11_next 81 = .ok (.getfield 134, 3) := by decide +kernel
theorem dX11_next_84 : decode cX11_next 84 = .ok (.bipush 96, 2) := by decide +kernel
theorem dX11_next_86 : decode cX11_next 86 = .ok (.imul, 1) := by decide +kernel
theorem dX11_next_87 : decode cX11_next 87 = .ok (.if_icmp .ge 59, 3) := by decide +kernel
theorem dX11_next_90 : decode cX11_next 90 = .ok (.iload 10, 2) := by decide +kernel
theorem dX11_next_92 : decode cX11_next 92 = .ok (.bipush 96, 2) := by decide +kernel
theorem dX11_next_94 : decode cX11_next 94 = .ok (.idiv, 1) := by decide +kernel
theorem dX11_next_95 : decode cX11_next 95 = .ok (.istore 11, 2) := by decide +kernel
theorem dX11_next_97 : decode cX11_next 97 = .ok (.aload_n 0, 1) := by decide +kernel
theorem dX11_next_98 : decode cX11_next 98 = .ok (.iload 11, 2) := by decide +kernel
theorem dX11_next_100 : decode cX11_next 100 = .ok (.iload 10, 2) := by decide +kernel
theorem dX11_next_102 : decode cX11_next 102 = .ok (.bipush 96, 2) := by decide +kernel
theorem dX11_next_104 : decode cX11_next 104 = .ok (.irem, 1) := by decide +kernel
theorem dX11_next_105 : decode cX11_next 105 = .ok (.iload_n 3, 1) := by decide +kernel
theorem dX11_next_106 : decode cX11_next 106 = .ok (.invokevirtual 251, 3) := by decide +kernel
theorem dX11_next_109 : decode cX11_next 109 = .ok (.aload_n 0, 1) := by decide +kernel
theorem dX11_next_110 : decode cX11_next 110 = .ok (.aload 5, 2) := by decide +kernel
theorem dX11_next_112 : decode cX11_next 112 = .ok (.aload 6, 2) := by decide +kernel
theorem dX11_next_114 : decode cX11_next 114 = .ok (.aload_n 0, 1) := by decide +kernel
theorem dX11_next_115 : decode cX11_next 115 = .ok (.iload 11, 2) := by decide +kernel
theorem dX11_next_117 : decode cX11_next 117 = .ok (.invokevirtual 254, 3) := by decide +kernel
theorem dX11_next_120 : decode cX11_next 120 = .ok (.invokevirtual 449, 3) := by decide +kernel
theorem dX11_next_123 : decode cX11_next 123 = .ok (.istore 12, 2) := by decide +kernel
theorem dX11_next_125 : decode cX11_next 125 = .ok (.iload 12, 2) := by decide +kernel
theorem dX11_next_127 : decode cX11_next 127 = .ok (.iload 9, 2) := by decide +kernel
theorem dX11_next_129 : decode cX11_next 129 = .ok (.if_icmp .le 11, 3) := by decide +kernel
theorem dX11_next_132 : decode cX11_next 132 = .ok (.iload 12, 2) := by decide +kernel
theorem dX11_next_134 : decode cX11_next 134 = .ok (.istore 9, 2) := by decide +kernel
theorem dX11_next_136 : decode cX11_next 136 = .ok (.iload 10, 2) := by decide +kernel
theorem dX11_next_138 : decode cX11_next 138 = .ok (.istore 8, 2) := by decide +kernel
theorem dX11_next_140 : decode cX11_next 140 = .ok (.iinc 10 1, 3) := by decide +kernel
theorem dX11_next_143 : decode cX11_next 143 = .ok (.goto (-68), 3) := by decide +kernel
theorem dX11_next_146 : decode cX11_next 146 = .ok (.iload 4, 2) := by decide +kernel
theorem dX11_next_148 : decode cX11_next 148 = .ok (.tableswitch 49 0 2 #[28, 34, 40], 28) := by decide +kernel
theorem dX11_next_176 : decode cX11_next 176 = .ok (.iload 8, 2) := by decide +kernel
theorem dX11_next_178 : decode cX11_next 178 = .ok (.bipush 96, 2) := by decide +kernel
theorem dX11_next_180 : decode cX11_next 180 = .ok (.idiv, 1) := by decide +kernel
theorem dX11_next_181 : decode cX11_next 181 = .ok (.ireturn, 1) := by decide +kernel
theorem dX11_next_182 : decode cX11_next 182 = .ok (.iload 8, 2) := by decide +kernel
theorem dX11_next_184 : decode cX11_next 184 = .ok (.bipush 12, 2) := by decide +kernel
theorem dX11_next_186 : decode cX11_next 186 = .ok (.irem, 1) := by decide +kernel
theorem dX11_next_187 : decode cX11_next 187 = .ok (.ireturn, 1) := by decide +kernel
theorem dX11_next_188 : decode cX11_next 188 = .ok (.iload 8, 2) := by decide +kernel
theorem dX11_next_190 : decode cX11_next 190 = .ok (.bipush 96, 2) := by decide +kernel
theorem dX11_next_192 : decode cX11_next 192 = .ok (.irem, 1) := by decide +kernel
theorem dX11_next_193 : decode cX11_next 193 = .ok (.bipush 12, 2) := by decide +kernel
theorem dX11_next_195 : decode cX11_next 195 = .ok (.idiv, 1) := by decide +kernel
theorem dX11_next_196 : decode cX11_next 196 = .ok (.ireturn, 1) := by decide +kernel
theorem dX11_next_197 : decode cX11_next 197 = .ok (.iload 9, 2) := by decide +kernel
theorem dX11_next_199 : decode cX11_next 199 = .ok (.ireturn, 1) := by decide +kernel
set_option maxRecDepth 100000 in
theorem tb_X11_next_75 {g : GT} {n nf : Int} (hu : Up true nf n) (a3 a4 : Int) (w75 : Mem → Int → Int → Int → Int → Int → Res) (hw75 : ∀ (M : Mem) (x5 x6 x8 x9 x10 : Int), AW g true RX11 cX11_next 13 (some .int) (6) n n nf 75 [(0, 2, 1), (3, 0, a3), (4, 0, a4), (5, 2, x5), (6, 2, x6), (8, 0, x8), (9, 0, x9), (10, 0, x10)] [] n M (w75 M x5 x6 x8 x9 x10)) (M : Mem) (x5 x6 x8 x9 x10 : Int) : AW g true RX11 cX11_next 13 (some .int) (6) n n nf 75 [(0, 2, 1), (3, 0, a3), (4, 0, a4), (5, 2, x5), (6, 2, x6), (8, 0, x8), (9, 0, x9), (10, 0, x10)] [] n M (b_X11_next_75 a3 a4 w75 M x5 x6 x8 x9 x10) := by
  unfold b_X11_next_75
  refine r_iload 7 dX11_next_75 rfl ?_
  refine r_aload_n 0 dX11_next_77 rfl rfl ?_
  refine r_gf (t := 2) (kz := 8) rfl hu dX11_next_78 kF_X11_67 kd_1 rfl rfl rfl ?_
  refine r_ok (fun h16 => ?_)
  refine r_gf (t := 0) (kz := 3) rfl hu dX11_next_81 kF_X11_134 h16 rfl rfl rfl ?_
  refine r_bipush dX11_next_84 (by decide) ⟨by decide, by decide⟩ ?_
  refine r_ok (fun h17 => ?_)
  refine r_imul dX11_next_86 h17 ?_
  refine r_icmp_ge (tgt := 146) dX11_next_87 rfl (fun h18 => ?_) (fun h19 => ?_)
  · refine r_iload 2 dX11_next_146 rfl ?_
    refine r_tsw (tgt := 176) 0 dX11_next_148 ⟨by decide, by decide⟩ rfl rfl (fun h20 => ?_) (fun h21 => ?_)
    · refine r_iload 5 dX11_next_176 rfl ?_
      refine r_bipush dX11_next_178 (by decide) ⟨by decide, by decide⟩ ?_
      refine r_ok (fun h22 => ?_)
      refine r_idivP dX11_next_180 ⟨h22, by decide⟩ ?_
      exact r_iret rfl rfl (Or.inl rfl) dX11_next_181
    · refine r_tsw (tgt := 182) 1 dX11_next_148 ⟨by decide, by decide⟩ rfl rfl (fun h23 => ?_) (fun h24 => ?_)
      · refine r_iload 5 dX11_next_182 rfl ?_
        refine r_bipush dX11_next_184 (by decide) ⟨by decide, by decide⟩ ?_
        refine r_ok (fun h25 => ?_)
        refine r_iremP dX11_next_186 ⟨h25, by decide⟩ ?_
        exact r_iret rfl rfl (Or.inl rfl) dX11_next_187
      · refine r_tsw (tgt := 188) 2 dX11_next_148 ⟨by decide, by decide⟩ rfl rfl (fun h26 => ?_) (fun h27 => ?_)
        · refine r_iload 5 dX11_next_188 rfl ?_
          refine r_bipush dX11_next_190 (by decide) ⟨by decide, by decide⟩ ?_
          refine r_ok (fun h28 => ?_)
          refine r_iremP dX11_next_192 ⟨h28, by decide⟩ ?_
          refine r_bipush dX11_next_193 (by decide) ⟨by decide, by decide⟩ ?_
          refine r_ok (fun h29 => ?_)
          refine r_idivP dX11_next_195 ⟨h29, by decide⟩ ?_
          exact r_iret rfl rfl (Or.inl rfl) dX11_next_196
        · refine r_tswd (tgt := 197) dX11_next_148 (by omega) rfl ?_
          refine r_iload 6 dX11_next_197 rfl ?_
          exact r_iret rfl rfl (Or.inl rfl) dX11_next_199
  · refine r_iload 7 dX11_next_90 rfl ?_
    refine r_bipush dX11_next_92 (by decide) ⟨by decide, by decide⟩ ?_
    refine r_ok (fun h30 => ?_)
    refine r_idivP dX11_next_94 ⟨h30, by decide⟩ ?_
    refine r_istoreB dX11_next_95 (by decide) (lf := fun y31 => [(11, 0, y31), (0, 2, 1), (3, 0, a3), (4, 0, a4), (5, 2, x5), (6, 2, x6), (8, 0, x8), (9, 0, x9), (10, 0, x10)]) (fun _ => rfl) (fun y31 ey31 => ?_)
    refine r_aload_n 1 dX11_next_97 rfl rfl ?_
    refine r_iload 0 dX11_next_98 rfl ?_
    refine r_iload 8 dX11_next_100 rfl ?_
    refine r_bipush dX11_next_102 (by decide) ⟨by decide, by decide⟩ ?_
    refine r_iremP dX11_next_104 ⟨h30, by decide⟩ ?_
    refine r_iload_n 2 dX11_next_105 rfl rfl ?_
    refine r_invv (a := 1) hu ⟨Nat.le_refl _, Nat.le_refl _⟩ dX11_next_106 kM_X11_251 (ci := 11) rfl kd_1 rfl rfl (by decide) (by decide) [(0, y31), (0, x10 % 96), (0, a3)] rfl (sk := []) rfl (Nat.le_of_ble_eq_true rfl) rfl (m_X11_putShowing hu M y31 (x10 % 96) a3) (fun r32 M33 => ?_)
    refine r_aload_n 1 dX11_next_109 rfl rfl ?_
    refine r_aload 4 dX11_next_110 rfl ?_
    refine r_aload 5 dX11_next_112 rfl ?_
    refine r_aload_n 1 dX11_next_114 rfl rfl ?_
    refine r_iload 0 dX11_next_115 rfl ?_
    refine r_inv (a := 1) hu ⟨Nat.le_refl _, Nat.le_refl _⟩ dX11_next_117 kM_X11_254 (ci := 11) rfl kd_1 rfl rfl (by decide) (by decide) [(0, y31)] rfl (sk := [(2, x6), (2, x5), (2, 1)]) rfl (Nat.le_of_ble_eq_true rfl) rfl rfl (m_X11_sortsOf hu M33 y31) (fun r34 M35 => ?_)
    refine r_ok (fun h36 => ?_)
    refine r_ok (fun h37 => ?_)
    refine r_inv (a := 1) hu ⟨Nat.le_refl _, Nat.le_refl _⟩ dX11_next_120 kM_X11_449 (ci := 11) rfl kd_1 rfl rfl (by decide) (by decide) [(2, x5), (2, x6), (0, r34)] rfl (sk := []) rfl (Nat.le_of_ble_eq_true rfl) rfl rfl (m_X11_partedBy hu M35 x5 x6 r34 h36 h37) (fun r38 M39 => ?_)
    refine r_istore dX11_next_123 (by decide) (ls' := [(12, 0, r38), (11, 0, y31), (0, 2, 1), (3, 0, a3), (4, 0, a4), (5, 2, x5), (6, 2, x6), (8, 0, x8), (9, 0, x9), (10, 0, x10)]) rfl ?_
    refine r_iload 0 dX11_next_125 rfl ?_
    refine r_iload 8 dX11_next_127 rfl ?_
    refine r_icmp_le (tgt := 140) dX11_next_129 rfl (fun h40 => ?_) (fun h41 => ?_)
    · refine r_ok (fun h42 => ?_)
      refine r_iincB 9 dX11_next_140 rfl h42 (by decide) (lf := fun y43 => [(10, 0, y43), (12, 0, r38), (11, 0, y31), (0, 2, 1), (3, 0, a3), (4, 0, a4), (5, 2, x5), (6, 2, x6), (8, 0, x8), (9, 0, x9)]) (fun _ => rfl) (fun y43 ey43 => ?_)
      refine r_goto (tgt := 75) dX11_next_143 rfl ?_
      refine r_sub [3, 4, 5, 6, 7, 8, 9, 0] (ls' := [(0, 2, 1), (3, 0, a3), (4, 0, a4), (5, 2, x5), (6, 2, x6), (8, 0, x8), (9, 0, x9), (10, 0, y43)]) rfl ?_
      exact hw75 M39 x5 x6 x8 x9 y43
    · refine r_iload 0 dX11_next_132 rfl ?_
      refine r_istore dX11_next_134 (by decide) (ls' := [(9, 0, r38), (12, 0, r38), (11, 0, y31), (0, 2, 1), (3, 0, a3), (4, 0, a4), (5, 2, x5), (6, 2, x6), (8, 0, x8), (10, 0, x10)]) rfl ?_
      refine r_iload 9 dX11_next_136 rfl ?_
      refine r_istore dX11_next_138 (by decide) (ls' := [(8, 0, x10), (9, 0, r38), (12, 0, r38), (11, 0, y31), (0, 2, 1), (3, 0, a3), (4, 0, a4), (5, 2, x5), (6, 2, x6), (10, 0, x10)]) rfl ?_
      refine r_ok (fun h44 => ?_)
      refine r_iincB 9 dX11_next_140 rfl h44 (by decide) (lf := fun y45 => [(10, 0, y45), (8, 0, x10), (9, 0, r38), (12, 0, r38), (11, 0, y31), (0, 2, 1), (3, 0, a3), (4, 0, a4), (5, 2, x5), (6, 2, x6)]) (fun _ => rfl) (fun y45 ey45 => ?_)
      refine r_goto (tgt := 75) dX11_next_143 rfl ?_
      refine r_sub [5, 6, 7, 8, 9, 1, 2, 0] (ls' := [(0, 2, 1), (3, 0, a3), (4, 0, a4), (5, 2, x5), (6, 2, x6), (8, 0, x10), (9, 0, r38), (10, 0, y45)]) rfl ?_
      exact hw75 M39 x5 x6 x10 r38 y45
set_option maxRecDepth 100000 in
theorem tj_X11_next_37 {g : GT} {n nf : Int} (hu : Up true nf n) (a3 a4 : Int) (M : Mem) (x5 x6 s0 : Int) : AW g true RX11 cX11_next 13 (some .int) (6) n n nf 37 [(0, 2, 1), (3, 0, a3), (4, 0, a4), (5, 2, x5), (6, 2, x6)] [(0, s0)] n M (j_X11_next_37 a3 a4 M x5 x6 s0) := by
  unfold j_X11_next_37
  refine r_istore dX11_next_37 (by decide) (ls' := [(7, 0, s0), (0, 2, 1), (3, 0, a3), (4, 0, a4), (5, 2, x5), (6, 2, x6)]) rfl ?_
  refine r_iload 0 dX11_next_39 rfl ?_
  refine r_if_eq (tgt := 64) dX11_next_41 rfl (fun h7 => ?_) (fun h8 => ?_)
  · refine r_iconst dX11_next_64 ⟨by decide, by decide⟩ ?_
    exact r_iret rfl rfl (Or.inl rfl) dX11_next_65
  · refine r_aload 4 dX11_next_44 rfl ?_
    refine r_ifnull (tgt := 64) dX11_next_46 rfl (fun h9 => ?_) (fun h10 => ?_)
    · refine r_iconst dX11_next_64 ⟨by decide, by decide⟩ ?_
      exact r_iret rfl rfl (Or.inl rfl) dX11_next_65
    · refine r_aload 5 dX11_next_49 rfl ?_
      refine r_ifnull (tgt := 64) dX11_next_51 rfl (fun h11 => ?_) (fun h12 => ?_)
      · refine r_iconst dX11_next_64 ⟨by decide, by decide⟩ ?_
        exact r_iret rfl rfl (Or.inl rfl) dX11_next_65
      · refine r_aload_n 1 dX11_next_54 rfl rfl ?_
        refine r_gf (t := 2) (kz := 8) rfl hu dX11_next_55 kF_X11_67 kd_1 rfl rfl rfl ?_
        refine r_ok (fun h13 => ?_)
        refine r_gf (t := 0) (kz := 3) rfl hu dX11_next_58 kF_X11_134 h13 rfl rfl rfl ?_
        refine r_if_ne (tgt := 66) dX11_next_61 rfl (fun h14 => ?_) (fun h15 => ?_)
        · refine r_iconst dX11_next_64 ⟨by decide, by decide⟩ ?_
          exact r_iret rfl rfl (Or.inl rfl) dX11_next_65
        · refine r_iconst dX11_next_66 ⟨by decide, by decide⟩ ?_
          refine r_istore dX11_next_67 (by decide) (ls' := [(8, 0, 0), (7, 0, s0), (0, 2, 1), (3, 0, a3), (4, 0, a4), (5, 2, x5), (6, 2, x6)]) rfl ?_
          refine r_iconst dX11_next_69 ⟨by decide, by decide⟩ ?_
          refine r_istore dX11_next_70 (by decide) (ls' := [(9, 0, (-1)), (8, 0, 0), (7, 0, s0), (0, 2, 1), (3, 0, a3), (4, 0, a4), (5, 2, x5), (6, 2, x6)]) rfl ?_
          refine r_iconst dX11_next_72 ⟨by decide, by decide⟩ ?_
          refine r_istore dX11_next_73 (by decide) (ls' := [(10, 0, 0), (9, 0, (-1)), (8, 0, 0), (7, 0, s0), (0, 2, 1), (3, 0, a3), (4, 0, a4), (5, 2, x5), (6, 2, x6)]) rfl ?_
          refine r_sub [4, 5, 6, 7, 8, 2, 1, 0] (ls' := [(0, 2, 1), (3, 0, a3), (4, 0, a4), (5, 2, x5), (6, 2, x6), (8, 0, 0), (9, 0, (-1)), (10, 0, 0)]) rfl ?_
          exact wl5_aw (P := fun M x5 x6 x8 x9 x10 o => AW g true RX11 cX11_next 13 (some .int) (6) n n nf 75 [(0, 2, 1), (3, 0, a3), (4, 0, a4), (5, 2, x5), (6, 2, x6), (8, 0, x8), (9, 0, x9), (10, 0, x10)] [] n M (o)) (fun M x5 x6 x8 x9 x10 => aw_none) (fun w hw M x5 x6 x8 x9 x10 => tb_X11_next_75 hu a3 a4 w hw M x5 x6 x8 x9 x10) FU M x5 x6 0 (-1) 0
set_option maxRecDepth 100000 in
theorem tj_X11_next_36 {g : GT} {n nf : Int} (hu : Up true nf n) (a3 a4 : Int) (M : Mem) (x5 x6 : Int) : AW g true RX11 cX11_next 13 (some .int) (6) n n nf 36 [(0, 2, 1), (3, 0, a3), (4, 0, a4), (5, 2, x5), (6, 2, x6)] [] n M (j_X11_next_36 a3 a4 M x5 x6) := by
  unfold j_X11_next_36
  refine r_iconst dX11_next_36 ⟨by decide, by decide⟩ ?_
  exact tj_X11_next_37 hu a3 a4 M x5 x6 0
set_option maxRecDepth 100000 in
theorem m_X11_next {g : GT} {n nf : Int} (hu : Up true nf n) (M : Mem) (a1 a2 a3 a4 : Int) : AM g true yX11_next cX11_next 13 (some .int) (6) n n nf [(2, 1), (0, a1), (0, a2), (0, a3), (0, a4)] M (f_X11_next M a1 a2 a3 a4) := by
  refine AM_of (by decide +kernel) (Nat.le_of_ble_eq_true rfl) (fun h => absurd h (Int.lt_irrefl n)) ?_
  show AW g true RX11 cX11_next 13 (some .int) (6) n n nf 0 [(0, 2, 1), (1, 0, a1), (2, 0, a2), (3, 0, a3), (4, 0, a4)] [] n M (f_X11_next M a1 a2 a3 a4)
  unfold f_X11_next
  refine r_aload_n 0 dX11_next_0 rfl rfl ?_
  refine r_iload_n 1 dX11_next_1 rfl rfl ?_
  refine r_inv (a := 1) hu ⟨Nat.le_refl _, Nat.le_refl _⟩ dX11_next_2 kM_X11_153 (ci := 11) rfl kd_1 rfl rfl (by decide) (by decide) [(0, a1)] rfl (sk := []) rfl (Nat.le_of_ble_eq_true rfl) rfl rfl (m_X11_lawAt hu M a1) (fun r1 M2 => ?_)
  refine r_astore dX11_next_5 (by decide) (ls' := [(5, 2, r1), (0, 2, 1), (1, 0, a1), (2, 0, a2), (3, 0, a3), (4, 0, a4)]) rfl ?_
  refine r_aload_n 1 dX11_next_7 rfl rfl ?_
  refine r_iload_n 3 dX11_next_8 rfl rfl ?_
  refine r_inv (a := 1) hu ⟨Nat.le_refl _, Nat.le_refl _⟩ dX11_next_9 kM_X11_153 (ci := 11) rfl kd_1 rfl rfl (by decide) (by decide) [(0, a2)] rfl (sk := []) rfl (Nat.le_of_ble_eq_true rfl) rfl rfl (m_X11_lawAt hu M2 a2) (fun r3 M4 => ?_)
  refine r_astore dX11_next_12 (by decide) (ls' := [(6, 2, r3), (5, 2, r1), (0, 2, 1), (1, 0, a1), (2, 0, a2), (3, 0, a3), (4, 0, a4)]) rfl ?_
  refine r_iload 6 dX11_next_14 rfl ?_
  refine r_if_lt (tgt := 36) dX11_next_16 rfl (fun h5 => ?_) (fun h6 => ?_)
  · refine r_sub [2, 5, 6, 1, 0] (ls' := [(0, 2, 1), (3, 0, a3), (4, 0, a4), (5, 2, r1), (6, 2, r3)]) rfl ?_
    exact tj_X11_next_36 hu a3 a4 M4 r1 r3
  · refine r_iload 6 dX11_next_19 rfl ?_
    refine r_iconst dX11_next_21 ⟨by decide, by decide⟩ ?_
    refine r_icmp_gt (tgt := 36) dX11_next_22 rfl (fun h46 => ?_) (fun h47 => ?_)
    · refine r_sub [2, 5, 6, 1, 0] (ls' := [(0, 2, 1), (3, 0, a3), (4, 0, a4), (5, 2, r1), (6, 2, r3)]) rfl ?_
      exact tj_X11_next_36 hu a3 a4 M4 r1 r3
    · refine r_iload_n 5 dX11_next_25 rfl rfl ?_
      refine r_ins (a := 0) ⟨Nat.le_refl _, Nat.le_refl _⟩ dX11_next_26 kM_X11_221 (by decide) (by decide) [(0, a3)] rfl (sk := []) rfl (Nat.le_of_ble_eq_true rfl) rfl rfl (m_X11_isBright hu M4 a3) (fun r48 M49 => ?_)
      refine r_if_eq (tgt := 36) dX11_next_29 rfl (fun h50 => ?_) (fun h51 => ?_)
      · refine r_sub [2, 5, 6, 1, 0] (ls' := [(0, 2, 1), (3, 0, a3), (4, 0, a4), (5, 2, r1), (6, 2, r3)]) rfl ?_
        exact tj_X11_next_36 hu a3 a4 M49 r1 r3
      · refine r_iconst dX11_next_32 ⟨by decide, by decide⟩ ?_
        refine r_goto (tgt := 37) dX11_next_33 rfl ?_
        refine r_sub [2, 5, 6, 1, 0] (ls' := [(0, 2, 1), (3, 0, a3), (4, 0, a4), (5, 2, r1), (6, 2, r3)]) rfl ?_
        exact tj_X11_next_37 hu a3 a4 M49 r1 r3 1
theorem dX11_chair_0 : decode cX11_chair 0 = .ok (.iload_n 1, 1) := by decide +kernel
theorem dX11_chair_1 : decode cX11_chair 1 = .ok (.iload_n 2, 1) := by decide +kernel
theorem dX11_chair_2 : decode cX11_chair 2 = .ok (.invokestatic 196, 3) := by decide +kernel
theorem dX11_chair_5 : decode cX11_chair 5 = .ok (.ifCond .eq 19, 3) := by decide +kernel
theorem dX11_chair_8 : decode cX11_chair 8 = .ok (.aload_n 0, 1) := by decide +kernel
theorem dX11_chair_9 : decode cX11_chair 9 = .ok (.getfield 49, 3) := by decide +kernel
theorem dX11_chair_12 : decode cX11_chair 12 = .ok (.iload_n 1, 1) := by decide +kernel
theorem dX11_chair_13 : decode cX11_chair 13 = .ok (.iload_n 2, 1) := by decide +kernel
theorem dX11_chair_14 : decode cX11_chair 14 = .ok (.invokestatic 203, 3) := by decide +kernel
theorem dX11_chair_17 : decode cX11_chair 17 = .ok (.iload_n 3, 1) := by decide +kernel
theorem dX11_chair_18 : decode cX11_chair 18 = .ok (.invokevirtual 453, 3) := by decide +kernel
theorem dX11_chair_21 : decode cX11_chair 21 = .ok (.ifCond .ne 5, 3) := by decide +kernel
theorem dX11_chair_24 : decode cX11_chair 24 = .ok (.iconst (-1), 1) := by decide +kernel
theorem dX11_chair_25 : decode cX11_chair 25 = .ok (.ireturn, 1) := by decide +kernel
theorem dX11_chair_26 : decode cX11_chair 26 = .ok (.aload_n 0, 1) := by decide +kernel
theorem dX11_chair_27 : decode cX11_chair 27 = .ok (.getfield 49, 3) := by decide +kernel
theorem dX11_chair_30 : decode cX11_chair 30 = .ok (.getfield 140, 3) := by decide +kernel
theorem dX11_chair_33 : decode cX11_chair 33 = .ok (.ireturn, 1) := by decide +kernel
set_option maxRecDepth 100000 in
theorem m_X11_chair {g : GT} {n nf : Int} (hu : Up true nf n) (M : Mem) (a1 a2 a3 : Int) : AM g true yX11_chair cX11_chair 4 (some .int) (1) n n nf [(2, 1), (0, a1), (0, a2), (0, a3)] M (f_X11_chair M a1 a2 a3) := by
  refine AM_of (by decide +kernel) (Nat.le_of_ble_eq_true rfl) (fun h => absurd h (Int.lt_irrefl n)) ?_
  show AW g true RX11 cX11_chair 4 (some .int) (1) n n nf 0 [(0, 2, 1), (1, 0, a1), (2, 0, a2), (3, 0, a3)] [] n M (f_X11_chair M a1 a2 a3)
  unfold f_X11_chair
  refine r_iload_n 1 dX11_chair_0 rfl rfl ?_
  refine r_iload_n 2 dX11_chair_1 rfl rfl ?_
  refine r_ins (a := 0) ⟨Nat.le_refl _, Nat.le_refl _⟩ dX11_chair_2 kM_X11_196 (by decide) (by decide) [(0, a1), (0, a2)] rfl (sk := []) rfl (Nat.le_of_ble_eq_true rfl) rfl rfl (m_X11_isSquare hu M a1 a2) (fun r1 M2 => ?_)
  refine r_if_eq (tgt := 24) dX11_chair_5 rfl (fun h3 => ?_) (fun h4 => ?_)
  · refine r_iconst dX11_chair_24 ⟨by decide, by decide⟩ ?_
    exact r_iret rfl rfl (Or.inl rfl) dX11_chair_25
  · refine r_aload_n 0 dX11_chair_8 rfl rfl ?_
    refine r_gx (kz := 5) rfl hu dX11_chair_9 kF_X11_49 kd_1 rfl rfl rfl fx_1_5 ?_
    refine r_iload_n 1 dX11_chair_12 rfl rfl ?_
    refine r_iload_n 2 dX11_chair_13 rfl rfl ?_
    refine r_ins (a := 0) ⟨Nat.le_refl _, Nat.le_refl _⟩ dX11_chair_14 kM_X11_203 (by decide) (by decide) [(0, a1), (0, a2)] rfl (sk := [(2, 63)]) rfl (Nat.le_of_ble_eq_true rfl) rfl rfl (m_X11_squareAt hu M2 a1 a2) (fun r5 M6 => ?_)
    refine r_iload_n 3 dX11_chair_17 rfl rfl ?_
    refine r_inv (a := 63) hu ⟨Nat.le_refl _, Nat.le_refl _⟩ dX11_chair_18 kM_X11_453 (ci := 1) rfl kd_63 rfl rfl (by decide) (by decide) [(0, r5), (0, a3)] rfl (sk := []) rfl (Nat.le_of_ble_eq_true rfl) rfl rfl (m_X1_putChair hu M6 r5 a3) (fun r7 M8 => ?_)
    refine r_if_ne (tgt := 26) dX11_chair_21 rfl (fun h9 => ?_) (fun h10 => ?_)
    · refine r_iconst dX11_chair_24 ⟨by decide, by decide⟩ ?_
      exact r_iret rfl rfl (Or.inl rfl) dX11_chair_25
    · refine r_aload_n 0 dX11_chair_26 rfl rfl ?_
      refine r_gx (kz := 5) rfl hu dX11_chair_27 kF_X11_49 kd_1 rfl rfl rfl fx_1_5 ?_
      refine r_gf (t := 0) (kz := 3) rfl hu dX11_chair_30 kF_X11_140 kd_63 rfl rfl rfl ?_
      exact r_iret rfl rfl (Or.inl rfl) dX11_chair_33
theorem dX11_walks_0 : decode cX11_walks 0 = .ok (.iload_n 1, 1) := by decide +kernel
theorem dX11_walks_1 : decode cX11_walks 1 = .ok (.ifCond .lt 22, 3) := by decide +kernel
theorem dX11_walks_4 : decode cX11_walks 4 = .ok (.iload_n 1, 1) := by decide +kernel
theorem dX11_walks_5 : decode cX11_walks 5 = .ok (.bipush 8, 2) := by decide +kernel
theorem dX11_walks_7 : decode cX11_walks 7 = .ok (.if_icmp .ge 16, 3) := by decide +kernel
theorem dX11_walks_10 : decode cX11_walks 10 = .ok (.aload_n 0, 1) := by decide +kernel
theorem dX11_walks_11 : decode cX11_walks 11 = .ok (.getfield 49, 3) := by decide +kernel
theorem dX11_walks_14 : decode cX11_walks 14 = .ok (.iload_n 1, 1) := by decide +kernel
theorem dX11_walks_15 : decode cX11_walks 15 = .ok (.iconst 0, 1) := by decide +kernel
theorem dX11_walks_16 : decode cX11_walks 16 = .ok (.invokevirtual 457, 3) := by decide +kernel
theorem dX11_walks_19 : decode cX11_walks 19 = .ok (.l2i, 1) := by decide +kernel
theorem dX11_walks_20 : decode cX11_walks 20 = .ok (.goto 4, 3) := by decide +kernel
theorem dX11_walks_23 : decode cX11_walks 23 = .ok (.iconst (-1), 1) := by decide +kernel
theorem dX11_walks_24 : decode cX11_walks 24 = .ok (.ireturn, 1) := by decide +kernel
set_option maxRecDepth 100000 in
theorem m_X11_walks {g : GT} {n nf : Int} (hu : Up true nf n) (M : Mem) (a1 : Int) : AM g true yX11_walks cX11_walks 2 (some .int) (3) n n nf [(2, 1), (0, a1)] M (f_X11_walks M a1) := by
  refine AM_of (by decide +kernel) (Nat.le_of_ble_eq_true rfl) (fun h => absurd h (Int.lt_irrefl n)) ?_
  show AW g true RX11 cX11_walks 2 (some .int) (3) n n nf 0 [(0, 2, 1), (1, 0, a1)] [] n M (f_X11_walks M a1)
  unfold f_X11_walks
  refine r_iload_n 1 dX11_walks_0 rfl rfl ?_
  refine r_if_lt (tgt := 23) dX11_walks_1 rfl (fun h1 => ?_) (fun h2 => ?_)
  · refine r_iconst dX11_walks_23 ⟨by decide, by decide⟩ ?_
    exact r_iret rfl rfl (Or.inl rfl) dX11_walks_24
  · refine r_iload_n 1 dX11_walks_4 rfl rfl ?_
    refine r_bipush dX11_walks_5 (by decide) ⟨by decide, by decide⟩ ?_
    refine r_icmp_ge (tgt := 23) dX11_walks_7 rfl (fun h3 => ?_) (fun h4 => ?_)
    · refine r_iconst dX11_walks_23 ⟨by decide, by decide⟩ ?_
      exact r_iret rfl rfl (Or.inl rfl) dX11_walks_24
    · refine r_aload_n 0 dX11_walks_10 rfl rfl ?_
      refine r_gx (kz := 5) rfl hu dX11_walks_11 kF_X11_49 kd_1 rfl rfl rfl fx_1_5 ?_
      refine r_iload_n 1 dX11_walks_14 rfl rfl ?_
      refine r_iconst dX11_walks_15 ⟨by decide, by decide⟩ ?_
      refine r_inv (a := 63) hu ⟨Nat.le_refl _, Nat.le_refl _⟩ dX11_walks_16 kM_X11_457 (ci := 1) rfl kd_63 rfl rfl (by decide) (by decide) [(0, a1), (0, 0)] rfl (sk := []) rfl (Nat.le_of_ble_eq_true rfl) rfl rfl (m_X1_passed hu M a1 0) (fun r5 M6 => ?_)
      refine r_ok (fun h7 => ?_)
      refine r_l2i dX11_walks_19 h7 ?_
      refine r_goto (tgt := 24) dX11_walks_20 rfl ?_
      exact r_iret rfl rfl (Or.inl rfl) dX11_walks_24
theorem dJ9_max_f86c9_0 : decode cJ9_max_f86c9 0 = .ok (.lload_n 0, 1) := by decide +kernel
theorem dJ9_max_f86c9_1 : decode cJ9_max_f86c9 1 = .ok (.lload_n 2, 1) := by decide +kernel
theorem dJ9_max_f86c9_2 : decode cJ9_max_f86c9 2 = .ok (.lcmp, 1) := by decide +kernel
theorem dJ9_max_f86c9_3 : decode cJ9_max_f86c9 3 = .ok (.ifCond .lt 7, 3) := by decide +kernel
theorem dJ9_max_f86c9_6 : decode cJ9_max_f86c9 6 = .ok (.lload_n 0, 1) := by decide +kernel
theorem dJ9_max_f86c9_7 : decode cJ9_max_f86c9 7 = .ok (.goto 4, 3) := by decide +kernel
theorem dJ9_max_f86c9_10 : decode cJ9_max_f86c9 10 = .ok (.lload_n 2, 1) := by decide +kernel
theorem dJ9_max_f86c9_11 : decode cJ9_max_f86c9 11 = .ok (.lreturn, 1) := by decide +kernel
set_option maxRecDepth 100000 in
theorem m_J9_max_f86c9 {g : GT} {n nf : Int} (hu : Up true nf n) (M : Mem) (a0 a2 : Int) : AM g true yJ9_max_f86c9 cJ9_max_f86c9 4 (some .long) (0) n n nf [(1, a0), (1, a2)] M (f_J9_max_f86c9 M a0 a2) := by
  refine AM_ofF (by decide +kernel) (Nat.le_of_ble_eq_true rfl) (fun h => absurd h (Int.lt_irrefl n)) ?_
  show AW g true RJ9 cJ9_max_f86c9 4 (some .long) (0) n n nf 0 [(0, 1, a0), (2, 1, a2)] [] n M (f_J9_max_f86c9 M a0 a2)
  unfold f_J9_max_f86c9
  refine r_lload_n 0 dJ9_max_f86c9_0 rfl rfl ?_
  refine r_lload_n 1 dJ9_max_f86c9_1 rfl rfl ?_
  refine r_lif_lt (tgt := 10) dJ9_max_f86c9_2 dJ9_max_f86c9_3 rfl (fun h1 => ?_) (fun h2 => ?_)
  · refine r_lload_n 1 dJ9_max_f86c9_10 rfl rfl ?_
    exact r_lret rfl rfl dJ9_max_f86c9_11
  · refine r_lload_n 0 dJ9_max_f86c9_6 rfl rfl ?_
    refine r_goto (tgt := 11) dJ9_max_f86c9_7 rfl ?_
    exact r_lret rfl rfl dJ9_max_f86c9_11
theorem dX11_walk_0 : decode cX11_walk 0 = .ok (.iload_n 1, 1) := by decide +kernel
theorem dX11_walk_1 : decode cX11_walk 1 = .ok (.ifCond .lt 9, 3) := by decide +kernel
theorem dX11_walk_4 : decode cX11_walk 4 = .ok (.iload_n 1, 1) := by decide +kernel
theorem dX11_walk_5 : decode cX11_walk 5 = .ok (.bipush 8, 2) := by decide +kernel
theorem dX11_walk_7 : decode cX11_walk 7 = .ok (.if_icmp .lt 7, 3) := by decide +kernel
theorem dX11_walk_10 : decode cX11_walk 10 = .ok (.ldc2_w 365, 3) := by decide +kernel
theorem dX11_walk_13 : decode cX11_walk 13 = .ok (.lreturn, 1) := by decide +kernel
theorem dX11_walk_14 : decode cX11_walk 14 = .ok (.aload_n 0, 1) := by decide +kernel
theorem dX11_walk_15 : decode cX11_walk 15 = .ok (.getfield 49, 3) := by decide +kernel
theorem dX11_walk_18 : decode cX11_walk 18 = .ok (.iload_n 1, 1) := by decide +kernel
theorem dX11_walk_19 : decode cX11_walk 19 = .ok (.iconst 1, 1) := by decide +kernel
theorem dX11_walk_20 : decode cX11_walk 20 = .ok (.invokevirtual 457, 3) := by decide +kernel
theorem dX11_walk_23 : decode cX11_walk 23 = .ok (.lstore_n 3, 1) := by decide +kernel
theorem dX11_walk_24 : decode cX11_walk 24 = .ok (.lload_n 3, 1) := by decide +kernel
theorem dX11_walk_25 : decode cX11_walk 25 = .ok (.ldc2_w 460, 3) := by decide +kernel
theorem dX11_walk_28 : decode cX11_walk 28 = .ok (.invokestatic 261, 3) := by decide +kernel
theorem dX11_walk_31 : decode cX11_walk 31 = .ok (.lstore 5, 2) := by decide +kernel
theorem dX11_walk_33 : decode cX11_walk 33 = .ok (.iload_n 2, 1) := by decide +kernel
theorem dX11_walk_34 : decode cX11_walk 34 = .ok (.ifCond .eq 7, 3) := by decide +kernel
theorem dX11_walk_37 : decode cX11_walk 37 = .ok (.lload_n 3, 1) := by decide +kernel
theorem dX11_walk_38 : decode cX11_walk 38 = .ok (.goto 6, 3) := by decide +kernel
theorem dX11_walk_41 : decode cX11_walk 41 = .ok (.ldc2_w 460, 3) := by decide +kernel
theorem dX11_walk_44 : decode cX11_walk 44 = .ok (.lconst 1, 1) := by decide +kernel
theorem dX11_walk_45 : decode cX11_walk 45 = .ok (.lload 5, 2) := by decide +kernel
theorem dX11_walk_47 : decode cX11_walk 47 = .ok (.invokestatic 462, 3) := by decide +kernel
theorem dX11_walk_50 : decode cX11_walk 50 = .ok (.ldiv, 1) := by decide +kernel
theorem dX11_walk_51 : decode cX11_walk 51 = .ok (.lreturn, 1) := by decide +kernel
set_option maxRecDepth 100000 in
theorem tj_X11_walk_44 {g : GT} {n nf : Int} (hu : Up true nf n) (M : Mem) (x5 s0 : Int) : AW g true RX11 cX11_walk 7 (some .long) (3) n n nf 44 [(5, 1, x5)] [(1, s0)] n M (j_X11_walk_44 M x5 s0) := by
  unfold j_X11_walk_44
  refine r_lconst (v := 1) dX11_walk_44 (by decide) ⟨by decide, by decide⟩ ?_
  refine r_lload 0 dX11_walk_45 rfl ?_
  refine r_ins (a := 0) ⟨Nat.le_refl _, Nat.le_refl _⟩ dX11_walk_47 kM_X11_462 (by decide) (by decide) [(1, 1), (1, x5)] rfl (sk := [(1, s0)]) rfl (Nat.le_of_ble_eq_true rfl) rfl rfl (m_J9_max_f86c9 hu M 1 x5) (fun r11 M12 => ?_)
  refine r_ok (fun h13 => ?_)
  refine r_ldivP dX11_walk_50 h13 ?_
  exact r_lret rfl rfl dX11_walk_51
set_option maxRecDepth 100000 in
theorem m_X11_walk {g : GT} {n nf : Int} (hu : Up true nf n) (M : Mem) (a1 a2 : Int) : AM g true yX11_walk cX11_walk 7 (some .long) (3) n n nf [(2, 1), (0, a1), (0, a2)] M (f_X11_walk M a1 a2) := by
  refine AM_of (by decide +kernel) (Nat.le_of_ble_eq_true rfl) (fun h => absurd h (Int.lt_irrefl n)) ?_
  show AW g true RX11 cX11_walk 7 (some .long) (3) n n nf 0 [(0, 2, 1), (1, 0, a1), (2, 0, a2)] [] n M (f_X11_walk M a1 a2)
  unfold f_X11_walk
  refine r_iload_n 1 dX11_walk_0 rfl rfl ?_
  refine r_if_lt (tgt := 10) dX11_walk_1 rfl (fun h1 => ?_) (fun h2 => ?_)
  · refine r_ldc2 (v := (-1)) dX11_walk_10 kC_X11_365 rfl ⟨by decide, by decide⟩ ?_
    exact r_lret rfl rfl dX11_walk_13
  · refine r_iload_n 1 dX11_walk_4 rfl rfl ?_
    refine r_bipush dX11_walk_5 (by decide) ⟨by decide, by decide⟩ ?_
    refine r_icmp_lt (tgt := 14) dX11_walk_7 rfl (fun h3 => ?_) (fun h4 => ?_)
    · refine r_aload_n 0 dX11_walk_14 rfl rfl ?_
      refine r_gx (kz := 5) rfl hu dX11_walk_15 kF_X11_49 kd_1 rfl rfl rfl fx_1_5 ?_
      refine r_iload_n 1 dX11_walk_18 rfl rfl ?_
      refine r_iconst dX11_walk_19 ⟨by decide, by decide⟩ ?_
      refine r_inv (a := 63) hu ⟨Nat.le_refl _, Nat.le_refl _⟩ dX11_walk_20 kM_X11_457 (ci := 1) rfl kd_63 rfl rfl (by decide) (by decide) [(0, a1), (0, 1)] rfl (sk := []) rfl (Nat.le_of_ble_eq_true rfl) rfl rfl (m_X1_passed hu M a1 1) (fun r5 M6 => ?_)
      refine r_lstore_n dX11_walk_23 rfl (by decide) (ls' := [(3, 1, r5), (0, 2, 1), (1, 0, a1), (2, 0, a2)]) rfl ?_
      refine r_lload_n 0 dX11_walk_24 rfl rfl ?_
      refine r_ldc2 (v := 362797056) dX11_walk_25 kC_X11_460 rfl ⟨by decide, by decide⟩ ?_
      refine r_ins (a := 0) ⟨Nat.le_refl _, Nat.le_refl _⟩ dX11_walk_28 kM_X11_261 (by decide) (by decide) [(1, r5), (1, 362797056)] rfl (sk := []) rfl (Nat.le_of_ble_eq_true rfl) rfl rfl (m_X11_divisorOf hu M6 r5 362797056) (fun r7 M8 => ?_)
      refine r_lstore dX11_walk_31 (by decide) (ls' := [(5, 1, r7), (3, 1, r5), (0, 2, 1), (1, 0, a1), (2, 0, a2)]) rfl ?_
      refine r_iload_n 4 dX11_walk_33 rfl rfl ?_
      refine r_if_eq (tgt := 41) dX11_walk_34 rfl (fun h9 => ?_) (fun h10 => ?_)
      · refine r_ldc2 (v := 362797056) dX11_walk_41 kC_X11_460 rfl ⟨by decide, by decide⟩ ?_
        refine r_sub [0] (ls' := [(5, 1, r7)]) rfl ?_
        exact tj_X11_walk_44 hu M8 r7 362797056
      · refine r_lload_n 1 dX11_walk_37 rfl rfl ?_
        refine r_goto (tgt := 44) dX11_walk_38 rfl ?_
        refine r_sub [0] (ls' := [(5, 1, r7)]) rfl ?_
        exact tj_X11_walk_44 hu M8 r7 r5
    · refine r_ldc2 (v := (-1)) dX11_walk_10 kC_X11_365 rfl ⟨by decide, by decide⟩ ?_
      exact r_lret rfl rfl dX11_walk_13
theorem dX11_putOctet_0 : decode cX11_putOctet 0 = .ok (.aload_n 0, 1) := by decide +kernel
theorem dX11_putOctet_1 : decode cX11_putOctet 1 = .ok (.getfield 464, 3) := by decide +kernel
theorem dX11_putOctet_4 : decode cX11_putOctet 4 = .ok (.sipush 322, 3) := by decide +kernel
theorem dX11_putOctet_7 : decode cX11_putOctet 7 = .ok (.if_icmp .ge 23, 3) := by decide +kernel
theorem dX11_putOctet_10 : decode cX11_putOctet 10 = .ok (.aload_n 0, 1) := by decide +kernel
theorem dX11_putOctet_11 : decode cX11_putOctet 11 = .ok (.getfield 81, 3) := by decide +kernel
theorem dX11_putOctet_14 : decode cX11_putOctet 14 = .ok (.aload_n 0, 1) := by decide +kernel
theorem dX11_putOctet_15 : decode cX11_putOctet 15 = .ok (.getfield 464, 3) := by decide +kernel
theorem dX11_putOctet_18 : decode cX11_putOctet 18 = .ok (.iload_n 1, 1) := by decide +kernel
theorem dX11_putOctet_19 : decode cX11_putOctet 19 = .ok (.iastore, 1) := by decide +kernel
theorem dX11_putOctet_20 : decode cX11_putOctet 20 = .ok (.aload_n 0, 1) := by decide +kernel
theorem dX11_putOctet_21 : decode cX11_putOctet 21 = .ok (.dup, 1) := by decide +kernel
theorem dX11_putOctet_22 : decode cX11_putOctet 22 = .ok (.getfield 464, 3) := by decide +kernel
theorem dX11_putOctet_25 : decode cX11_putOctet 25 = .ok (.iconst 1, 1) := by decide +kernel
theorem dX11_putOctet_26 : decode cX11_putOctet 26 = .ok (.iadd, 1) := by decide +kernel
theorem dX11_putOctet_27 : decode cX11_putOctet 27 = .ok (.putfield 464, 3) := by decide +kernel
theorem dX11_putOctet_30 : decode cX11_putOctet 30 = .ok (.return_, 1) := by decide +kernel
set_option maxRecDepth 100000 in
theorem m_X11_putOctet {g : GT} {n nf : Int} (hu : Up true nf n) (M : Mem) (a1 : Int) : AM g true yX11_putOctet cX11_putOctet 2 none (0) n n nf [(2, 1), (0, a1)] M (f_X11_putOctet M a1) := by
  refine AM_of (by decide +kernel) (Nat.le_of_ble_eq_true rfl) (fun h => absurd h (Int.lt_irrefl n)) ?_
  show AW g true RX11 cX11_putOctet 2 none (0) n n nf 0 [(0, 2, 1), (1, 0, a1)] [] n M (f_X11_putOctet M a1)
  unfold f_X11_putOctet
  refine r_aload_n 0 dX11_putOctet_0 rfl rfl ?_
  refine r_gf (t := 0) (kz := 15) rfl hu dX11_putOctet_1 kF_X11_464 kd_1 rfl rfl rfl ?_
  refine r_sipush dX11_putOctet_4 (by decide) ⟨by decide, by decide⟩ ?_
  refine r_icmp_ge (tgt := 30) dX11_putOctet_7 rfl (fun h1 => ?_) (fun h2 => ?_)
  · exact r_vret rfl rfl dX11_putOctet_30
  · refine r_aload_n 0 dX11_putOctet_10 rfl rfl ?_
    refine r_gx (kz := 14) rfl hu dX11_putOctet_11 kF_X11_81 kd_1 rfl rfl rfl fx_1_14 ?_
    refine r_aload_n 0 dX11_putOctet_14 rfl rfl ?_
    refine r_gf (t := 0) (kz := 15) rfl hu dX11_putOctet_15 kF_X11_464 kd_1 rfl rfl rfl ?_
    refine r_iload_n 1 dX11_putOctet_18 rfl rfl ?_
    refine r_ok (fun h3 => ?_)
    refine r_iast hu dX11_putOctet_19 kd_202 rfl (Or.inl rfl) rfl ln_202 h3 rfl (fun M4 eM4 => ?_)
    refine r_aload_n 0 dX11_putOctet_20 rfl rfl ?_
    refine r_dup dX11_putOctet_21 (nz2 _) ?_
    refine r_gf (t := 0) (kz := 15) rfl hu dX11_putOctet_22 kF_X11_464 kd_1 rfl rfl rfl ?_
    refine r_iconst dX11_putOctet_25 ⟨by decide, by decide⟩ ?_
    refine r_ok (fun h5 => ?_)
    refine r_iadd dX11_putOctet_26 h5 ?_
    refine r_pf (t := 0) (kz := 15) rfl hu dX11_putOctet_27 kF_X11_464 kd_1 rfl rfl rfl (fun h => absurd h (by decide)) rfl kX_11_15 (fun M6 eM6 => ?_)
    exact r_vret rfl rfl dX11_putOctet_30
theorem dX11_checkedOn_0 : decode cX11_checkedOn 0 = .ok (.iconst 3, 1) := by decide +kernel
theorem dX11_checkedOn_1 : decode cX11_checkedOn 1 = .ok (.iload_n 0, 1) := by decide +kernel
theorem dX11_checkedOn_2 : decode cX11_checkedOn 2 = .ok (.imul, 1) := by decide +kernel
theorem dX11_checkedOn_3 : decode cX11_checkedOn 3 = .ok (.iload_n 1, 1) := by decide +kernel
theorem dX11_checkedOn_4 : decode cX11_checkedOn 4 = .ok (.iadd, 1) := by decide +kernel
theorem dX11_checkedOn_5 : decode cX11_checkedOn 5 = .ok (.sipush 233, 3) := by decide +kernel
theorem dX11_checkedOn_8 : decode cX11_checkedOn 8 = .ok (.irem, 1) := by decide +kernel
theorem dX11_checkedOn_9 : decode cX11_checkedOn 9 = .ok (.ireturn, 1) := by decide +kernel
set_option maxRecDepth 100000 in
theorem m_X11_checkedOn {g : GT} {n nf : Int} (hu : Up true nf n) (M : Mem) (a0 a1 : Int) : AM g true yX11_checkedOn cX11_checkedOn 2 (some .int) (0) n n nf [(0, a0), (0, a1)] M (f_X11_checkedOn M a0 a1) := by
  refine AM_of (by decide +kernel) (Nat.le_of_ble_eq_true rfl) (fun h => absurd h (Int.lt_irrefl n)) ?_
  show AW g true RX11 cX11_checkedOn 2 (some .int) (0) n n nf 0 [(0, 0, a0), (1, 0, a1)] [] n M (f_X11_checkedOn M a0 a1)
  unfold f_X11_checkedOn
  refine r_iconst dX11_checkedOn_0 ⟨by decide, by decide⟩ ?_
  refine r_iload_n 0 dX11_checkedOn_1 rfl rfl ?_
  refine r_ok (fun h1 => ?_)
  refine r_imul dX11_checkedOn_2 h1 ?_
  refine r_iload_n 1 dX11_checkedOn_3 rfl rfl ?_
  refine r_ok (fun h2 => ?_)
  refine r_iadd dX11_checkedOn_4 h2 ?_
  refine r_sipush dX11_checkedOn_5 (by decide) ⟨by decide, by decide⟩ ?_
  refine r_ok (fun h3 => ?_)
  refine r_iremP dX11_checkedOn_8 ⟨h3, by decide⟩ ?_
  exact r_iret rfl rfl (Or.inl rfl) dX11_checkedOn_9
