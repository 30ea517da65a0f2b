theorem dX4_ownWordOf_0 : decode cX4_ownWordOf 0 = .ok (.iconst 0, 1) := by decide +kernel
theorem dX4_ownWordOf_1 : decode cX4_ownWordOf 1 = .ok (.istore_n 2, 1) := by decide +kernel
theorem dX4_ownWordOf_2 : decode cX4_ownWordOf 2 = .ok (.iload_n 2, 1) := by decide +kernel
theorem dX4_ownWordOf_3 : decode cX4_ownWordOf 3 = .ok (.bipush 21, 2) := by decide +kernel
theorem dX4_ownWordOf_5 : decode cX4_ownWordOf 5 = .ok (.if_icmp .ge 21, 3) := by decide +kernel
theorem dX4_ownWordOf_8 : decode cX4_ownWordOf 8 = .ok (.aload_n 0, 1) := by decide +kernel
theorem dX4_ownWordOf_9 : decode cX4_ownWordOf 9 = .ok (.getfield 9, 3) := by decide +kernel
theorem dX4_ownWordOf_12 : decode cX4_ownWordOf 12 = .ok (.iload_n 2, 1) := by decide +kernel
theorem dX4_ownWordOf_13 : decode cX4_ownWordOf 13 = .ok (.iaload, 1) := by decide +kernel
theorem dX4_ownWordOf_14 : decode cX4_ownWordOf 14 = .ok (.iload_n 1, 1) := by decide +kernel
theorem dX4_ownWordOf_15 : decode cX4_ownWordOf 15 = .ok (.if_icmp .ne 5, 3) := by decide +kernel
theorem dX4_ownWordOf_18 : decode cX4_ownWordOf 18 = .ok (.iload_n 2, 1) := by decide +kernel
theorem dX4_ownWordOf_19 : decode cX4_ownWordOf 19 = .ok (.ireturn, 1) := by decide +kernel
theorem dX4_ownWordOf_20 : decode cX4_ownWordOf 20 = .ok (.iinc 2 1, 3) := by decide +kernel
theorem dX4_ownWordOf_23 : decode cX4_ownWordOf 23 = .ok (.goto (-21), 3) := by decide +kernel
theorem dX4_ownWordOf_26 : decode cX4_ownWordOf 26 = .ok (.iconst (-1), 1) := by decide +kernel
theorem dX4_ownWordOf_27 : decode cX4_ownWordOf 27 = .ok (.ireturn, 1) := by decide +kernel
set_option maxRecDepth 100000 in
theorem tb_X4_ownWordOf_2 {g : GT} {n nf : Int} (hu : Up true nf n) (a1 : Int) (w2 : Mem → Int → Res) (hw2 : ∀ (M : Mem) (x2 : Int), AW g true RX4 cX4_ownWordOf 3 (some .int) (0) n n nf 2 [(0, 2, 5), (1, 0, a1), (2, 0, x2)] [] n M (w2 M x2)) (M : Mem) (x2 : Int) : AW g true RX4 cX4_ownWordOf 3 (some .int) (0) n n nf 2 [(0, 2, 5), (1, 0, a1), (2, 0, x2)] [] n M (b_X4_ownWordOf_2 a1 w2 M x2) := by
  unfold b_X4_ownWordOf_2
  refine r_iload_n 2 dX4_ownWordOf_2 rfl rfl ?_
  refine r_bipush dX4_ownWordOf_3 (by decide) ⟨by decide, by decide⟩ ?_
  refine r_icmp_ge (tgt := 26) dX4_ownWordOf_5 rfl (fun h1 => ?_) (fun h2 => ?_)
  · refine r_iconst dX4_ownWordOf_26 ⟨by decide, by decide⟩ ?_
    exact r_iret rfl rfl (Or.inl rfl) dX4_ownWordOf_27
  · refine r_aload_n 0 dX4_ownWordOf_8 rfl rfl ?_
    refine r_gx (kz := 1) rfl hu dX4_ownWordOf_9 kF_X4_9 kd_5 rfl rfl rfl fx_5_1 ?_
    refine r_iload_n 2 dX4_ownWordOf_12 rfl rfl ?_
    refine r_ok (fun h3 => ?_)
    refine r_iax hu dX4_ownWordOf_13 kd_6 rfl (Or.inr rfl) rfl ln_6 h3 (fxv_own _ h3) ?_
    refine r_iload_n 1 dX4_ownWordOf_14 rfl rfl ?_
    refine r_icmp_ne (tgt := 20) dX4_ownWordOf_15 rfl (fun h4 => ?_) (fun h5 => ?_)
    · refine r_iload_n 2 dX4_ownWordOf_18 rfl rfl ?_
      exact r_iret rfl rfl (Or.inl rfl) dX4_ownWordOf_19
    · refine r_iincB 2 dX4_ownWordOf_20 rfl ⟨by have := h3; omega, by have := h3; omega⟩ (by decide) (lf := fun y6 => [(2, 0, y6), (0, 2, 5), (1, 0, a1)]) (fun _ => rfl) (fun y6 ey6 => ?_)
      refine r_goto (tgt := 2) dX4_ownWordOf_23 rfl ?_
      refine r_sub [1, 2, 0] (ls' := [(0, 2, 5), (1, 0, a1), (2, 0, y6)]) rfl ?_
      exact hw2 M y6
set_option maxRecDepth 100000 in
theorem m_X4_ownWordOf {g : GT} {n nf : Int} (hu : Up true nf n) (M : Mem) (a1 : Int) : AM g true yX4_ownWordOf cX4_ownWordOf 3 (some .int) (0) n n nf [(2, 5), (0, a1)] M (f_X4_ownWordOf M a1) := by
  refine AM_of (by decide +kernel) (Nat.le_of_ble_eq_true rfl) (fun h => absurd h (Int.lt_irrefl n)) ?_
  show AW g true RX4 cX4_ownWordOf 3 (some .int) (0) n n nf 0 [(0, 2, 5), (1, 0, a1)] [] n M (f_X4_ownWordOf M a1)
  unfold f_X4_ownWordOf
  refine r_iconst dX4_ownWordOf_0 ⟨by decide, by decide⟩ ?_
  refine r_istore_n dX4_ownWordOf_1 rfl (by decide) (ls' := [(2, 0, 0), (0, 2, 5), (1, 0, a1)]) rfl ?_
  refine r_sub [1, 2, 0] (ls' := [(0, 2, 5), (1, 0, a1), (2, 0, 0)]) rfl ?_
  exact wl1_aw (P := fun M x2 o => AW g true RX4 cX4_ownWordOf 3 (some .int) (0) n n nf 2 [(0, 2, 5), (1, 0, a1), (2, 0, x2)] [] n M (o)) (fun M x2 => aw_none) (fun w hw M x2 => tb_X4_ownWordOf_2 hu a1 w hw M x2) FU M 0
theorem dX4_addWord_0 : decode cX4_addWord 0 = .ok (.iconst 0, 1) := by decide +kernel
theorem dX4_addWord_1 : decode cX4_addWord 1 = .ok (.istore_n 2, 1) := by decide +kernel
theorem dX4_addWord_2 : decode cX4_addWord 2 = .ok (.iload_n 1, 1) := by decide +kernel
theorem dX4_addWord_3 : decode cX4_addWord 3 = .ok (.istore_n 3, 1) := by decide +kernel
theorem dX4_addWord_4 : decode cX4_addWord 4 = .ok (.iload_n 3, 1) := by decide +kernel
theorem dX4_addWord_5 : decode cX4_addWord 5 = .ok (.aload_n 0, 1) := by decide +kernel
theorem dX4_addWord_6 : decode cX4_addWord 6 = .ok (.getfield 24, 3) := by decide +kernel
theorem dX4_addWord_9 : decode cX4_addWord 9 = .ok (.getfield 48, 3) := by decide +kernel
theorem dX4_addWord_12 : decode cX4_addWord 12 = .ok (.if_icmp .ge 56, 3) := by decide +kernel
theorem dX4_addWord_15 : decode cX4_addWord 15 = .ok (.aload_n 0, 1) := by decide +kernel
theorem dX4_addWord_16 : decode cX4_addWord 16 = .ok (.getfield 24, 3) := by decide +kernel
theorem dX4_addWord_19 : decode cX4_addWord 19 = .ok (.iload_n 3, 1) := by decide +kernel
theorem dX4_addWord_20 : decode cX4_addWord 20 = .ok (.invokevirtual 52, 3) := by decide +kernel
theorem dX4_addWord_23 : decode cX4_addWord 23 = .ok (.invokestatic 56, 3) := by decide +kernel
theorem dX4_addWord_26 : decode cX4_addWord 26 = .ok (.ifCond .eq 42, 3) := by decide +kernel
theorem dX4_addWord_29 : decode cX4_addWord 29 = .ok (.iload_n 3, 1) := by decide +kernel
theorem dX4_addWord_30 : decode cX4_addWord 30 = .ok (.iload_n 1, 1) := by decide +kernel
theorem dX4_addWord_31 : decode cX4_addWord 31 = .ok (.isub, 1) := by decide +kernel
theorem dX4_addWord_32 : decode cX4_addWord 32 = .ok (.bipush 6, 2) := by decide +kernel
theorem dX4_addWord_34 : decode cX4_addWord 34 = .ok (.if_icmp .ge 26, 3) := by decide +kernel
theorem dX4_addWord_37 : decode cX4_addWord 37 = .ok (.iload_n 2, 1) := by decide +kernel
theorem dX4_addWord_38 : decode cX4_addWord 38 = .ok (.iload_n 3, 1) := by decide +kernel
theorem dX4_addWord_39 : decode cX4_addWord 39 = .ok (.iload_n 1, 1) := by decide +kernel
theorem dX4_addWord_40 : decode cX4_addWord 40 = .ok (.isub, 1) := by decide +kernel
theorem dX4_addWord_41 : decode cX4_addWord 41 = .ok (.aload_n 0, 1) := by decide +kernel
theorem dX4_addWord_42 : decode cX4_addWord 42 = .ok (.getfield 24, 3) := by decide +kernel
theorem dX4_addWord_45 : decode cX4_addWord 45 = .ok (.iload_n 3, 1) := by decide +kernel
theorem dX4_addWord_46 : decode cX4_addWord 46 = .ok (.invokevirtual 52, 3) := by decide +kernel
theorem dX4_addWord_49 : decode cX4_addWord 49 = .ok (.bipush 97, 2) := by decide +kernel
theorem dX4_addWord_51 : decode cX4_addWord 51 = .ok (.isub, 1) := by decide +kernel
theorem dX4_addWord_52 : decode cX4_addWord 52 = .ok (.iconst 1, 1) := by decide +kernel
theorem dX4_addWord_53 : decode cX4_addWord 53 = .ok (.iadd, 1) := by decide +kernel
theorem dX4_addWord_54 : decode cX4_addWord 54 = .ok (.invokestatic 40, 3) := by decide +kernel
theorem dX4_addWord_57 : decode cX4_addWord 57 = .ok (.goto 4, 3) := by decide +kernel
theorem dX4_addWord_60 : decode cX4_addWord 60 = .ok (.iload_n 2, 1) := by decide +kernel
theorem dX4_addWord_61 : decode cX4_addWord 61 = .ok (.istore_n 2, 1) := by decide +kernel
theorem dX4_addWord_62 : decode cX4_addWord 62 = .ok (.iinc 3 1, 3) := by decide +kernel
theorem dX4_addWord_65 : decode cX4_addWord 65 = .ok (.goto (-61), 3) := by decide +kernel
theorem dX4_addWord_68 : decode cX4_addWord 68 = .ok (.aload_n 0, 1) := by decide +kernel
theorem dX4_addWord_69 : decode cX4_addWord 69 = .ok (.iload_n 1, 1) := by decide +kernel
theorem dX4_addWord_70 : decode cX4_addWord 70 = .ok (.invokevirtual 82, 3) := by decide +kernel
theorem dX4_addWord_73 : decode cX4_addWord 73 = .ok (.ifCond .eq 14, 3) := by decide +kernel
theorem dX4_addWord_76 : decode cX4_addWord 76 = .ok (.aload_n 0, 1) := by decide +kernel
theorem dX4_addWord_77 : decode cX4_addWord 77 = .ok (.bipush 7, 2) := by decide +kernel
theorem dX4_addWord_79 : decode cX4_addWord 79 = .ok (.iconst 0, 1) := by decide +kernel
theorem dX4_addWord_80 : decode cX4_addWord 80 = .ok (.iload_n 1, 1) := by decide +kernel
theorem dX4_addWord_81 : decode cX4_addWord 81 = .ok (.invokevirtual 72, 3) := by decide +kernel
theorem dX4_addWord_84 : decode cX4_addWord 84 = .ok (.goto 51, 3) := by decide +kernel
theorem dX4_addWord_87 : decode cX4_addWord 87 = .ok (.iload_n 3, 1) := by decide +kernel
theorem dX4_addWord_88 : decode cX4_addWord 88 = .ok (.iload_n 1, 1) := by decide +kernel
theorem dX4_addWord_89 : decode cX4_addWord 89 = .ok (.isub, 1) := by decide +kernel
theorem dX4_addWord_90 : decode cX4_addWord 90 = .ok (.bipush 6, 2) := by decide +kernel
theorem dX4_addWord_92 : decode cX4_addWord 92 = .ok (.if_icmp .le 13, 3) := by decide +kernel
theorem dX4_addWord_95 : decode cX4_addWord 95 = .ok (.aload_n 0, 1) := by decide +kernel
theorem dX4_addWord_96 : decode cX4_addWord 96 = .ok (.iconst 5, 1) := by decide +kernel
theorem dX4_addWord_97 : decode cX4_addWord 97 = .ok (.iconst 0, 1) := by decide +kernel
theorem dX4_addWord_98 : decode cX4_addWord 98 = .ok (.iload_n 1, 1) := by decide +kernel
theorem dX4_addWord_99 : decode cX4_addWord 99 = .ok (.invokevirtual 72, 3) := by decide +kernel
theorem dX4_addWord_102 : decode cX4_addWord 102 = .ok (.goto 33, 3) := by decide +kernel
theorem dX4_addWord_105 : decode cX4_addWord 105 = .ok (.aload_n 0, 1) := by decide +kernel
theorem dX4_addWord_106 : decode cX4_addWord 106 = .ok (.iload_n 2, 1) := by decide +kernel
theorem dX4_addWord_107 : decode cX4_addWord 107 = .ok (.invokevirtual 85, 3) := by decide +kernel
theorem dX4_addWord_110 : decode cX4_addWord 110 = .ok (.iconst (-1), 1) := by decide +kernel
theorem dX4_addWord_111 : decode cX4_addWord 111 = .ok (.if_icmp .eq 17, 3) := by decide +kernel
theorem dX4_addWord_114 : decode cX4_addWord 114 = .ok (.aload_n 0, 1) := by decide +kernel
theorem dX4_addWord_115 : decode cX4_addWord 115 = .ok (.iconst 2, 1) := by decide +kernel
theorem dX4_addWord_116 : decode cX4_addWord 116 = .ok (.aload_n 0, 1) := by decide +kernel
theorem dX4_addWord_117 : decode cX4_addWord 117 = .ok (.iload_n 2, 1) := by decide +kernel
theorem dX4_addWord_118 : decode cX4_addWord 118 = .ok (.invokevirtual 85, 3) := by decide +kernel
theorem dX4_addWord_121 : decode cX4_addWord 121 = .ok (.iload_n 1, 1) := by decide +kernel
theorem dX4_addWord_122 : decode cX4_addWord 122 = .ok (.invokevirtual 72, 3) := by decide +kernel
theorem dX4_addWord_125 : decode cX4_addWord 125 = .ok (.goto 10, 3) := by decide +kernel
theorem dX4_addWord_128 : decode cX4_addWord 128 = .ok (.aload_n 0, 1) := by decide +kernel
theorem dX4_addWord_129 : decode cX4_addWord 129 = .ok (.iconst 1, 1) := by decide +kernel
theorem dX4_addWord_130 : decode cX4_addWord 130 = .ok (.iload_n 2, 1) := by decide +kernel
theorem dX4_addWord_131 : decode cX4_addWord 131 = .ok (.iload_n 1, 1) := by decide +kernel
theorem dX4_addWord_132 : decode cX4_addWord 132 = .ok (.invokevirtual 72, 3) := by decide +kernel
theorem dX4_addWord_135 : decode cX4_addWord 135 = .ok (.iload_n 3, 1) := by decide +kernel
theorem dX4_addWord_136 : decode cX4_addWord 136 = .ok (.ireturn, 1) := by decide +kernel
set_option maxRecDepth 100000 in
theorem tj_X4_addWord_68 {g : GT} {n nf : Int} (hu : Up true nf n) (a1 : Int) (M : Mem) (x2 x3 : Int) : AW g true RX4 cX4_addWord 4 (some .int) (2) n n nf 68 [(0, 2, 5), (1, 0, a1), (2, 0, x2), (3, 0, x3)] [] n M (j_X4_addWord_68 a1 M x2 x3) := by
  unfold j_X4_addWord_68
  refine r_aload_n 0 dX4_addWord_68 rfl rfl ?_
  refine r_iload_n 1 dX4_addWord_69 rfl rfl ?_
  refine r_inv (a := 5) hu ⟨Nat.le_refl _, Nat.le_refl _⟩ dX4_addWord_70 kM_X4_82 (ci := 4) rfl kd_5 rfl rfl (by decide) (by decide) [(0, a1)] rfl (sk := []) rfl (Nat.le_of_ble_eq_true rfl) rfl rfl (m_X4_isGlued hu M a1) (fun r3 M4 => ?_)
  refine r_if_eq (tgt := 87) dX4_addWord_73 rfl (fun h5 => ?_) (fun h6 => ?_)
  · refine r_iload_n 3 dX4_addWord_87 rfl rfl ?_
    refine r_iload_n 1 dX4_addWord_88 rfl rfl ?_
    refine r_ok (fun h7 => ?_)
    refine r_isub dX4_addWord_89 h7 ?_
    refine r_bipush dX4_addWord_90 (by decide) ⟨by decide, by decide⟩ ?_
    refine r_icmp_le (tgt := 105) dX4_addWord_92 rfl (fun h8 => ?_) (fun h9 => ?_)
    · refine r_aload_n 0 dX4_addWord_105 rfl rfl ?_
      refine r_iload_n 2 dX4_addWord_106 rfl rfl ?_
      refine r_inv (a := 5) hu ⟨Nat.le_refl _, Nat.le_refl _⟩ dX4_addWord_107 kM_X4_85 (ci := 4) rfl kd_5 rfl rfl (by decide) (by decide) [(0, x2)] rfl (sk := []) rfl (Nat.le_of_ble_eq_true rfl) rfl rfl (m_X4_ownWordOf hu M4 x2) (fun r10 M11 => ?_)
      refine r_iconst dX4_addWord_110 ⟨by decide, by decide⟩ ?_
      refine r_icmp_eq (tgt := 128) dX4_addWord_111 rfl (fun h12 => ?_) (fun h13 => ?_)
      · refine r_aload_n 0 dX4_addWord_128 rfl rfl ?_
        refine r_iconst dX4_addWord_129 ⟨by decide, by decide⟩ ?_
        refine r_iload_n 2 dX4_addWord_130 rfl rfl ?_
        refine r_iload_n 1 dX4_addWord_131 rfl rfl ?_
        refine r_invv (a := 5) hu ⟨Nat.le_refl _, Nat.le_refl _⟩ dX4_addWord_132 kM_X4_72 (ci := 4) rfl kd_5 rfl rfl (by decide) (by decide) [(0, 1), (0, x2), (0, a1)] rfl (sk := []) rfl (Nat.le_of_ble_eq_true rfl) rfl (m_X4_add hu M11 1 x2 a1) (fun r14 M15 => ?_)
        refine r_iload_n 3 dX4_addWord_135 rfl rfl ?_
        exact r_iret rfl rfl (Or.inl rfl) dX4_addWord_136
      · refine r_aload_n 0 dX4_addWord_114 rfl rfl ?_
        refine r_iconst dX4_addWord_115 ⟨by decide, by decide⟩ ?_
        refine r_aload_n 0 dX4_addWord_116 rfl rfl ?_
        refine r_iload_n 2 dX4_addWord_117 rfl rfl ?_
        refine r_inv (a := 5) hu ⟨Nat.le_refl _, Nat.le_refl _⟩ dX4_addWord_118 kM_X4_85 (ci := 4) rfl kd_5 rfl rfl (by decide) (by decide) [(0, x2)] rfl (sk := [(0, 2), (2, 5)]) rfl (Nat.le_of_ble_eq_true rfl) rfl rfl (m_X4_ownWordOf hu M11 x2) (fun r16 M17 => ?_)
        refine r_iload_n 1 dX4_addWord_121 rfl rfl ?_
        refine r_invv (a := 5) hu ⟨Nat.le_refl _, Nat.le_refl _⟩ dX4_addWord_122 kM_X4_72 (ci := 4) rfl kd_5 rfl rfl (by decide) (by decide) [(0, 2), (0, r16), (0, a1)] rfl (sk := []) rfl (Nat.le_of_ble_eq_true rfl) rfl (m_X4_add hu M17 2 r16 a1) (fun r18 M19 => ?_)
        refine r_goto (tgt := 135) dX4_addWord_125 rfl ?_
        refine r_iload_n 3 dX4_addWord_135 rfl rfl ?_
        exact r_iret rfl rfl (Or.inl rfl) dX4_addWord_136
    · refine r_aload_n 0 dX4_addWord_95 rfl rfl ?_
      refine r_iconst dX4_addWord_96 ⟨by decide, by decide⟩ ?_
      refine r_iconst dX4_addWord_97 ⟨by decide, by decide⟩ ?_
      refine r_iload_n 1 dX4_addWord_98 rfl rfl ?_
      refine r_invv (a := 5) hu ⟨Nat.le_refl _, Nat.le_refl _⟩ dX4_addWord_99 kM_X4_72 (ci := 4) rfl kd_5 rfl rfl (by decide) (by decide) [(0, 5), (0, 0), (0, a1)] rfl (sk := []) rfl (Nat.le_of_ble_eq_true rfl) rfl (m_X4_add hu M4 5 0 a1) (fun r20 M21 => ?_)
      refine r_goto (tgt := 135) dX4_addWord_102 rfl ?_
      refine r_iload_n 3 dX4_addWord_135 rfl rfl ?_
      exact r_iret rfl rfl (Or.inl rfl) dX4_addWord_136
  · refine r_aload_n 0 dX4_addWord_76 rfl rfl ?_
    refine r_bipush dX4_addWord_77 (by decide) ⟨by decide, by decide⟩ ?_
    refine r_iconst dX4_addWord_79 ⟨by decide, by decide⟩ ?_
    refine r_iload_n 1 dX4_addWord_80 rfl rfl ?_
    refine r_invv (a := 5) hu ⟨Nat.le_refl _, Nat.le_refl _⟩ dX4_addWord_81 kM_X4_72 (ci := 4) rfl kd_5 rfl rfl (by decide) (by decide) [(0, 7), (0, 0), (0, a1)] rfl (sk := []) rfl (Nat.le_of_ble_eq_true rfl) rfl (m_X4_add hu M4 7 0 a1) (fun r22 M23 => ?_)
    refine r_goto (tgt := 135) dX4_addWord_84 rfl ?_
    refine r_iload_n 3 dX4_addWord_135 rfl rfl ?_
    exact r_iret rfl rfl (Or.inl rfl) dX4_addWord_136
set_option maxRecDepth 100000 in
theorem tb_X4_addWord_4 {g : GT} {n nf : Int} (hu : Up true nf n) (a1 : Int) (w4 : Mem → Int → Int → Res) (hw4 : ∀ (M : Mem) (x2 x3 : Int), AW g true RX4 cX4_addWord 4 (some .int) (2) n n nf 4 [(0, 2, 5), (1, 0, a1), (2, 0, x2), (3, 0, x3)] [] n M (w4 M x2 x3)) (M : Mem) (x2 x3 : Int) : AW g true RX4 cX4_addWord 4 (some .int) (2) n n nf 4 [(0, 2, 5), (1, 0, a1), (2, 0, x2), (3, 0, x3)] [] n M (b_X4_addWord_4 a1 w4 M x2 x3) := by
  unfold b_X4_addWord_4
  refine r_iload_n 3 dX4_addWord_4 rfl rfl ?_
  refine r_aload_n 0 dX4_addWord_5 rfl rfl ?_
  refine r_gx (kz := 0) rfl hu dX4_addWord_6 kF_X4_24 kd_5 rfl rfl rfl fx_5_0 ?_
  refine r_gf (t := 0) (kz := 1) rfl hu dX4_addWord_9 kF_X4_48 kd_2 rfl rfl rfl ?_
  refine r_icmp_ge (tgt := 68) dX4_addWord_12 rfl (fun h1 => ?_) (fun h2 => ?_)
  · exact tj_X4_addWord_68 hu a1 M x2 x3
  · refine r_aload_n 0 dX4_addWord_15 rfl rfl ?_
    refine r_gx (kz := 0) rfl hu dX4_addWord_16 kF_X4_24 kd_5 rfl rfl rfl fx_5_0 ?_
    refine r_iload_n 3 dX4_addWord_19 rfl rfl ?_
    refine r_inv (a := 2) hu ⟨Nat.le_refl _, Nat.le_refl _⟩ dX4_addWord_20 kM_X4_52 (ci := 9) rfl kd_2 rfl rfl (by decide) (by decide) [(0, x3)] rfl (sk := []) rfl (Nat.le_of_ble_eq_true rfl) rfl rfl (m_X9_at hu M x3) (fun r24 M25 => ?_)
    refine r_ins (a := 0) ⟨Nat.le_refl _, Nat.le_refl _⟩ dX4_addWord_23 kM_X4_56 (by decide) (by decide) [(0, r24)] rfl (sk := []) rfl (Nat.le_of_ble_eq_true rfl) rfl rfl (m_X11_isLetter hu M25 r24) (fun r26 M27 => ?_)
    refine r_if_eq (tgt := 68) dX4_addWord_26 rfl (fun h28 => ?_) (fun h29 => ?_)
    · exact tj_X4_addWord_68 hu a1 M27 x2 x3
    · refine r_iload_n 3 dX4_addWord_29 rfl rfl ?_
      refine r_iload_n 1 dX4_addWord_30 rfl rfl ?_
      refine r_ok (fun h30 => ?_)
      refine r_isub dX4_addWord_31 h30 ?_
      refine r_bipush dX4_addWord_32 (by decide) ⟨by decide, by decide⟩ ?_
      refine r_icmp_ge (tgt := 60) dX4_addWord_34 rfl (fun h31 => ?_) (fun h32 => ?_)
      · refine r_iload_n 2 dX4_addWord_60 rfl rfl ?_
        refine r_istore_n dX4_addWord_61 rfl (by decide) (ls' := [(2, 0, x2), (0, 2, 5), (1, 0, a1), (3, 0, x3)]) rfl ?_
        refine r_ok (fun h33 => ?_)
        refine r_iincB 3 dX4_addWord_62 rfl h33 (by decide) (lf := fun y34 => [(3, 0, y34), (2, 0, x2), (0, 2, 5), (1, 0, a1)]) (fun _ => rfl) (fun y34 ey34 => ?_)
        refine r_goto (tgt := 4) dX4_addWord_65 rfl ?_
        refine r_sub [2, 3, 1, 0] (ls' := [(0, 2, 5), (1, 0, a1), (2, 0, x2), (3, 0, y34)]) rfl ?_
        exact hw4 M27 x2 y34
      · refine r_iload_n 2 dX4_addWord_37 rfl rfl ?_
        refine r_iload_n 3 dX4_addWord_38 rfl rfl ?_
        refine r_iload_n 1 dX4_addWord_39 rfl rfl ?_
        refine r_isub dX4_addWord_40 h30 ?_
        refine r_aload_n 0 dX4_addWord_41 rfl rfl ?_
        refine r_gx (kz := 0) rfl hu dX4_addWord_42 kF_X4_24 kd_5 rfl rfl rfl fx_5_0 ?_
        refine r_iload_n 3 dX4_addWord_45 rfl rfl ?_
        refine r_inv (a := 2) hu ⟨Nat.le_refl _, Nat.le_refl _⟩ dX4_addWord_46 kM_X4_52 (ci := 9) rfl kd_2 rfl rfl (by decide) (by decide) [(0, x3)] rfl (sk := [(0, x3 - a1), (0, x2)]) rfl (Nat.le_of_ble_eq_true rfl) rfl rfl (m_X9_at hu M27 x3) (fun r35 M36 => ?_)
        refine r_bipush dX4_addWord_49 (by decide) ⟨by decide, by decide⟩ ?_
        refine r_ok (fun h37 => ?_)
        refine r_isub dX4_addWord_51 h37 ?_
        refine r_iconst dX4_addWord_52 ⟨by decide, by decide⟩ ?_
        refine r_ok (fun h38 => ?_)
        refine r_iadd dX4_addWord_53 h38 ?_
        refine r_ins (a := 0) ⟨Nat.le_refl _, Nat.le_refl _⟩ dX4_addWord_54 kM_X4_40 (by decide) (by decide) [(0, x2), (0, x3 - a1), (0, (r35 - 97) + 1)] rfl (sk := []) rfl (Nat.le_of_ble_eq_true rfl) rfl rfl (m_X11_withLetter hu M36 x2 (x3 - a1) ((r35 - 97) + 1)) (fun r39 M40 => ?_)
        refine r_goto (tgt := 61) dX4_addWord_57 rfl ?_
        refine r_istore_n dX4_addWord_61 rfl (by decide) (ls' := [(2, 0, r39), (0, 2, 5), (1, 0, a1), (3, 0, x3)]) rfl ?_
        refine r_ok (fun h41 => ?_)
        refine r_iincB 3 dX4_addWord_62 rfl h41 (by decide) (lf := fun y42 => [(3, 0, y42), (2, 0, r39), (0, 2, 5), (1, 0, a1)]) (fun _ => rfl) (fun y42 ey42 => ?_)
        refine r_goto (tgt := 4) dX4_addWord_65 rfl ?_
        refine r_sub [2, 3, 1, 0] (ls' := [(0, 2, 5), (1, 0, a1), (2, 0, r39), (3, 0, y42)]) rfl ?_
        exact hw4 M40 r39 y42
set_option maxRecDepth 100000 in
theorem m_X4_addWord {g : GT} {n nf : Int} (hu : Up true nf n) (M : Mem) (a1 : Int) : AM g true yX4_addWord cX4_addWord 4 (some .int) (2) n n nf [(2, 5), (0, a1)] M (f_X4_addWord M a1) := by
  refine AM_of (by decide +kernel) (Nat.le_of_ble_eq_true rfl) (fun h => absurd h (Int.lt_irrefl n)) ?_
  show AW g true RX4 cX4_addWord 4 (some .int) (2) n n nf 0 [(0, 2, 5), (1, 0, a1)] [] n M (f_X4_addWord M a1)
  unfold f_X4_addWord
  refine r_iconst dX4_addWord_0 ⟨by decide, by decide⟩ ?_
  refine r_istore_n dX4_addWord_1 rfl (by decide) (ls' := [(2, 0, 0), (0, 2, 5), (1, 0, a1)]) rfl ?_
  refine r_iload_n 2 dX4_addWord_2 rfl rfl ?_
  refine r_istore_n dX4_addWord_3 rfl (by decide) (ls' := [(3, 0, a1), (2, 0, 0), (0, 2, 5), (1, 0, a1)]) rfl ?_
  refine r_sub [2, 3, 1, 0] (ls' := [(0, 2, 5), (1, 0, a1), (2, 0, 0), (3, 0, a1)]) rfl ?_
  exact wl2_aw (P := fun M x2 x3 o => AW g true RX4 cX4_addWord 4 (some .int) (2) n n nf 4 [(0, 2, 5), (1, 0, a1), (2, 0, x2), (3, 0, x3)] [] n M (o)) (fun M x2 x3 => aw_none) (fun w hw M x2 x3 => tb_X4_addWord_4 hu a1 w hw M x2 x3) FU M 0 a1
theorem dX4_addNumber_0 : decode cX4_addNumber 0 = .ok (.iconst 0, 1) := by decide +kernel
theorem dX4_addNumber_1 : decode cX4_addNumber 1 = .ok (.istore_n 2, 1) := by decide +kernel
theorem dX4_addNumber_2 : decode cX4_addNumber 2 = .ok (.iload_n 1, 1) := by decide +kernel
theorem dX4_addNumber_3 : decode cX4_addNumber 3 = .ok (.istore_n 3, 1) := by decide +kernel
theorem dX4_addNumber_4 : decode cX4_addNumber 4 = .ok (.iload_n 3, 1) := by decide +kernel
theorem dX4_addNumber_5 : decode cX4_addNumber 5 = .ok (.aload_n 0, 1) := by decide +kernel
theorem dX4_addNumber_6 : decode cX4_addNumber 6 = .ok (.getfield 24, 3) := by decide +kernel
theorem dX4_addNumber_9 : decode cX4_addNumber 9 = .ok (.getfield 48, 3) := by decide +kernel
theorem dX4_addNumber_12 : decode cX4_addNumber 12 = .ok (.if_icmp .ge 51, 3) := by decide +kernel
theorem dX4_addNumber_15 : decode cX4_addNumber 15 = .ok (.aload_n 0, 1) := by decide +kernel
theorem dX4_addNumber_16 : decode cX4_addNumber 16 = .ok (.getfield 24, 3) := by decide +kernel
theorem dX4_addNumber_19 : decode cX4_addNumber 19 = .ok (.iload_n 3, 1) := by decide +kernel
theorem dX4_addNumber_20 : decode cX4_addNumber 20 = .ok (.invokevirtual 52, 3) := by decide +kernel
theorem dX4_addNumber_23 : decode cX4_addNumber 23 = .ok (.invokestatic 63, 3) := by decide +kernel
theorem dX4_addNumber_26 : decode cX4_addNumber 26 = .ok (.ifCond .eq 37, 3) := by decide +kernel
theorem dX4_addNumber_29 : decode cX4_addNumber 29 = .ok (.iload_n 3, 1) := by decide +kernel
theorem dX4_addNumber_30 : decode cX4_addNumber 30 = .ok (.iload_n 1, 1) := by decide +kernel
theorem dX4_addNumber_31 : decode cX4_addNumber 31 = .ok (.isub, 1) := by decide +kernel
theorem dX4_addNumber_32 : decode cX4_addNumber 32 = .ok (.iconst 4, 1) := by decide +kernel
theorem dX4_addNumber_33 : decode cX4_addNumber 33 = .ok (.if_icmp .ge 22, 3) := by decide +kernel
theorem dX4_addNumber_36 : decode cX4_addNumber 36 = .ok (.bipush 10, 2) := by decide +kernel
theorem dX4_addNumber_38 : decode cX4_addNumber 38 = .ok (.iload_n 2, 1) := by decide +kernel
theorem dX4_addNumber_39 : decode cX4_addNumber 39 = .ok (.imul, 1) := by decide +kernel
theorem dX4_addNumber_40 : decode cX4_addNumber 40 = .ok (.aload_n 0, 1) := by decide +kernel
theorem dX4_addNumber_41 : decode cX4_addNumber 41 = .ok (.getfield 24, 3) := by decide +kernel
theorem dX4_addNumber_44 : decode cX4_addNumber 44 = .ok (.iload_n 3, 1) := by decide +kernel
theorem dX4_addNumber_45 : decode cX4_addNumber 45 = .ok (.invokevirtual 52, 3) := by decide +kernel
theorem dX4_addNumber_48 : decode cX4_addNumber 48 = .ok (.iadd, 1) := by decide +kernel
theorem dX4_addNumber_49 : decode cX4_addNumber 49 = .ok (.bipush 48, 2) := by decide +kernel
theorem dX4_addNumber_51 : decode cX4_addNumber 51 = .ok (.isub, 1) := by decide +kernel
theorem dX4_addNumber_52 : decode cX4_addNumber 52 = .ok (.goto 4, 3) := by decide +kernel
theorem dX4_addNumber_55 : decode cX4_addNumber 55 = .ok (.iload_n 2, 1) := by decide +kernel
theorem dX4_addNumber_56 : decode cX4_addNumber 56 = .ok (.istore_n 2, 1) := by decide +kernel
theorem dX4_addNumber_57 : decode cX4_addNumber 57 = .ok (.iinc 3 1, 3) := by decide +kernel
theorem dX4_addNumber_60 : decode cX4_addNumber 60 = .ok (.goto (-56), 3) := by decide +kernel
theorem dX4_addNumber_63 : decode cX4_addNumber 63 = .ok (.aload_n 0, 1) := by decide +kernel
theorem dX4_addNumber_64 : decode cX4_addNumber 64 = .ok (.iload_n 1, 1) := by decide +kernel
theorem dX4_addNumber_65 : decode cX4_addNumber 65 = .ok (.invokevirtual 82, 3) := by decide +kernel
theorem dX4_addNumber_68 : decode cX4_addNumber 68 = .ok (.ifCond .eq 14, 3) := by decide +kernel
theorem dX4_addNumber_71 : decode cX4_addNumber 71 = .ok (.aload_n 0, 1) := by decide +kernel
theorem dX4_addNumber_72 : decode cX4_addNumber 72 = .ok (.bipush 7, 2) := by decide +kernel
theorem dX4_addNumber_74 : decode cX4_addNumber 74 = .ok (.iconst 0, 1) := by decide +kernel
theorem dX4_addNumber_75 : decode cX4_addNumber 75 = .ok (.iload_n 1, 1) := by decide +kernel
theorem dX4_addNumber_76 : decode cX4_addNumber 76 = .ok (.invokevirtual 72, 3) := by decide +kernel
theorem dX4_addNumber_79 : decode cX4_addNumber 79 = .ok (.goto 22, 3) := by decide +kernel
theorem dX4_addNumber_82 : decode cX4_addNumber 82 = .ok (.aload_n 0, 1) := by decide +kernel
theorem dX4_addNumber_83 : decode cX4_addNumber 83 = .ok (.iload_n 3, 1) := by decide +kernel
theorem dX4_addNumber_84 : decode cX4_addNumber 84 = .ok (.iload_n 1, 1) := by decide +kernel
theorem dX4_addNumber_85 : decode cX4_addNumber 85 = .ok (.isub, 1) := by decide +kernel
theorem dX4_addNumber_86 : decode cX4_addNumber 86 = .ok (.iconst 4, 1) := by decide +kernel
theorem dX4_addNumber_87 : decode cX4_addNumber 87 = .ok (.if_icmp .le 8, 3) := by decide +kernel
theorem dX4_addNumber_90 : decode cX4_addNumber 90 = .ok (.bipush 6, 2) := by decide +kernel
theorem dX4_addNumber_92 : decode cX4_addNumber 92 = .ok (.goto 4, 3) := by decide +kernel
theorem dX4_addNumber_95 : decode cX4_addNumber 95 = .ok (.iconst 3, 1) := by decide +kernel
theorem dX4_addNumber_96 : decode cX4_addNumber 96 = .ok (.iload_n 2, 1) := by decide +kernel
theorem dX4_addNumber_97 : decode cX4_addNumber 97 = .ok (.iload_n 1, 1) := by decide +kernel
theorem dX4_addNumber_98 : decode cX4_addNumber 98 = .ok (.invokevirtual 72, 3) := by decide +kernel
theorem dX4_addNumber_101 : decode cX4_addNumber 101 = .ok (.iload_n 3, 1) := by decide +kernel
theorem dX4_addNumber_102 : decode cX4_addNumber 102 = .ok (.ireturn, 1) := by decide +kernel
set_option maxRecDepth 100000 in
theorem tj_X4_addNumber_96 {g : GT} {n nf : Int} (hu : Up true nf n) (a1 : Int) (M : Mem) (x2 x3 s0 : Int) : AW g true RX4 cX4_addNumber 4 (some .int) (2) n n nf 96 [(1, 0, a1), (2, 0, x2), (3, 0, x3)] [(0, s0), (2, 5)] n M (j_X4_addNumber_96 a1 M x2 x3 s0) := by
  unfold j_X4_addNumber_96
  refine r_iload_n 1 dX4_addNumber_96 rfl rfl ?_
  refine r_iload_n 0 dX4_addNumber_97 rfl rfl ?_
  refine r_invv (a := 5) hu ⟨Nat.le_refl _, Nat.le_refl _⟩ dX4_addNumber_98 kM_X4_72 (ci := 4) rfl kd_5 rfl rfl (by decide) (by decide) [(0, s0), (0, x2), (0, a1)] rfl (sk := []) rfl (Nat.le_of_ble_eq_true rfl) rfl (m_X4_add hu M s0 x2 a1) (fun r10 M11 => ?_)
  refine r_iload_n 2 dX4_addNumber_101 rfl rfl ?_
  exact r_iret rfl rfl (Or.inl rfl) dX4_addNumber_102
set_option maxRecDepth 100000 in
theorem tj_X4_addNumber_63 {g : GT} {n nf : Int} (hu : Up true nf n) (a1 : Int) (M : Mem) (x2 x3 : Int) : AW g true RX4 cX4_addNumber 4 (some .int) (2) n n nf 63 [(0, 2, 5), (1, 0, a1), (2, 0, x2), (3, 0, x3)] [] n M (j_X4_addNumber_63 a1 M x2 x3) := by
  unfold j_X4_addNumber_63
  refine r_aload_n 0 dX4_addNumber_63 rfl rfl ?_
  refine r_iload_n 1 dX4_addNumber_64 rfl rfl ?_
  refine r_inv (a := 5) hu ⟨Nat.le_refl _, Nat.le_refl _⟩ dX4_addNumber_65 kM_X4_82 (ci := 4) rfl kd_5 rfl rfl (by decide) (by decide) [(0, a1)] rfl (sk := []) rfl (Nat.le_of_ble_eq_true rfl) rfl rfl (m_X4_isGlued hu M a1) (fun r3 M4 => ?_)
  refine r_if_eq (tgt := 82) dX4_addNumber_68 rfl (fun h5 => ?_) (fun h6 => ?_)
  · refine r_aload_n 0 dX4_addNumber_82 rfl rfl ?_
    refine r_iload_n 3 dX4_addNumber_83 rfl rfl ?_
    refine r_iload_n 1 dX4_addNumber_84 rfl rfl ?_
    refine r_ok (fun h7 => ?_)
    refine r_isub dX4_addNumber_85 h7 ?_
    refine r_iconst dX4_addNumber_86 ⟨by decide, by decide⟩ ?_
    refine r_icmp_le (tgt := 95) dX4_addNumber_87 rfl (fun h8 => ?_) (fun h9 => ?_)
    · refine r_iconst dX4_addNumber_95 ⟨by decide, by decide⟩ ?_
      refine r_sub [1, 2, 3] (ls' := [(1, 0, a1), (2, 0, x2), (3, 0, x3)]) rfl ?_
      exact tj_X4_addNumber_96 hu a1 M4 x2 x3 3
    · refine r_bipush dX4_addNumber_90 (by decide) ⟨by decide, by decide⟩ ?_
      refine r_goto (tgt := 96) dX4_addNumber_92 rfl ?_
      refine r_sub [1, 2, 3] (ls' := [(1, 0, a1), (2, 0, x2), (3, 0, x3)]) rfl ?_
      exact tj_X4_addNumber_96 hu a1 M4 x2 x3 6
  · refine r_aload_n 0 dX4_addNumber_71 rfl rfl ?_
    refine r_bipush dX4_addNumber_72 (by decide) ⟨by decide, by decide⟩ ?_
    refine r_iconst dX4_addNumber_74 ⟨by decide, by decide⟩ ?_
    refine r_iload_n 1 dX4_addNumber_75 rfl rfl ?_
    refine r_invv (a := 5) hu ⟨Nat.le_refl _, Nat.le_refl _⟩ dX4_addNumber_76 kM_X4_72 (ci := 4) rfl kd_5 rfl rfl (by decide) (by decide) [(0, 7), (0, 0), (0, a1)] rfl (sk := []) rfl (Nat.le_of_ble_eq_true rfl) rfl (m_X4_add hu M4 7 0 a1) (fun r12 M13 => ?_)
    refine r_goto (tgt := 101) dX4_addNumber_79 rfl ?_
    refine r_iload_n 3 dX4_addNumber_101 rfl rfl ?_
    exact r_iret rfl rfl (Or.inl rfl) dX4_addNumber_102
set_option maxRecDepth 100000 in
theorem tb_X4_addNumber_4 {g : GT} {n nf : Int} (hu : Up true nf n) (a1 : Int) (w4 : Mem → Int → Int → Res) (hw4 : ∀ (M : Mem) (x2 x3 : Int), AW g true RX4 cX4_addNumber 4 (some .int) (2) n n nf 4 [(0, 2, 5), (1, 0, a1), (2, 0, x2), (3, 0, x3)] [] n M (w4 M x2 x3)) (M : Mem) (x2 x3 : Int) : AW g true RX4 cX4_addNumber 4 (some .int) (2) n n nf 4 [(0, 2, 5), (1, 0, a1), (2, 0, x2), (3, 0, x3)] [] n M (b_X4_addNumber_4 a1 w4 M x2 x3) := by
  unfold b_X4_addNumber_4
  refine r_iload_n 3 dX4_addNumber_4 rfl rfl ?_
  refine r_aload_n 0 dX4_addNumber_5 rfl rfl ?_
  refine r_gx (kz := 0) rfl hu dX4_addNumber_6 kF_X4_24 kd_5 rfl rfl rfl fx_5_0 ?_
  refine r_gf (t := 0) (kz := 1) rfl hu dX4_addNumber_9 kF_X4_48 kd_2 rfl rfl rfl ?_
  refine r_icmp_ge (tgt := 63) dX4_addNumber_12 rfl (fun h1 => ?_) (fun h2 => ?_)
  · exact tj_X4_addNumber_63 hu a1 M x2 x3
  · refine r_aload_n 0 dX4_addNumber_15 rfl rfl ?_
    refine r_gx (kz := 0) rfl hu dX4_addNumber_16 kF_X4_24 kd_5 rfl rfl rfl fx_5_0 ?_
    refine r_iload_n 3 dX4_addNumber_19 rfl rfl ?_
    refine r_inv (a := 2) hu ⟨Nat.le_refl _, Nat.le_refl _⟩ dX4_addNumber_20 kM_X4_52 (ci := 9) rfl kd_2 rfl rfl (by decide) (by decide) [(0, x3)] rfl (sk := []) rfl (Nat.le_of_ble_eq_true rfl) rfl rfl (m_X9_at hu M x3) (fun r14 M15 => ?_)
    refine r_ins (a := 0) ⟨Nat.le_refl _, Nat.le_refl _⟩ dX4_addNumber_23 kM_X4_63 (by decide) (by decide) [(0, r14)] rfl (sk := []) rfl (Nat.le_of_ble_eq_true rfl) rfl rfl (m_X11_isDigit hu M15 r14) (fun r16 M17 => ?_)
    refine r_if_eq (tgt := 63) dX4_addNumber_26 rfl (fun h18 => ?_) (fun h19 => ?_)
    · exact tj_X4_addNumber_63 hu a1 M17 x2 x3
    · refine r_iload_n 3 dX4_addNumber_29 rfl rfl ?_
      refine r_iload_n 1 dX4_addNumber_30 rfl rfl ?_
      refine r_ok (fun h20 => ?_)
      refine r_isub dX4_addNumber_31 h20 ?_
      refine r_iconst dX4_addNumber_32 ⟨by decide, by decide⟩ ?_
      refine r_icmp_ge (tgt := 55) dX4_addNumber_33 rfl (fun h21 => ?_) (fun h22 => ?_)
      · refine r_iload_n 2 dX4_addNumber_55 rfl rfl ?_
        refine r_istore_n dX4_addNumber_56 rfl (by decide) (ls' := [(2, 0, x2), (0, 2, 5), (1, 0, a1), (3, 0, x3)]) rfl ?_
        refine r_ok (fun h23 => ?_)
        refine r_iincB 3 dX4_addNumber_57 rfl h23 (by decide) (lf := fun y24 => [(3, 0, y24), (2, 0, x2), (0, 2, 5), (1, 0, a1)]) (fun _ => rfl) (fun y24 ey24 => ?_)
        refine r_goto (tgt := 4) dX4_addNumber_60 rfl ?_
        refine r_sub [2, 3, 1, 0] (ls' := [(0, 2, 5), (1, 0, a1), (2, 0, x2), (3, 0, y24)]) rfl ?_
        exact hw4 M17 x2 y24
      · refine r_bipush dX4_addNumber_36 (by decide) ⟨by decide, by decide⟩ ?_
        refine r_iload_n 2 dX4_addNumber_38 rfl rfl ?_
        refine r_ok (fun h25 => ?_)
        refine r_imul dX4_addNumber_39 h25 ?_
        refine r_aload_n 0 dX4_addNumber_40 rfl rfl ?_
        refine r_gx (kz := 0) rfl hu dX4_addNumber_41 kF_X4_24 kd_5 rfl rfl rfl fx_5_0 ?_
        refine r_iload_n 3 dX4_addNumber_44 rfl rfl ?_
        refine r_inv (a := 2) hu ⟨Nat.le_refl _, Nat.le_refl _⟩ dX4_addNumber_45 kM_X4_52 (ci := 9) rfl kd_2 rfl rfl (by decide) (by decide) [(0, x3)] rfl (sk := [(0, 10 * x2)]) rfl (Nat.le_of_ble_eq_true rfl) rfl rfl (m_X9_at hu M17 x3) (fun r26 M27 => ?_)
        refine r_ok (fun h28 => ?_)
        refine r_iadd dX4_addNumber_48 h28 ?_
        refine r_bipush dX4_addNumber_49 (by decide) ⟨by decide, by decide⟩ ?_
        refine r_ok (fun h29 => ?_)
        refine r_isub dX4_addNumber_51 h29 ?_
        refine r_goto (tgt := 56) dX4_addNumber_52 rfl ?_
        refine r_istore_nB dX4_addNumber_56 rfl (by decide) (lf := fun y30 => [(2, 0, y30), (0, 2, 5), (1, 0, a1), (3, 0, x3)]) (fun _ => rfl) (fun y30 ey30 => ?_)
        refine r_ok (fun h31 => ?_)
        refine r_iincB 3 dX4_addNumber_57 rfl h31 (by decide) (lf := fun y32 => [(3, 0, y32), (2, 0, y30), (0, 2, 5), (1, 0, a1)]) (fun _ => rfl) (fun y32 ey32 => ?_)
        refine r_goto (tgt := 4) dX4_addNumber_60 rfl ?_
        refine r_sub [2, 3, 1, 0] (ls' := [(0, 2, 5), (1, 0, a1), (2, 0, y30), (3, 0, y32)]) rfl ?_
        exact hw4 M27 y30 y32
set_option maxRecDepth 100000 in
theorem m_X4_addNumber {g : GT} {n nf : Int} (hu : Up true nf n) (M : Mem) (a1 : Int) : AM g true yX4_addNumber cX4_addNumber 4 (some .int) (2) n n nf [(2, 5), (0, a1)] M (f_X4_addNumber M a1) := by
  refine AM_of (by decide +kernel) (Nat.le_of_ble_eq_true rfl) (fun h => absurd h (Int.lt_irrefl n)) ?_
  show AW g true RX4 cX4_addNumber 4 (some .int) (2) n n nf 0 [(0, 2, 5), (1, 0, a1)] [] n M (f_X4_addNumber M a1)
  unfold f_X4_addNumber
  refine r_iconst dX4_addNumber_0 ⟨by decide, by decide⟩ ?_
  refine r_istore_n dX4_addNumber_1 rfl (by decide) (ls' := [(2, 0, 0), (0, 2, 5), (1, 0, a1)]) rfl ?_
  refine r_iload_n 2 dX4_addNumber_2 rfl rfl ?_
  refine r_istore_n dX4_addNumber_3 rfl (by decide) (ls' := [(3, 0, a1), (2, 0, 0), (0, 2, 5), (1, 0, a1)]) rfl ?_
  refine r_sub [2, 3, 1, 0] (ls' := [(0, 2, 5), (1, 0, a1), (2, 0, 0), (3, 0, a1)]) rfl ?_
  exact wl2_aw (P := fun M x2 x3 o => AW g true RX4 cX4_addNumber 4 (some .int) (2) n n nf 4 [(0, 2, 5), (1, 0, a1), (2, 0, x2), (3, 0, x3)] [] n M (o)) (fun M x2 x3 => aw_none) (fun w hw M x2 x3 => tb_X4_addNumber_4 hu a1 w hw M x2 x3) FU M 0 a1
theorem dX11_isBlank_0 : decode cX11_isBlank 0 = .ok (.iload_n 0, 1) := by decide +kernel
theorem dX11_isBlank_1 : decode cX11_isBlank 1 = .ok (.bipush 10, 2) := by decide +kernel
theorem dX11_isBlank_3 : decode cX11_isBlank 3 = .ok (.if_icmp .eq 9, 3) := by decide +kernel
theorem dX11_isBlank_6 : decode cX11_isBlank 6 = .ok (.iload_n 0, 1) := by decide +kernel
theorem dX11_isBlank_7 : decode cX11_isBlank 7 = .ok (.bipush 32, 2) := by decide +kernel
theorem dX11_isBlank_9 : decode cX11_isBlank 9 = .ok (.if_icmp .ne 7, 3) := by decide +kernel
theorem dX11_isBlank_12 : decode cX11_isBlank 12 = .ok (.iconst 1, 1) := by decide +kernel
theorem dX11_isBlank_13 : decode cX11_isBlank 13 = .ok (.goto 4, 3) := by decide +kernel
theorem dX11_isBlank_16 : decode cX11_isBlank 16 = .ok (.iconst 0, 1) := by decide +kernel
theorem dX11_isBlank_17 : decode cX11_isBlank 17 = .ok (.ireturn, 1) := by decide +kernel
set_option maxRecDepth 100000 in
theorem m_X11_isBlank {g : GT} {n nf : Int} (hu : Up true nf n) (M : Mem) (a0 : Int) : AM g true yX11_isBlank cX11_isBlank 1 (some .boolean) (0) n n nf [(0, a0)] M (f_X11_isBlank M a0) := by
  refine AM_of (by decide +kernel) (Nat.le_of_ble_eq_true rfl) (fun h => absurd h (Int.lt_irrefl n)) ?_
  show AW g true RX11 cX11_isBlank 1 (some .boolean) (0) n n nf 0 [(0, 0, a0)] [] n M (f_X11_isBlank M a0)
  unfold f_X11_isBlank
  refine r_iload_n 0 dX11_isBlank_0 rfl rfl ?_
  refine r_bipush dX11_isBlank_1 (by decide) ⟨by decide, by decide⟩ ?_
  refine r_icmp_eq (tgt := 12) dX11_isBlank_3 rfl (fun h1 => ?_) (fun h2 => ?_)
  · refine r_iconst dX11_isBlank_12 ⟨by decide, by decide⟩ ?_
    refine r_goto (tgt := 17) dX11_isBlank_13 rfl ?_
    exact r_iret rfl rfl (Or.inr ⟨rfl, Or.inr rfl⟩) dX11_isBlank_17
  · refine r_iload_n 0 dX11_isBlank_6 rfl rfl ?_
    refine r_bipush dX11_isBlank_7 (by decide) ⟨by decide, by decide⟩ ?_
    refine r_icmp_ne (tgt := 16) dX11_isBlank_9 rfl (fun h3 => ?_) (fun h4 => ?_)
    · refine r_iconst dX11_isBlank_12 ⟨by decide, by decide⟩ ?_
      refine r_goto (tgt := 17) dX11_isBlank_13 rfl ?_
      exact r_iret rfl rfl (Or.inr ⟨rfl, Or.inr rfl⟩) dX11_isBlank_17
    · refine r_iconst dX11_isBlank_16 ⟨by decide, by decide⟩ ?_
      exact r_iret rfl rfl (Or.inr ⟨rfl, Or.inl rfl⟩) dX11_isBlank_17
theorem dX4_partTape_0 : decode cX4_partTape 0 = .ok (.aload_n 0, 1) := by decide +kernel
theorem dX4_partTape_1 : decode cX4_partTape 1 = .ok (.iconst 0, 1) := by decide +kernel
theorem dX4_partTape_2 : decode cX4_partTape 2 = .ok (.putfield 44, 3) := by decide +kernel
theorem dX4_partTape_5 : decode cX4_partTape 5 = .ok (.iconst 0, 1) := by decide +kernel
theorem dX4_partTape_6 : decode cX4_partTape 6 = .ok (.istore_n 1, 1) := by decide +kernel
theorem dX4_partTape_7 : decode cX4_partTape 7 = .ok (.iload_n 1, 1) := by decide +kernel
theorem dX4_partTape_8 : decode cX4_partTape 8 = .ok (.aload_n 0, 1) := by decide +kernel
theorem dX4_partTape_9 : decode cX4_partTape 9 = .ok (.getfield 24, 3) := by decide +kernel
theorem dX4_partTape_12 : decode cX4_partTape 12 = .ok (.getfield 48, 3) := by decide +kernel
theorem dX4_partTape_15 : decode cX4_partTape 15 = .ok (.if_icmp .ge 73, 3) := by decide +kernel
theorem dX4_partTape_18 : decode cX4_partTape 18 = .ok (.aload_n 0, 1) := by decide +kernel
theorem dX4_partTape_19 : decode cX4_partTape 19 = .ok (.getfield 24, 3) := by decide +kernel
theorem dX4_partTape_22 : decode cX4_partTape 22 = .ok (.iload_n 1, 1) := by decide +kernel
theorem dX4_partTape_23 : decode cX4_partTape 23 = .ok (.invokevirtual 52, 3) := by decide +kernel
theorem dX4_partTape_26 : decode cX4_partTape 26 = .ok (.istore_n 2, 1) := by decide +kernel
theorem dX4_partTape_27 : decode cX4_partTape 27 = .ok (.iload_n 1, 1) := by decide +kernel
theorem dX4_partTape_28 : decode cX4_partTape 28 = .ok (.iconst 1, 1) := by decide +kernel
theorem dX4_partTape_29 : decode cX4_partTape 29 = .ok (.iadd, 1) := by decide +kernel
theorem dX4_partTape_30 : decode cX4_partTape 30 = .ok (.istore_n 3, 1) := by decide +kernel
theorem dX4_partTape_31 : decode cX4_partTape 31 = .ok (.iload_n 2, 1) := by decide +kernel
theorem dX4_partTape_32 : decode cX4_partTape 32 = .ok (.invokestatic 56, 3) := by decide +kernel
theorem dX4_partTape_35 : decode cX4_partTape 35 = .ok (.ifCond .eq 12, 3) := by decide +kernel
theorem dX4_partTape_38 : decode cX4_partTape 38 = .ok (.aload_n 0, 1) := by decide +kernel
theorem dX4_partTape_39 : decode cX4_partTape 39 = .ok (.iload_n 1, 1) := by decide +kernel
theorem dX4_partTape_40 : decode cX4_partTape 40 = .ok (.invokevirtual 60, 3) := by decide +kernel
theorem dX4_partTape_43 : decode cX4_partTape 43 = .ok (.istore_n 3, 1) := by decide +kernel
theorem dX4_partTape_44 : decode cX4_partTape 44 = .ok (.goto 33, 3) := by decide +kernel
theorem dX4_partTape_47 : decode cX4_partTape 47 = .ok (.iload_n 2, 1) := by decide +kernel
theorem dX4_partTape_48 : decode cX4_partTape 48 = .ok (.invokestatic 63, 3) := by decide +kernel
theorem dX4_partTape_51 : decode cX4_partTape 51 = .ok (.ifCond .eq 12, 3) := by decide +kernel
theorem dX4_partTape_54 : decode cX4_partTape 54 = .ok (.aload_n 0, 1) := by decide +kernel
theorem dX4_partTape_55 : decode cX4_partTape 55 = .ok (.iload_n 1, 1) := by decide +kernel
theorem dX4_partTape_56 : decode cX4_partTape 56 = .ok (.invokevirtual 66, 3) := by decide +kernel
theorem dX4_partTape_59 : decode cX4_partTape 59 = .ok (.istore_n 3, 1) := by decide +kernel
theorem dX4_partTape_60 : decode cX4_partTape 60 = .ok (.goto 17, 3) := by decide +kernel
theorem dX4_partTape_63 : decode cX4_partTape 63 = .ok (.iload_n 2, 1) := by decide +kernel
theorem dX4_partTape_64 : decode cX4_partTape 64 = .ok (.invokestatic 69, 3) := by decide +kernel
theorem dX4_partTape_67 : decode cX4_partTape 67 = .ok (.ifCond .ne 10, 3) := by decide +kernel
theorem dX4_partTape_70 : decode cX4_partTape 70 = .ok (.aload_n 0, 1) := by decide +kernel
theorem dX4_partTape_71 : decode cX4_partTape 71 = .ok (.iconst 4, 1) := by decide +kernel
theorem dX4_partTape_72 : decode cX4_partTape 72 = .ok (.iload_n 2, 1) := by decide +kernel
theorem dX4_partTape_73 : decode cX4_partTape 73 = .ok (.iload_n 1, 1) := by decide +kernel
theorem dX4_partTape_74 : decode cX4_partTape 74 = .ok (.invokevirtual 72, 3) := by decide +kernel
theorem dX4_partTape_77 : decode cX4_partTape 77 = .ok (.iload_n 1, 1) := by decide +kernel
theorem dX4_partTape_78 : decode cX4_partTape 78 = .ok (.iconst 1, 1) := by decide +kernel
theorem dX4_partTape_79 : decode cX4_partTape 79 = .ok (.iadd, 1) := by decide +kernel
theorem dX4_partTape_80 : decode cX4_partTape 80 = .ok (.iload_n 3, 1) := by decide +kernel
theorem dX4_partTape_81 : decode cX4_partTape 81 = .ok (.invokestatic 76, 3) := by decide +kernel
theorem dX4_partTape_84 : decode cX4_partTape 84 = .ok (.istore_n 1, 1) := by decide +kernel
theorem dX4_partTape_85 : decode cX4_partTape 85 = .ok (.goto (-78), 3) := by decide +kernel
theorem dX4_partTape_88 : decode cX4_partTape 88 = .ok (.aload_n 0, 1) := by decide +kernel
theorem dX4_partTape_89 : decode cX4_partTape 89 = .ok (.iconst 0, 1) := by decide +kernel
theorem dX4_partTape_90 : decode cX4_partTape 90 = .ok (.iconst 0, 1) := by decide +kernel
theorem dX4_partTape_91 : decode cX4_partTape 91 = .ok (.aload_n 0, 1) := by decide +kernel
theorem dX4_partTape_92 : decode cX4_partTape 92 = .ok (.getfield 24, 3) := by decide +kernel
theorem dX4_partTape_95 : decode cX4_partTape 95 = .ok (.getfield 48, 3) := by decide +kernel
theorem dX4_partTape_98 : decode cX4_partTape 98 = .ok (.invokevirtual 72, 3) := by decide +kernel
theorem dX4_partTape_101 : decode cX4_partTape 101 = .ok (.return_, 1) := by decide +kernel
set_option maxRecDepth 100000 in
theorem tj_X4_partTape_77 {g : GT} {n nf : Int} (hu : Up true nf n) (w7 : Mem → Int → Res) (hw7 : ∀ (M : Mem) (x1 : Int), AW g true RX4 cX4_partTape 4 none (3) n n nf 7 [(0, 2, 5), (1, 0, x1)] [] n M (w7 M x1)) (M : Mem) (x1 x3 : Int) : AW g true RX4 cX4_partTape 4 none (3) n n nf 77 [(0, 2, 5), (1, 0, x1), (3, 0, x3)] [] n M (j_X4_partTape_77 w7 M x1 x3) := by
  unfold j_X4_partTape_77
  refine r_iload_n 1 dX4_partTape_77 rfl rfl ?_
  refine r_iconst dX4_partTape_78 ⟨by decide, by decide⟩ ?_
  refine r_ok (fun h24 => ?_)
  refine r_iadd dX4_partTape_79 h24 ?_
  refine r_iload_n 2 dX4_partTape_80 rfl rfl ?_
  refine r_ins (a := 0) ⟨Nat.le_refl _, Nat.le_refl _⟩ dX4_partTape_81 kM_X4_76 (by decide) (by decide) [(0, x1 + 1), (0, x3)] rfl (sk := []) rfl (Nat.le_of_ble_eq_true rfl) rfl rfl (m_J9_max_7cf53 hu M (x1 + 1) x3) (fun r25 M26 => ?_)
  refine r_istore_n dX4_partTape_84 rfl (by decide) (ls' := [(1, 0, r25), (0, 2, 5), (3, 0, x3)]) rfl ?_
  refine r_goto (tgt := 7) dX4_partTape_85 rfl ?_
  refine r_sub [1, 0] (ls' := [(0, 2, 5), (1, 0, r25)]) rfl ?_
  exact hw7 M26 r25
set_option maxRecDepth 100000 in
theorem tb_X4_partTape_7 {g : GT} {n nf : Int} (hu : Up true nf n) (w7 : Mem → Int → Res) (hw7 : ∀ (M : Mem) (x1 : Int), AW g true RX4 cX4_partTape 4 none (3) n n nf 7 [(0, 2, 5), (1, 0, x1)] [] n M (w7 M x1)) (M : Mem) (x1 : Int) : AW g true RX4 cX4_partTape 4 none (3) n n nf 7 [(0, 2, 5), (1, 0, x1)] [] n M (b_X4_partTape_7 w7 M x1) := by
  unfold b_X4_partTape_7
  refine r_iload_n 1 dX4_partTape_7 rfl rfl ?_
  refine r_aload_n 0 dX4_partTape_8 rfl rfl ?_
  refine r_gx (kz := 0) rfl hu dX4_partTape_9 kF_X4_24 kd_5 rfl rfl rfl fx_5_0 ?_
  refine r_gf (t := 0) (kz := 1) rfl hu dX4_partTape_12 kF_X4_48 kd_2 rfl rfl rfl ?_
  refine r_icmp_ge (tgt := 88) dX4_partTape_15 rfl (fun h2 => ?_) (fun h3 => ?_)
  · refine r_aload_n 0 dX4_partTape_88 rfl rfl ?_
    refine r_iconst dX4_partTape_89 ⟨by decide, by decide⟩ ?_
    refine r_iconst dX4_partTape_90 ⟨by decide, by decide⟩ ?_
    refine r_aload_n 0 dX4_partTape_91 rfl rfl ?_
    refine r_gx (kz := 0) rfl hu dX4_partTape_92 kF_X4_24 kd_5 rfl rfl rfl fx_5_0 ?_
    refine r_gf (t := 0) (kz := 1) rfl hu dX4_partTape_95 kF_X4_48 kd_2 rfl rfl rfl ?_
    refine r_invv (a := 5) hu ⟨Nat.le_refl _, Nat.le_refl _⟩ dX4_partTape_98 kM_X4_72 (ci := 4) rfl kd_5 rfl rfl (by decide) (by decide) [(0, 0), (0, 0), (0, M 2 1)] rfl (sk := []) rfl (Nat.le_of_ble_eq_true rfl) rfl (m_X4_add hu M 0 0 (M 2 1)) (fun r4 M5 => ?_)
    exact r_vret rfl rfl dX4_partTape_101
  · refine r_aload_n 0 dX4_partTape_18 rfl rfl ?_
    refine r_gx (kz := 0) rfl hu dX4_partTape_19 kF_X4_24 kd_5 rfl rfl rfl fx_5_0 ?_
    refine r_iload_n 1 dX4_partTape_22 rfl rfl ?_
    refine r_inv (a := 2) hu ⟨Nat.le_refl _, Nat.le_refl _⟩ dX4_partTape_23 kM_X4_52 (ci := 9) rfl kd_2 rfl rfl (by decide) (by decide) [(0, x1)] rfl (sk := []) rfl (Nat.le_of_ble_eq_true rfl) rfl rfl (m_X9_at hu M x1) (fun r6 M7 => ?_)
    refine r_istore_n dX4_partTape_26 rfl (by decide) (ls' := [(2, 0, r6), (0, 2, 5), (1, 0, x1)]) rfl ?_
    refine r_iload_n 2 dX4_partTape_27 rfl rfl ?_
    refine r_iconst dX4_partTape_28 ⟨by decide, by decide⟩ ?_
    refine r_ok (fun h8 => ?_)
    refine r_iadd dX4_partTape_29 h8 ?_
    refine r_istore_nB dX4_partTape_30 rfl (by decide) (lf := fun y9 => [(3, 0, y9), (2, 0, r6), (0, 2, 5), (1, 0, x1)]) (fun _ => rfl) (fun y9 ey9 => ?_)
    refine r_iload_n 1 dX4_partTape_31 rfl rfl ?_
    refine r_ins (a := 0) ⟨Nat.le_refl _, Nat.le_refl _⟩ dX4_partTape_32 kM_X4_56 (by decide) (by decide) [(0, r6)] rfl (sk := []) rfl (Nat.le_of_ble_eq_true rfl) rfl rfl (m_X11_isLetter hu M7 r6) (fun r10 M11 => ?_)
    refine r_if_eq (tgt := 47) dX4_partTape_35 rfl (fun h12 => ?_) (fun h13 => ?_)
    · refine r_iload_n 1 dX4_partTape_47 rfl rfl ?_
      refine r_ins (a := 0) ⟨Nat.le_refl _, Nat.le_refl _⟩ dX4_partTape_48 kM_X4_63 (by decide) (by decide) [(0, r6)] rfl (sk := []) rfl (Nat.le_of_ble_eq_true rfl) rfl rfl (m_X11_isDigit hu M11 r6) (fun r14 M15 => ?_)
      refine r_if_eq (tgt := 63) dX4_partTape_51 rfl (fun h16 => ?_) (fun h17 => ?_)
      · refine r_iload_n 1 dX4_partTape_63 rfl rfl ?_
        refine r_ins (a := 0) ⟨Nat.le_refl _, Nat.le_refl _⟩ dX4_partTape_64 kM_X4_69 (by decide) (by decide) [(0, r6)] rfl (sk := []) rfl (Nat.le_of_ble_eq_true rfl) rfl rfl (m_X11_isBlank hu M15 r6) (fun r18 M19 => ?_)
        refine r_if_ne (tgt := 77) dX4_partTape_67 rfl (fun h20 => ?_) (fun h21 => ?_)
        · refine r_aload_n 2 dX4_partTape_70 rfl rfl ?_
          refine r_iconst dX4_partTape_71 ⟨by decide, by decide⟩ ?_
          refine r_iload_n 1 dX4_partTape_72 rfl rfl ?_
          refine r_iload_n 3 dX4_partTape_73 rfl rfl ?_
          refine r_invv (a := 5) hu ⟨Nat.le_refl _, Nat.le_refl _⟩ dX4_partTape_74 kM_X4_72 (ci := 4) rfl kd_5 rfl rfl (by decide) (by decide) [(0, 4), (0, r6), (0, x1)] rfl (sk := []) rfl (Nat.le_of_ble_eq_true rfl) rfl (m_X4_add hu M19 4 r6 x1) (fun r22 M23 => ?_)
          refine r_sub [2, 3, 0] (ls' := [(0, 2, 5), (1, 0, x1), (3, 0, y9)]) rfl ?_
          exact tj_X4_partTape_77 hu w7 hw7 M23 x1 y9
        · refine r_sub [2, 3, 0] (ls' := [(0, 2, 5), (1, 0, x1), (3, 0, y9)]) rfl ?_
          exact tj_X4_partTape_77 hu w7 hw7 M19 x1 y9
      · refine r_aload_n 2 dX4_partTape_54 rfl rfl ?_
        refine r_iload_n 3 dX4_partTape_55 rfl rfl ?_
        refine r_inv (a := 5) hu ⟨Nat.le_refl _, Nat.le_refl _⟩ dX4_partTape_56 kM_X4_66 (ci := 4) rfl kd_5 rfl rfl (by decide) (by decide) [(0, x1)] rfl (sk := []) rfl (Nat.le_of_ble_eq_true rfl) rfl rfl (m_X4_addNumber hu M15 x1) (fun r27 M28 => ?_)
        refine r_istore_n dX4_partTape_59 rfl (by decide) (ls' := [(3, 0, r27), (2, 0, r6), (0, 2, 5), (1, 0, x1)]) rfl ?_
        refine r_goto (tgt := 77) dX4_partTape_60 rfl ?_
        refine r_sub [2, 3, 0] (ls' := [(0, 2, 5), (1, 0, x1), (3, 0, r27)]) rfl ?_
        exact tj_X4_partTape_77 hu w7 hw7 M28 x1 r27
    · refine r_aload_n 2 dX4_partTape_38 rfl rfl ?_
      refine r_iload_n 3 dX4_partTape_39 rfl rfl ?_
      refine r_inv (a := 5) hu ⟨Nat.le_refl _, Nat.le_refl _⟩ dX4_partTape_40 kM_X4_60 (ci := 4) rfl kd_5 rfl rfl (by decide) (by decide) [(0, x1)] rfl (sk := []) rfl (Nat.le_of_ble_eq_true rfl) rfl rfl (m_X4_addWord hu M11 x1) (fun r29 M30 => ?_)
      refine r_istore_n dX4_partTape_43 rfl (by decide) (ls' := [(3, 0, r29), (2, 0, r6), (0, 2, 5), (1, 0, x1)]) rfl ?_
      refine r_goto (tgt := 77) dX4_partTape_44 rfl ?_
      refine r_sub [2, 3, 0] (ls' := [(0, 2, 5), (1, 0, x1), (3, 0, r29)]) rfl ?_
      exact tj_X4_partTape_77 hu w7 hw7 M30 x1 r29
set_option maxRecDepth 100000 in
theorem m_X4_partTape {g : GT} {n nf : Int} (hu : Up true nf n) (M : Mem) : AM g true yX4_partTape cX4_partTape 4 none (3) n n nf [(2, 5)] M (f_X4_partTape M) := by
  refine AM_of (by decide +kernel) (Nat.le_of_ble_eq_true rfl) (fun h => absurd h (Int.lt_irrefl n)) ?_
  show AW g true RX4 cX4_partTape 4 none (3) n n nf 0 [(0, 2, 5)] [] n M (f_X4_partTape M)
  unfold f_X4_partTape
  refine r_aload_n 0 dX4_partTape_0 rfl rfl ?_
  refine r_iconst dX4_partTape_1 ⟨by decide, by decide⟩ ?_
  refine r_pf (t := 0) (kz := 5) rfl hu dX4_partTape_2 kF_X4_44 kd_5 rfl rfl rfl (fun h => absurd h (by decide)) rfl kX_4_5 (fun M1 eM1 => ?_)
  refine r_iconst dX4_partTape_5 ⟨by decide, by decide⟩ ?_
  refine r_istore_n dX4_partTape_6 rfl (by decide) (ls' := [(1, 0, 0), (0, 2, 5)]) rfl ?_
  refine r_sub [1, 0] (ls' := [(0, 2, 5), (1, 0, 0)]) rfl ?_
  exact wl1_aw (P := fun M x1 o => AW g true RX4 cX4_partTape 4 none (3) n n nf 7 [(0, 2, 5), (1, 0, x1)] [] n M (o)) (fun M x1 => aw_none) (fun w hw M x1 => tb_X4_partTape_7 hu w hw M x1) FU M1 0
theorem dX7_empty_0 : decode cX7_empty 0 = .ok (.aload_n 0, 1) := by decide +kernel
theorem dX7_empty_1 : decode cX7_empty 1 = .ok (.iconst 0, 1) := by decide +kernel
theorem dX7_empty_2 : decode cX7_empty 2 = .ok (.putfield 25, 3) := by decide +kernel
theorem dX7_empty_5 : decode cX7_empty 5 = .ok (.aload_n 0, 1) := by decide +kernel
theorem dX7_empty_6 : decode cX7_empty 6 = .ok (.iconst 0, 1) := by decide +kernel
theorem dX7_empty_7 : decode cX7_empty 7 = .ok (.putfield 29, 3) := by decide +kernel
theorem dX7_empty_10 : decode cX7_empty 10 = .ok (.aload_n 0, 1) := by decide +kernel
theorem dX7_empty_11 : decode cX7_empty 11 = .ok (.iconst 0, 1) := by decide +kernel
theorem dX7_empty_12 : decode cX7_empty 12 = .ok (.putfield 32, 3) := by decide +kernel
theorem dX7_empty_15 : decode cX7_empty 15 = .ok (.return_, 1) := by decide +kernel
set_option maxRecDepth 100000 in
theorem m_X7_empty {g : GT} {n nf : Int} (hu : Up true nf n) (M : Mem) (a0 : Int) (hk0 : kd a0 = 17) : AM g true yX7_empty cX7_empty 1 none (0) n n nf [(2, a0)] M (f_X7_empty M a0) := by
  refine AM_of (by decide +kernel) (Nat.le_of_ble_eq_true rfl) (fun h => absurd h (Int.lt_irrefl n)) ?_
  show AW g true RX7 cX7_empty 1 none (0) n n nf 0 [(0, 2, a0)] [] n M (f_X7_empty M a0)
  unfold f_X7_empty
  refine r_aload_n 0 dX7_empty_0 rfl rfl ?_
  refine r_iconst dX7_empty_1 ⟨by decide, by decide⟩ ?_
  refine r_pf (t := 0) (kz := 1) rfl hu dX7_empty_2 kF_X7_25 hk0 rfl rfl rfl (fun h => absurd h (by decide)) rfl kX_7_1 (fun M1 eM1 => ?_)
  refine r_aload_n 0 dX7_empty_5 rfl rfl ?_
  refine r_iconst dX7_empty_6 ⟨by decide, by decide⟩ ?_
  refine r_pf (t := 0) (kz := 3) rfl hu dX7_empty_7 kF_X7_29 hk0 rfl rfl rfl (fun h => absurd h (by decide)) rfl kX_7_3 (fun M2 eM2 => ?_)
  refine r_aload_n 0 dX7_empty_10 rfl rfl ?_
  refine r_iconst dX7_empty_11 ⟨by decide, by decide⟩ ?_
  refine r_pf (t := 0) (kz := 5) rfl hu dX7_empty_12 kF_X7_32 hk0 rfl rfl rfl (fun h => absurd h (by decide)) rfl kX_7_5 (fun M3 eM3 => ?_)
  exact r_vret rfl rfl dX7_empty_15
theorem dX5_step_0 : decode cX5_step 0 = .ok (.aload_n 0, 1) := by decide +kernel
theorem dX5_step_1 : decode cX5_step 1 = .ok (.getfield 45, 3) := by decide +kernel
theorem dX5_step_4 : decode cX5_step 4 = .ok (.aload_n 0, 1) := by decide +kernel
theorem dX5_step_5 : decode cX5_step 5 = .ok (.getfield 20, 3) := by decide +kernel
theorem dX5_step_8 : decode cX5_step 8 = .ok (.getfield 59, 3) := by decide +kernel
theorem dX5_step_11 : decode cX5_step 11 = .ok (.iconst 1, 1) := by decide +kernel
theorem dX5_step_12 : decode cX5_step 12 = .ok (.isub, 1) := by decide +kernel
theorem dX5_step_13 : decode cX5_step 13 = .ok (.if_icmp .ge 13, 3) := by decide +kernel
theorem dX5_step_16 : decode cX5_step 16 = .ok (.aload_n 0, 1) := by decide +kernel
theorem dX5_step_17 : decode cX5_step 17 = .ok (.dup, 1) := by decide +kernel
theorem dX5_step_18 : decode cX5_step 18 = .ok (.getfield 45, 3) := by decide +kernel
theorem dX5_step_21 : decode cX5_step 21 = .ok (.iconst 1, 1) := by decide +kernel
theorem dX5_step_22 : decode cX5_step 22 = .ok (.iadd, 1) := by decide +kernel
theorem dX5_step_23 : decode cX5_step 23 = .ok (.putfield 45, 3) := by decide +kernel
theorem dX5_step_26 : decode cX5_step 26 = .ok (.aload_n 0, 1) := by decide +kernel
theorem dX5_step_27 : decode cX5_step 27 = .ok (.aload_n 0, 1) := by decide +kernel
theorem dX5_step_28 : decode cX5_step 28 = .ok (.getfield 20, 3) := by decide +kernel
theorem dX5_step_31 : decode cX5_step 31 = .ok (.getfield 62, 3) := by decide +kernel
theorem dX5_step_34 : decode cX5_step 34 = .ok (.aload_n 0, 1) := by decide +kernel
theorem dX5_step_35 : decode cX5_step 35 = .ok (.getfield 45, 3) := by decide +kernel
theorem dX5_step_38 : decode cX5_step 38 = .ok (.iaload, 1) := by decide +kernel
theorem dX5_step_39 : decode cX5_step 39 = .ok (.putfield 66, 3) := by decide +kernel
theorem dX5_step_42 : decode cX5_step 42 = .ok (.aload_n 0, 1) := by decide +kernel
theorem dX5_step_43 : decode cX5_step 43 = .ok (.aload_n 0, 1) := by decide +kernel
theorem dX5_step_44 : decode cX5_step 44 = .ok (.getfield 20, 3) := by decide +kernel
theorem dX5_step_47 : decode cX5_step 47 = .ok (.getfield 69, 3) := by decide +kernel
theorem dX5_step_50 : decode cX5_step 50 = .ok (.aload_n 0, 1) := by decide +kernel
theorem dX5_step_51 : decode cX5_step 51 = .ok (.getfield 45, 3) := by decide +kernel
theorem dX5_step_54 : decode cX5_step 54 = .ok (.iaload, 1) := by decide +kernel
theorem dX5_step_55 : decode cX5_step 55 = .ok (.putfield 72, 3) := by decide +kernel
theorem dX5_step_58 : decode cX5_step 58 = .ok (.aload_n 0, 1) := by decide +kernel
theorem dX5_step_59 : decode cX5_step 59 = .ok (.aload_n 0, 1) := by decide +kernel
theorem dX5_step_60 : decode cX5_step 60 = .ok (.getfield 20, 3) := by decide +kernel
theorem dX5_step_63 : decode cX5_step 63 = .ok (.getfield 75, 3) := by decide +kernel
theorem dX5_step_66 : decode cX5_step 66 = .ok (.aload_n 0, 1) := by decide +kernel
theorem dX5_step_67 : decode cX5_step 67 = .ok (.getfield 45, 3) := by decide +kernel
theorem dX5_step_70 : decode cX5_step 70 = .ok (.iaload, 1) := by decide +kernel
theorem dX5_step_71 : decode cX5_step 71 = .ok (.putfield 78, 3) := by decide +kernel
theorem dX5_step_74 : decode cX5_step 74 = .ok (.aload_n 0, 1) := by decide +kernel
theorem dX5_step_75 : decode cX5_step 75 = .ok (.aload_n 0, 1) := by decide +kernel
theorem dX5_step_76 : decode cX5_step 76 = .ok (.getfield 66, 3) := by decide +kernel
theorem dX5_step_79 : decode cX5_step 79 = .ok (.iconst 2, 1) := by decide +kernel
theorem dX5_step_80 : decode cX5_step 80 = .ok (.if_icmp .ne 10, 3) := by decide +kernel
theorem dX5_step_83 : decode cX5_step 83 = .ok (.aload_n 0, 1) := by decide +kernel
theorem dX5_step_84 : decode cX5_step 84 = .ok (.getfield 72, 3) := by decide +kernel
theorem dX5_step_87 : decode cX5_step 87 = .ok (.goto 4, 3) := by decide +kernel
theorem dX5_step_90 : decode cX5_step 90 = .ok (.iconst (-1), 1) := by decide +kernel
theorem dX5_step_91 : decode cX5_step 91 = .ok (.putfield 81, 3) := by decide +kernel
theorem dX5_step_94 : decode cX5_step 94 = .ok (.return_, 1) := by decide +kernel
set_option maxRecDepth 100000 in
theorem tj_X5_step_26 {g : GT} {n nf : Int} (hu : Up true nf n) (M : Mem) : AW g true RX5 cX5_step 1 none (0) n n nf 26 [(0, 2, 4)] [] n M (j_X5_step_26 M) := by
  unfold j_X5_step_26
  refine r_aload_n 0 dX5_step_26 rfl rfl ?_
  refine r_aload_n 0 dX5_step_27 rfl rfl ?_
  refine r_gx (kz := 0) rfl hu dX5_step_28 kF_X5_20 kd_4 rfl rfl rfl fx_4_0 ?_
  refine r_gx (kz := 2) rfl hu dX5_step_31 kF_X5_62 kd_5 rfl rfl rfl fx_5_2 ?_
  refine r_aload_n 0 dX5_step_34 rfl rfl ?_
  refine r_gf (t := 0) (kz := 6) rfl hu dX5_step_35 kF_X5_45 kd_4 rfl rfl rfl ?_
  refine r_ok (fun h4 => ?_)
  refine r_iald hu dX5_step_38 kd_7 rfl (Or.inl rfl) rfl ln_7 h4 ?_
  refine r_pf (t := 0) (kz := 7) rfl hu dX5_step_39 kF_X5_66 kd_4 rfl rfl rfl (fun h => absurd h (by decide)) rfl kX_5_7 (fun M5 eM5 => ?_)
  refine r_aload_n 0 dX5_step_42 rfl rfl ?_
  refine r_aload_n 0 dX5_step_43 rfl rfl ?_
  refine r_gx (kz := 0) rfl hu dX5_step_44 kF_X5_20 kd_4 rfl rfl rfl fx_4_0 ?_
  refine r_gx (kz := 3) rfl hu dX5_step_47 kF_X5_69 kd_5 rfl rfl rfl fx_5_3 ?_
  refine r_aload_n 0 dX5_step_50 rfl rfl ?_
  refine r_gf (t := 0) (kz := 6) rfl hu dX5_step_51 kF_X5_45 kd_4 rfl rfl rfl ?_
  refine r_ok (fun h6 => ?_)
  refine r_iald hu dX5_step_54 kd_8 rfl (Or.inl rfl) rfl ln_8 h6 ?_
  refine r_pf (t := 0) (kz := 8) rfl hu dX5_step_55 kF_X5_72 kd_4 rfl rfl rfl (fun h => absurd h (by decide)) rfl kX_5_8 (fun M7 eM7 => ?_)
  refine r_aload_n 0 dX5_step_58 rfl rfl ?_
  refine r_aload_n 0 dX5_step_59 rfl rfl ?_
  refine r_gx (kz := 0) rfl hu dX5_step_60 kF_X5_20 kd_4 rfl rfl rfl fx_4_0 ?_
  refine r_gx (kz := 4) rfl hu dX5_step_63 kF_X5_75 kd_5 rfl rfl rfl fx_5_4 ?_
  refine r_aload_n 0 dX5_step_66 rfl rfl ?_
  refine r_gf (t := 0) (kz := 6) rfl hu dX5_step_67 kF_X5_45 kd_4 rfl rfl rfl ?_
  refine r_ok (fun h8 => ?_)
  refine r_iald hu dX5_step_70 kd_9 rfl (Or.inl rfl) rfl ln_9 h8 ?_
  refine r_pf (t := 0) (kz := 9) rfl hu dX5_step_71 kF_X5_78 kd_4 rfl rfl rfl (fun h => absurd h (by decide)) rfl kX_5_9 (fun M9 eM9 => ?_)
  refine r_aload_n 0 dX5_step_74 rfl rfl ?_
  refine r_aload_n 0 dX5_step_75 rfl rfl ?_
  refine r_gf (t := 0) (kz := 7) rfl hu dX5_step_76 kF_X5_66 kd_4 rfl rfl rfl ?_
  refine r_iconst dX5_step_79 ⟨by decide, by decide⟩ ?_
  refine r_icmp_ne (tgt := 90) dX5_step_80 rfl (fun h10 => ?_) (fun h11 => ?_)
  · refine r_aload_n 0 dX5_step_83 rfl rfl ?_
    refine r_gf (t := 0) (kz := 8) rfl hu dX5_step_84 kF_X5_72 kd_4 rfl rfl rfl ?_
    refine r_goto (tgt := 91) dX5_step_87 rfl ?_
    refine r_pf (t := 0) (kz := 10) rfl hu dX5_step_91 kF_X5_81 kd_4 rfl rfl rfl (fun h => absurd h (by decide)) rfl kX_5_10 (fun M12 eM12 => ?_)
    exact r_vret rfl rfl dX5_step_94
  · refine r_iconst dX5_step_90 ⟨by decide, by decide⟩ ?_
    refine r_pf (t := 0) (kz := 10) rfl hu dX5_step_91 kF_X5_81 kd_4 rfl rfl rfl (fun h => absurd h (by decide)) rfl kX_5_10 (fun M13 eM13 => ?_)
    exact r_vret rfl rfl dX5_step_94
set_option maxRecDepth 100000 in
theorem m_X5_step {g : GT} {n nf : Int} (hu : Up true nf n) (M : Mem) : AM g true yX5_step cX5_step 1 none (0) n n nf [(2, 4)] M (f_X5_step M) := by
  refine AM_of (by decide +kernel) (Nat.le_of_ble_eq_true rfl) (fun h => absurd h (Int.lt_irrefl n)) ?_
  show AW g true RX5 cX5_step 1 none (0) n n nf 0 [(0, 2, 4)] [] n M (f_X5_step M)
  unfold f_X5_step
  refine r_aload_n 0 dX5_step_0 rfl rfl ?_
  refine r_gf (t := 0) (kz := 6) rfl hu dX5_step_1 kF_X5_45 kd_4 rfl rfl rfl ?_
  refine r_aload_n 0 dX5_step_4 rfl rfl ?_
  refine r_gx (kz := 0) rfl hu dX5_step_5 kF_X5_20 kd_4 rfl rfl rfl fx_4_0 ?_
  refine r_gf (t := 0) (kz := 5) rfl hu dX5_step_8 kF_X5_59 kd_5 rfl rfl rfl ?_
  refine r_iconst dX5_step_11 ⟨by decide, by decide⟩ ?_
  refine r_ok (fun h1 => ?_)
  refine r_isub dX5_step_12 h1 ?_
  refine r_icmp_ge (tgt := 26) dX5_step_13 rfl (fun h2 => ?_) (fun h3 => ?_)
  · exact tj_X5_step_26 hu M
  · refine r_aload_n 0 dX5_step_16 rfl rfl ?_
    refine r_dup dX5_step_17 (nz2 _) ?_
    refine r_gf (t := 0) (kz := 6) rfl hu dX5_step_18 kF_X5_45 kd_4 rfl rfl rfl ?_
    refine r_iconst dX5_step_21 ⟨by decide, by decide⟩ ?_
    refine r_ok (fun h14 => ?_)
    refine r_iadd dX5_step_22 h14 ?_
    refine r_pf (t := 0) (kz := 6) rfl hu dX5_step_23 kF_X5_45 kd_4 rfl rfl rfl (fun h => absurd h (by decide)) rfl kX_5_6 (fun M15 eM15 => ?_)
    exact tj_X5_step_26 hu M15
theorem dX5_isSign_0 : decode cX5_isSign 0 = .ok (.aload_n 0, 1) := by decide +kernel
theorem dX5_isSign_1 : decode cX5_isSign 1 = .ok (.getfield 66, 3) := by decide +kernel
theorem dX5_isSign_4 : decode cX5_isSign 4 = .ok (.iconst 4, 1) := by decide +kernel
theorem dX5_isSign_5 : decode cX5_isSign 5 = .ok (.if_icmp .ne 15, 3) := by decide +kernel
theorem dX5_isSign_8 : decode cX5_isSign 8 = .ok (.aload_n 0, 1) := by decide +kernel
theorem dX5_isSign_9 : decode cX5_isSign 9 = .ok (.getfield 72, 3) := by decide +kernel
theorem dX5_isSign_12 : decode cX5_isSign 12 = .ok (.iload_n 1, 1) := by decide +kernel
theorem dX5_isSign_13 : decode cX5_isSign 13 = .ok (.if_icmp .ne 7, 3) := by decide +kernel
theorem dX5_isSign_16 : decode cX5_isSign 16 = .ok (.iconst 1, 1) := by decide +kernel
theorem dX5_isSign_17 : decode cX5_isSign 17 = .ok (.goto 4, 3) := by decide +kernel
theorem dX5_isSign_20 : decode cX5_isSign 20 = .ok (.iconst 0, 1) := by decide +kernel
theorem dX5_isSign_21 : decode cX5_isSign 21 = .ok (.ireturn, 1) := by decide +kernel
set_option maxRecDepth 100000 in
theorem m_X5_isSign {g : GT} {n nf : Int} (hu : Up true nf n) (M : Mem) (a1 : Int) : AM g true yX5_isSign cX5_isSign 2 (some .boolean) (0) n n nf [(2, 4), (0, a1)] M (f_X5_isSign M a1) := by
  refine AM_of (by decide +kernel) (Nat.le_of_ble_eq_true rfl) (fun h => absurd h (Int.lt_irrefl n)) ?_
  show AW g true RX5 cX5_isSign 2 (some .boolean) (0) n n nf 0 [(0, 2, 4), (1, 0, a1)] [] n M (f_X5_isSign M a1)
  unfold f_X5_isSign
  refine r_aload_n 0 dX5_isSign_0 rfl rfl ?_
  refine r_gf (t := 0) (kz := 7) rfl hu dX5_isSign_1 kF_X5_66 kd_4 rfl rfl rfl ?_
  refine r_iconst dX5_isSign_4 ⟨by decide, by decide⟩ ?_
  refine r_icmp_ne (tgt := 20) dX5_isSign_5 rfl (fun h1 => ?_) (fun h2 => ?_)
  · refine r_aload_n 0 dX5_isSign_8 rfl rfl ?_
    refine r_gf (t := 0) (kz := 8) rfl hu dX5_isSign_9 kF_X5_72 kd_4 rfl rfl rfl ?_
    refine r_iload_n 1 dX5_isSign_12 rfl rfl ?_
    refine r_icmp_ne (tgt := 20) dX5_isSign_13 rfl (fun h3 => ?_) (fun h4 => ?_)
    · refine r_iconst dX5_isSign_16 ⟨by decide, by decide⟩ ?_
      refine r_goto (tgt := 21) dX5_isSign_17 rfl ?_
      exact r_iret rfl rfl (Or.inr ⟨rfl, Or.inr rfl⟩) dX5_isSign_21
    · refine r_iconst dX5_isSign_20 ⟨by decide, by decide⟩ ?_
      exact r_iret rfl rfl (Or.inr ⟨rfl, Or.inl rfl⟩) dX5_isSign_21
  · refine r_iconst dX5_isSign_20 ⟨by decide, by decide⟩ ?_
    exact r_iret rfl rfl (Or.inr ⟨rfl, Or.inl rfl⟩) dX5_isSign_21
theorem dX5_refused_0 : decode cX5_refused 0 = .ok (.aload_n 0, 1) := by decide +kernel
theorem dX5_refused_1 : decode cX5_refused 1 = .ok (.iload_n 1, 1) := by decide +kernel
theorem dX5_refused_2 : decode cX5_refused 2 = .ok (.putfield 34, 3) := by decide +kernel
theorem dX5_refused_5 : decode cX5_refused 5 = .ok (.aload_n 0, 1) := by decide +kernel
theorem dX5_refused_6 : decode cX5_refused 6 = .ok (.iload_n 2, 1) := by decide +kernel
theorem dX5_refused_7 : decode cX5_refused 7 = .ok (.putfield 9, 3) := by decide +kernel
theorem dX5_refused_10 : decode cX5_refused 10 = .ok (.iconst 0, 1) := by decide +kernel
theorem dX5_refused_11 : decode cX5_refused 11 = .ok (.ireturn, 1) := by decide +kernel
set_option maxRecDepth 100000 in
theorem m_X5_refused {g : GT} {n nf : Int} (hu : Up true nf n) (M : Mem) (a1 a2 : Int) : AM g true yX5_refused cX5_refused 3 (some .boolean) (0) n n nf [(2, 4), (0, a1), (0, a2)] M (f_X5_refused M a1 a2) := by
  refine AM_of (by decide +kernel) (Nat.le_of_ble_eq_true rfl) (fun h => absurd h (Int.lt_irrefl n)) ?_
  show AW g true RX5 cX5_refused 3 (some .boolean) (0) n n nf 0 [(0, 2, 4), (1, 0, a1), (2, 0, a2)] [] n M (f_X5_refused M a1 a2)
  unfold f_X5_refused
  refine r_aload_n 0 dX5_refused_0 rfl rfl ?_
  refine r_iload_n 1 dX5_refused_1 rfl rfl ?_
  refine r_pf (t := 0) (kz := 4) rfl hu dX5_refused_2 kF_X5_34 kd_4 rfl rfl rfl (fun h => absurd h (by decide)) rfl kX_5_4 (fun M1 eM1 => ?_)
  refine r_aload_n 0 dX5_refused_5 rfl rfl ?_
  refine r_iload_n 2 dX5_refused_6 rfl rfl ?_
  refine r_pf (t := 0) (kz := 5) rfl hu dX5_refused_7 kF_X5_9 kd_4 rfl rfl rfl (fun h => absurd h (by decide)) rfl kX_5_5 (fun M2 eM2 => ?_)
  refine r_iconst dX5_refused_10 ⟨by decide, by decide⟩ ?_
  exact r_iret rfl rfl (Or.inr ⟨rfl, Or.inl rfl⟩) dX5_refused_11
theorem dX5_isStatementWord_0 : decode cX5_isStatementWord 0 = .ok (.aload_n 0, 1) := by decide +kernel
theorem dX5_isStatementWord_1 : decode cX5_isStatementWord 1 = .ok (.getfield 24, 3) := by decide +kernel
theorem dX5_isStatementWord_4 : decode cX5_isStatementWord 4 = .ok (.lookupswitch 80 #[(0, 28), (1, 57)], 28) := by decide +kernel
theorem dX5_isStatementWord_32 : decode cX5_isStatementWord 32 = .ok (.aload_n 0, 1) := by decide +kernel
theorem dX5_isStatementWord_33 : decode cX5_isStatementWord 33 = .ok (.getfield 81, 3) := by decide +kernel
theorem dX5_isStatementWord_36 : decode cX5_isStatementWord 36 = .ok (.ifCond .eq 19, 3) := by decide +kernel
theorem dX5_isStatementWord_39 : decode cX5_isStatementWord 39 = .ok (.aload_n 0, 1) := by decide +kernel
theorem dX5_isStatementWord_40 : decode cX5_isStatementWord 40 = .ok (.getfield 81, 3) := by decide +kernel
theorem dX5_isStatementWord_43 : decode cX5_isStatementWord 43 = .ok (.iconst 1, 1) := by decide +kernel
theorem dX5_isStatementWord_44 : decode cX5_isStatementWord 44 = .ok (.if_icmp .eq 11, 3) := by decide +kernel
theorem dX5_isStatementWord_47 : decode cX5_isStatementWord 47 = .ok (.aload_n 0, 1) := by decide +kernel
theorem dX5_isStatementWord_48 : decode cX5_isStatementWord 48 = .ok (.getfield 81, 3) := by decide +kernel
theorem dX5_isStatementWord_51 : decode cX5_isStatementWord 51 = .ok (.iconst 2, 1) := by decide +kernel
theorem dX5_isStatementWord_52 : decode cX5_isStatementWord 52 = .ok (.if_icmp .ne 7, 3) := by decide +kernel
theorem dX5_isStatementWord_55 : decode cX5_isStatementWord 55 = .ok (.iconst 1, 1) := by decide +kernel
theorem dX5_isStatementWord_56 : decode cX5_isStatementWord 56 = .ok (.goto 4, 3) := by decide +kernel
theorem dX5_isStatementWord_59 : decode cX5_isStatementWord 59 = .ok (.iconst 0, 1) := by decide +kernel
theorem dX5_isStatementWord_60 : decode cX5_isStatementWord 60 = .ok (.ireturn, 1) := by decide +kernel
theorem dX5_isStatementWord_61 : decode cX5_isStatementWord 61 = .ok (.aload_n 0, 1) := by decide +kernel
theorem dX5_isStatementWord_62 : decode cX5_isStatementWord 62 = .ok (.getfield 81, 3) := by decide +kernel
theorem dX5_isStatementWord_65 : decode cX5_isStatementWord 65 = .ok (.iconst 3, 1) := by decide +kernel
theorem dX5_isStatementWord_66 : decode cX5_isStatementWord 66 = .ok (.if_icmp .eq 12, 3) := by decide +kernel
theorem dX5_isStatementWord_69 : decode cX5_isStatementWord 69 = .ok (.aload_n 0, 1) := by decide +kernel
theorem dX5_isStatementWord_70 : decode cX5_isStatementWord 70 = .ok (.getfield 81, 3) := by decide +kernel
theorem dX5_isStatementWord_73 : decode cX5_isStatementWord 73 = .ok (.bipush 6, 2) := by decide +kernel
theorem dX5_isStatementWord_75 : decode cX5_isStatementWord 75 = .ok (.if_icmp .ne 7, 3) := by decide +kernel
theorem dX5_isStatementWord_78 : decode cX5_isStatementWord 78 = .ok (.iconst 1, 1) := by decide +kernel
theorem dX5_isStatementWord_79 : decode cX5_isStatementWord 79 = .ok (.goto 4, 3) := by decide +kernel
theorem dX5_isStatementWord_82 : decode cX5_isStatementWord 82 = .ok (.iconst 0, 1) := by decide +kernel
theorem dX5_isStatementWord_83 : decode cX5_isStatementWord 83 = .ok (.ireturn, 1) := by decide +kernel
theorem dX5_isStatementWord_84 : decode cX5_isStatementWord 84 = .ok (.aload_n 0, 1) := by decide +kernel
theorem dX5_isStatementWord_85 : decode cX5_isStatementWord 85 = .ok (.getfield 81, 3) := by decide +kernel
theorem dX5_isStatementWord_88 : decode cX5_isStatementWord 88 = .ok (.bipush 7, 2) := by decide +kernel
theorem dX5_isStatementWord_90 : decode cX5_isStatementWord 90 = .ok (.if_icmp .eq 12, 3) := by decide +kernel
theorem dX5_isStatementWord_93 : decode cX5_isStatementWord 93 = .ok (.aload_n 0, 1) := by decide +kernel
theorem dX5_isStatementWord_94 : decode cX5_isStatementWord 94 = .ok (.getfield 81, 3) := by decide +kernel
theorem dX5_isStatementWord_97 : decode cX5_isStatementWord 97 = .ok (.bipush 8, 2) := by decide +kernel
theorem dX5_isStatementWord_99 : decode cX5_isStatementWord 99 = .ok (.if_icmp .ne 7, 3) := by decide +kernel
theorem dX5_isStatementWord_102 : decode cX5_isStatementWord 102 = .ok (.iconst 1, 1) := by decide +kernel
theorem dX5_isStatementWord_103 : decode cX5_isStatementWord 103 = .ok (.goto 4, 3) := by decide +kernel
theorem dX5_isStatementWord_106 : decode cX5_isStatementWord 106 = .ok (.iconst 0, 1) := by decide +kernel
theorem dX5_isStatementWord_107 : decode cX5_isStatementWord 107 = .ok (.ireturn, 1) := by decide +kernel
set_option maxRecDepth 100000 in
theorem m_X5_isStatementWord {g : GT} {n nf : Int} (hu : Up true nf n) (M : Mem) : AM g true yX5_isStatementWord cX5_isStatementWord 1 (some .boolean) (0) n n nf [(2, 4)] M (f_X5_isStatementWord M) := by
  refine AM_of (by decide +kernel) (Nat.le_of_ble_eq_true rfl) (fun h => absurd h (Int.lt_irrefl n)) ?_
  show AW g true RX5 cX5_isStatementWord 1 (some .boolean) (0) n n nf 0 [(0, 2, 4)] [] n M (f_X5_isStatementWord M)
  unfold f_X5_isStatementWord
  refine r_aload_n 0 dX5_isStatementWord_0 rfl rfl ?_
  refine r_gf (t := 0) (kz := 3) rfl hu dX5_isStatementWord_1 kF_X5_24 kd_4 rfl rfl rfl ?_
  refine r_lsw (tgt := 32) (off := 28) 0 dX5_isStatementWord_4 (by decide) (by decide) rfl (fun h1 => ?_) (fun h2 => ?_)
  · refine r_aload_n 0 dX5_isStatementWord_32 rfl rfl ?_
    refine r_gf (t := 0) (kz := 10) rfl hu dX5_isStatementWord_33 kF_X5_81 kd_4 rfl rfl rfl ?_
    refine r_if_eq (tgt := 55) dX5_isStatementWord_36 rfl (fun h3 => ?_) (fun h4 => ?_)
    · refine r_iconst dX5_isStatementWord_55 ⟨by decide, by decide⟩ ?_
      refine r_goto (tgt := 60) dX5_isStatementWord_56 rfl ?_
      exact r_iret rfl rfl (Or.inr ⟨rfl, Or.inr rfl⟩) dX5_isStatementWord_60
    · refine r_aload_n 0 dX5_isStatementWord_39 rfl rfl ?_
      refine r_gf (t := 0) (kz := 10) rfl hu dX5_isStatementWord_40 kF_X5_81 kd_4 rfl rfl rfl ?_
      refine r_iconst dX5_isStatementWord_43 ⟨by decide, by decide⟩ ?_
      refine r_icmp_eq (tgt := 55) dX5_isStatementWord_44 rfl (fun h5 => ?_) (fun h6 => ?_)
      · refine r_iconst dX5_isStatementWord_55 ⟨by decide, by decide⟩ ?_
        refine r_goto (tgt := 60) dX5_isStatementWord_56 rfl ?_
        exact r_iret rfl rfl (Or.inr ⟨rfl, Or.inr rfl⟩) dX5_isStatementWord_60
      · refine r_aload_n 0 dX5_isStatementWord_47 rfl rfl ?_
        refine r_gf (t := 0) (kz := 10) rfl hu dX5_isStatementWord_48 kF_X5_81 kd_4 rfl rfl rfl ?_
        refine r_iconst dX5_isStatementWord_51 ⟨by decide, by decide⟩ ?_
        refine r_icmp_ne (tgt := 59) dX5_isStatementWord_52 rfl (fun h7 => ?_) (fun h8 => ?_)
        · refine r_iconst dX5_isStatementWord_55 ⟨by decide, by decide⟩ ?_
          refine r_goto (tgt := 60) dX5_isStatementWord_56 rfl ?_
          exact r_iret rfl rfl (Or.inr ⟨rfl, Or.inr rfl⟩) dX5_isStatementWord_60
        · refine r_iconst dX5_isStatementWord_59 ⟨by decide, by decide⟩ ?_
          exact r_iret rfl rfl (Or.inr ⟨rfl, Or.inl rfl⟩) dX5_isStatementWord_60
  · refine r_lsw (tgt := 61) (off := 57) 1 dX5_isStatementWord_4 (by decide) (by decide) rfl (fun h9 => ?_) (fun h10 => ?_)
    · refine r_aload_n 0 dX5_isStatementWord_61 rfl rfl ?_
      refine r_gf (t := 0) (kz := 10) rfl hu dX5_isStatementWord_62 kF_X5_81 kd_4 rfl rfl rfl ?_
      refine r_iconst dX5_isStatementWord_65 ⟨by decide, by decide⟩ ?_
      refine r_icmp_eq (tgt := 78) dX5_isStatementWord_66 rfl (fun h11 => ?_) (fun h12 => ?_)
      · refine r_iconst dX5_isStatementWord_78 ⟨by decide, by decide⟩ ?_
        refine r_goto (tgt := 83) dX5_isStatementWord_79 rfl ?_
        exact r_iret rfl rfl (Or.inr ⟨rfl, Or.inr rfl⟩) dX5_isStatementWord_83
      · refine r_aload_n 0 dX5_isStatementWord_69 rfl rfl ?_
        refine r_gf (t := 0) (kz := 10) rfl hu dX5_isStatementWord_70 kF_X5_81 kd_4 rfl rfl rfl ?_
        refine r_bipush dX5_isStatementWord_73 (by decide) ⟨by decide, by decide⟩ ?_
        refine r_icmp_ne (tgt := 82) dX5_isStatementWord_75 rfl (fun h13 => ?_) (fun h14 => ?_)
        · refine r_iconst dX5_isStatementWord_78 ⟨by decide, by decide⟩ ?_
          refine r_goto (tgt := 83) dX5_isStatementWord_79 rfl ?_
          exact r_iret rfl rfl (Or.inr ⟨rfl, Or.inr rfl⟩) dX5_isStatementWord_83
        · refine r_iconst dX5_isStatementWord_82 ⟨by decide, by decide⟩ ?_
          exact r_iret rfl rfl (Or.inr ⟨rfl, Or.inl rfl⟩) dX5_isStatementWord_83
    · refine r_lswd (tgt := 84) dX5_isStatementWord_4 (by decide) (off := 80) (by simp [Op.lookupswitch.offset, h2, h10, Ne.symm h2, Ne.symm h10]) rfl ?_
      refine r_aload_n 0 dX5_isStatementWord_84 rfl rfl ?_
      refine r_gf (t := 0) (kz := 10) rfl hu dX5_isStatementWord_85 kF_X5_81 kd_4 rfl rfl rfl ?_
      refine r_bipush dX5_isStatementWord_88 (by decide) ⟨by decide, by decide⟩ ?_
      refine r_icmp_eq (tgt := 102) dX5_isStatementWord_90 rfl (fun h15 => ?_) (fun h16 => ?_)
      · refine r_iconst dX5_isStatementWord_102 ⟨by decide, by decide⟩ ?_
        refine r_goto (tgt := 107) dX5_isStatementWord_103 rfl ?_
        exact r_iret rfl rfl (Or.inr ⟨rfl, Or.inr rfl⟩) dX5_isStatementWord_107
      · refine r_aload_n 0 dX5_isStatementWord_93 rfl rfl ?_
        refine r_gf (t := 0) (kz := 10) rfl hu dX5_isStatementWord_94 kF_X5_81 kd_4 rfl rfl rfl ?_
        refine r_bipush dX5_isStatementWord_97 (by decide) ⟨by decide, by decide⟩ ?_
        refine r_icmp_ne (tgt := 106) dX5_isStatementWord_99 rfl (fun h17 => ?_) (fun h18 => ?_)
        · refine r_iconst dX5_isStatementWord_102 ⟨by decide, by decide⟩ ?_
          refine r_goto (tgt := 107) dX5_isStatementWord_103 rfl ?_
          exact r_iret rfl rfl (Or.inr ⟨rfl, Or.inr rfl⟩) dX5_isStatementWord_107
        · refine r_iconst dX5_isStatementWord_106 ⟨by decide, by decide⟩ ?_
          exact r_iret rfl rfl (Or.inr ⟨rfl, Or.inl rfl⟩) dX5_isStatementWord_107
theorem dX7_begun_0 : decode cX7_begun 0 = .ok (.aload_n 0, 1) := by decide +kernel
theorem dX7_begun_1 : decode cX7_begun 1 = .ok (.getfield 11, 3) := by decide +kernel
theorem dX7_begun_4 : decode cX7_begun 4 = .ok (.aload_n 0, 1) := by decide +kernel
theorem dX7_begun_5 : decode cX7_begun 5 = .ok (.getfield 25, 3) := by decide +kernel
theorem dX7_begun_8 : decode cX7_begun 8 = .ok (.bipush 39, 2) := by decide +kernel
theorem dX7_begun_10 : decode cX7_begun 10 = .ok (.invokestatic 35, 3) := by decide +kernel
theorem dX7_begun_13 : decode cX7_begun 13 = .ok (.aaload, 1) := by decide +kernel
theorem dX7_begun_14 : decode cX7_begun 14 = .ok (.astore_n 2, 1) := by decide +kernel
theorem dX7_begun_15 : decode cX7_begun 15 = .ok (.aload_n 0, 1) := by decide +kernel
theorem dX7_begun_16 : decode cX7_begun 16 = .ok (.aload_n 0, 1) := by decide +kernel
theorem dX7_begun_17 : decode cX7_begun 17 = .ok (.getfield 25, 3) := by decide +kernel
theorem dX7_begun_20 : decode cX7_begun 20 = .ok (.iconst 1, 1) := by decide +kernel
theorem dX7_begun_21 : decode cX7_begun 21 = .ok (.iadd, 1) := by decide +kernel
theorem dX7_begun_22 : decode cX7_begun 22 = .ok (.bipush 40, 2) := by decide +kernel
theorem dX7_begun_24 : decode cX7_begun 24 = .ok (.invokestatic 35, 3) := by decide +kernel
theorem dX7_begun_27 : decode cX7_begun 27 = .ok (.putfield 25, 3) := by decide +kernel
theorem dX7_begun_30 : decode cX7_begun 30 = .ok (.aload_n 2, 1) := by decide +kernel
theorem dX7_begun_31 : decode cX7_begun 31 = .ok (.iload_n 1, 1) := by decide +kernel
theorem dX7_begun_32 : decode cX7_begun 32 = .ok (.putfield 41, 3) := by decide +kernel
theorem dX7_begun_35 : decode cX7_begun 35 = .ok (.aload_n 2, 1) := by decide +kernel
theorem dX7_begun_36 : decode cX7_begun 36 = .ok (.aload_n 0, 1) := by decide +kernel
theorem dX7_begun_37 : decode cX7_begun 37 = .ok (.getfield 25, 3) := by decide +kernel
theorem dX7_begun_40 : decode cX7_begun 40 = .ok (.putfield 44, 3) := by decide +kernel
theorem dX7_begun_43 : decode cX7_begun 43 = .ok (.aload_n 2, 1) := by decide +kernel
theorem dX7_begun_44 : decode cX7_begun 44 = .ok (.areturn, 1) := by decide +kernel
set_option maxRecDepth 100000 in
theorem m_X7_begun {g : GT} {n nf : Int} (hu : Up true nf n) (M : Mem) (a0 a1 : Int) (hk0 : kd a0 = 17) : AM g true yX7_begun cX7_begun 3 (some (.object "BlindSide$Statement")) (1) n n nf [(2, a0), (0, a1)] M (f_X7_begun M a0 a1) := by
  refine AM_of (by decide +kernel) (Nat.le_of_ble_eq_true rfl) (fun h => absurd h (Int.lt_irrefl n)) ?_
  show AW g true RX7 cX7_begun 3 (some (.object "BlindSide$Statement")) (1) n n nf 0 [(0, 2, a0), (1, 0, a1)] [] n M (f_X7_begun M a0 a1)
  unfold f_X7_begun
  refine r_aload_n 0 dX7_begun_0 rfl rfl ?_
  refine r_gx (kz := 0) rfl hu dX7_begun_1 kF_X7_11 hk0 rfl rfl rfl (fxS0 _ hk0) ?_
  refine r_aload_n 0 dX7_begun_4 rfl rfl ?_
  refine r_gf (t := 0) (kz := 1) rfl hu dX7_begun_5 kF_X7_25 hk0 rfl rfl rfl ?_
  refine r_bipush dX7_begun_8 (by decide) ⟨by decide, by decide⟩ ?_
  refine r_ins (a := 0) ⟨Nat.le_refl _, Nat.le_refl _⟩ dX7_begun_10 kM_X7_35 (by decide) (by decide) [(0, M a0 1), (0, 39)] rfl (sk := [(2, a0 + 1)]) rfl (Nat.le_of_ble_eq_true rfl) rfl rfl (m_J9_min_7cf53 hu M (M a0 1) 39) (fun r1 M2 => ?_)
  refine r_ok (fun h3 => ?_)
  refine r_aalx hu dX7_begun_13 (kdS _ hk0).1 (Or.inr (Or.inl rfl)) rfl (kdS _ hk0).2.1 h3 (fxSt _ hk0 _ h3) ?_
  refine r_astore_n dX7_begun_14 rfl (by decide) (ls' := [(2, 2, a0 + 4 + r1), (0, 2, a0), (1, 0, a1)]) rfl ?_
  refine r_aload_n 1 dX7_begun_15 rfl rfl ?_
  refine r_aload_n 1 dX7_begun_16 rfl rfl ?_
  refine r_gf (t := 0) (kz := 1) rfl hu dX7_begun_17 kF_X7_25 hk0 rfl rfl rfl ?_
  refine r_iconst dX7_begun_20 ⟨by decide, by decide⟩ ?_
  refine r_ok (fun h4 => ?_)
  refine r_iadd dX7_begun_21 h4 ?_
  refine r_bipush dX7_begun_22 (by decide) ⟨by decide, by decide⟩ ?_
  refine r_ins (a := 0) ⟨Nat.le_refl _, Nat.le_refl _⟩ dX7_begun_24 kM_X7_35 (by decide) (by decide) [(0, (M2 a0 1) + 1), (0, 40)] rfl (sk := [(2, a0)]) rfl (Nat.le_of_ble_eq_true rfl) rfl rfl (m_J9_min_7cf53 hu M2 ((M2 a0 1) + 1) 40) (fun r5 M6 => ?_)
  refine r_pf (t := 0) (kz := 1) rfl hu dX7_begun_27 kF_X7_25 hk0 rfl rfl rfl (fun h => absurd h (by decide)) rfl kX_7_1 (fun M7 eM7 => ?_)
  refine r_aload_n 0 dX7_begun_30 rfl rfl ?_
  refine r_iload_n 2 dX7_begun_31 rfl rfl ?_
  refine r_pf (t := 0) (kz := 0) rfl hu dX7_begun_32 kF_X7_41 (kdSt _ hk0 _ h3) rfl rfl rfl (fun h => absurd h (by decide)) rfl kX_8_0 (fun M8 eM8 => ?_)
  refine r_aload_n 0 dX7_begun_35 rfl rfl ?_
  refine r_aload_n 1 dX7_begun_36 rfl rfl ?_
  refine r_gf (t := 0) (kz := 1) rfl hu dX7_begun_37 kF_X7_25 hk0 rfl rfl rfl ?_
  refine r_pf (t := 0) (kz := 9) rfl hu dX7_begun_40 kF_X7_44 (kdSt _ hk0 _ h3) rfl rfl rfl (fun h => absurd h (by decide)) rfl kX_8_9 (fun M9 eM9 => ?_)
  refine r_aload_n 0 dX7_begun_43 rfl rfl ?_
  exact r_aret rfl rfl dX7_begun_44
theorem dX5_takenNumber_0 : decode cX5_takenNumber 0 = .ok (.aload_n 0, 1) := by decide +kernel
theorem dX5_takenNumber_1 : decode cX5_takenNumber 1 = .ok (.getfield 72, 3) := by decide +kernel
theorem dX5_takenNumber_4 : decode cX5_takenNumber 4 = .ok (.istore_n 3, 1) := by decide +kernel
theorem dX5_takenNumber_5 : decode cX5_takenNumber 5 = .ok (.aload_n 0, 1) := by decide +kernel
theorem dX5_takenNumber_6 : decode cX5_takenNumber 6 = .ok (.getfield 66, 3) := by decide +kernel
theorem dX5_takenNumber_9 : decode cX5_takenNumber 9 = .ok (.bipush 6, 2) := by decide +kernel
theorem dX5_takenNumber_11 : decode cX5_takenNumber 11 = .ok (.if_icmp .ne 18, 3) := by decide +kernel
theorem dX5_takenNumber_14 : decode cX5_takenNumber 14 = .ok (.aload_n 0, 1) := by decide +kernel
theorem dX5_takenNumber_15 : decode cX5_takenNumber 15 = .ok (.iconst 1, 1) := by decide +kernel
theorem dX5_takenNumber_16 : decode cX5_takenNumber 16 = .ok (.aload_n 0, 1) := by decide +kernel
theorem dX5_takenNumber_17 : decode cX5_takenNumber 17 = .ok (.getfield 78, 3) := by decide +kernel
theorem dX5_takenNumber_20 : decode cX5_takenNumber 20 = .ok (.iconst 4, 1) := by decide +kernel
theorem dX5_takenNumber_21 : decode cX5_takenNumber 21 = .ok (.iadd, 1) := by decide +kernel
theorem dX5_takenNumber_22 : decode cX5_takenNumber 22 = .ok (.invokevirtual 89, 3) := by decide +kernel
theorem dX5_takenNumber_25 : decode cX5_takenNumber 25 = .ok (.pop, 1) := by decide +kernel
theorem dX5_takenNumber_26 : decode cX5_takenNumber 26 = .ok (.goto 53, 3) := by decide +kernel
theorem dX5_takenNumber_29 : decode cX5_takenNumber 29 = .ok (.aload_n 0, 1) := by decide +kernel
theorem dX5_takenNumber_30 : decode cX5_takenNumber 30 = .ok (.getfield 66, 3) := by decide +kernel
theorem dX5_takenNumber_33 : decode cX5_takenNumber 33 = .ok (.iconst 3, 1) := by decide +kernel
theorem dX5_takenNumber_34 : decode cX5_takenNumber 34 = .ok (.if_icmp .eq 16, 3) := by decide +kernel
theorem dX5_takenNumber_37 : decode cX5_takenNumber 37 = .ok (.aload_n 0, 1) := by decide +kernel
theorem dX5_takenNumber_38 : decode cX5_takenNumber 38 = .ok (.iconst 1, 1) := by decide +kernel
theorem dX5_takenNumber_39 : decode cX5_takenNumber 39 = .ok (.aload_n 0, 1) := by decide +kernel
theorem dX5_takenNumber_40 : decode cX5_takenNumber 40 = .ok (.getfield 78, 3) := by decide +kernel
theorem dX5_takenNumber_43 : decode cX5_takenNumber 43 = .ok (.invokevirtual 89, 3) := by decide +kernel
theorem dX5_takenNumber_46 : decode cX5_takenNumber 46 = .ok (.pop, 1) := by decide +kernel
theorem dX5_takenNumber_47 : decode cX5_takenNumber 47 = .ok (.goto 32, 3) := by decide +kernel
theorem dX5_takenNumber_50 : decode cX5_takenNumber 50 = .ok (.iload_n 3, 1) := by decide +kernel
theorem dX5_takenNumber_51 : decode cX5_takenNumber 51 = .ok (.iload_n 1, 1) := by decide +kernel
theorem dX5_takenNumber_52 : decode cX5_takenNumber 52 = .ok (.if_icmp .lt 8, 3) := by decide +kernel
theorem dX5_takenNumber_55 : decode cX5_takenNumber 55 = .ok (.iload_n 3, 1) := by decide +kernel
theorem dX5_takenNumber_56 : decode cX5_takenNumber 56 = .ok (.iload_n 2, 1) := by decide +kernel
theorem dX5_takenNumber_57 : decode cX5_takenNumber 57 = .ok (.if_icmp .le 16, 3) := by decide +kernel
theorem dX5_takenNumber_60 : decode cX5_takenNumber 60 = .ok (.aload_n 0, 1) := by decide +kernel
theorem dX5_takenNumber_61 : decode cX5_takenNumber 61 = .ok (.iconst 2, 1) := by decide +kernel
theorem dX5_takenNumber_62 : decode cX5_takenNumber 62 = .ok (.aload_n 0, 1) := by decide +kernel
theorem dX5_takenNumber_63 : decode cX5_takenNumber 63 = .ok (.getfield 78, 3) := by decide +kernel
theorem dX5_takenNumber_66 : decode cX5_takenNumber 66 = .ok (.invokevirtual 89, 3) := by decide +kernel
theorem dX5_takenNumber_69 : decode cX5_takenNumber 69 = .ok (.pop, 1) := by decide +kernel
theorem dX5_takenNumber_70 : decode cX5_takenNumber 70 = .ok (.goto 9, 3) := by decide +kernel
theorem dX5_takenNumber_73 : decode cX5_takenNumber 73 = .ok (.aload_n 0, 1) := by decide +kernel
theorem dX5_takenNumber_74 : decode cX5_takenNumber 74 = .ok (.invokevirtual 48, 3) := by decide +kernel
theorem dX5_takenNumber_77 : decode cX5_takenNumber 77 = .ok (.iload_n 3, 1) := by decide +kernel
theorem dX5_takenNumber_78 : decode cX5_takenNumber 78 = .ok (.ireturn, 1) := by decide +kernel
theorem dX5_takenNumber_79 : decode cX5_takenNumber 79 = .ok (.iconst (-1), 1) := by decide +kernel
theorem dX5_takenNumber_80 : decode cX5_takenNumber 80 = .ok (.ireturn, 1) := by decide +kernel
set_option maxRecDepth 100000 in
theorem tj_X5_takenNumber_60 {g : GT} {n nf : Int} (hu : Up true nf n) (M : Mem) : AW g true RX5 cX5_takenNumber 4 (some .int) (1) n n nf 60 [(0, 2, 4)] [] n M (j_X5_takenNumber_60 M) := by
  unfold j_X5_takenNumber_60
  refine r_aload_n 0 dX5_takenNumber_60 rfl rfl ?_
  refine r_iconst dX5_takenNumber_61 ⟨by decide, by decide⟩ ?_
  refine r_aload_n 0 dX5_takenNumber_62 rfl rfl ?_
  refine r_gf (t := 0) (kz := 9) rfl hu dX5_takenNumber_63 kF_X5_78 kd_4 rfl rfl rfl ?_
  refine r_inv (a := 4) hu ⟨Nat.le_refl _, Nat.le_refl _⟩ dX5_takenNumber_66 kM_X5_89 (ci := 5) rfl kd_4 rfl rfl (by decide) (by decide) [(0, 2), (0, M 4 9)] rfl (sk := []) rfl (Nat.le_of_ble_eq_true rfl) rfl rfl (m_X5_refused hu M 2 (M 4 9)) (fun r11 M12 => ?_)
  refine r_pop dX5_takenNumber_69 (nz0 _) ?_
  refine r_goto (tgt := 79) dX5_takenNumber_70 rfl ?_
  refine r_iconst dX5_takenNumber_79 ⟨by decide, by decide⟩ ?_
  exact r_iret rfl rfl (Or.inl rfl) dX5_takenNumber_80
set_option maxRecDepth 100000 in
theorem m_X5_takenNumber {g : GT} {n nf : Int} (hu : Up true nf n) (M : Mem) (a1 a2 : Int) : AM g true yX5_takenNumber cX5_takenNumber 4 (some .int) (1) n n nf [(2, 4), (0, a1), (0, a2)] M (f_X5_takenNumber M a1 a2) := by
  refine AM_of (by decide +kernel) (Nat.le_of_ble_eq_true rfl) (fun h => absurd h (Int.lt_irrefl n)) ?_
  show AW g true RX5 cX5_takenNumber 4 (some .int) (1) n n nf 0 [(0, 2, 4), (1, 0, a1), (2, 0, a2)] [] n M (f_X5_takenNumber M a1 a2)
  unfold f_X5_takenNumber
  refine r_aload_n 0 dX5_takenNumber_0 rfl rfl ?_
  refine r_gf (t := 0) (kz := 8) rfl hu dX5_takenNumber_1 kF_X5_72 kd_4 rfl rfl rfl ?_
  refine r_istore_nB dX5_takenNumber_4 rfl (by decide) (lf := fun y1 => [(3, 0, y1), (0, 2, 4), (1, 0, a1), (2, 0, a2)]) (fun _ => rfl) (fun y1 ey1 => ?_)
  refine r_aload_n 1 dX5_takenNumber_5 rfl rfl ?_
  refine r_gf (t := 0) (kz := 7) rfl hu dX5_takenNumber_6 kF_X5_66 kd_4 rfl rfl rfl ?_
  refine r_bipush dX5_takenNumber_9 (by decide) ⟨by decide, by decide⟩ ?_
  refine r_icmp_ne (tgt := 29) dX5_takenNumber_11 rfl (fun h2 => ?_) (fun h3 => ?_)
  · refine r_aload_n 1 dX5_takenNumber_14 rfl rfl ?_
    refine r_iconst dX5_takenNumber_15 ⟨by decide, by decide⟩ ?_
    refine r_aload_n 1 dX5_takenNumber_16 rfl rfl ?_
    refine r_gf (t := 0) (kz := 9) rfl hu dX5_takenNumber_17 kF_X5_78 kd_4 rfl rfl rfl ?_
    refine r_iconst dX5_takenNumber_20 ⟨by decide, by decide⟩ ?_
    refine r_ok (fun h4 => ?_)
    refine r_iadd dX5_takenNumber_21 h4 ?_
    refine r_inv (a := 4) hu ⟨Nat.le_refl _, Nat.le_refl _⟩ dX5_takenNumber_22 kM_X5_89 (ci := 5) rfl kd_4 rfl rfl (by decide) (by decide) [(0, 1), (0, (M 4 9) + 4)] rfl (sk := []) rfl (Nat.le_of_ble_eq_true rfl) rfl rfl (m_X5_refused hu M 1 ((M 4 9) + 4)) (fun r5 M6 => ?_)
    refine r_pop dX5_takenNumber_25 (nz0 _) ?_
    refine r_goto (tgt := 79) dX5_takenNumber_26 rfl ?_
    refine r_iconst dX5_takenNumber_79 ⟨by decide, by decide⟩ ?_
    exact r_iret rfl rfl (Or.inl rfl) dX5_takenNumber_80
  · refine r_aload_n 1 dX5_takenNumber_29 rfl rfl ?_
    refine r_gf (t := 0) (kz := 7) rfl hu dX5_takenNumber_30 kF_X5_66 kd_4 rfl rfl rfl ?_
    refine r_iconst dX5_takenNumber_33 ⟨by decide, by decide⟩ ?_
    refine r_icmp_eq (tgt := 50) dX5_takenNumber_34 rfl (fun h7 => ?_) (fun h8 => ?_)
    · refine r_iload_n 0 dX5_takenNumber_50 rfl rfl ?_
      refine r_iload_n 2 dX5_takenNumber_51 rfl rfl ?_
      refine r_icmp_lt (tgt := 60) dX5_takenNumber_52 rfl (fun h9 => ?_) (fun h10 => ?_)
      · refine r_sub [1] (ls' := [(0, 2, 4)]) rfl ?_
        exact tj_X5_takenNumber_60 hu M
      · refine r_iload_n 0 dX5_takenNumber_55 rfl rfl ?_
        refine r_iload_n 3 dX5_takenNumber_56 rfl rfl ?_
        refine r_icmp_le (tgt := 73) dX5_takenNumber_57 rfl (fun h13 => ?_) (fun h14 => ?_)
        · refine r_aload_n 1 dX5_takenNumber_73 rfl rfl ?_
          refine r_invv (a := 4) hu ⟨Nat.le_refl _, Nat.le_refl _⟩ dX5_takenNumber_74 kM_X5_48 (ci := 5) rfl kd_4 rfl rfl (by decide) (by decide) [] rfl (sk := []) rfl (Nat.le_of_ble_eq_true rfl) rfl (m_X5_step hu M) (fun r15 M16 => ?_)
          refine r_iload_n 0 dX5_takenNumber_77 rfl rfl ?_
          exact r_iret rfl rfl (Or.inl rfl) dX5_takenNumber_78
        · refine r_sub [1] (ls' := [(0, 2, 4)]) rfl ?_
          exact tj_X5_takenNumber_60 hu M
    · refine r_aload_n 1 dX5_takenNumber_37 rfl rfl ?_
      refine r_iconst dX5_takenNumber_38 ⟨by decide, by decide⟩ ?_
      refine r_aload_n 1 dX5_takenNumber_39 rfl rfl ?_
      refine r_gf (t := 0) (kz := 9) rfl hu dX5_takenNumber_40 kF_X5_78 kd_4 rfl rfl rfl ?_
      refine r_inv (a := 4) hu ⟨Nat.le_refl _, Nat.le_refl _⟩ dX5_takenNumber_43 kM_X5_89 (ci := 5) rfl kd_4 rfl rfl (by decide) (by decide) [(0, 1), (0, M 4 9)] rfl (sk := []) rfl (Nat.le_of_ble_eq_true rfl) rfl rfl (m_X5_refused hu M 1 (M 4 9)) (fun r17 M18 => ?_)
      refine r_pop dX5_takenNumber_46 (nz0 _) ?_
      refine r_goto (tgt := 79) dX5_takenNumber_47 rfl ?_
      refine r_iconst dX5_takenNumber_79 ⟨by decide, by decide⟩ ?_
      exact r_iret rfl rfl (Or.inl rfl) dX5_takenNumber_80
theorem dX5_readSquare_0 : decode cX5_readSquare 0 = .ok (.aload_n 1, 1) := by decide +kernel
theorem dX5_readSquare_1 : decode cX5_readSquare 1 = .ok (.aload_n 0, 1) := by decide +kernel
theorem dX5_readSquare_2 : decode cX5_readSquare 2 = .ok (.iconst 0, 1) := by decide +kernel
theorem dX5_readSquare_3 : decode cX5_readSquare 3 = .ok (.bipush 11, 2) := by decide +kernel
theorem dX5_readSquare_5 : decode cX5_readSquare 5 = .ok (.invokevirtual 171, 3) := by decide +kernel
theorem dX5_readSquare_8 : decode cX5_readSquare 8 = .ok (.putfield 175, 3) := by decide +kernel
theorem dX5_readSquare_11 : decode cX5_readSquare 11 = .ok (.aload_n 1, 1) := by decide +kernel
theorem dX5_readSquare_12 : decode cX5_readSquare 12 = .ok (.getfield 175, 3) := by decide +kernel
theorem dX5_readSquare_15 : decode cX5_readSquare 15 = .ok (.iconst (-1), 1) := by decide +kernel
theorem dX5_readSquare_16 : decode cX5_readSquare 16 = .ok (.if_icmp .ne 5, 3) := by decide +kernel
theorem dX5_readSquare_19 : decode cX5_readSquare 19 = .ok (.iconst 0, 1) := by decide +kernel
theorem dX5_readSquare_20 : decode cX5_readSquare 20 = .ok (.ireturn, 1) := by decide +kernel
theorem dX5_readSquare_21 : decode cX5_readSquare 21 = .ok (.aload_n 1, 1) := by decide +kernel
theorem dX5_readSquare_22 : decode cX5_readSquare 22 = .ok (.aload_n 0, 1) := by decide +kernel
theorem dX5_readSquare_23 : decode cX5_readSquare 23 = .ok (.iconst 0, 1) := by decide +kernel
theorem dX5_readSquare_24 : decode cX5_readSquare 24 = .ok (.bipush 7, 2) := by decide +kernel
theorem dX5_readSquare_26 : decode cX5_readSquare 26 = .ok (.invokevirtual 171, 3) := by decide +kernel
theorem dX5_readSquare_29 : decode cX5_readSquare 29 = .ok (.putfield 178, 3) := by decide +kernel
theorem dX5_readSquare_32 : decode cX5_readSquare 32 = .ok (.aload_n 1, 1) := by decide +kernel
theorem dX5_readSquare_33 : decode cX5_readSquare 33 = .ok (.getfield 178, 3) := by decide +kernel
theorem dX5_readSquare_36 : decode cX5_readSquare 36 = .ok (.iconst (-1), 1) := by decide +kernel
theorem dX5_readSquare_37 : decode cX5_readSquare 37 = .ok (.if_icmp .eq 7, 3) := by decide +kernel
theorem dX5_readSquare_40 : decode cX5_readSquare 40 = .ok (.iconst 1, 1) := by decide +kernel
theorem dX5_readSquare_41 : decode cX5_readSquare 41 = .ok (.goto 4, 3) := by decide +kernel
theorem dX5_readSquare_44 : decode cX5_readSquare 44 = .ok (.iconst 0, 1) := by decide +kernel
theorem dX5_readSquare_45 : decode cX5_readSquare 45 = .ok (.ireturn, 1) := by decide +kernel
set_option maxRecDepth 100000 in
theorem m_X5_readSquare {g : GT} {n nf : Int} (hu : Up true nf n) (M : Mem) (a1 : Int) (hk1 : kd a1 = 18) : AM g true yX5_readSquare cX5_readSquare 2 (some .boolean) (2) n n nf [(2, 4), (2, a1)] M (f_X5_readSquare M a1) := by
  refine AM_of (by decide +kernel) (Nat.le_of_ble_eq_true rfl) (fun h => absurd h (Int.lt_irrefl n)) ?_
  show AW g true RX5 cX5_readSquare 2 (some .boolean) (2) n n nf 0 [(0, 2, 4), (1, 2, a1)] [] n M (f_X5_readSquare M a1)
  unfold f_X5_readSquare
  refine r_aload_n 1 dX5_readSquare_0 rfl rfl ?_
  refine r_aload_n 0 dX5_readSquare_1 rfl rfl ?_
  refine r_iconst dX5_readSquare_2 ⟨by decide, by decide⟩ ?_
  refine r_bipush dX5_readSquare_3 (by decide) ⟨by decide, by decide⟩ ?_
  refine r_inv (a := 4) hu ⟨Nat.le_refl _, Nat.le_refl _⟩ dX5_readSquare_5 kM_X5_171 (ci := 5) rfl kd_4 rfl rfl (by decide) (by decide) [(0, 0), (0, 11)] rfl (sk := [(2, a1)]) rfl (Nat.le_of_ble_eq_true rfl) rfl rfl (m_X5_takenNumber hu M 0 11) (fun r1 M2 => ?_)
  refine r_pf (t := 0) (kz := 3) rfl hu dX5_readSquare_8 kF_X5_175 hk1 rfl rfl rfl (fun h => absurd h (by decide)) rfl kX_8_3 (fun M3 eM3 => ?_)
  refine r_aload_n 1 dX5_readSquare_11 rfl rfl ?_
  refine r_gf (t := 0) (kz := 3) rfl hu dX5_readSquare_12 kF_X5_175 hk1 rfl rfl rfl ?_
  refine r_iconst dX5_readSquare_15 ⟨by decide, by decide⟩ ?_
  refine r_icmp_ne (tgt := 21) dX5_readSquare_16 rfl (fun h4 => ?_) (fun h5 => ?_)
  · refine r_iconst dX5_readSquare_19 ⟨by decide, by decide⟩ ?_
    exact r_iret rfl rfl (Or.inr ⟨rfl, Or.inl rfl⟩) dX5_readSquare_20
  · refine r_aload_n 1 dX5_readSquare_21 rfl rfl ?_
    refine r_aload_n 0 dX5_readSquare_22 rfl rfl ?_
    refine r_iconst dX5_readSquare_23 ⟨by decide, by decide⟩ ?_
    refine r_bipush dX5_readSquare_24 (by decide) ⟨by decide, by decide⟩ ?_
    refine r_inv (a := 4) hu ⟨Nat.le_refl _, Nat.le_refl _⟩ dX5_readSquare_26 kM_X5_171 (ci := 5) rfl kd_4 rfl rfl (by decide) (by decide) [(0, 0), (0, 7)] rfl (sk := [(2, a1)]) rfl (Nat.le_of_ble_eq_true rfl) rfl rfl (m_X5_takenNumber hu M3 0 7) (fun r6 M7 => ?_)
    refine r_pf (t := 0) (kz := 4) rfl hu dX5_readSquare_29 kF_X5_178 hk1 rfl rfl rfl (fun h => absurd h (by decide)) rfl kX_8_4 (fun M8 eM8 => ?_)
    refine r_aload_n 1 dX5_readSquare_32 rfl rfl ?_
    refine r_gf (t := 0) (kz := 4) rfl hu dX5_readSquare_33 kF_X5_178 hk1 rfl rfl rfl ?_
    refine r_iconst dX5_readSquare_36 ⟨by decide, by decide⟩ ?_
    refine r_icmp_eq (tgt := 44) dX5_readSquare_37 rfl (fun h9 => ?_) (fun h10 => ?_)
    · refine r_iconst dX5_readSquare_44 ⟨by decide, by decide⟩ ?_
      exact r_iret rfl rfl (Or.inr ⟨rfl, Or.inl rfl⟩) dX5_readSquare_45
    · refine r_iconst dX5_readSquare_40 ⟨by decide, by decide⟩ ?_
      refine r_goto (tgt := 45) dX5_readSquare_41 rfl ?_
      exact r_iret rfl rfl (Or.inr ⟨rfl, Or.inr rfl⟩) dX5_readSquare_45
theorem dX5_readName_0 : decode cX5_readName 0 = .ok (.aload_n 0, 1) := by decide +kernel
theorem dX5_readName_1 : decode cX5_readName 1 = .ok (.getfield 66, 3) := by decide +kernel
theorem dX5_readName_4 : decode cX5_readName 4 = .ok (.iconst 5, 1) := by decide +kernel
theorem dX5_readName_5 : decode cX5_readName 5 = .ok (.if_icmp .ne 16, 3) := by decide +kernel
theorem dX5_readName_8 : decode cX5_readName 8 = .ok (.aload_n 0, 1) := by decide +kernel
theorem dX5_readName_9 : decode cX5_readName 9 = .ok (.iconst 1, 1) := by decide +kernel
theorem dX5_readName_10 : decode cX5_readName 10 = .ok (.aload_n 0, 1) := by decide +kernel
theorem dX5_readName_11 : decode cX5_readName 11 = .ok (.getfield 78, 3) := by decide +kernel
theorem dX5_readName_14 : decode cX5_readName 14 = .ok (.bipush 6, 2) := by decide +kernel
theorem dX5_readName_16 : decode cX5_readName 16 = .ok (.iadd, 1) := by decide +kernel
theorem dX5_readName_17 : decode cX5_readName 17 = .ok (.invokevirtual 89, 3) := by decide +kernel
theorem dX5_readName_20 : decode cX5_readName 20 = .ok (.ireturn, 1) := by decide +kernel
theorem dX5_readName_21 : decode cX5_readName 21 = .ok (.aload_n 0, 1) := by decide +kernel
theorem dX5_readName_22 : decode cX5_readName 22 = .ok (.getfield 66, 3) := by decide +kernel
theorem dX5_readName_25 : decode cX5_readName 25 = .ok (.iconst 1, 1) := by decide +kernel
theorem dX5_readName_26 : decode cX5_readName 26 = .ok (.if_icmp .eq 13, 3) := by decide +kernel
theorem dX5_readName_29 : decode cX5_readName 29 = .ok (.aload_n 0, 1) := by decide +kernel
theorem dX5_readName_30 : decode cX5_readName 30 = .ok (.iconst 1, 1) := by decide +kernel
theorem dX5_readName_31 : decode cX5_readName 31 = .ok (.aload_n 0, 1) := by decide +kernel
theorem dX5_readName_32 : decode cX5_readName 32 = .ok (.getfield 78, 3) := by decide +kernel
theorem dX5_readName_35 : decode cX5_readName 35 = .ok (.invokevirtual 89, 3) := by decide +kernel
theorem dX5_readName_38 : decode cX5_readName 38 = .ok (.ireturn, 1) := by decide +kernel
theorem dX5_readName_39 : decode cX5_readName 39 = .ok (.aload_n 0, 1) := by decide +kernel
theorem dX5_readName_40 : decode cX5_readName 40 = .ok (.invokevirtual 48, 3) := by decide +kernel
theorem dX5_readName_43 : decode cX5_readName 43 = .ok (.iconst 1, 1) := by decide +kernel
theorem dX5_readName_44 : decode cX5_readName 44 = .ok (.ireturn, 1) := by decide +kernel
set_option maxRecDepth 100000 in
theorem m_X5_readName {g : GT} {n nf : Int} (hu : Up true nf n) (M : Mem) : AM g true yX5_readName cX5_readName 1 (some .boolean) (1) n n nf [(2, 4)] M (f_X5_readName M) := by
  refine AM_of (by decide +kernel) (Nat.le_of_ble_eq_true rfl) (fun h => absurd h (Int.lt_irrefl n)) ?_
  show AW g true RX5 cX5_readName 1 (some .boolean) (1) n n nf 0 [(0, 2, 4)] [] n M (f_X5_readName M)
  unfold f_X5_readName
  refine r_aload_n 0 dX5_readName_0 rfl rfl ?_
  refine r_gf (t := 0) (kz := 7) rfl hu dX5_readName_1 kF_X5_66 kd_4 rfl rfl rfl ?_
  refine r_iconst dX5_readName_4 ⟨by decide, by decide⟩ ?_
  refine r_icmp_ne (tgt := 21) dX5_readName_5 rfl (fun h1 => ?_) (fun h2 => ?_)
  · refine r_aload_n 0 dX5_readName_8 rfl rfl ?_
    refine r_iconst dX5_readName_9 ⟨by decide, by decide⟩ ?_
    refine r_aload_n 0 dX5_readName_10 rfl rfl ?_
    refine r_gf (t := 0) (kz := 9) rfl hu dX5_readName_11 kF_X5_78 kd_4 rfl rfl rfl ?_
    refine r_bipush dX5_readName_14 (by decide) ⟨by decide, by decide⟩ ?_
    refine r_ok (fun h3 => ?_)
    refine r_iadd dX5_readName_16 h3 ?_
    refine r_inv (a := 4) hu ⟨Nat.le_refl _, Nat.le_refl _⟩ dX5_readName_17 kM_X5_89 (ci := 5) rfl kd_4 rfl rfl (by decide) (by decide) [(0, 1), (0, (M 4 9) + 6)] rfl (sk := []) rfl (Nat.le_of_ble_eq_true rfl) rfl rfl (m_X5_refused hu M 1 ((M 4 9) + 6)) (fun r4 M5 => ?_)
    refine r_ok (fun h6 => ?_)
    exact r_iret rfl rfl (Or.inr ⟨rfl, h6⟩) dX5_readName_20
  · refine r_aload_n 0 dX5_readName_21 rfl rfl ?_
    refine r_gf (t := 0) (kz := 7) rfl hu dX5_readName_22 kF_X5_66 kd_4 rfl rfl rfl ?_
    refine r_iconst dX5_readName_25 ⟨by decide, by decide⟩ ?_
    refine r_icmp_eq (tgt := 39) dX5_readName_26 rfl (fun h7 => ?_) (fun h8 => ?_)
    · refine r_aload_n 0 dX5_readName_39 rfl rfl ?_
      refine r_invv (a := 4) hu ⟨Nat.le_refl _, Nat.le_refl _⟩ dX5_readName_40 kM_X5_48 (ci := 5) rfl kd_4 rfl rfl (by decide) (by decide) [] rfl (sk := []) rfl (Nat.le_of_ble_eq_true rfl) rfl (m_X5_step hu M) (fun r9 M10 => ?_)
      refine r_iconst dX5_readName_43 ⟨by decide, by decide⟩ ?_
      exact r_iret rfl rfl (Or.inr ⟨rfl, Or.inr rfl⟩) dX5_readName_44
    · refine r_aload_n 0 dX5_readName_29 rfl rfl ?_
      refine r_iconst dX5_readName_30 ⟨by decide, by decide⟩ ?_
      refine r_aload_n 0 dX5_readName_31 rfl rfl ?_
      refine r_gf (t := 0) (kz := 9) rfl hu dX5_readName_32 kF_X5_78 kd_4 rfl rfl rfl ?_
      refine r_inv (a := 4) hu ⟨Nat.le_refl _, Nat.le_refl _⟩ dX5_readName_35 kM_X5_89 (ci := 5) rfl kd_4 rfl rfl (by decide) (by decide) [(0, 1), (0, M 4 9)] rfl (sk := []) rfl (Nat.le_of_ble_eq_true rfl) rfl rfl (m_X5_refused hu M 1 (M 4 9)) (fun r11 M12 => ?_)
      refine r_ok (fun h13 => ?_)
      exact r_iret rfl rfl (Or.inr ⟨rfl, h13⟩) dX5_readName_38
theorem dX7_whichIs_0 : decode cX7_whichIs 0 = .ok (.iconst 0, 1) := by decide +kernel
theorem dX7_whichIs_1 : decode cX7_whichIs 1 = .ok (.istore_n 2, 1) := by decide +kernel
theorem dX7_whichIs_2 : decode cX7_whichIs 2 = .ok (.iload_n 2, 1) := by decide +kernel
theorem dX7_whichIs_3 : decode cX7_whichIs 3 = .ok (.aload_n 0, 1) := by decide +kernel
theorem dX7_whichIs_4 : decode cX7_whichIs 4 = .ok (.getfield 29, 3) := by decide +kernel
theorem dX7_whichIs_7 : decode cX7_whichIs 7 = .ok (.if_icmp .ge 29, 3) := by decide +kernel
theorem dX7_whichIs_10 : decode cX7_whichIs 10 = .ok (.aload_n 0, 1) := by decide +kernel
theorem dX7_whichIs_11 : decode cX7_whichIs 11 = .ok (.getfield 11, 3) := by decide +kernel
theorem dX7_whichIs_14 : decode cX7_whichIs 14 = .ok (.aload_n 0, 1) := by decide +kernel
theorem dX7_whichIs_15 : decode cX7_whichIs 15 = .ok (.getfield 17, 3) := by decide +kernel
theorem dX7_whichIs_18 : decode cX7_whichIs 18 = .ok (.iload_n 2, 1) := by decide +kernel
theorem dX7_whichIs_19 : decode cX7_whichIs 19 = .ok (.iaload, 1) := by decide +kernel
theorem dX7_whichIs_20 : decode cX7_whichIs 20 = .ok (.aaload, 1) := by decide +kernel
theorem dX7_whichIs_21 : decode cX7_whichIs 21 = .ok (.getfield 47, 3) := by decide +kernel
theorem dX7_whichIs_24 : decode cX7_whichIs 24 = .ok (.iload_n 1, 1) := by decide +kernel
theorem dX7_whichIs_25 : decode cX7_whichIs 25 = .ok (.if_icmp .ne 5, 3) := by decide +kernel
theorem dX7_whichIs_28 : decode cX7_whichIs 28 = .ok (.iload_n 2, 1) := by decide +kernel
theorem dX7_whichIs_29 : decode cX7_whichIs 29 = .ok (.ireturn, 1) := by decide +kernel
theorem dX7_whichIs_30 : decode cX7_whichIs 30 = .ok (.iinc 2 1, 3) := by decide +kernel
theorem dX7_whichIs_33 : decode cX7_whichIs 33 = .ok (.goto (-31), 3) := by decide +kernel
theorem dX7_whichIs_36 : decode cX7_whichIs 36 = .ok (.iconst (-1), 1) := by decide +kernel
theorem dX7_whichIs_37 : decode cX7_whichIs 37 = .ok (.ireturn, 1) := by decide +kernel
set_option maxRecDepth 100000 in
theorem tb_X7_whichIs_2 {g : GT} {n nf : Int} (hu : Up true nf n) (a0 a1 : Int) (hk0 : kd a0 = 17) (w2 : Mem → Int → Res) (hw2 : ∀ (M : Mem) (x2 : Int), AW g true RX7 cX7_whichIs 3 (some .int) (0) n n nf 2 [(0, 2, a0), (1, 0, a1), (2, 0, x2)] [] n M (w2 M x2)) (M : Mem) (x2 : Int) : AW g true RX7 cX7_whichIs 3 (some .int) (0) n n nf 2 [(0, 2, a0), (1, 0, a1), (2, 0, x2)] [] n M (b_X7_whichIs_2 a0 a1 w2 M x2) := by
  unfold b_X7_whichIs_2
  refine r_iload_n 2 dX7_whichIs_2 rfl rfl ?_
  refine r_aload_n 0 dX7_whichIs_3 rfl rfl ?_
  refine r_gf (t := 0) (kz := 3) rfl hu dX7_whichIs_4 kF_X7_29 hk0 rfl rfl rfl ?_
  refine r_icmp_ge (tgt := 36) dX7_whichIs_7 rfl (fun h1 => ?_) (fun h2 => ?_)
  · refine r_iconst dX7_whichIs_36 ⟨by decide, by decide⟩ ?_
    exact r_iret rfl rfl (Or.inl rfl) dX7_whichIs_37
  · refine r_aload_n 0 dX7_whichIs_10 rfl rfl ?_
    refine r_gx (kz := 0) rfl hu dX7_whichIs_11 kF_X7_11 hk0 rfl rfl rfl (fxS0 _ hk0) ?_
    refine r_aload_n 0 dX7_whichIs_14 rfl rfl ?_
    refine r_gx (kz := 2) rfl hu dX7_whichIs_15 kF_X7_17 hk0 rfl rfl rfl (fxS2 _ hk0) ?_
    refine r_iload_n 2 dX7_whichIs_18 rfl rfl ?_
    refine r_ok (fun h3 => ?_)
    refine r_iald hu dX7_whichIs_19 (kdS _ hk0).2.2.1 rfl (Or.inl rfl) rfl (kdS _ hk0).2.2.2.1 h3 ?_
    refine r_ok (fun h4 => ?_)
    refine r_aalx hu dX7_whichIs_20 (kdS _ hk0).1 (Or.inr (Or.inl rfl)) rfl (kdS _ hk0).2.1 h4 (fxSt _ hk0 _ h4) ?_
    refine r_gf (t := 0) (kz := 1) rfl hu dX7_whichIs_21 kF_X7_47 (kdSt _ hk0 _ h4) rfl rfl rfl ?_
    refine r_iload_n 1 dX7_whichIs_24 rfl rfl ?_
    refine r_icmp_ne (tgt := 30) dX7_whichIs_25 rfl (fun h5 => ?_) (fun h6 => ?_)
    · refine r_iload_n 2 dX7_whichIs_28 rfl rfl ?_
      exact r_iret rfl rfl (Or.inl rfl) dX7_whichIs_29
    · refine r_iincB 2 dX7_whichIs_30 rfl ⟨by have := h3; omega, by have := h3; omega⟩ (by decide) (lf := fun y7 => [(2, 0, y7), (0, 2, a0), (1, 0, a1)]) (fun _ => rfl) (fun y7 ey7 => ?_)
      refine r_goto (tgt := 2) dX7_whichIs_33 rfl ?_
      refine r_sub [1, 2, 0] (ls' := [(0, 2, a0), (1, 0, a1), (2, 0, y7)]) rfl ?_
      exact hw2 M y7
set_option maxRecDepth 100000 in
theorem m_X7_whichIs {g : GT} {n nf : Int} (hu : Up true nf n) (M : Mem) (a0 a1 : Int) (hk0 : kd a0 = 17) : AM g true yX7_whichIs cX7_whichIs 3 (some .int) (0) n n nf [(2, a0), (0, a1)] M (f_X7_whichIs M a0 a1) := by
  refine AM_of (by decide +kernel) (Nat.le_of_ble_eq_true rfl) (fun h => absurd h (Int.lt_irrefl n)) ?_
  show AW g true RX7 cX7_whichIs 3 (some .int) (0) n n nf 0 [(0, 2, a0), (1, 0, a1)] [] n M (f_X7_whichIs M a0 a1)
  unfold f_X7_whichIs
  refine r_iconst dX7_whichIs_0 ⟨by decide, by decide⟩ ?_
  refine r_istore_n dX7_whichIs_1 rfl (by decide) (ls' := [(2, 0, 0), (0, 2, a0), (1, 0, a1)]) rfl ?_
  refine r_sub [1, 2, 0] (ls' := [(0, 2, a0), (1, 0, a1), (2, 0, 0)]) rfl ?_
  exact wl1_aw (P := fun M x2 o => AW g true RX7 cX7_whichIs 3 (some .int) (0) n n nf 2 [(0, 2, a0), (1, 0, a1), (2, 0, x2)] [] n M (o)) (fun M x2 => aw_none) (fun w hw M x2 => tb_X7_whichIs_2 hu a0 a1 hk0 w hw M x2) FU M 0
theorem dX7_putName_0 : decode cX7_putName 0 = .ok (.aload_n 0, 1) := by decide +kernel
theorem dX7_putName_1 : decode cX7_putName 1 = .ok (.getfield 25, 3) := by decide +kernel
theorem dX7_putName_4 : decode cX7_putName 4 = .ok (.ifCond .le 51, 3) := by decide +kernel
theorem dX7_putName_7 : decode cX7_putName 7 = .ok (.aload_n 0, 1) := by decide +kernel
theorem dX7_putName_8 : decode cX7_putName 8 = .ok (.getfield 29, 3) := by decide +kernel
theorem dX7_putName_11 : decode cX7_putName 11 = .ok (.iconst 5, 1) := by decide +kernel
theorem dX7_putName_12 : decode cX7_putName 12 = .ok (.if_icmp .ge 43, 3) := by decide +kernel
theorem dX7_putName_15 : decode cX7_putName 15 = .ok (.aload_n 0, 1) := by decide +kernel
theorem dX7_putName_16 : decode cX7_putName 16 = .ok (.getfield 11, 3) := by decide +kernel
theorem dX7_putName_19 : decode cX7_putName 19 = .ok (.aload_n 0, 1) := by decide +kernel
theorem dX7_putName_20 : decode cX7_putName 20 = .ok (.getfield 25, 3) := by decide +kernel
theorem dX7_putName_23 : decode cX7_putName 23 = .ok (.iconst 1, 1) := by decide +kernel
theorem dX7_putName_24 : decode cX7_putName 24 = .ok (.isub, 1) := by decide +kernel
theorem dX7_putName_25 : decode cX7_putName 25 = .ok (.aaload, 1) := by decide +kernel
theorem dX7_putName_26 : decode cX7_putName 26 = .ok (.iload_n 1, 1) := by decide +kernel
theorem dX7_putName_27 : decode cX7_putName 27 = .ok (.putfield 47, 3) := by decide +kernel
theorem dX7_putName_30 : decode cX7_putName 30 = .ok (.aload_n 0, 1) := by decide +kernel
theorem dX7_putName_31 : decode cX7_putName 31 = .ok (.getfield 17, 3) := by decide +kernel
theorem dX7_putName_34 : decode cX7_putName 34 = .ok (.aload_n 0, 1) := by decide +kernel
theorem dX7_putName_35 : decode cX7_putName 35 = .ok (.getfield 29, 3) := by decide +kernel
theorem dX7_putName_38 : decode cX7_putName 38 = .ok (.aload_n 0, 1) := by decide +kernel
theorem dX7_putName_39 : decode cX7_putName 39 = .ok (.getfield 25, 3) := by decide +kernel
theorem dX7_putName_42 : decode cX7_putName 42 = .ok (.iconst 1, 1) := by decide +kernel
theorem dX7_putName_43 : decode cX7_putName 43 = .ok (.isub, 1) := by decide +kernel
theorem dX7_putName_44 : decode cX7_putName 44 = .ok (.iastore, 1) := by decide +kernel
theorem dX7_putName_45 : decode cX7_putName 45 = .ok (.aload_n 0, 1) := by decide +kernel
theorem dX7_putName_46 : decode cX7_putName 46 = .ok (.dup, 1) := by decide +kernel
theorem dX7_putName_47 : decode cX7_putName 47 = .ok (.getfield 29, 3) := by decide +kernel
theorem dX7_putName_50 : decode cX7_putName 50 = .ok (.iconst 1, 1) := by decide +kernel
theorem dX7_putName_51 : decode cX7_putName 51 = .ok (.iadd, 1) := by decide +kernel
theorem dX7_putName_52 : decode cX7_putName 52 = .ok (.putfield 29, 3) := by decide +kernel
theorem dX7_putName_55 : decode cX7_putName 55 = .ok (.return_, 1) := by decide +kernel
set_option maxRecDepth 100000 in
theorem m_X7_putName {g : GT} {n nf : Int} (hu : Up true nf n) (M : Mem) (a0 a1 : Int) (hk0 : kd a0 = 17) : AM g true yX7_putName cX7_putName 2 none (0) n n nf [(2, a0), (0, a1)] M (f_X7_putName M a0 a1) := by
  refine AM_of (by decide +kernel) (Nat.le_of_ble_eq_true rfl) (fun h => absurd h (Int.lt_irrefl n)) ?_
  show AW g true RX7 cX7_putName 2 none (0) n n nf 0 [(0, 2, a0), (1, 0, a1)] [] n M (f_X7_putName M a0 a1)
  unfold f_X7_putName
  refine r_aload_n 0 dX7_putName_0 rfl rfl ?_
  refine r_gf (t := 0) (kz := 1) rfl hu dX7_putName_1 kF_X7_25 hk0 rfl rfl rfl ?_
  refine r_if_le (tgt := 55) dX7_putName_4 rfl (fun h1 => ?_) (fun h2 => ?_)
  · exact r_vret rfl rfl dX7_putName_55
  · refine r_aload_n 0 dX7_putName_7 rfl rfl ?_
    refine r_gf (t := 0) (kz := 3) rfl hu dX7_putName_8 kF_X7_29 hk0 rfl rfl rfl ?_
    refine r_iconst dX7_putName_11 ⟨by decide, by decide⟩ ?_
    refine r_icmp_ge (tgt := 55) dX7_putName_12 rfl (fun h3 => ?_) (fun h4 => ?_)
    · exact r_vret rfl rfl dX7_putName_55
    · refine r_aload_n 0 dX7_putName_15 rfl rfl ?_
      refine r_gx (kz := 0) rfl hu dX7_putName_16 kF_X7_11 hk0 rfl rfl rfl (fxS0 _ hk0) ?_
      refine r_aload_n 0 dX7_putName_19 rfl rfl ?_
      refine r_gf (t := 0) (kz := 1) rfl hu dX7_putName_20 kF_X7_25 hk0 rfl rfl rfl ?_
      refine r_iconst dX7_putName_23 ⟨by decide, by decide⟩ ?_
      refine r_ok (fun h5 => ?_)
      refine r_isub dX7_putName_24 h5 ?_
      refine r_ok (fun h6 => ?_)
      refine r_aalx hu dX7_putName_25 (kdS _ hk0).1 (Or.inr (Or.inl rfl)) rfl (kdS _ hk0).2.1 h6 (fxSt _ hk0 _ h6) ?_
      refine r_iload_n 1 dX7_putName_26 rfl rfl ?_
      refine r_pf (t := 0) (kz := 1) rfl hu dX7_putName_27 kF_X7_47 (kdSt _ hk0 _ h6) rfl rfl rfl (fun h => absurd h (by decide)) rfl kX_8_1 (fun M7 eM7 => ?_)
      refine r_aload_n 0 dX7_putName_30 rfl rfl ?_
      refine r_gx (kz := 2) rfl hu dX7_putName_31 kF_X7_17 hk0 rfl rfl rfl (fxS2 _ hk0) ?_
      refine r_aload_n 0 dX7_putName_34 rfl rfl ?_
      refine r_gf (t := 0) (kz := 3) rfl hu dX7_putName_35 kF_X7_29 hk0 rfl rfl rfl ?_
      refine r_aload_n 0 dX7_putName_38 rfl rfl ?_
      refine r_gf (t := 0) (kz := 1) rfl hu dX7_putName_39 kF_X7_25 hk0 rfl rfl rfl ?_
      refine r_iconst dX7_putName_42 ⟨by decide, by decide⟩ ?_
      refine r_ok (fun h8 => ?_)
      refine r_isub dX7_putName_43 h8 ?_
      refine r_ok (fun h9 => ?_)
      refine r_iast hu dX7_putName_44 (kdS _ hk0).2.2.1 rfl (Or.inl rfl) rfl (kdS _ hk0).2.2.2.1 h9 rfl (fun M10 eM10 => ?_)
      refine r_aload_n 0 dX7_putName_45 rfl rfl ?_
      refine r_dup dX7_putName_46 (nz2 _) ?_
      refine r_gf (t := 0) (kz := 3) rfl hu dX7_putName_47 kF_X7_29 hk0 rfl rfl rfl ?_
      refine r_iconst dX7_putName_50 ⟨by decide, by decide⟩ ?_
      refine r_ok (fun h11 => ?_)
      refine r_iadd dX7_putName_51 h11 ?_
      refine r_pf (t := 0) (kz := 3) rfl hu dX7_putName_52 kF_X7_29 hk0 rfl rfl rfl (fun h => absurd h (by decide)) rfl kX_7_3 (fun M12 eM12 => ?_)
      exact r_vret rfl rfl dX7_putName_55
theorem dX5_readNewName_0 : decode cX5_readNewName 0 = .ok (.aload_n 0, 1) := by decide +kernel
theorem dX5_readNewName_1 : decode cX5_readNewName 1 = .ok (.getfield 72, 3) := by decide +kernel
theorem dX5_readNewName_4 : decode cX5_readNewName 4 = .ok (.istore_n 1, 1) := by decide +kernel
theorem dX5_readNewName_5 : decode cX5_readNewName 5 = .ok (.aload_n 0, 1) := by decide +kernel
theorem dX5_readNewName_6 : decode cX5_readNewName 6 = .ok (.getfield 78, 3) := by decide +kernel
theorem dX5_readNewName_9 : decode cX5_readNewName 9 = .ok (.istore_n 2, 1) := by decide +kernel
theorem dX5_readNewName_10 : decode cX5_readNewName 10 = .ok (.aload_n 0, 1) := by decide +kernel
theorem dX5_readNewName_11 : decode cX5_readNewName 11 = .ok (.invokevirtual 142, 3) := by decide +kernel
theorem dX5_readNewName_14 : decode cX5_readNewName 14 = .ok (.ifCond .ne 5, 3) := by decide +kernel
theorem dX5_readNewName_17 : decode cX5_readNewName 17 = .ok (.iconst 0, 1) := by decide +kernel
theorem dX5_readNewName_18 : decode cX5_readNewName 18 = .ok (.ireturn, 1) := by decide +kernel
theorem dX5_readNewName_19 : decode cX5_readNewName 19 = .ok (.aload_n 0, 1) := by decide +kernel
theorem dX5_readNewName_20 : decode cX5_readNewName 20 = .ok (.getfield 27, 3) := by decide +kernel
theorem dX5_readNewName_23 : decode cX5_readNewName 23 = .ok (.iload_n 1, 1) := by decide +kernel
theorem dX5_readNewName_24 : decode cX5_readNewName 24 = .ok (.invokevirtual 145, 3) := by decide +kernel
theorem dX5_readNewName_27 : decode cX5_readNewName 27 = .ok (.iconst (-1), 1) := by decide +kernel
theorem dX5_readNewName_28 : decode cX5_readNewName 28 = .ok (.if_icmp .eq 10, 3) := by decide +kernel
theorem dX5_readNewName_31 : decode cX5_readNewName 31 = .ok (.aload_n 0, 1) := by decide +kernel
theorem dX5_readNewName_32 : decode cX5_readNewName 32 = .ok (.iconst 3, 1) := by decide +kernel
theorem dX5_readNewName_33 : decode cX5_readNewName 33 = .ok (.iload_n 2, 1) := by decide +kernel
theorem dX5_readNewName_34 : decode cX5_readNewName 34 = .ok (.invokevirtual 89, 3) := by decide +kernel
theorem dX5_readNewName_37 : decode cX5_readNewName 37 = .ok (.ireturn, 1) := by decide +kernel
theorem dX5_readNewName_38 : decode cX5_readNewName 38 = .ok (.aload_n 0, 1) := by decide +kernel
theorem dX5_readNewName_39 : decode cX5_readNewName 39 = .ok (.getfield 27, 3) := by decide +kernel
theorem dX5_readNewName_42 : decode cX5_readNewName 42 = .ok (.iload_n 1, 1) := by decide +kernel
theorem dX5_readNewName_43 : decode cX5_readNewName 43 = .ok (.invokevirtual 167, 3) := by decide +kernel
theorem dX5_readNewName_46 : decode cX5_readNewName 46 = .ok (.iconst 1, 1) := by decide +kernel
theorem dX5_readNewName_47 : decode cX5_readNewName 47 = .ok (.ireturn, 1) := by decide +kernel
set_option maxRecDepth 100000 in
theorem m_X5_readNewName {g : GT} {n nf : Int} (hu : Up true nf n) (M : Mem) : AM g true yX5_readNewName cX5_readNewName 3 (some .boolean) (2) n n nf [(2, 4)] M (f_X5_readNewName M) := by
  refine AM_of (by decide +kernel) (Nat.le_of_ble_eq_true rfl) (fun h => absurd h (Int.lt_irrefl n)) ?_
  show AW g true RX5 cX5_readNewName 3 (some .boolean) (2) n n nf 0 [(0, 2, 4)] [] n M (f_X5_readNewName M)
  unfold f_X5_readNewName
  refine r_aload_n 0 dX5_readNewName_0 rfl rfl ?_
  refine r_gf (t := 0) (kz := 8) rfl hu dX5_readNewName_1 kF_X5_72 kd_4 rfl rfl rfl ?_
  refine r_istore_nB dX5_readNewName_4 rfl (by decide) (lf := fun y1 => [(1, 0, y1), (0, 2, 4)]) (fun _ => rfl) (fun y1 ey1 => ?_)
  refine r_aload_n 1 dX5_readNewName_5 rfl rfl ?_
  refine r_gf (t := 0) (kz := 9) rfl hu dX5_readNewName_6 kF_X5_78 kd_4 rfl rfl rfl ?_
  refine r_istore_nB dX5_readNewName_9 rfl (by decide) (lf := fun y2 => [(2, 0, y2), (1, 0, y1), (0, 2, 4)]) (fun _ => rfl) (fun y2 ey2 => ?_)
  refine r_aload_n 2 dX5_readNewName_10 rfl rfl ?_
  refine r_inv (a := 4) hu ⟨Nat.le_refl _, Nat.le_refl _⟩ dX5_readNewName_11 kM_X5_142 (ci := 5) rfl kd_4 rfl rfl (by decide) (by decide) [] rfl (sk := []) rfl (Nat.le_of_ble_eq_true rfl) rfl rfl (m_X5_readName hu M) (fun r3 M4 => ?_)
  refine r_if_ne (tgt := 19) dX5_readNewName_14 rfl (fun h5 => ?_) (fun h6 => ?_)
  · refine r_iconst dX5_readNewName_17 ⟨by decide, by decide⟩ ?_
    exact r_iret rfl rfl (Or.inr ⟨rfl, Or.inl rfl⟩) dX5_readNewName_18
  · refine r_aload_n 2 dX5_readNewName_19 rfl rfl ?_
    refine r_gf (t := 2) (kz := 1) rfl hu dX5_readNewName_20 kF_X5_27 kd_4 rfl rfl rfl ?_
    refine r_iload_n 1 dX5_readNewName_23 rfl rfl ?_
    refine r_ok (fun h7 => ?_)
    refine r_inv (a := M4 4 1) hu ⟨Nat.le_refl _, Nat.le_refl _⟩ dX5_readNewName_24 kM_X5_145 (ci := 7) rfl h7 rfl rfl (by decide) (by decide) [(0, y1)] rfl (sk := []) rfl (Nat.le_of_ble_eq_true rfl) rfl rfl (m_X7_whichIs hu M4 (M4 4 1) y1 h7) (fun r8 M9 => ?_)
    refine r_iconst dX5_readNewName_27 ⟨by decide, by decide⟩ ?_
    refine r_icmp_eq (tgt := 38) dX5_readNewName_28 rfl (fun h10 => ?_) (fun h11 => ?_)
    · refine r_aload_n 2 dX5_readNewName_38 rfl rfl ?_
      refine r_gf (t := 2) (kz := 1) rfl hu dX5_readNewName_39 kF_X5_27 kd_4 rfl rfl rfl ?_
      refine r_iload_n 1 dX5_readNewName_42 rfl rfl ?_
      refine r_ok (fun h12 => ?_)
      refine r_invv (a := M9 4 1) hu ⟨Nat.le_refl _, Nat.le_refl _⟩ dX5_readNewName_43 kM_X5_167 (ci := 7) rfl h12 rfl rfl (by decide) (by decide) [(0, y1)] rfl (sk := []) rfl (Nat.le_of_ble_eq_true rfl) rfl (m_X7_putName hu M9 (M9 4 1) y1 h12) (fun r13 M14 => ?_)
      refine r_iconst dX5_readNewName_46 ⟨by decide, by decide⟩ ?_
      exact r_iret rfl rfl (Or.inr ⟨rfl, Or.inr rfl⟩) dX5_readNewName_47
    · refine r_aload_n 2 dX5_readNewName_31 rfl rfl ?_
      refine r_iconst dX5_readNewName_32 ⟨by decide, by decide⟩ ?_
      refine r_iload_n 0 dX5_readNewName_33 rfl rfl ?_
      refine r_inv (a := 4) hu ⟨Nat.le_refl _, Nat.le_refl _⟩ dX5_readNewName_34 kM_X5_89 (ci := 5) rfl kd_4 rfl rfl (by decide) (by decide) [(0, 3), (0, y2)] rfl (sk := []) rfl (Nat.le_of_ble_eq_true rfl) rfl rfl (m_X5_refused hu M9 3 y2) (fun r15 M16 => ?_)
      refine r_ok (fun h17 => ?_)
      exact r_iret rfl rfl (Or.inr ⟨rfl, h17⟩) dX5_readNewName_37
theorem dX5_readNumber_0 : decode cX5_readNumber 0 = .ok (.aload_n 1, 1) := by decide +kernel
theorem dX5_readNumber_1 : decode cX5_readNumber 1 = .ok (.aload_n 0, 1) := by decide +kernel
theorem dX5_readNumber_2 : decode cX5_readNumber 2 = .ok (.iload_n 2, 1) := by decide +kernel
theorem dX5_readNumber_3 : decode cX5_readNumber 3 = .ok (.iload_n 3, 1) := by decide +kernel
theorem dX5_readNumber_4 : decode cX5_readNumber 4 = .ok (.invokevirtual 171, 3) := by decide +kernel
theorem dX5_readNumber_7 : decode cX5_readNumber 7 = .ok (.putfield 149, 3) := by decide +kernel
theorem dX5_readNumber_10 : decode cX5_readNumber 10 = .ok (.aload_n 1, 1) := by decide +kernel
theorem dX5_readNumber_11 : decode cX5_readNumber 11 = .ok (.getfield 149, 3) := by decide +kernel
theorem dX5_readNumber_14 : decode cX5_readNumber 14 = .ok (.iconst (-1), 1) := by decide +kernel
theorem dX5_readNumber_15 : decode cX5_readNumber 15 = .ok (.if_icmp .eq 7, 3) := by decide +kernel
theorem dX5_readNumber_18 : decode cX5_readNumber 18 = .ok (.iconst 1, 1) := by decide +kernel
theorem dX5_readNumber_19 : decode cX5_readNumber 19 = .ok (.goto 4, 3) := by decide +kernel
theorem dX5_readNumber_22 : decode cX5_readNumber 22 = .ok (.iconst 0, 1) := by decide +kernel
theorem dX5_readNumber_23 : decode cX5_readNumber 23 = .ok (.ireturn, 1) := by decide +kernel
set_option maxRecDepth 100000 in
theorem m_X5_readNumber {g : GT} {n nf : Int} (hu : Up true nf n) (M : Mem) (a1 a2 a3 : Int) (hk1 : kd a1 = 18) : AM g true yX5_readNumber cX5_readNumber 4 (some .boolean) (2) n n nf [(2, 4), (2, a1), (0, a2), (0, a3)] M (f_X5_readNumber M a1 a2 a3) := by
  refine AM_of (by decide +kernel) (Nat.le_of_ble_eq_true rfl) (fun h => absurd h (Int.lt_irrefl n)) ?_
  show AW g true RX5 cX5_readNumber 4 (some .boolean) (2) n n nf 0 [(0, 2, 4), (1, 2, a1), (2, 0, a2), (3, 0, a3)] [] n M (f_X5_readNumber M a1 a2 a3)
  unfold f_X5_readNumber
  refine r_aload_n 1 dX5_readNumber_0 rfl rfl ?_
  refine r_aload_n 0 dX5_readNumber_1 rfl rfl ?_
  refine r_iload_n 2 dX5_readNumber_2 rfl rfl ?_
  refine r_iload_n 3 dX5_readNumber_3 rfl rfl ?_
  refine r_inv (a := 4) hu ⟨Nat.le_refl _, Nat.le_refl _⟩ dX5_readNumber_4 kM_X5_171 (ci := 5) rfl kd_4 rfl rfl (by decide) (by decide) [(0, a2), (0, a3)] rfl (sk := [(2, a1)]) rfl (Nat.le_of_ble_eq_true rfl) rfl rfl (m_X5_takenNumber hu M a2 a3) (fun r1 M2 => ?_)
  refine r_pf (t := 0) (kz := 2) rfl hu dX5_readNumber_7 kF_X5_149 hk1 rfl rfl rfl (fun h => absurd h (by decide)) rfl kX_8_2 (fun M3 eM3 => ?_)
  refine r_aload_n 1 dX5_readNumber_10 rfl rfl ?_
  refine r_gf (t := 0) (kz := 2) rfl hu dX5_readNumber_11 kF_X5_149 hk1 rfl rfl rfl ?_
  refine r_iconst dX5_readNumber_14 ⟨by decide, by decide⟩ ?_
  refine r_icmp_eq (tgt := 22) dX5_readNumber_15 rfl (fun h4 => ?_) (fun h5 => ?_)
  · refine r_iconst dX5_readNumber_22 ⟨by decide, by decide⟩ ?_
    exact r_iret rfl rfl (Or.inr ⟨rfl, Or.inl rfl⟩) dX5_readNumber_23
  · refine r_iconst dX5_readNumber_18 ⟨by decide, by decide⟩ ?_
    refine r_goto (tgt := 23) dX5_readNumber_19 rfl ?_
    exact r_iret rfl rfl (Or.inr ⟨rfl, Or.inr rfl⟩) dX5_readNumber_23
theorem dX5_readKnows_0 : decode cX5_readKnows 0 = .ok (.aload_n 0, 1) := by decide +kernel
theorem dX5_readKnows_1 : decode cX5_readKnows 1 = .ok (.getfield 81, 3) := by decide +kernel
theorem dX5_readKnows_4 : decode cX5_readKnows 4 = .ok (.iconst 4, 1) := by decide +kernel
theorem dX5_readKnows_5 : decode cX5_readKnows 5 = .ok (.if_icmp .eq 21, 3) := by decide +kernel
theorem dX5_readKnows_8 : decode cX5_readKnows 8 = .ok (.aload_n 0, 1) := by decide +kernel
theorem dX5_readKnows_9 : decode cX5_readKnows 9 = .ok (.getfield 81, 3) := by decide +kernel
theorem dX5_readKnows_12 : decode cX5_readKnows 12 = .ok (.iconst 5, 1) := by decide +kernel
theorem dX5_readKnows_13 : decode cX5_readKnows 13 = .ok (.if_icmp .eq 13, 3) := by decide +kernel
theorem dX5_readKnows_16 : decode cX5_readKnows 16 = .ok (.aload_n 0, 1) := by decide +kernel
theorem dX5_readKnows_17 : decode cX5_readKnows 17 = .ok (.iconst 1, 1) := by decide +kernel
theorem dX5_readKnows_18 : decode cX5_readKnows 18 = .ok (.aload_n 0, 1) := by decide +kernel
theorem dX5_readKnows_19 : decode cX5_readKnows 19 = .ok (.getfield 78, 3) := by decide +kernel
theorem dX5_readKnows_22 : decode cX5_readKnows 22 = .ok (.invokevirtual 89, 3) := by decide +kernel
theorem dX5_readKnows_25 : decode cX5_readKnows 25 = .ok (.ireturn, 1) := by decide +kernel
theorem dX5_readKnows_26 : decode cX5_readKnows 26 = .ok (.aload_n 1, 1) := by decide +kernel
theorem dX5_readKnows_27 : decode cX5_readKnows 27 = .ok (.aload_n 0, 1) := by decide +kernel
theorem dX5_readKnows_28 : decode cX5_readKnows 28 = .ok (.getfield 81, 3) := by decide +kernel
theorem dX5_readKnows_31 : decode cX5_readKnows 31 = .ok (.iconst 4, 1) := by decide +kernel
theorem dX5_readKnows_32 : decode cX5_readKnows 32 = .ok (.if_icmp .ne 7, 3) := by decide +kernel
theorem dX5_readKnows_35 : decode cX5_readKnows 35 = .ok (.iconst 1, 1) := by decide +kernel
theorem dX5_readKnows_36 : decode cX5_readKnows 36 = .ok (.goto 4, 3) := by decide +kernel
theorem dX5_readKnows_39 : decode cX5_readKnows 39 = .ok (.iconst 0, 1) := by decide +kernel
theorem dX5_readKnows_40 : decode cX5_readKnows 40 = .ok (.putfield 139, 3) := by decide +kernel
theorem dX5_readKnows_43 : decode cX5_readKnows 43 = .ok (.aload_n 0, 1) := by decide +kernel
theorem dX5_readKnows_44 : decode cX5_readKnows 44 = .ok (.invokevirtual 48, 3) := by decide +kernel
theorem dX5_readKnows_47 : decode cX5_readKnows 47 = .ok (.iconst 1, 1) := by decide +kernel
theorem dX5_readKnows_48 : decode cX5_readKnows 48 = .ok (.ireturn, 1) := by decide +kernel
set_option maxRecDepth 100000 in
theorem tj_X5_readKnows_40 {g : GT} {n nf : Int} (hu : Up true nf n) (a1 : Int) (hk1 : kd a1 = 18) (M : Mem) (s0 : Int) : AW g true RX5 cX5_readKnows 2 (some .boolean) (1) n n nf 40 [(0, 2, 4)] [(0, s0), (2, a1)] n M (j_X5_readKnows_40 a1 M s0) := by
  unfold j_X5_readKnows_40
  refine r_ok (fun h5 => ?_)
  refine r_pf (t := 0) (kz := 5) rfl hu dX5_readKnows_40 kF_X5_139 hk1 rfl rfl rfl (fun _ => h5) rfl kX_8_5 (fun M6 eM6 => ?_)
  refine r_aload_n 0 dX5_readKnows_43 rfl rfl ?_
  refine r_invv (a := 4) hu ⟨Nat.le_refl _, Nat.le_refl _⟩ dX5_readKnows_44 kM_X5_48 (ci := 5) rfl kd_4 rfl rfl (by decide) (by decide) [] rfl (sk := []) rfl (Nat.le_of_ble_eq_true rfl) rfl (m_X5_step hu M6) (fun r7 M8 => ?_)
  refine r_iconst dX5_readKnows_47 ⟨by decide, by decide⟩ ?_
  exact r_iret rfl rfl (Or.inr ⟨rfl, Or.inr rfl⟩) dX5_readKnows_48
set_option maxRecDepth 100000 in
theorem tj_X5_readKnows_26 {g : GT} {n nf : Int} (hu : Up true nf n) (a1 : Int) (hk1 : kd a1 = 18) (M : Mem) : AW g true RX5 cX5_readKnows 2 (some .boolean) (1) n n nf 26 [(0, 2, 4), (1, 2, a1)] [] n M (j_X5_readKnows_26 a1 M) := by
  unfold j_X5_readKnows_26
  refine r_aload_n 1 dX5_readKnows_26 rfl rfl ?_
  refine r_aload_n 0 dX5_readKnows_27 rfl rfl ?_
  refine r_gf (t := 0) (kz := 10) rfl hu dX5_readKnows_28 kF_X5_81 kd_4 rfl rfl rfl ?_
  refine r_iconst dX5_readKnows_31 ⟨by decide, by decide⟩ ?_
  refine r_icmp_ne (tgt := 39) dX5_readKnows_32 rfl (fun h3 => ?_) (fun h4 => ?_)
  · refine r_iconst dX5_readKnows_35 ⟨by decide, by decide⟩ ?_
    refine r_goto (tgt := 40) dX5_readKnows_36 rfl ?_
    refine r_sub [0] (ls' := [(0, 2, 4)]) rfl ?_
    exact tj_X5_readKnows_40 hu a1 hk1 M 1
  · refine r_iconst dX5_readKnows_39 ⟨by decide, by decide⟩ ?_
    refine r_sub [0] (ls' := [(0, 2, 4)]) rfl ?_
    exact tj_X5_readKnows_40 hu a1 hk1 M 0
set_option maxRecDepth 100000 in
theorem m_X5_readKnows {g : GT} {n nf : Int} (hu : Up true nf n) (M : Mem) (a1 : Int) (hk1 : kd a1 = 18) : AM g true yX5_readKnows cX5_readKnows 2 (some .boolean) (1) n n nf [(2, 4), (2, a1)] M (f_X5_readKnows M a1) := by
  refine AM_of (by decide +kernel) (Nat.le_of_ble_eq_true rfl) (fun h => absurd h (Int.lt_irrefl n)) ?_
  show AW g true RX5 cX5_readKnows 2 (some .boolean) (1) n n nf 0 [(0, 2, 4), (1, 2, a1)] [] n M (f_X5_readKnows M a1)
  unfold f_X5_readKnows
  refine r_aload_n 0 dX5_readKnows_0 rfl rfl ?_
  refine r_gf (t := 0) (kz := 10) rfl hu dX5_readKnows_1 kF_X5_81 kd_4 rfl rfl rfl ?_
  refine r_iconst dX5_readKnows_4 ⟨by decide, by decide⟩ ?_
  refine r_icmp_eq (tgt := 26) dX5_readKnows_5 rfl (fun h1 => ?_) (fun h2 => ?_)
  · exact tj_X5_readKnows_26 hu a1 hk1 M
  · refine r_aload_n 0 dX5_readKnows_8 rfl rfl ?_
    refine r_gf (t := 0) (kz := 10) rfl hu dX5_readKnows_9 kF_X5_81 kd_4 rfl rfl rfl ?_
    refine r_iconst dX5_readKnows_12 ⟨by decide, by decide⟩ ?_
    refine r_icmp_eq (tgt := 26) dX5_readKnows_13 rfl (fun h9 => ?_) (fun h10 => ?_)
    · exact tj_X5_readKnows_26 hu a1 hk1 M
    · refine r_aload_n 0 dX5_readKnows_16 rfl rfl ?_
      refine r_iconst dX5_readKnows_17 ⟨by decide, by decide⟩ ?_
      refine r_aload_n 0 dX5_readKnows_18 rfl rfl ?_
      refine r_gf (t := 0) (kz := 9) rfl hu dX5_readKnows_19 kF_X5_78 kd_4 rfl rfl rfl ?_
      refine r_inv (a := 4) hu ⟨Nat.le_refl _, Nat.le_refl _⟩ dX5_readKnows_22 kM_X5_89 (ci := 5) rfl kd_4 rfl rfl (by decide) (by decide) [(0, 1), (0, M 4 9)] rfl (sk := []) rfl (Nat.le_of_ble_eq_true rfl) rfl rfl (m_X5_refused hu M 1 (M 4 9)) (fun r11 M12 => ?_)
      refine r_ok (fun h13 => ?_)
      exact r_iret rfl rfl (Or.inr ⟨rfl, h13⟩) dX5_readKnows_25
theorem dX5_readSign_0 : decode cX5_readSign 0 = .ok (.aload_n 0, 1) := by decide +kernel
theorem dX5_readSign_1 : decode cX5_readSign 1 = .ok (.iload_n 1, 1) := by decide +kernel
theorem dX5_readSign_2 : decode cX5_readSign 2 = .ok (.invokevirtual 84, 3) := by decide +kernel
theorem dX5_readSign_5 : decode cX5_readSign 5 = .ok (.ifCond .ne 13, 3) := by decide +kernel
theorem dX5_readSign_8 : decode cX5_readSign 8 = .ok (.aload_n 0, 1) := by decide +kernel
theorem dX5_readSign_9 : decode cX5_readSign 9 = .ok (.iconst 1, 1) := by decide +kernel
theorem dX5_readSign_10 : decode cX5_readSign 10 = .ok (.aload_n 0, 1) := by decide +kernel
theorem dX5_readSign_11 : decode cX5_readSign 11 = .ok (.getfield 78, 3) := by decide +kernel
theorem dX5_readSign_14 : decode cX5_readSign 14 = .ok (.invokevirtual 89, 3) := by decide +kernel
theorem dX5_readSign_17 : decode cX5_readSign 17 = .ok (.ireturn, 1) := by decide +kernel
theorem dX5_readSign_18 : decode cX5_readSign 18 = .ok (.aload_n 0, 1) := by decide +kernel
theorem dX5_readSign_19 : decode cX5_readSign 19 = .ok (.invokevirtual 48, 3) := by decide +kernel
theorem dX5_readSign_22 : decode cX5_readSign 22 = .ok (.iconst 1, 1) := by decide +kernel
theorem dX5_readSign_23 : decode cX5_readSign 23 = .ok (.ireturn, 1) := by decide +kernel
set_option maxRecDepth 100000 in
theorem m_X5_readSign {g : GT} {n nf : Int} (hu : Up true nf n) (M : Mem) (a1 : Int) : AM g true yX5_readSign cX5_readSign 2 (some .boolean) (1) n n nf [(2, 4), (0, a1)] M (f_X5_readSign M a1) := by
  refine AM_of (by decide +kernel) (Nat.le_of_ble_eq_true rfl) (fun h => absurd h (Int.lt_irrefl n)) ?_
  show AW g true RX5 cX5_readSign 2 (some .boolean) (1) n n nf 0 [(0, 2, 4), (1, 0, a1)] [] n M (f_X5_readSign M a1)
  unfold f_X5_readSign
  refine r_aload_n 0 dX5_readSign_0 rfl rfl ?_
  refine r_iload_n 1 dX5_readSign_1 rfl rfl ?_
  refine r_inv (a := 4) hu ⟨Nat.le_refl _, Nat.le_refl _⟩ dX5_readSign_2 kM_X5_84 (ci := 5) rfl kd_4 rfl rfl (by decide) (by decide) [(0, a1)] rfl (sk := []) rfl (Nat.le_of_ble_eq_true rfl) rfl rfl (m_X5_isSign hu M a1) (fun r1 M2 => ?_)
  refine r_if_ne (tgt := 18) dX5_readSign_5 rfl (fun h3 => ?_) (fun h4 => ?_)
  · refine r_aload_n 0 dX5_readSign_8 rfl rfl ?_
    refine r_iconst dX5_readSign_9 ⟨by decide, by decide⟩ ?_
    refine r_aload_n 0 dX5_readSign_10 rfl rfl ?_
    refine r_gf (t := 0) (kz := 9) rfl hu dX5_readSign_11 kF_X5_78 kd_4 rfl rfl rfl ?_
    refine r_inv (a := 4) hu ⟨Nat.le_refl _, Nat.le_refl _⟩ dX5_readSign_14 kM_X5_89 (ci := 5) rfl kd_4 rfl rfl (by decide) (by decide) [(0, 1), (0, M2 4 9)] rfl (sk := []) rfl (Nat.le_of_ble_eq_true rfl) rfl rfl (m_X5_refused hu M2 1 (M2 4 9)) (fun r5 M6 => ?_)
    refine r_ok (fun h7 => ?_)
    exact r_iret rfl rfl (Or.inr ⟨rfl, h7⟩) dX5_readSign_17
  · refine r_aload_n 0 dX5_readSign_18 rfl rfl ?_
    refine r_invv (a := 4) hu ⟨Nat.le_refl _, Nat.le_refl _⟩ dX5_readSign_19 kM_X5_48 (ci := 5) rfl kd_4 rfl rfl (by decide) (by decide) [] rfl (sk := []) rfl (Nat.le_of_ble_eq_true rfl) rfl (m_X5_step hu M2) (fun r8 M9 => ?_)
    refine r_iconst dX5_readSign_22 ⟨by decide, by decide⟩ ?_
    exact r_iret rfl rfl (Or.inr ⟨rfl, Or.inr rfl⟩) dX5_readSign_23
theorem dX7_emit_0 : decode cX7_emit 0 = .ok (.aload_n 0, 1) := by decide +kernel
theorem dX7_emit_1 : decode cX7_emit 1 = .ok (.getfield 32, 3) := by decide +kernel
theorem dX7_emit_4 : decode cX7_emit 4 = .ok (.sipush 900, 3) := by decide +kernel
theorem dX7_emit_7 : decode cX7_emit 7 = .ok (.if_icmp .ge 23, 3) := by decide +kernel
theorem dX7_emit_10 : decode cX7_emit 10 = .ok (.aload_n 0, 1) := by decide +kernel
theorem dX7_emit_11 : decode cX7_emit 11 = .ok (.getfield 21, 3) := by decide +kernel
theorem dX7_emit_14 : decode cX7_emit 14 = .ok (.aload_n 0, 1) := by decide +kernel
theorem dX7_emit_15 : decode cX7_emit 15 = .ok (.getfield 32, 3) := by decide +kernel
theorem dX7_emit_18 : decode cX7_emit 18 = .ok (.iload_n 1, 1) := by decide +kernel
theorem dX7_emit_19 : decode cX7_emit 19 = .ok (.iastore, 1) := by decide +kernel
theorem dX7_emit_20 : decode cX7_emit 20 = .ok (.aload_n 0, 1) := by decide +kernel
theorem dX7_emit_21 : decode cX7_emit 21 = .ok (.dup, 1) := by decide +kernel
theorem dX7_emit_22 : decode cX7_emit 22 = .ok (.getfield 32, 3) := by decide +kernel
theorem dX7_emit_25 : decode cX7_emit 25 = .ok (.iconst 1, 1) := by decide +kernel
theorem dX7_emit_26 : decode cX7_emit 26 = .ok (.iadd, 1) := by decide +kernel
theorem dX7_emit_27 : decode cX7_emit 27 = .ok (.putfield 32, 3) := by decide +kernel
theorem dX7_emit_30 : decode cX7_emit 30 = .ok (.return_, 1) := by decide +kernel
set_option maxRecDepth 100000 in
theorem m_X7_emit {g : GT} {n nf : Int} (hu : Up true nf n) (M : Mem) (a0 a1 : Int) (hk0 : kd a0 = 17) : AM g true yX7_emit cX7_emit 2 none (0) n n nf [(2, a0), (0, a1)] M (f_X7_emit M a0 a1) := by
  refine AM_of (by decide +kernel) (Nat.le_of_ble_eq_true rfl) (fun h => absurd h (Int.lt_irrefl n)) ?_
  show AW g true RX7 cX7_emit 2 none (0) n n nf 0 [(0, 2, a0), (1, 0, a1)] [] n M (f_X7_emit M a0 a1)
  unfold f_X7_emit
  refine r_aload_n 0 dX7_emit_0 rfl rfl ?_
  refine r_gf (t := 0) (kz := 5) rfl hu dX7_emit_1 kF_X7_32 hk0 rfl rfl rfl ?_
  refine r_sipush dX7_emit_4 (by decide) ⟨by decide, by decide⟩ ?_
  refine r_icmp_ge (tgt := 30) dX7_emit_7 rfl (fun h1 => ?_) (fun h2 => ?_)
  · exact r_vret rfl rfl dX7_emit_30
  · refine r_aload_n 0 dX7_emit_10 rfl rfl ?_
    refine r_gx (kz := 4) rfl hu dX7_emit_11 kF_X7_21 hk0 rfl rfl rfl (fxS4 _ hk0) ?_
    refine r_aload_n 0 dX7_emit_14 rfl rfl ?_
    refine r_gf (t := 0) (kz := 5) rfl hu dX7_emit_15 kF_X7_32 hk0 rfl rfl rfl ?_
    refine r_iload_n 1 dX7_emit_18 rfl rfl ?_
    refine r_ok (fun h3 => ?_)
    refine r_iast hu dX7_emit_19 (kdS _ hk0).2.2.2.2.1 rfl (Or.inl rfl) rfl (kdS _ hk0).2.2.2.2.2 h3 rfl (fun M4 eM4 => ?_)
    refine r_aload_n 0 dX7_emit_20 rfl rfl ?_
    refine r_dup dX7_emit_21 (nz2 _) ?_
    refine r_gf (t := 0) (kz := 5) rfl hu dX7_emit_22 kF_X7_32 hk0 rfl rfl rfl ?_
    refine r_iconst dX7_emit_25 ⟨by decide, by decide⟩ ?_
    refine r_ok (fun h5 => ?_)
    refine r_iadd dX7_emit_26 h5 ?_
    refine r_pf (t := 0) (kz := 5) rfl hu dX7_emit_27 kF_X7_32 hk0 rfl rfl rfl (fun h => absurd h (by decide)) rfl kX_7_5 (fun M6 eM6 => ?_)
    exact r_vret rfl rfl dX7_emit_30
theorem dX5_readBracket_0 : decode cX5_readBracket 0 = .ok (.aload_n 0, 1) := by decide +kernel
theorem dX5_readBracket_1 : decode cX5_readBracket 1 = .ok (.bipush 40, 2) := by decide +kernel
theorem dX5_readBracket_3 : decode cX5_readBracket 3 = .ok (.invokevirtual 84, 3) := by decide +kernel
theorem dX5_readBracket_6 : decode cX5_readBracket 6 = .ok (.ifCond .ne 13, 3) := by decide +kernel
theorem dX5_readBracket_9 : decode cX5_readBracket 9 = .ok (.aload_n 0, 1) := by decide +kernel
theorem dX5_readBracket_10 : decode cX5_readBracket 10 = .ok (.iconst 1, 1) := by decide +kernel
theorem dX5_readBracket_11 : decode cX5_readBracket 11 = .ok (.aload_n 0, 1) := by decide +kernel
theorem dX5_readBracket_12 : decode cX5_readBracket 12 = .ok (.getfield 78, 3) := by decide +kernel
theorem dX5_readBracket_15 : decode cX5_readBracket 15 = .ok (.invokevirtual 89, 3) := by decide +kernel
theorem dX5_readBracket_18 : decode cX5_readBracket 18 = .ok (.ireturn, 1) := by decide +kernel
theorem dX5_readBracket_19 : decode cX5_readBracket 19 = .ok (.iload_n 1, 1) := by decide +kernel
theorem dX5_readBracket_20 : decode cX5_readBracket 20 = .ok (.bipush 6, 2) := by decide +kernel
theorem dX5_readBracket_22 : decode cX5_readBracket 22 = .ok (.if_icmp .lt 13, 3) := by decide +kernel
theorem dX5_readBracket_25 : decode cX5_readBracket 25 = .ok (.aload_n 0, 1) := by decide +kernel
theorem dX5_readBracket_26 : decode cX5_readBracket 26 = .ok (.iconst 4, 1) := by decide +kernel
theorem dX5_readBracket_27 : decode cX5_readBracket 27 = .ok (.aload_n 0, 1) := by decide +kernel
theorem dX5_readBracket_28 : decode cX5_readBracket 28 = .ok (.getfield 78, 3) := by decide +kernel
theorem dX5_readBracket_31 : decode cX5_readBracket 31 = .ok (.invokevirtual 89, 3) := by decide +kernel
theorem dX5_readBracket_34 : decode cX5_readBracket 34 = .ok (.ireturn, 1) := by decide +kernel
theorem dX5_readBracket_35 : decode cX5_readBracket 35 = .ok (.aload_n 0, 1) := by decide +kernel
theorem dX5_readBracket_36 : decode cX5_readBracket 36 = .ok (.invokevirtual 48, 3) := by decide +kernel
theorem dX5_readBracket_39 : decode cX5_readBracket 39 = .ok (.aload_n 0, 1) := by decide +kernel
theorem dX5_readBracket_40 : decode cX5_readBracket 40 = .ok (.iload_n 1, 1) := by decide +kernel
theorem dX5_readBracket_41 : decode cX5_readBracket 41 = .ok (.iconst 1, 1) := by decide +kernel
theorem dX5_readBracket_42 : decode cX5_readBracket 42 = .ok (.iadd, 1) := by decide +kernel
theorem dX5_readBracket_43 : decode cX5_readBracket 43 = .ok (.invokevirtual 158, 3) := by decide +kernel
theorem dX5_readBracket_46 : decode cX5_readBracket 46 = .ok (.istore_n 3, 1) := by decide +kernel
theorem dX5_readBracket_47 : decode cX5_readBracket 47 = .ok (.iload_n 2, 1) := by decide +kernel
theorem dX5_readBracket_48 : decode cX5_readBracket 48 = .ok (.iconst (-1), 1) := by decide +kernel
theorem dX5_readBracket_49 : decode cX5_readBracket 49 = .ok (.if_icmp .eq 42, 3) := by decide +kernel
theorem dX5_readBracket_52 : decode cX5_readBracket 52 = .ok (.iload_n 3, 1) := by decide +kernel
theorem dX5_readBracket_53 : decode cX5_readBracket 53 = .ok (.ifCond .eq 26, 3) := by decide +kernel
theorem dX5_readBracket_56 : decode cX5_readBracket 56 = .ok (.aload_n 0, 1) := by decide +kernel
theorem dX5_readBracket_57 : decode cX5_readBracket 57 = .ok (.bipush 44, 2) := by decide +kernel
theorem dX5_readBracket_59 : decode cX5_readBracket 59 = .ok (.invokevirtual 100, 3) := by decide +kernel
theorem dX5_readBracket_62 : decode cX5_readBracket 62 = .ok (.ifCond .eq 17, 3) := by decide +kernel
theorem dX5_readBracket_65 : decode cX5_readBracket 65 = .ok (.aload_n 0, 1) := by decide +kernel
theorem dX5_readBracket_66 : decode cX5_readBracket 66 = .ok (.iload_n 1, 1) := by decide +kernel
theorem dX5_readBracket_67 : decode cX5_readBracket 67 = .ok (.iconst 1, 1) := by decide +kernel
theorem dX5_readBracket_68 : decode cX5_readBracket 68 = .ok (.iadd, 1) := by decide +kernel
theorem dX5_readBracket_69 : decode cX5_readBracket 69 = .ok (.invokevirtual 158, 3) := by decide +kernel
theorem dX5_readBracket_72 : decode cX5_readBracket 72 = .ok (.ifCond .eq 7, 3) := by decide +kernel
theorem dX5_readBracket_75 : decode cX5_readBracket 75 = .ok (.iconst 1, 1) := by decide +kernel
theorem dX5_readBracket_76 : decode cX5_readBracket 76 = .ok (.goto 4, 3) := by decide +kernel
theorem dX5_readBracket_79 : decode cX5_readBracket 79 = .ok (.iconst 0, 1) := by decide +kernel
theorem dX5_readBracket_80 : decode cX5_readBracket 80 = .ok (.istore_n 3, 1) := by decide +kernel
theorem dX5_readBracket_81 : decode cX5_readBracket 81 = .ok (.aload_n 0, 1) := by decide +kernel
theorem dX5_readBracket_82 : decode cX5_readBracket 82 = .ok (.getfield 27, 3) := by decide +kernel
theorem dX5_readBracket_85 : decode cX5_readBracket 85 = .ok (.iload_n 2, 1) := by decide +kernel
theorem dX5_readBracket_86 : decode cX5_readBracket 86 = .ok (.iconst (-1), 1) := by decide +kernel
theorem dX5_readBracket_87 : decode cX5_readBracket 87 = .ok (.ixor, 1) := by decide +kernel
theorem dX5_readBracket_88 : decode cX5_readBracket 88 = .ok (.invokevirtual 190, 3) := by decide +kernel
theorem dX5_readBracket_91 : decode cX5_readBracket 91 = .ok (.iload_n 3, 1) := by decide +kernel
theorem dX5_readBracket_92 : decode cX5_readBracket 92 = .ok (.ifCond .eq 16, 3) := by decide +kernel
theorem dX5_readBracket_95 : decode cX5_readBracket 95 = .ok (.aload_n 0, 1) := by decide +kernel
theorem dX5_readBracket_96 : decode cX5_readBracket 96 = .ok (.bipush 41, 2) := by decide +kernel
theorem dX5_readBracket_98 : decode cX5_readBracket 98 = .ok (.invokevirtual 100, 3) := by decide +kernel
theorem dX5_readBracket_101 : decode cX5_readBracket 101 = .ok (.ifCond .eq 7, 3) := by decide +kernel
theorem dX5_readBracket_104 : decode cX5_readBracket 104 = .ok (.iconst 1, 1) := by decide +kernel
theorem dX5_readBracket_105 : decode cX5_readBracket 105 = .ok (.goto 4, 3) := by decide +kernel
theorem dX5_readBracket_108 : decode cX5_readBracket 108 = .ok (.iconst 0, 1) := by decide +kernel
theorem dX5_readBracket_109 : decode cX5_readBracket 109 = .ok (.ireturn, 1) := by decide +kernel
set_option maxRecDepth 100000 in
theorem tj_X5_readBracket_91 {g : GT} {n nf : Int} (hu : Up true nf n) (S : Mem → Int → Res) {dS : Nat} (hdS : 2 ≤ dS) (hS : ∀ (M : Mem) (a1 : Int), AM g true yX5_readSum cX5_readSum 5 (some .boolean) dS n n nf [(2, 4), (0, a1)] M (S M a1)) (M : Mem) (x3 : Int) : AW g true RX5 cX5_readBracket 4 (some .boolean) (dS + 1) n n nf 91 [(0, 2, 4), (3, 0, x3)] [] n M (j_X5_readBracket_91 S M x3) := by
  unfold j_X5_readBracket_91
  refine r_iload_n 1 dX5_readBracket_91 rfl rfl ?_
  refine r_if_eq (tgt := 108) dX5_readBracket_92 rfl (fun h17 => ?_) (fun h18 => ?_)
  · refine r_iconst dX5_readBracket_108 ⟨by decide, by decide⟩ ?_
    exact r_iret rfl rfl (Or.inr ⟨rfl, Or.inl rfl⟩) dX5_readBracket_109
  · refine r_aload_n 0 dX5_readBracket_95 rfl rfl ?_
    refine r_bipush dX5_readBracket_96 (by decide) ⟨by decide, by decide⟩ ?_
    refine r_inv (a := 4) hu ⟨Nat.le_refl _, Nat.le_refl _⟩ dX5_readBracket_98 kM_X5_100 (ci := 5) rfl kd_4 rfl rfl (by omega) (by decide) [(0, 41)] rfl (sk := []) rfl (Nat.le_of_ble_eq_true rfl) rfl rfl (m_X5_readSign hu M 41) (fun r19 M20 => ?_)
    refine r_if_eq (tgt := 108) dX5_readBracket_101 rfl (fun h21 => ?_) (fun h22 => ?_)
    · refine r_iconst dX5_readBracket_108 ⟨by decide, by decide⟩ ?_
      exact r_iret rfl rfl (Or.inr ⟨rfl, Or.inl rfl⟩) dX5_readBracket_109
    · refine r_iconst dX5_readBracket_104 ⟨by decide, by decide⟩ ?_
      refine r_goto (tgt := 109) dX5_readBracket_105 rfl ?_
      exact r_iret rfl rfl (Or.inr ⟨rfl, Or.inr rfl⟩) dX5_readBracket_109
set_option maxRecDepth 100000 in
theorem tj_X5_readBracket_80 {g : GT} {n nf : Int} (hu : Up true nf n) (S : Mem → Int → Res) {dS : Nat} (hdS : 2 ≤ dS) (hS : ∀ (M : Mem) (a1 : Int), AM g true yX5_readSum cX5_readSum 5 (some .boolean) dS n n nf [(2, 4), (0, a1)] M (S M a1)) (a2 : Int) (M : Mem) (s0 : Int) : AW g true RX5 cX5_readBracket 4 (some .boolean) (dS + 1) n n nf 80 [(0, 2, 4), (2, 0, a2)] [(0, s0)] n M (j_X5_readBracket_80 S a2 M s0) := by
  unfold j_X5_readBracket_80
  refine r_istore_n dX5_readBracket_80 rfl (by decide) (ls' := [(3, 0, s0), (0, 2, 4), (2, 0, a2)]) rfl ?_
  refine r_aload_n 1 dX5_readBracket_81 rfl rfl ?_
  refine r_gf (t := 2) (kz := 1) rfl hu dX5_readBracket_82 kF_X5_27 kd_4 rfl rfl rfl ?_
  refine r_iload_n 2 dX5_readBracket_85 rfl rfl ?_
  refine r_iconst dX5_readBracket_86 ⟨by decide, by decide⟩ ?_
  refine r_ixor dX5_readBracket_87 ?_
  refine r_ok (fun h25 => ?_)
  refine r_invv (a := M 4 1) hu ⟨Nat.le_refl _, Nat.le_refl _⟩ dX5_readBracket_88 kM_X5_190 (ci := 7) rfl h25 rfl rfl (by omega) (by decide) [(0, ixor a2 (-1))] rfl (sk := []) rfl (Nat.le_of_ble_eq_true rfl) rfl (m_X7_emit hu M (M 4 1) (ixor a2 (-1)) h25) (fun r26 M27 => ?_)
  refine r_sub [1, 0] (ls' := [(0, 2, 4), (3, 0, s0)]) rfl ?_
  exact tj_X5_readBracket_91 hu S hdS hS M27 s0
set_option maxRecDepth 100000 in
theorem tj_X5_readBracket_79 {g : GT} {n nf : Int} (hu : Up true nf n) (S : Mem → Int → Res) {dS : Nat} (hdS : 2 ≤ dS) (hS : ∀ (M : Mem) (a1 : Int), AM g true yX5_readSum cX5_readSum 5 (some .boolean) dS n n nf [(2, 4), (0, a1)] M (S M a1)) (a2 : Int) (M : Mem) : AW g true RX5 cX5_readBracket 4 (some .boolean) (dS + 1) n n nf 79 [(0, 2, 4), (2, 0, a2)] [] n M (j_X5_readBracket_79 S a2 M) := by
  unfold j_X5_readBracket_79
  refine r_iconst dX5_readBracket_79 ⟨by decide, by decide⟩ ?_
  exact tj_X5_readBracket_80 hu S hdS hS a2 M 0
set_option maxRecDepth 100000 in
theorem m_X5_readBracket {g : GT} {n nf : Int} (hu : Up true nf n) (S : Mem → Int → Res) {dS : Nat} (hdS : 2 ≤ dS) (hS : ∀ (M : Mem) (a1 : Int), AM g true yX5_readSum cX5_readSum 5 (some .boolean) dS n n nf [(2, 4), (0, a1)] M (S M a1)) (M : Mem) (a1 a2 : Int) : AM g true yX5_readBracket cX5_readBracket 4 (some .boolean) (dS + 1) n n nf [(2, 4), (0, a1), (0, a2)] M (f_X5_readBracket S M a1 a2) := by
  refine AM_of (by decide +kernel) (Nat.le_of_ble_eq_true rfl) (fun h => absurd h (Int.lt_irrefl n)) ?_
  show AW g true RX5 cX5_readBracket 4 (some .boolean) (dS + 1) n n nf 0 [(0, 2, 4), (1, 0, a1), (2, 0, a2)] [] n M (f_X5_readBracket S M a1 a2)
  unfold f_X5_readBracket
  refine r_aload_n 0 dX5_readBracket_0 rfl rfl ?_
  refine r_bipush dX5_readBracket_1 (by decide) ⟨by decide, by decide⟩ ?_
  refine r_inv (a := 4) hu ⟨Nat.le_refl _, Nat.le_refl _⟩ dX5_readBracket_3 kM_X5_84 (ci := 5) rfl kd_4 rfl rfl (by omega) (by decide) [(0, 40)] rfl (sk := []) rfl (Nat.le_of_ble_eq_true rfl) rfl rfl (m_X5_isSign hu M 40) (fun r1 M2 => ?_)
  refine r_if_ne (tgt := 19) dX5_readBracket_6 rfl (fun h3 => ?_) (fun h4 => ?_)
  · refine r_aload_n 0 dX5_readBracket_9 rfl rfl ?_
    refine r_iconst dX5_readBracket_10 ⟨by decide, by decide⟩ ?_
    refine r_aload_n 0 dX5_readBracket_11 rfl rfl ?_
    refine r_gf (t := 0) (kz := 9) rfl hu dX5_readBracket_12 kF_X5_78 kd_4 rfl rfl rfl ?_
    refine r_inv (a := 4) hu ⟨Nat.le_refl _, Nat.le_refl _⟩ dX5_readBracket_15 kM_X5_89 (ci := 5) rfl kd_4 rfl rfl (by omega) (by decide) [(0, 1), (0, M2 4 9)] rfl (sk := []) rfl (Nat.le_of_ble_eq_true rfl) rfl rfl (m_X5_refused hu M2 1 (M2 4 9)) (fun r5 M6 => ?_)
    refine r_ok (fun h7 => ?_)
    exact r_iret rfl rfl (Or.inr ⟨rfl, h7⟩) dX5_readBracket_18
  · refine r_iload_n 1 dX5_readBracket_19 rfl rfl ?_
    refine r_bipush dX5_readBracket_20 (by decide) ⟨by decide, by decide⟩ ?_
    refine r_icmp_lt (tgt := 35) dX5_readBracket_22 rfl (fun h8 => ?_) (fun h9 => ?_)
    · refine r_aload_n 0 dX5_readBracket_35 rfl rfl ?_
      refine r_invv (a := 4) hu ⟨Nat.le_refl _, Nat.le_refl _⟩ dX5_readBracket_36 kM_X5_48 (ci := 5) rfl kd_4 rfl rfl (by omega) (by decide) [] rfl (sk := []) rfl (Nat.le_of_ble_eq_true rfl) rfl (m_X5_step hu M2) (fun r10 M11 => ?_)
      refine r_aload_n 0 dX5_readBracket_39 rfl rfl ?_
      refine r_iload_n 1 dX5_readBracket_40 rfl rfl ?_
      refine r_iconst dX5_readBracket_41 ⟨by decide, by decide⟩ ?_
      refine r_ok (fun h12 => ?_)
      refine r_iadd dX5_readBracket_42 h12 ?_
      refine r_inv (a := 4) hu ⟨Nat.le_refl _, Nat.le_refl _⟩ dX5_readBracket_43 kM_X5_158 (ci := 5) rfl kd_4 rfl rfl (by omega) (by decide) [(0, a1 + 1)] rfl (sk := []) rfl (Nat.le_of_ble_eq_true rfl) rfl rfl (hS M11 (a1 + 1)) (fun r13 M14 => ?_)
      refine r_istore_n dX5_readBracket_46 rfl (by decide) (ls' := [(3, 0, r13), (0, 2, 4), (1, 0, a1), (2, 0, a2)]) rfl ?_
      refine r_iload_n 3 dX5_readBracket_47 rfl rfl ?_
      refine r_iconst dX5_readBracket_48 ⟨by decide, by decide⟩ ?_
      refine r_icmp_eq (tgt := 91) dX5_readBracket_49 rfl (fun h15 => ?_) (fun h16 => ?_)
      · refine r_sub [1, 0] (ls' := [(0, 2, 4), (3, 0, r13)]) rfl ?_
        exact tj_X5_readBracket_91 hu S hdS hS M14 r13
      · refine r_iload_n 0 dX5_readBracket_52 rfl rfl ?_
        refine r_if_eq (tgt := 79) dX5_readBracket_53 rfl (fun h23 => ?_) (fun h24 => ?_)
        · refine r_sub [1, 3] (ls' := [(0, 2, 4), (2, 0, a2)]) rfl ?_
          exact tj_X5_readBracket_79 hu S hdS hS a2 M14
        · refine r_aload_n 1 dX5_readBracket_56 rfl rfl ?_
          refine r_bipush dX5_readBracket_57 (by decide) ⟨by decide, by decide⟩ ?_
          refine r_inv (a := 4) hu ⟨Nat.le_refl _, Nat.le_refl _⟩ dX5_readBracket_59 kM_X5_100 (ci := 5) rfl kd_4 rfl rfl (by omega) (by decide) [(0, 44)] rfl (sk := []) rfl (Nat.le_of_ble_eq_true rfl) rfl rfl (m_X5_readSign hu M14 44) (fun r28 M29 => ?_)
          refine r_if_eq (tgt := 79) dX5_readBracket_62 rfl (fun h30 => ?_) (fun h31 => ?_)
          · refine r_sub [1, 3] (ls' := [(0, 2, 4), (2, 0, a2)]) rfl ?_
            exact tj_X5_readBracket_79 hu S hdS hS a2 M29
          · refine r_aload_n 1 dX5_readBracket_65 rfl rfl ?_
            refine r_iload_n 2 dX5_readBracket_66 rfl rfl ?_
            refine r_iconst dX5_readBracket_67 ⟨by decide, by decide⟩ ?_
            refine r_iadd dX5_readBracket_68 h12 ?_
            refine r_inv (a := 4) hu ⟨Nat.le_refl _, Nat.le_refl _⟩ dX5_readBracket_69 kM_X5_158 (ci := 5) rfl kd_4 rfl rfl (by omega) (by decide) [(0, a1 + 1)] rfl (sk := []) rfl (Nat.le_of_ble_eq_true rfl) rfl rfl (hS M29 (a1 + 1)) (fun r32 M33 => ?_)
            refine r_if_eq (tgt := 79) dX5_readBracket_72 rfl (fun h34 => ?_) (fun h35 => ?_)
            · refine r_sub [1, 3] (ls' := [(0, 2, 4), (2, 0, a2)]) rfl ?_
              exact tj_X5_readBracket_79 hu S hdS hS a2 M33
            · refine r_iconst dX5_readBracket_75 ⟨by decide, by decide⟩ ?_
              refine r_goto (tgt := 80) dX5_readBracket_76 rfl ?_
              refine r_sub [1, 3] (ls' := [(0, 2, 4), (2, 0, a2)]) rfl ?_
              exact tj_X5_readBracket_80 hu S hdS hS a2 M33 1
    · refine r_aload_n 0 dX5_readBracket_25 rfl rfl ?_
      refine r_iconst dX5_readBracket_26 ⟨by decide, by decide⟩ ?_
      refine r_aload_n 0 dX5_readBracket_27 rfl rfl ?_
      refine r_gf (t := 0) (kz := 9) rfl hu dX5_readBracket_28 kF_X5_78 kd_4 rfl rfl rfl ?_
      refine r_inv (a := 4) hu ⟨Nat.le_refl _, Nat.le_refl _⟩ dX5_readBracket_31 kM_X5_89 (ci := 5) rfl kd_4 rfl rfl (by omega) (by decide) [(0, 4), (0, M2 4 9)] rfl (sk := []) rfl (Nat.le_of_ble_eq_true rfl) rfl rfl (m_X5_refused hu M2 4 (M2 4 9)) (fun r36 M37 => ?_)
      refine r_ok (fun h38 => ?_)
      exact r_iret rfl rfl (Or.inr ⟨rfl, h38⟩) dX5_readBracket_34
theorem dX5_readPart_0 : decode cX5_readPart 0 = .ok (.aload_n 0, 1) := by decide +kernel
theorem dX5_readPart_1 : decode cX5_readPart 1 = .ok (.bipush 40, 2) := by decide +kernel
theorem dX5_readPart_3 : decode cX5_readPart 3 = .ok (.invokevirtual 84, 3) := by decide +kernel
theorem dX5_readPart_6 : decode cX5_readPart 6 = .ok (.ifCond .eq 10, 3) := by decide +kernel
theorem dX5_readPart_9 : decode cX5_readPart 9 = .ok (.aload_n 0, 1) := by decide +kernel
theorem dX5_readPart_10 : decode cX5_readPart 10 = .ok (.iload_n 1, 1) := by decide +kernel
theorem dX5_readPart_11 : decode cX5_readPart 11 = .ok (.iconst (-1), 1) := by decide +kernel
theorem dX5_readPart_12 : decode cX5_readPart 12 = .ok (.invokevirtual 202, 3) := by decide +kernel
theorem dX5_readPart_15 : decode cX5_readPart 15 = .ok (.ireturn, 1) := by decide +kernel
theorem dX5_readPart_16 : decode cX5_readPart 16 = .ok (.aload_n 0, 1) := by decide +kernel
theorem dX5_readPart_17 : decode cX5_readPart 17 = .ok (.getfield 81, 3) := by decide +kernel
theorem dX5_readPart_20 : decode cX5_readPart 20 = .ok (.bipush 19, 2) := by decide +kernel
theorem dX5_readPart_22 : decode cX5_readPart 22 = .ok (.if_icmp .eq 12, 3) := by decide +kernel
theorem dX5_readPart_25 : decode cX5_readPart 25 = .ok (.aload_n 0, 1) := by decide +kernel
theorem dX5_readPart_26 : decode cX5_readPart 26 = .ok (.getfield 81, 3) := by decide +kernel
theorem dX5_readPart_29 : decode cX5_readPart 29 = .ok (.bipush 20, 2) := by decide +kernel
theorem dX5_readPart_31 : decode cX5_readPart 31 = .ok (.if_icmp .ne 19, 3) := by decide +kernel
theorem dX5_readPart_34 : decode cX5_readPart 34 = .ok (.aload_n 0, 1) := by decide +kernel
theorem dX5_readPart_35 : decode cX5_readPart 35 = .ok (.getfield 81, 3) := by decide +kernel
theorem dX5_readPart_38 : decode cX5_readPart 38 = .ok (.istore_n 2, 1) := by decide +kernel
theorem dX5_readPart_39 : decode cX5_readPart 39 = .ok (.aload_n 0, 1) := by decide +kernel
theorem dX5_readPart_40 : decode cX5_readPart 40 = .ok (.invokevirtual 48, 3) := by decide +kernel
theorem dX5_readPart_43 : decode cX5_readPart 43 = .ok (.aload_n 0, 1) := by decide +kernel
theorem dX5_readPart_44 : decode cX5_readPart 44 = .ok (.iload_n 1, 1) := by decide +kernel
theorem dX5_readPart_45 : decode cX5_readPart 45 = .ok (.iload_n 2, 1) := by decide +kernel
theorem dX5_readPart_46 : decode cX5_readPart 46 = .ok (.invokevirtual 202, 3) := by decide +kernel
theorem dX5_readPart_49 : decode cX5_readPart 49 = .ok (.ireturn, 1) := by decide +kernel
theorem dX5_readPart_50 : decode cX5_readPart 50 = .ok (.aload_n 0, 1) := by decide +kernel
theorem dX5_readPart_51 : decode cX5_readPart 51 = .ok (.getfield 81, 3) := by decide +kernel
theorem dX5_readPart_54 : decode cX5_readPart 54 = .ok (.invokestatic 205, 3) := by decide +kernel
theorem dX5_readPart_57 : decode cX5_readPart 57 = .ok (.ifCond .eq 22, 3) := by decide +kernel
theorem dX5_readPart_60 : decode cX5_readPart 60 = .ok (.aload_n 0, 1) := by decide +kernel
theorem dX5_readPart_61 : decode cX5_readPart 61 = .ok (.getfield 27, 3) := by decide +kernel
theorem dX5_readPart_64 : decode cX5_readPart 64 = .ok (.aload_n 0, 1) := by decide +kernel
theorem dX5_readPart_65 : decode cX5_readPart 65 = .ok (.getfield 81, 3) := by decide +kernel
theorem dX5_readPart_68 : decode cX5_readPart 68 = .ok (.iconst (-1), 1) := by decide +kernel
theorem dX5_readPart_69 : decode cX5_readPart 69 = .ok (.ixor, 1) := by decide +kernel
theorem dX5_readPart_70 : decode cX5_readPart 70 = .ok (.invokevirtual 190, 3) := by decide +kernel
theorem dX5_readPart_73 : decode cX5_readPart 73 = .ok (.aload_n 0, 1) := by decide +kernel
theorem dX5_readPart_74 : decode cX5_readPart 74 = .ok (.invokevirtual 48, 3) := by decide +kernel
theorem dX5_readPart_77 : decode cX5_readPart 77 = .ok (.iconst 1, 1) := by decide +kernel
theorem dX5_readPart_78 : decode cX5_readPart 78 = .ok (.ireturn, 1) := by decide +kernel
theorem dX5_readPart_79 : decode cX5_readPart 79 = .ok (.aload_n 0, 1) := by decide +kernel
theorem dX5_readPart_80 : decode cX5_readPart 80 = .ok (.iconst 0, 1) := by decide +kernel
theorem dX5_readPart_81 : decode cX5_readPart 81 = .ok (.sipush 9999, 3) := by decide +kernel
theorem dX5_readPart_84 : decode cX5_readPart 84 = .ok (.invokevirtual 171, 3) := by decide +kernel
theorem dX5_readPart_87 : decode cX5_readPart 87 = .ok (.istore_n 2, 1) := by decide +kernel
theorem dX5_readPart_88 : decode cX5_readPart 88 = .ok (.aload_n 0, 1) := by decide +kernel
theorem dX5_readPart_89 : decode cX5_readPart 89 = .ok (.getfield 27, 3) := by decide +kernel
theorem dX5_readPart_92 : decode cX5_readPart 92 = .ok (.iload_n 2, 1) := by decide +kernel
theorem dX5_readPart_93 : decode cX5_readPart 93 = .ok (.invokevirtual 190, 3) := by decide +kernel
theorem dX5_readPart_96 : decode cX5_readPart 96 = .ok (.iload_n 2, 1) := by decide +kernel
theorem dX5_readPart_97 : decode cX5_readPart 97 = .ok (.iconst (-1), 1) := by decide +kernel
theorem dX5_readPart_98 : decode cX5_readPart 98 = .ok (.if_icmp .eq 7, 3) := by decide +kernel
theorem dX5_readPart_101 : decode cX5_readPart 101 = .ok (.iconst 1, 1) := by decide +kernel
theorem dX5_readPart_102 : decode cX5_readPart 102 = .ok (.goto 4, 3) := by decide +kernel
theorem dX5_readPart_105 : decode cX5_readPart 105 = .ok (.iconst 0, 1) := by decide +kernel
theorem dX5_readPart_106 : decode cX5_readPart 106 = .ok (.ireturn, 1) := by decide +kernel
set_option maxRecDepth 100000 in
theorem tj_X5_readPart_34 {g : GT} {n nf : Int} (hu : Up true nf n) (S : Mem → Int → Res) {dS : Nat} (hdS : 2 ≤ dS) (hS : ∀ (M : Mem) (a1 : Int), AM g true yX5_readSum cX5_readSum 5 (some .boolean) dS n n nf [(2, 4), (0, a1)] M (S M a1)) (a1 : Int) (M : Mem) : AW g true RX5 cX5_readPart 3 (some .boolean) (dS + 2) n n nf 34 [(0, 2, 4), (1, 0, a1)] [] n M (j_X5_readPart_34 S a1 M) := by
  unfold j_X5_readPart_34
  refine r_aload_n 0 dX5_readPart_34 rfl rfl ?_
  refine r_gf (t := 0) (kz := 10) rfl hu dX5_readPart_35 kF_X5_81 kd_4 rfl rfl rfl ?_
  refine r_istore_nB dX5_readPart_38 rfl (by decide) (lf := fun y7 => [(2, 0, y7), (0, 2, 4), (1, 0, a1)]) (fun _ => rfl) (fun y7 ey7 => ?_)
  refine r_aload_n 1 dX5_readPart_39 rfl rfl ?_
  refine r_invv (a := 4) hu ⟨Nat.le_refl _, Nat.le_refl _⟩ dX5_readPart_40 kM_X5_48 (ci := 5) rfl kd_4 rfl rfl (by omega) (by decide) [] rfl (sk := []) rfl (Nat.le_of_ble_eq_true rfl) rfl (m_X5_step hu M) (fun r8 M9 => ?_)
  refine r_aload_n 1 dX5_readPart_43 rfl rfl ?_
  refine r_iload_n 2 dX5_readPart_44 rfl rfl ?_
  refine r_iload_n 0 dX5_readPart_45 rfl rfl ?_
  refine r_inv (a := 4) hu ⟨Nat.le_refl _, Nat.le_refl _⟩ dX5_readPart_46 kM_X5_202 (ci := 5) rfl kd_4 rfl rfl (by omega) (by decide) [(0, a1), (0, y7)] rfl (sk := []) rfl (Nat.le_of_ble_eq_true rfl) rfl rfl (m_X5_readBracket hu S hdS hS M9 a1 y7) (fun r10 M11 => ?_)
  refine r_ok (fun h12 => ?_)
  exact r_iret rfl rfl (Or.inr ⟨rfl, h12⟩) dX5_readPart_49
set_option maxRecDepth 100000 in
theorem m_X5_readPart {g : GT} {n nf : Int} (hu : Up true nf n) (S : Mem → Int → Res) {dS : Nat} (hdS : 2 ≤ dS) (hS : ∀ (M : Mem) (a1 : Int), AM g true yX5_readSum cX5_readSum 5 (some .boolean) dS n n nf [(2, 4), (0, a1)] M (S M a1)) (M : Mem) (a1 : Int) : AM g true yX5_readPart cX5_readPart 3 (some .boolean) (dS + 2) n n nf [(2, 4), (0, a1)] M (f_X5_readPart S M a1) := by
  refine AM_of (by decide +kernel) (Nat.le_of_ble_eq_true rfl) (fun h => absurd h (Int.lt_irrefl n)) ?_
  show AW g true RX5 cX5_readPart 3 (some .boolean) (dS + 2) n n nf 0 [(0, 2, 4), (1, 0, a1)] [] n M (f_X5_readPart S M a1)
  unfold f_X5_readPart
  refine r_aload_n 0 dX5_readPart_0 rfl rfl ?_
  refine r_bipush dX5_readPart_1 (by decide) ⟨by decide, by decide⟩ ?_
  refine r_inv (a := 4) hu ⟨Nat.le_refl _, Nat.le_refl _⟩ dX5_readPart_3 kM_X5_84 (ci := 5) rfl kd_4 rfl rfl (by omega) (by decide) [(0, 40)] rfl (sk := []) rfl (Nat.le_of_ble_eq_true rfl) rfl rfl (m_X5_isSign hu M 40) (fun r1 M2 => ?_)
  refine r_if_eq (tgt := 16) dX5_readPart_6 rfl (fun h3 => ?_) (fun h4 => ?_)
  · refine r_aload_n 0 dX5_readPart_16 rfl rfl ?_
    refine r_gf (t := 0) (kz := 10) rfl hu dX5_readPart_17 kF_X5_81 kd_4 rfl rfl rfl ?_
    refine r_bipush dX5_readPart_20 (by decide) ⟨by decide, by decide⟩ ?_
    refine r_icmp_eq (tgt := 34) dX5_readPart_22 rfl (fun h5 => ?_) (fun h6 => ?_)
    · exact tj_X5_readPart_34 hu S hdS hS a1 M2
    · refine r_aload_n 0 dX5_readPart_25 rfl rfl ?_
      refine r_gf (t := 0) (kz := 10) rfl hu dX5_readPart_26 kF_X5_81 kd_4 rfl rfl rfl ?_
      refine r_bipush dX5_readPart_29 (by decide) ⟨by decide, by decide⟩ ?_
      refine r_icmp_ne (tgt := 50) dX5_readPart_31 rfl (fun h13 => ?_) (fun h14 => ?_)
      · exact tj_X5_readPart_34 hu S hdS hS a1 M2
      · refine r_aload_n 0 dX5_readPart_50 rfl rfl ?_
        refine r_gf (t := 0) (kz := 10) rfl hu dX5_readPart_51 kF_X5_81 kd_4 rfl rfl rfl ?_
        refine r_ins (a := 0) ⟨Nat.le_refl _, Nat.le_refl _⟩ dX5_readPart_54 kM_X5_205 (by omega) (by decide) [(0, M2 4 10)] rfl (sk := []) rfl (Nat.le_of_ble_eq_true rfl) rfl rfl (m_X6_isPart hu M2 (M2 4 10)) (fun r15 M16 => ?_)
        refine r_if_eq (tgt := 79) dX5_readPart_57 rfl (fun h17 => ?_) (fun h18 => ?_)
        · refine r_aload_n 0 dX5_readPart_79 rfl rfl ?_
          refine r_iconst dX5_readPart_80 ⟨by decide, by decide⟩ ?_
          refine r_sipush dX5_readPart_81 (by decide) ⟨by decide, by decide⟩ ?_
          refine r_inv (a := 4) hu ⟨Nat.le_refl _, Nat.le_refl _⟩ dX5_readPart_84 kM_X5_171 (ci := 5) rfl kd_4 rfl rfl (by omega) (by decide) [(0, 0), (0, 9999)] rfl (sk := []) rfl (Nat.le_of_ble_eq_true rfl) rfl rfl (m_X5_takenNumber hu M16 0 9999) (fun r19 M20 => ?_)
          refine r_istore_n dX5_readPart_87 rfl (by decide) (ls' := [(2, 0, r19), (0, 2, 4), (1, 0, a1)]) rfl ?_
          refine r_aload_n 1 dX5_readPart_88 rfl rfl ?_
          refine r_gf (t := 2) (kz := 1) rfl hu dX5_readPart_89 kF_X5_27 kd_4 rfl rfl rfl ?_
          refine r_iload_n 0 dX5_readPart_92 rfl rfl ?_
          refine r_ok (fun h21 => ?_)
          refine r_invv (a := M20 4 1) hu ⟨Nat.le_refl _, Nat.le_refl _⟩ dX5_readPart_93 kM_X5_190 (ci := 7) rfl h21 rfl rfl (by omega) (by decide) [(0, r19)] rfl (sk := []) rfl (Nat.le_of_ble_eq_true rfl) rfl (m_X7_emit hu M20 (M20 4 1) r19 h21) (fun r22 M23 => ?_)
          refine r_iload_n 0 dX5_readPart_96 rfl rfl ?_
          refine r_iconst dX5_readPart_97 ⟨by decide, by decide⟩ ?_
          refine r_icmp_eq (tgt := 105) dX5_readPart_98 rfl (fun h24 => ?_) (fun h25 => ?_)
          · refine r_iconst dX5_readPart_105 ⟨by decide, by decide⟩ ?_
            exact r_iret rfl rfl (Or.inr ⟨rfl, Or.inl rfl⟩) dX5_readPart_106
          · refine r_iconst dX5_readPart_101 ⟨by decide, by decide⟩ ?_
            refine r_goto (tgt := 106) dX5_readPart_102 rfl ?_
            exact r_iret rfl rfl (Or.inr ⟨rfl, Or.inr rfl⟩) dX5_readPart_106
        · refine r_aload_n 0 dX5_readPart_60 rfl rfl ?_
          refine r_gf (t := 2) (kz := 1) rfl hu dX5_readPart_61 kF_X5_27 kd_4 rfl rfl rfl ?_
          refine r_aload_n 0 dX5_readPart_64 rfl rfl ?_
          refine r_gf (t := 0) (kz := 10) rfl hu dX5_readPart_65 kF_X5_81 kd_4 rfl rfl rfl ?_
          refine r_iconst dX5_readPart_68 ⟨by decide, by decide⟩ ?_
          refine r_ixor dX5_readPart_69 ?_
          refine r_ok (fun h26 => ?_)
          refine r_invv (a := M16 4 1) hu ⟨Nat.le_refl _, Nat.le_refl _⟩ dX5_readPart_70 kM_X5_190 (ci := 7) rfl h26 rfl rfl (by omega) (by decide) [(0, ixor (M16 4 10) (-1))] rfl (sk := []) rfl (Nat.le_of_ble_eq_true rfl) rfl (m_X7_emit hu M16 (M16 4 1) (ixor (M16 4 10) (-1)) h26) (fun r27 M28 => ?_)
          refine r_aload_n 0 dX5_readPart_73 rfl rfl ?_
          refine r_invv (a := 4) hu ⟨Nat.le_refl _, Nat.le_refl _⟩ dX5_readPart_74 kM_X5_48 (ci := 5) rfl kd_4 rfl rfl (by omega) (by decide) [] rfl (sk := []) rfl (Nat.le_of_ble_eq_true rfl) rfl (m_X5_step hu M28) (fun r29 M30 => ?_)
          refine r_iconst dX5_readPart_77 ⟨by decide, by decide⟩ ?_
          exact r_iret rfl rfl (Or.inr ⟨rfl, Or.inr rfl⟩) dX5_readPart_78
  · refine r_aload_n 0 dX5_readPart_9 rfl rfl ?_
    refine r_iload_n 1 dX5_readPart_10 rfl rfl ?_
    refine r_iconst dX5_readPart_11 ⟨by decide, by decide⟩ ?_
    refine r_inv (a := 4) hu ⟨Nat.le_refl _, Nat.le_refl _⟩ dX5_readPart_12 kM_X5_202 (ci := 5) rfl kd_4 rfl rfl (by omega) (by decide) [(0, a1), (0, (-1))] rfl (sk := []) rfl (Nat.le_of_ble_eq_true rfl) rfl rfl (m_X5_readBracket hu S hdS hS M2 a1 (-1)) (fun r31 M32 => ?_)
    refine r_ok (fun h33 => ?_)
    exact r_iret rfl rfl (Or.inr ⟨rfl, h33⟩) dX5_readPart_15
theorem dX5_readProduct_0 : decode cX5_readProduct 0 = .ok (.aload_n 0, 1) := by decide +kernel
theorem dX5_readProduct_1 : decode cX5_readProduct 1 = .ok (.iload_n 1, 1) := by decide +kernel
theorem dX5_readProduct_2 : decode cX5_readProduct 2 = .ok (.invokevirtual 199, 3) := by decide +kernel
theorem dX5_readProduct_5 : decode cX5_readProduct 5 = .ok (.istore_n 2, 1) := by decide +kernel
theorem dX5_readProduct_6 : decode cX5_readProduct 6 = .ok (.iconst 0, 1) := by decide +kernel
theorem dX5_readProduct_7 : decode cX5_readProduct 7 = .ok (.istore_n 3, 1) := by decide +kernel
theorem dX5_readProduct_8 : decode cX5_readProduct 8 = .ok (.iload_n 3, 1) := by decide +kernel
theorem dX5_readProduct_9 : decode cX5_readProduct 9 = .ok (.sipush 900, 3) := by decide +kernel
theorem dX5_readProduct_12 : decode cX5_readProduct 12 = .ok (.if_icmp .ge 58, 3) := by decide +kernel
theorem dX5_readProduct_15 : decode cX5_readProduct 15 = .ok (.iload_n 2, 1) := by decide +kernel
theorem dX5_readProduct_16 : decode cX5_readProduct 16 = .ok (.ifCond .eq 54, 3) := by decide +kernel
theorem dX5_readProduct_19 : decode cX5_readProduct 19 = .ok (.aload_n 0, 1) := by decide +kernel
theorem dX5_readProduct_20 : decode cX5_readProduct 20 = .ok (.bipush 42, 2) := by decide +kernel
theorem dX5_readProduct_22 : decode cX5_readProduct 22 = .ok (.invokevirtual 84, 3) := by decide +kernel
theorem dX5_readProduct_25 : decode cX5_readProduct 25 = .ok (.ifCond .ne 12, 3) := by decide +kernel
theorem dX5_readProduct_28 : decode cX5_readProduct 28 = .ok (.aload_n 0, 1) := by decide +kernel
theorem dX5_readProduct_29 : decode cX5_readProduct 29 = .ok (.bipush 47, 2) := by decide +kernel
theorem dX5_readProduct_31 : decode cX5_readProduct 31 = .ok (.invokevirtual 84, 3) := by decide +kernel
theorem dX5_readProduct_34 : decode cX5_readProduct 34 = .ok (.ifCond .eq 36, 3) := by decide +kernel
theorem dX5_readProduct_37 : decode cX5_readProduct 37 = .ok (.aload_n 0, 1) := by decide +kernel
theorem dX5_readProduct_38 : decode cX5_readProduct 38 = .ok (.getfield 72, 3) := by decide +kernel
theorem dX5_readProduct_41 : decode cX5_readProduct 41 = .ok (.istore 4, 2) := by decide +kernel
theorem dX5_readProduct_43 : decode cX5_readProduct 43 = .ok (.aload_n 0, 1) := by decide +kernel
theorem dX5_readProduct_44 : decode cX5_readProduct 44 = .ok (.invokevirtual 48, 3) := by decide +kernel
theorem dX5_readProduct_47 : decode cX5_readProduct 47 = .ok (.aload_n 0, 1) := by decide +kernel
theorem dX5_readProduct_48 : decode cX5_readProduct 48 = .ok (.iload_n 1, 1) := by decide +kernel
theorem dX5_readProduct_49 : decode cX5_readProduct 49 = .ok (.invokevirtual 199, 3) := by decide +kernel
theorem dX5_readProduct_52 : decode cX5_readProduct 52 = .ok (.istore_n 2, 1) := by decide +kernel
theorem dX5_readProduct_53 : decode cX5_readProduct 53 = .ok (.aload_n 0, 1) := by decide +kernel
theorem dX5_readProduct_54 : decode cX5_readProduct 54 = .ok (.getfield 27, 3) := by decide +kernel
theorem dX5_readProduct_57 : decode cX5_readProduct 57 = .ok (.iload 4, 2) := by decide +kernel
theorem dX5_readProduct_59 : decode cX5_readProduct 59 = .ok (.iconst (-1), 1) := by decide +kernel
theorem dX5_readProduct_60 : decode cX5_readProduct 60 = .ok (.ixor, 1) := by decide +kernel
theorem dX5_readProduct_61 : decode cX5_readProduct 61 = .ok (.invokevirtual 190, 3) := by decide +kernel
theorem dX5_readProduct_64 : decode cX5_readProduct 64 = .ok (.iinc 3 1, 3) := by decide +kernel
theorem dX5_readProduct_67 : decode cX5_readProduct 67 = .ok (.goto (-59), 3) := by decide +kernel
theorem dX5_readProduct_70 : decode cX5_readProduct 70 = .ok (.iload_n 2, 1) := by decide +kernel
theorem dX5_readProduct_71 : decode cX5_readProduct 71 = .ok (.ireturn, 1) := by decide +kernel
set_option maxRecDepth 100000 in
theorem tj_X5_readProduct_37 {g : GT} {n nf : Int} (hu : Up true nf n) (S : Mem → Int → Res) {dS : Nat} (hdS : 2 ≤ dS) (hS : ∀ (M : Mem) (a1 : Int), AM g true yX5_readSum cX5_readSum 5 (some .boolean) dS n n nf [(2, 4), (0, a1)] M (S M a1)) (a1 : Int) (w8 : Mem → Int → Int → Res) (hw8 : ∀ (M : Mem) (x2 x3 : Int), AW g true RX5 cX5_readProduct 5 (some .boolean) (dS + 3) n n nf 8 [(0, 2, 4), (1, 0, a1), (2, 0, x2), (3, 0, x3)] [] n M (w8 M x2 x3)) (M : Mem) (x3 : Int) : AW g true RX5 cX5_readProduct 5 (some .boolean) (dS + 3) n n nf 37 [(0, 2, 4), (1, 0, a1), (3, 0, x3)] [] n M (j_X5_readProduct_37 S a1 w8 M x3) := by
  unfold j_X5_readProduct_37
  refine r_aload_n 0 dX5_readProduct_37 rfl rfl ?_
  refine r_gf (t := 0) (kz := 8) rfl hu dX5_readProduct_38 kF_X5_72 kd_4 rfl rfl rfl ?_
  refine r_istoreB dX5_readProduct_41 (by decide) (lf := fun y18 => [(4, 0, y18), (0, 2, 4), (1, 0, a1), (3, 0, x3)]) (fun _ => rfl) (fun y18 ey18 => ?_)
  refine r_aload_n 1 dX5_readProduct_43 rfl rfl ?_
  refine r_invv (a := 4) hu ⟨Nat.le_refl _, Nat.le_refl _⟩ dX5_readProduct_44 kM_X5_48 (ci := 5) rfl kd_4 rfl rfl (by omega) (by decide) [] rfl (sk := []) rfl (Nat.le_of_ble_eq_true rfl) rfl (m_X5_step hu M) (fun r19 M20 => ?_)
  refine r_aload_n 1 dX5_readProduct_47 rfl rfl ?_
  refine r_iload_n 2 dX5_readProduct_48 rfl rfl ?_
  refine r_inv (a := 4) hu ⟨Nat.le_refl _, Nat.le_refl _⟩ dX5_readProduct_49 kM_X5_199 (ci := 5) rfl kd_4 rfl rfl (by omega) (by decide) [(0, a1)] rfl (sk := []) rfl (Nat.le_of_ble_eq_true rfl) rfl rfl (m_X5_readPart hu S hdS hS M20 a1) (fun r21 M22 => ?_)
  refine r_istore_n dX5_readProduct_52 rfl (by decide) (ls' := [(2, 0, r21), (4, 0, y18), (0, 2, 4), (1, 0, a1), (3, 0, x3)]) rfl ?_
  refine r_aload_n 2 dX5_readProduct_53 rfl rfl ?_
  refine r_gf (t := 2) (kz := 1) rfl hu dX5_readProduct_54 kF_X5_27 kd_4 rfl rfl rfl ?_
  refine r_iload 1 dX5_readProduct_57 rfl ?_
  refine r_iconst dX5_readProduct_59 ⟨by decide, by decide⟩ ?_
  refine r_ixor dX5_readProduct_60 ?_
  refine r_ok (fun h23 => ?_)
  refine r_invv (a := M22 4 1) hu ⟨Nat.le_refl _, Nat.le_refl _⟩ dX5_readProduct_61 kM_X5_190 (ci := 7) rfl h23 rfl rfl (by omega) (by decide) [(0, ixor y18 (-1))] rfl (sk := []) rfl (Nat.le_of_ble_eq_true rfl) rfl (m_X7_emit hu M22 (M22 4 1) (ixor y18 (-1)) h23) (fun r24 M25 => ?_)
  refine r_ok (fun h26 => ?_)
  refine r_iincB 4 dX5_readProduct_64 rfl h26 (by decide) (lf := fun y27 => [(3, 0, y27), (2, 0, r21), (4, 0, y18), (0, 2, 4), (1, 0, a1)]) (fun _ => rfl) (fun y27 ey27 => ?_)
  refine r_goto (tgt := 8) dX5_readProduct_67 rfl ?_
  refine r_sub [3, 4, 1, 0] (ls' := [(0, 2, 4), (1, 0, a1), (2, 0, r21), (3, 0, y27)]) rfl ?_
  exact hw8 M25 r21 y27
set_option maxRecDepth 100000 in
theorem tb_X5_readProduct_8 {g : GT} {n nf : Int} (hu : Up true nf n) (S : Mem → Int → Res) {dS : Nat} (hdS : 2 ≤ dS) (hS : ∀ (M : Mem) (a1 : Int), AM g true yX5_readSum cX5_readSum 5 (some .boolean) dS n n nf [(2, 4), (0, a1)] M (S M a1)) (a1 : Int) (w8 : Mem → Int → Int → Res) (hw8 : ∀ (M : Mem) (x2 x3 : Int), AW g true RX5 cX5_readProduct 5 (some .boolean) (dS + 3) n n nf 8 [(0, 2, 4), (1, 0, a1), (2, 0, x2), (3, 0, x3)] [] n M (w8 M x2 x3)) (M : Mem) (x2 x3 : Int) : AW g true RX5 cX5_readProduct 5 (some .boolean) (dS + 3) n n nf 8 [(0, 2, 4), (1, 0, a1), (2, 0, x2), (3, 0, x3)] [] n M (b_X5_readProduct_8 S a1 w8 M x2 x3) := by
  unfold b_X5_readProduct_8
  refine r_iload_n 3 dX5_readProduct_8 rfl rfl ?_
  refine r_sipush dX5_readProduct_9 (by decide) ⟨by decide, by decide⟩ ?_
  refine r_icmp_ge (tgt := 70) dX5_readProduct_12 rfl (fun h3 => ?_) (fun h4 => ?_)
  · refine r_iload_n 2 dX5_readProduct_70 rfl rfl ?_
    refine r_ok (fun h5 => ?_)
    exact r_iret rfl rfl (Or.inr ⟨rfl, h5⟩) dX5_readProduct_71
  · refine r_iload_n 2 dX5_readProduct_15 rfl rfl ?_
    refine r_if_eq (tgt := 70) dX5_readProduct_16 rfl (fun h6 => ?_) (fun h7 => ?_)
    · refine r_iload_n 2 dX5_readProduct_70 rfl rfl ?_
      refine r_ok (fun h8 => ?_)
      exact r_iret rfl rfl (Or.inr ⟨rfl, h8⟩) dX5_readProduct_71
    · refine r_aload_n 0 dX5_readProduct_19 rfl rfl ?_
      refine r_bipush dX5_readProduct_20 (by decide) ⟨by decide, by decide⟩ ?_
      refine r_inv (a := 4) hu ⟨Nat.le_refl _, Nat.le_refl _⟩ dX5_readProduct_22 kM_X5_84 (ci := 5) rfl kd_4 rfl rfl (by omega) (by decide) [(0, 42)] rfl (sk := []) rfl (Nat.le_of_ble_eq_true rfl) rfl rfl (m_X5_isSign hu M 42) (fun r9 M10 => ?_)
      refine r_if_ne (tgt := 37) dX5_readProduct_25 rfl (fun h11 => ?_) (fun h12 => ?_)
      · refine r_aload_n 0 dX5_readProduct_28 rfl rfl ?_
        refine r_bipush dX5_readProduct_29 (by decide) ⟨by decide, by decide⟩ ?_
        refine r_inv (a := 4) hu ⟨Nat.le_refl _, Nat.le_refl _⟩ dX5_readProduct_31 kM_X5_84 (ci := 5) rfl kd_4 rfl rfl (by omega) (by decide) [(0, 47)] rfl (sk := []) rfl (Nat.le_of_ble_eq_true rfl) rfl rfl (m_X5_isSign hu M10 47) (fun r13 M14 => ?_)
        refine r_if_eq (tgt := 70) dX5_readProduct_34 rfl (fun h15 => ?_) (fun h16 => ?_)
        · refine r_iload_n 2 dX5_readProduct_70 rfl rfl ?_
          refine r_ok (fun h17 => ?_)
          exact r_iret rfl rfl (Or.inr ⟨rfl, h17⟩) dX5_readProduct_71
        · refine r_sub [0, 1, 3] (ls' := [(0, 2, 4), (1, 0, a1), (3, 0, x3)]) rfl ?_
          exact tj_X5_readProduct_37 hu S hdS hS a1 w8 hw8 M14 x3
      · refine r_sub [0, 1, 3] (ls' := [(0, 2, 4), (1, 0, a1), (3, 0, x3)]) rfl ?_
        exact tj_X5_readProduct_37 hu S hdS hS a1 w8 hw8 M10 x3
set_option maxRecDepth 100000 in
theorem m_X5_readProduct {g : GT} {n nf : Int} (hu : Up true nf n) (S : Mem → Int → Res) {dS : Nat} (hdS : 2 ≤ dS) (hS : ∀ (M : Mem) (a1 : Int), AM g true yX5_readSum cX5_readSum 5 (some .boolean) dS n n nf [(2, 4), (0, a1)] M (S M a1)) (M : Mem) (a1 : Int) : AM g true yX5_readProduct cX5_readProduct 5 (some .boolean) (dS + 3) n n nf [(2, 4), (0, a1)] M (f_X5_readProduct S M a1) := by
  refine AM_of (by decide +kernel) (Nat.le_of_ble_eq_true rfl) (fun h => absurd h (Int.lt_irrefl n)) ?_
  show AW g true RX5 cX5_readProduct 5 (some .boolean) (dS + 3) n n nf 0 [(0, 2, 4), (1, 0, a1)] [] n M (f_X5_readProduct S M a1)
  unfold f_X5_readProduct
  refine r_aload_n 0 dX5_readProduct_0 rfl rfl ?_
  refine r_iload_n 1 dX5_readProduct_1 rfl rfl ?_
  refine r_inv (a := 4) hu ⟨Nat.le_refl _, Nat.le_refl _⟩ dX5_readProduct_2 kM_X5_199 (ci := 5) rfl kd_4 rfl rfl (by omega) (by decide) [(0, a1)] rfl (sk := []) rfl (Nat.le_of_ble_eq_true rfl) rfl rfl (m_X5_readPart hu S hdS hS M a1) (fun r1 M2 => ?_)
  refine r_istore_n dX5_readProduct_5 rfl (by decide) (ls' := [(2, 0, r1), (0, 2, 4), (1, 0, a1)]) rfl ?_
  refine r_iconst dX5_readProduct_6 ⟨by decide, by decide⟩ ?_
  refine r_istore_n dX5_readProduct_7 rfl (by decide) (ls' := [(3, 0, 0), (2, 0, r1), (0, 2, 4), (1, 0, a1)]) rfl ?_
  refine r_sub [2, 3, 1, 0] (ls' := [(0, 2, 4), (1, 0, a1), (2, 0, r1), (3, 0, 0)]) rfl ?_
  exact wl2_aw (P := fun M x2 x3 o => AW g true RX5 cX5_readProduct 5 (some .boolean) (dS + 3) n n nf 8 [(0, 2, 4), (1, 0, a1), (2, 0, x2), (3, 0, x3)] [] n M (o)) (fun M x2 x3 => aw_none) (fun w hw M x2 x3 => tb_X5_readProduct_8 hu S hdS hS a1 w hw M x2 x3) FU M2 r1 0
theorem dX5_readSum_0 : decode cX5_readSum 0 = .ok (.aload_n 0, 1) := by decide +kernel
theorem dX5_readSum_1 : decode cX5_readSum 1 = .ok (.iload_n 1, 1) := by decide +kernel
theorem dX5_readSum_2 : decode cX5_readSum 2 = .ok (.invokevirtual 196, 3) := by decide +kernel
theorem dX5_readSum_5 : decode cX5_readSum 5 = .ok (.istore_n 2, 1) := by decide +kernel
theorem dX5_readSum_6 : decode cX5_readSum 6 = .ok (.iconst 0, 1) := by decide +kernel
theorem dX5_readSum_7 : decode cX5_readSum 7 = .ok (.istore_n 3, 1) := by decide +kernel
theorem dX5_readSum_8 : decode cX5_readSum 8 = .ok (.iload_n 3, 1) := by decide +kernel
theorem dX5_readSum_9 : decode cX5_readSum 9 = .ok (.sipush 900, 3) := by decide +kernel
theorem dX5_readSum_12 : decode cX5_readSum 12 = .ok (.if_icmp .ge 58, 3) := by decide +kernel
theorem dX5_readSum_15 : decode cX5_readSum 15 = .ok (.iload_n 2, 1) := by decide +kernel
theorem dX5_readSum_16 : decode cX5_readSum 16 = .ok (.ifCond .eq 54, 3) := by decide +kernel
theorem dX5_readSum_19 : decode cX5_readSum 19 = .ok (.aload_n 0, 1) := by decide +kernel
theorem dX5_readSum_20 : decode cX5_readSum 20 = .ok (.bipush 43, 2) := by decide +kernel
theorem dX5_readSum_22 : decode cX5_readSum 22 = .ok (.invokevirtual 84, 3) := by decide +kernel
theorem dX5_readSum_25 : decode cX5_readSum 25 = .ok (.ifCond .ne 12, 3) := by decide +kernel
theorem dX5_readSum_28 : decode cX5_readSum 28 = .ok (.aload_n 0, 1) := by decide +kernel
theorem dX5_readSum_29 : decode cX5_readSum 29 = .ok (.bipush 45, 2) := by decide +kernel
theorem dX5_readSum_31 : decode cX5_readSum 31 = .ok (.invokevirtual 84, 3) := by decide +kernel
theorem dX5_readSum_34 : decode cX5_readSum 34 = .ok (.ifCond .eq 36, 3) := by decide +kernel
theorem dX5_readSum_37 : decode cX5_readSum 37 = .ok (.aload_n 0, 1) := by decide +kernel
theorem dX5_readSum_38 : decode cX5_readSum 38 = .ok (.getfield 72, 3) := by decide +kernel
theorem dX5_readSum_41 : decode cX5_readSum 41 = .ok (.istore 4, 2) := by decide +kernel
theorem dX5_readSum_43 : decode cX5_readSum 43 = .ok (.aload_n 0, 1) := by decide +kernel
theorem dX5_readSum_44 : decode cX5_readSum 44 = .ok (.invokevirtual 48, 3) := by decide +kernel
theorem dX5_readSum_47 : decode cX5_readSum 47 = .ok (.aload_n 0, 1) := by decide +kernel
theorem dX5_readSum_48 : decode cX5_readSum 48 = .ok (.iload_n 1, 1) := by decide +kernel
theorem dX5_readSum_49 : decode cX5_readSum 49 = .ok (.invokevirtual 196, 3) := by decide +kernel
theorem dX5_readSum_52 : decode cX5_readSum 52 = .ok (.istore_n 2, 1) := by decide +kernel
theorem dX5_readSum_53 : decode cX5_readSum 53 = .ok (.aload_n 0, 1) := by decide +kernel
theorem dX5_readSum_54 : decode cX5_readSum 54 = .ok (.getfield 27, 3) := by decide +kernel
theorem dX5_readSum_57 : decode cX5_readSum 57 = .ok (.iload 4, 2) := by decide +kernel
theorem dX5_readSum_59 : decode cX5_readSum 59 = .ok (.iconst (-1), 1) := by decide +kernel
theorem dX5_readSum_60 : decode cX5_readSum 60 = .ok (.ixor, 1) := by decide +kernel
theorem dX5_readSum_61 : decode cX5_readSum 61 = .ok (.invokevirtual 190, 3) := by decide +kernel
theorem dX5_readSum_64 : decode cX5_readSum 64 = .ok (.iinc 3 1, 3) := by decide +kernel
theorem dX5_readSum_67 : decode cX5_readSum 67 = .ok (.goto (-59), 3) := by decide +kernel
theorem dX5_readSum_70 : decode cX5_readSum 70 = .ok (.iload_n 2, 1) := by decide +kernel
theorem dX5_readSum_71 : decode cX5_readSum 71 = .ok (.ireturn, 1) := by decide +kernel
set_option maxRecDepth 100000 in
theorem tj_X5_readSum_37 {g : GT} {n nf : Int} (hu : Up true nf n) (S : Mem → Int → Res) {dS : Nat} (hdS : 2 ≤ dS) (hS : ∀ (M : Mem) (a1 : Int), AM g true yX5_readSum cX5_readSum 5 (some .boolean) dS n n nf [(2, 4), (0, a1)] M (S M a1)) (a1 : Int) (w8 : Mem → Int → Int → Res) (hw8 : ∀ (M : Mem) (x2 x3 : Int), AW g true RX5 cX5_readSum 5 (some .boolean) (dS + 4) n n nf 8 [(0, 2, 4), (1, 0, a1), (2, 0, x2), (3, 0, x3)] [] n M (w8 M x2 x3)) (M : Mem) (x3 : Int) : AW g true RX5 cX5_readSum 5 (some .boolean) (dS + 4) n n nf 37 [(0, 2, 4), (1, 0, a1), (3, 0, x3)] [] n M (j_X5_readSum_37 S a1 w8 M x3) := by
  unfold j_X5_readSum_37
  refine r_aload_n 0 dX5_readSum_37 rfl rfl ?_
  refine r_gf (t := 0) (kz := 8) rfl hu dX5_readSum_38 kF_X5_72 kd_4 rfl rfl rfl ?_
  refine r_istoreB dX5_readSum_41 (by decide) (lf := fun y18 => [(4, 0, y18), (0, 2, 4), (1, 0, a1), (3, 0, x3)]) (fun _ => rfl) (fun y18 ey18 => ?_)
  refine r_aload_n 1 dX5_readSum_43 rfl rfl ?_
  refine r_invv (a := 4) hu ⟨Nat.le_refl _, Nat.le_refl _⟩ dX5_readSum_44 kM_X5_48 (ci := 5) rfl kd_4 rfl rfl (by omega) (by decide) [] rfl (sk := []) rfl (Nat.le_of_ble_eq_true rfl) rfl (m_X5_step hu M) (fun r19 M20 => ?_)
  refine r_aload_n 1 dX5_readSum_47 rfl rfl ?_
  refine r_iload_n 2 dX5_readSum_48 rfl rfl ?_
  refine r_inv (a := 4) hu ⟨Nat.le_refl _, Nat.le_refl _⟩ dX5_readSum_49 kM_X5_196 (ci := 5) rfl kd_4 rfl rfl (by omega) (by decide) [(0, a1)] rfl (sk := []) rfl (Nat.le_of_ble_eq_true rfl) rfl rfl (m_X5_readProduct hu S hdS hS M20 a1) (fun r21 M22 => ?_)
  refine r_istore_n dX5_readSum_52 rfl (by decide) (ls' := [(2, 0, r21), (4, 0, y18), (0, 2, 4), (1, 0, a1), (3, 0, x3)]) rfl ?_
  refine r_aload_n 2 dX5_readSum_53 rfl rfl ?_
  refine r_gf (t := 2) (kz := 1) rfl hu dX5_readSum_54 kF_X5_27 kd_4 rfl rfl rfl ?_
  refine r_iload 1 dX5_readSum_57 rfl ?_
  refine r_iconst dX5_readSum_59 ⟨by decide, by decide⟩ ?_
  refine r_ixor dX5_readSum_60 ?_
  refine r_ok (fun h23 => ?_)
  refine r_invv (a := M22 4 1) hu ⟨Nat.le_refl _, Nat.le_refl _⟩ dX5_readSum_61 kM_X5_190 (ci := 7) rfl h23 rfl rfl (by omega) (by decide) [(0, ixor y18 (-1))] rfl (sk := []) rfl (Nat.le_of_ble_eq_true rfl) rfl (m_X7_emit hu M22 (M22 4 1) (ixor y18 (-1)) h23) (fun r24 M25 => ?_)
  refine r_ok (fun h26 => ?_)
  refine r_iincB 4 dX5_readSum_64 rfl h26 (by decide) (lf := fun y27 => [(3, 0, y27), (2, 0, r21), (4, 0, y18), (0, 2, 4), (1, 0, a1)]) (fun _ => rfl) (fun y27 ey27 => ?_)
  refine r_goto (tgt := 8) dX5_readSum_67 rfl ?_
  refine r_sub [3, 4, 1, 0] (ls' := [(0, 2, 4), (1, 0, a1), (2, 0, r21), (3, 0, y27)]) rfl ?_
  exact hw8 M25 r21 y27
set_option maxRecDepth 100000 in
theorem tb_X5_readSum_8 {g : GT} {n nf : Int} (hu : Up true nf n) (S : Mem → Int → Res) {dS : Nat} (hdS : 2 ≤ dS) (hS : ∀ (M : Mem) (a1 : Int), AM g true yX5_readSum cX5_readSum 5 (some .boolean) dS n n nf [(2, 4), (0, a1)] M (S M a1)) (a1 : Int) (w8 : Mem → Int → Int → Res) (hw8 : ∀ (M : Mem) (x2 x3 : Int), AW g true RX5 cX5_readSum 5 (some .boolean) (dS + 4) n n nf 8 [(0, 2, 4), (1, 0, a1), (2, 0, x2), (3, 0, x3)] [] n M (w8 M x2 x3)) (M : Mem) (x2 x3 : Int) : AW g true RX5 cX5_readSum 5 (some .boolean) (dS + 4) n n nf 8 [(0, 2, 4), (1, 0, a1), (2, 0, x2), (3, 0, x3)] [] n M (b_X5_readSum_8 S a1 w8 M x2 x3) := by
  unfold b_X5_readSum_8
  refine r_iload_n 3 dX5_readSum_8 rfl rfl ?_
  refine r_sipush dX5_readSum_9 (by decide) ⟨by decide, by decide⟩ ?_
  refine r_icmp_ge (tgt := 70) dX5_readSum_12 rfl (fun h3 => ?_) (fun h4 => ?_)
  · refine r_iload_n 2 dX5_readSum_70 rfl rfl ?_
    refine r_ok (fun h5 => ?_)
    exact r_iret rfl rfl (Or.inr ⟨rfl, h5⟩) dX5_readSum_71
  · refine r_iload_n 2 dX5_readSum_15 rfl rfl ?_
    refine r_if_eq (tgt := 70) dX5_readSum_16 rfl (fun h6 => ?_) (fun h7 => ?_)
    · refine r_iload_n 2 dX5_readSum_70 rfl rfl ?_
      refine r_ok (fun h8 => ?_)
      exact r_iret rfl rfl (Or.inr ⟨rfl, h8⟩) dX5_readSum_71
    · refine r_aload_n 0 dX5_readSum_19 rfl rfl ?_
      refine r_bipush dX5_readSum_20 (by decide) ⟨by decide, by decide⟩ ?_
      refine r_inv (a := 4) hu ⟨Nat.le_refl _, Nat.le_refl _⟩ dX5_readSum_22 kM_X5_84 (ci := 5) rfl kd_4 rfl rfl (by omega) (by decide) [(0, 43)] rfl (sk := []) rfl (Nat.le_of_ble_eq_true rfl) rfl rfl (m_X5_isSign hu M 43) (fun r9 M10 => ?_)
      refine r_if_ne (tgt := 37) dX5_readSum_25 rfl (fun h11 => ?_) (fun h12 => ?_)
      · refine r_aload_n 0 dX5_readSum_28 rfl rfl ?_
        refine r_bipush dX5_readSum_29 (by decide) ⟨by decide, by decide⟩ ?_
        refine r_inv (a := 4) hu ⟨Nat.le_refl _, Nat.le_refl _⟩ dX5_readSum_31 kM_X5_84 (ci := 5) rfl kd_4 rfl rfl (by omega) (by decide) [(0, 45)] rfl (sk := []) rfl (Nat.le_of_ble_eq_true rfl) rfl rfl (m_X5_isSign hu M10 45) (fun r13 M14 => ?_)
        refine r_if_eq (tgt := 70) dX5_readSum_34 rfl (fun h15 => ?_) (fun h16 => ?_)
        · refine r_iload_n 2 dX5_readSum_70 rfl rfl ?_
          refine r_ok (fun h17 => ?_)
          exact r_iret rfl rfl (Or.inr ⟨rfl, h17⟩) dX5_readSum_71
        · refine r_sub [0, 1, 3] (ls' := [(0, 2, 4), (1, 0, a1), (3, 0, x3)]) rfl ?_
          exact tj_X5_readSum_37 hu S hdS hS a1 w8 hw8 M14 x3
      · refine r_sub [0, 1, 3] (ls' := [(0, 2, 4), (1, 0, a1), (3, 0, x3)]) rfl ?_
        exact tj_X5_readSum_37 hu S hdS hS a1 w8 hw8 M10 x3
set_option maxRecDepth 100000 in
theorem mg_X5_readSum {g : GT} {n nf : Int} (hu : Up true nf n) (S : Mem → Int → Res) {dS : Nat} (hdS : 2 ≤ dS) (hS : ∀ (M : Mem) (a1 : Int), AM g true yX5_readSum cX5_readSum 5 (some .boolean) dS n n nf [(2, 4), (0, a1)] M (S M a1)) (M : Mem) (a1 : Int) : AM g true yX5_readSum cX5_readSum 5 (some .boolean) (dS + 4) n n nf [(2, 4), (0, a1)] M (g_X5_readSum S M a1) := by
  refine AM_of (by decide +kernel) (Nat.le_of_ble_eq_true rfl) (fun h => absurd h (Int.lt_irrefl n)) ?_
  show AW g true RX5 cX5_readSum 5 (some .boolean) (dS + 4) n n nf 0 [(0, 2, 4), (1, 0, a1)] [] n M (g_X5_readSum S M a1)
  unfold g_X5_readSum
  refine r_aload_n 0 dX5_readSum_0 rfl rfl ?_
  refine r_iload_n 1 dX5_readSum_1 rfl rfl ?_
  refine r_inv (a := 4) hu ⟨Nat.le_refl _, Nat.le_refl _⟩ dX5_readSum_2 kM_X5_196 (ci := 5) rfl kd_4 rfl rfl (by omega) (by decide) [(0, a1)] rfl (sk := []) rfl (Nat.le_of_ble_eq_true rfl) rfl rfl (m_X5_readProduct hu S hdS hS M a1) (fun r1 M2 => ?_)
  refine r_istore_n dX5_readSum_5 rfl (by decide) (ls' := [(2, 0, r1), (0, 2, 4), (1, 0, a1)]) rfl ?_
  refine r_iconst dX5_readSum_6 ⟨by decide, by decide⟩ ?_
  refine r_istore_n dX5_readSum_7 rfl (by decide) (ls' := [(3, 0, 0), (2, 0, r1), (0, 2, 4), (1, 0, a1)]) rfl ?_
  refine r_sub [2, 3, 1, 0] (ls' := [(0, 2, 4), (1, 0, a1), (2, 0, r1), (3, 0, 0)]) rfl ?_
  exact wl2_aw (P := fun M x2 x3 o => AW g true RX5 cX5_readSum 5 (some .boolean) (dS + 4) n n nf 8 [(0, 2, 4), (1, 0, a1), (2, 0, x2), (3, 0, x3)] [] n M (o)) (fun M x2 x3 => aw_none) (fun w hw M x2 x3 => tb_X5_readSum_8 hu S hdS hS a1 w hw M x2 x3) FU M2 r1 0
set_option maxRecDepth 100000 in
theorem m_X5_readSum {g : GT} {n nf : Int} (hu : Up true nf n) (q : Nat) : ∀ (M : Mem) (a1 : Int), AM g true yX5_readSum cX5_readSum 5 (some .boolean) (2 + 4 * q) n n nf [(2, 4), (0, a1)] M (f_X5_readSum q M a1) := by
  induction q with
  | zero => intro M a1 _ r M2 h; cases h
  | succ q ih => intro M a1; exact mg_X5_readSum hu (f_X5_readSum q) (dS := 2 + 4 * q) (by omega) ih M a1
theorem dX5_readBoth_0 : decode cX5_readBoth 0 = .ok (.aload_n 0, 1) := by decide +kernel
theorem dX5_readBoth_1 : decode cX5_readBoth 1 = .ok (.iload_n 1, 1) := by decide +kernel
theorem dX5_readBoth_2 : decode cX5_readBoth 2 = .ok (.invokevirtual 193, 3) := by decide +kernel
theorem dX5_readBoth_5 : decode cX5_readBoth 5 = .ok (.istore_n 2, 1) := by decide +kernel
theorem dX5_readBoth_6 : decode cX5_readBoth 6 = .ok (.iconst 0, 1) := by decide +kernel
theorem dX5_readBoth_7 : decode cX5_readBoth 7 = .ok (.istore_n 3, 1) := by decide +kernel
theorem dX5_readBoth_8 : decode cX5_readBoth 8 = .ok (.iload_n 3, 1) := by decide +kernel
theorem dX5_readBoth_9 : decode cX5_readBoth 9 = .ok (.sipush 900, 3) := by decide +kernel
theorem dX5_readBoth_12 : decode cX5_readBoth 12 = .ok (.if_icmp .ge 41, 3) := by decide +kernel
theorem dX5_readBoth_15 : decode cX5_readBoth 15 = .ok (.iload_n 2, 1) := by decide +kernel
theorem dX5_readBoth_16 : decode cX5_readBoth 16 = .ok (.ifCond .eq 37, 3) := by decide +kernel
theorem dX5_readBoth_19 : decode cX5_readBoth 19 = .ok (.aload_n 0, 1) := by decide +kernel
theorem dX5_readBoth_20 : decode cX5_readBoth 20 = .ok (.getfield 81, 3) := by decide +kernel
theorem dX5_readBoth_23 : decode cX5_readBoth 23 = .ok (.bipush 11, 2) := by decide +kernel
theorem dX5_readBoth_25 : decode cX5_readBoth 25 = .ok (.if_icmp .ne 28, 3) := by decide +kernel
theorem dX5_readBoth_28 : decode cX5_readBoth 28 = .ok (.aload_n 0, 1) := by decide +kernel
theorem dX5_readBoth_29 : decode cX5_readBoth 29 = .ok (.invokevirtual 48, 3) := by decide +kernel
theorem dX5_readBoth_32 : decode cX5_readBoth 32 = .ok (.aload_n 0, 1) := by decide +kernel
theorem dX5_readBoth_33 : decode cX5_readBoth 33 = .ok (.iload_n 1, 1) := by decide +kernel
theorem dX5_readBoth_34 : decode cX5_readBoth 34 = .ok (.invokevirtual 193, 3) := by decide +kernel
theorem dX5_readBoth_37 : decode cX5_readBoth 37 = .ok (.istore_n 2, 1) := by decide +kernel
theorem dX5_readBoth_38 : decode cX5_readBoth 38 = .ok (.aload_n 0, 1) := by decide +kernel
theorem dX5_readBoth_39 : decode cX5_readBoth 39 = .ok (.getfield 27, 3) := by decide +kernel
theorem dX5_readBoth_42 : decode cX5_readBoth 42 = .ok (.bipush (-12), 2) := by decide +kernel
theorem dX5_readBoth_44 : decode cX5_readBoth 44 = .ok (.invokevirtual 190, 3) := by decide +kernel
theorem dX5_readBoth_47 : decode cX5_readBoth 47 = .ok (.iinc 3 1, 3) := by decide +kernel
theorem dX5_readBoth_50 : decode cX5_readBoth 50 = .ok (.goto (-42), 3) := by decide +kernel
theorem dX5_readBoth_53 : decode cX5_readBoth 53 = .ok (.iload_n 2, 1) := by decide +kernel
theorem dX5_readBoth_54 : decode cX5_readBoth 54 = .ok (.ireturn, 1) := by decide +kernel
set_option maxRecDepth 100000 in
theorem tb_X5_readBoth_8 {g : GT} {n nf : Int} (hu : Up true nf n) (S : Mem → Int → Res) {dS : Nat} (hdS : 35 ≤ dS) (hS : ∀ (M : Mem) (a1 : Int), AM g true yX5_readFact cX5_readFact 5 (some .boolean) dS n n nf [(2, 4), (0, a1)] M (S M a1)) (a1 : Int) (w8 : Mem → Int → Int → Res) (hw8 : ∀ (M : Mem) (x2 x3 : Int), AW g true RX5 cX5_readBoth 4 (some .boolean) (dS + 1) n n nf 8 [(0, 2, 4), (1, 0, a1), (2, 0, x2), (3, 0, x3)] [] n M (w8 M x2 x3)) (M : Mem) (x2 x3 : Int) : AW g true RX5 cX5_readBoth 4 (some .boolean) (dS + 1) n n nf 8 [(0, 2, 4), (1, 0, a1), (2, 0, x2), (3, 0, x3)] [] n M (b_X5_readBoth_8 S a1 w8 M x2 x3) := by
  unfold b_X5_readBoth_8
  refine r_iload_n 3 dX5_readBoth_8 rfl rfl ?_
  refine r_sipush dX5_readBoth_9 (by decide) ⟨by decide, by decide⟩ ?_
  refine r_icmp_ge (tgt := 53) dX5_readBoth_12 rfl (fun h3 => ?_) (fun h4 => ?_)
  · refine r_iload_n 2 dX5_readBoth_53 rfl rfl ?_
    refine r_ok (fun h5 => ?_)
    exact r_iret rfl rfl (Or.inr ⟨rfl, h5⟩) dX5_readBoth_54
  · refine r_iload_n 2 dX5_readBoth_15 rfl rfl ?_
    refine r_if_eq (tgt := 53) dX5_readBoth_16 rfl (fun h6 => ?_) (fun h7 => ?_)
    · refine r_iload_n 2 dX5_readBoth_53 rfl rfl ?_
      refine r_ok (fun h8 => ?_)
      exact r_iret rfl rfl (Or.inr ⟨rfl, h8⟩) dX5_readBoth_54
    · refine r_aload_n 0 dX5_readBoth_19 rfl rfl ?_
      refine r_gf (t := 0) (kz := 10) rfl hu dX5_readBoth_20 kF_X5_81 kd_4 rfl rfl rfl ?_
      refine r_bipush dX5_readBoth_23 (by decide) ⟨by decide, by decide⟩ ?_
      refine r_icmp_ne (tgt := 53) dX5_readBoth_25 rfl (fun h9 => ?_) (fun h10 => ?_)
      · refine r_aload_n 0 dX5_readBoth_28 rfl rfl ?_
        refine r_invv (a := 4) hu ⟨Nat.le_refl _, Nat.le_refl _⟩ dX5_readBoth_29 kM_X5_48 (ci := 5) rfl kd_4 rfl rfl (by omega) (by decide) [] rfl (sk := []) rfl (Nat.le_of_ble_eq_true rfl) rfl (m_X5_step hu M) (fun r11 M12 => ?_)
        refine r_aload_n 0 dX5_readBoth_32 rfl rfl ?_
        refine r_iload_n 1 dX5_readBoth_33 rfl rfl ?_
        refine r_inv (a := 4) hu ⟨Nat.le_refl _, Nat.le_refl _⟩ dX5_readBoth_34 kM_X5_193 (ci := 5) rfl kd_4 rfl rfl (by omega) (by decide) [(0, a1)] rfl (sk := []) rfl (Nat.le_of_ble_eq_true rfl) rfl rfl (hS M12 a1) (fun r13 M14 => ?_)
        refine r_istore_n dX5_readBoth_37 rfl (by decide) (ls' := [(2, 0, r13), (0, 2, 4), (1, 0, a1), (3, 0, x3)]) rfl ?_
        refine r_aload_n 1 dX5_readBoth_38 rfl rfl ?_
        refine r_gf (t := 2) (kz := 1) rfl hu dX5_readBoth_39 kF_X5_27 kd_4 rfl rfl rfl ?_
        refine r_bipush dX5_readBoth_42 (by decide) ⟨by decide, by decide⟩ ?_
        refine r_ok (fun h15 => ?_)
        refine r_invv (a := M14 4 1) hu ⟨Nat.le_refl _, Nat.le_refl _⟩ dX5_readBoth_44 kM_X5_190 (ci := 7) rfl h15 rfl rfl (by omega) (by decide) [(0, (-12))] rfl (sk := []) rfl (Nat.le_of_ble_eq_true rfl) rfl (m_X7_emit hu M14 (M14 4 1) (-12) h15) (fun r16 M17 => ?_)
        refine r_ok (fun h18 => ?_)
        refine r_iincB 3 dX5_readBoth_47 rfl h18 (by decide) (lf := fun y19 => [(3, 0, y19), (2, 0, r13), (0, 2, 4), (1, 0, a1)]) (fun _ => rfl) (fun y19 ey19 => ?_)
        refine r_goto (tgt := 8) dX5_readBoth_50 rfl ?_
        refine r_sub [2, 3, 1, 0] (ls' := [(0, 2, 4), (1, 0, a1), (2, 0, r13), (3, 0, y19)]) rfl ?_
        exact hw8 M17 r13 y19
      · refine r_iload_n 2 dX5_readBoth_53 rfl rfl ?_
        refine r_ok (fun h20 => ?_)
        exact r_iret rfl rfl (Or.inr ⟨rfl, h20⟩) dX5_readBoth_54
set_option maxRecDepth 100000 in
theorem m_X5_readBoth {g : GT} {n nf : Int} (hu : Up true nf n) (S : Mem → Int → Res) {dS : Nat} (hdS : 35 ≤ dS) (hS : ∀ (M : Mem) (a1 : Int), AM g true yX5_readFact cX5_readFact 5 (some .boolean) dS n n nf [(2, 4), (0, a1)] M (S M a1)) (M : Mem) (a1 : Int) : AM g true yX5_readBoth cX5_readBoth 4 (some .boolean) (dS + 1) n n nf [(2, 4), (0, a1)] M (f_X5_readBoth S M a1) := by
  refine AM_of (by decide +kernel) (Nat.le_of_ble_eq_true rfl) (fun h => absurd h (Int.lt_irrefl n)) ?_
  show AW g true RX5 cX5_readBoth 4 (some .boolean) (dS + 1) n n nf 0 [(0, 2, 4), (1, 0, a1)] [] n M (f_X5_readBoth S M a1)
  unfold f_X5_readBoth
  refine r_aload_n 0 dX5_readBoth_0 rfl rfl ?_
  refine r_iload_n 1 dX5_readBoth_1 rfl rfl ?_
  refine r_inv (a := 4) hu ⟨Nat.le_refl _, Nat.le_refl _⟩ dX5_readBoth_2 kM_X5_193 (ci := 5) rfl kd_4 rfl rfl (by omega) (by decide) [(0, a1)] rfl (sk := []) rfl (Nat.le_of_ble_eq_true rfl) rfl rfl (hS M a1) (fun r1 M2 => ?_)
  refine r_istore_n dX5_readBoth_5 rfl (by decide) (ls' := [(2, 0, r1), (0, 2, 4), (1, 0, a1)]) rfl ?_
  refine r_iconst dX5_readBoth_6 ⟨by decide, by decide⟩ ?_
  refine r_istore_n dX5_readBoth_7 rfl (by decide) (ls' := [(3, 0, 0), (2, 0, r1), (0, 2, 4), (1, 0, a1)]) rfl ?_
  refine r_sub [2, 3, 1, 0] (ls' := [(0, 2, 4), (1, 0, a1), (2, 0, r1), (3, 0, 0)]) rfl ?_
  exact wl2_aw (P := fun M x2 x3 o => AW g true RX5 cX5_readBoth 4 (some .boolean) (dS + 1) n n nf 8 [(0, 2, 4), (1, 0, a1), (2, 0, x2), (3, 0, x3)] [] n M (o)) (fun M x2 x3 => aw_none) (fun w hw M x2 x3 => tb_X5_readBoth_8 hu S hdS hS a1 w hw M x2 x3) FU M2 r1 0
theorem dX5_readTest_0 : decode cX5_readTest 0 = .ok (.aload_n 0, 1) := by decide +kernel
theorem dX5_readTest_1 : decode cX5_readTest 1 = .ok (.iload_n 1, 1) := by decide +kernel
theorem dX5_readTest_2 : decode cX5_readTest 2 = .ok (.invokevirtual 187, 3) := by decide +kernel
theorem dX5_readTest_5 : decode cX5_readTest 5 = .ok (.istore_n 2, 1) := by decide +kernel
theorem dX5_readTest_6 : decode cX5_readTest 6 = .ok (.iconst 0, 1) := by decide +kernel
theorem dX5_readTest_7 : decode cX5_readTest 7 = .ok (.istore_n 3, 1) := by decide +kernel
theorem dX5_readTest_8 : decode cX5_readTest 8 = .ok (.iload_n 3, 1) := by decide +kernel
theorem dX5_readTest_9 : decode cX5_readTest 9 = .ok (.sipush 900, 3) := by decide +kernel
theorem dX5_readTest_12 : decode cX5_readTest 12 = .ok (.if_icmp .ge 41, 3) := by decide +kernel
theorem dX5_readTest_15 : decode cX5_readTest 15 = .ok (.iload_n 2, 1) := by decide +kernel
theorem dX5_readTest_16 : decode cX5_readTest 16 = .ok (.ifCond .eq 37, 3) := by decide +kernel
theorem dX5_readTest_19 : decode cX5_readTest 19 = .ok (.aload_n 0, 1) := by decide +kernel
theorem dX5_readTest_20 : decode cX5_readTest 20 = .ok (.getfield 81, 3) := by decide +kernel
theorem dX5_readTest_23 : decode cX5_readTest 23 = .ok (.bipush 10, 2) := by decide +kernel
theorem dX5_readTest_25 : decode cX5_readTest 25 = .ok (.if_icmp .ne 28, 3) := by decide +kernel
theorem dX5_readTest_28 : decode cX5_readTest 28 = .ok (.aload_n 0, 1) := by decide +kernel
theorem dX5_readTest_29 : decode cX5_readTest 29 = .ok (.invokevirtual 48, 3) := by decide +kernel
theorem dX5_readTest_32 : decode cX5_readTest 32 = .ok (.aload_n 0, 1) := by decide +kernel
theorem dX5_readTest_33 : decode cX5_readTest 33 = .ok (.iload_n 1, 1) := by decide +kernel
theorem dX5_readTest_34 : decode cX5_readTest 34 = .ok (.invokevirtual 187, 3) := by decide +kernel
theorem dX5_readTest_37 : decode cX5_readTest 37 = .ok (.istore_n 2, 1) := by decide +kernel
theorem dX5_readTest_38 : decode cX5_readTest 38 = .ok (.aload_n 0, 1) := by decide +kernel
theorem dX5_readTest_39 : decode cX5_readTest 39 = .ok (.getfield 27, 3) := by decide +kernel
theorem dX5_readTest_42 : decode cX5_readTest 42 = .ok (.bipush (-11), 2) := by decide +kernel
theorem dX5_readTest_44 : decode cX5_readTest 44 = .ok (.invokevirtual 190, 3) := by decide +kernel
theorem dX5_readTest_47 : decode cX5_readTest 47 = .ok (.iinc 3 1, 3) := by decide +kernel
theorem dX5_readTest_50 : decode cX5_readTest 50 = .ok (.goto (-42), 3) := by decide +kernel
theorem dX5_readTest_53 : decode cX5_readTest 53 = .ok (.iload_n 2, 1) := by decide +kernel
theorem dX5_readTest_54 : decode cX5_readTest 54 = .ok (.ireturn, 1) := by decide +kernel
set_option maxRecDepth 100000 in
theorem tb_X5_readTest_8 {g : GT} {n nf : Int} (hu : Up true nf n) (S : Mem → Int → Res) {dS : Nat} (hdS : 35 ≤ dS) (hS : ∀ (M : Mem) (a1 : Int), AM g true yX5_readFact cX5_readFact 5 (some .boolean) dS n n nf [(2, 4), (0, a1)] M (S M a1)) (a1 : Int) (w8 : Mem → Int → Int → Res) (hw8 : ∀ (M : Mem) (x2 x3 : Int), AW g true RX5 cX5_readTest 4 (some .boolean) (dS + 2) n n nf 8 [(0, 2, 4), (1, 0, a1), (2, 0, x2), (3, 0, x3)] [] n M (w8 M x2 x3)) (M : Mem) (x2 x3 : Int) : AW g true RX5 cX5_readTest 4 (some .boolean) (dS + 2) n n nf 8 [(0, 2, 4), (1, 0, a1), (2, 0, x2), (3, 0, x3)] [] n M (b_X5_readTest_8 S a1 w8 M x2 x3) := by
  unfold b_X5_readTest_8
  refine r_iload_n 3 dX5_readTest_8 rfl rfl ?_
  refine r_sipush dX5_readTest_9 (by decide) ⟨by decide, by decide⟩ ?_
  refine r_icmp_ge (tgt := 53) dX5_readTest_12 rfl (fun h3 => ?_) (fun h4 => ?_)
  · refine r_iload_n 2 dX5_readTest_53 rfl rfl ?_
    refine r_ok (fun h5 => ?_)
    exact r_iret rfl rfl (Or.inr ⟨rfl, h5⟩) dX5_readTest_54
  · refine r_iload_n 2 dX5_readTest_15 rfl rfl ?_
    refine r_if_eq (tgt := 53) dX5_readTest_16 rfl (fun h6 => ?_) (fun h7 => ?_)
    · refine r_iload_n 2 dX5_readTest_53 rfl rfl ?_
      refine r_ok (fun h8 => ?_)
      exact r_iret rfl rfl (Or.inr ⟨rfl, h8⟩) dX5_readTest_54
    · refine r_aload_n 0 dX5_readTest_19 rfl rfl ?_
      refine r_gf (t := 0) (kz := 10) rfl hu dX5_readTest_20 kF_X5_81 kd_4 rfl rfl rfl ?_
      refine r_bipush dX5_readTest_23 (by decide) ⟨by decide, by decide⟩ ?_
      refine r_icmp_ne (tgt := 53) dX5_readTest_25 rfl (fun h9 => ?_) (fun h10 => ?_)
      · refine r_aload_n 0 dX5_readTest_28 rfl rfl ?_
        refine r_invv (a := 4) hu ⟨Nat.le_refl _, Nat.le_refl _⟩ dX5_readTest_29 kM_X5_48 (ci := 5) rfl kd_4 rfl rfl (by omega) (by decide) [] rfl (sk := []) rfl (Nat.le_of_ble_eq_true rfl) rfl (m_X5_step hu M) (fun r11 M12 => ?_)
        refine r_aload_n 0 dX5_readTest_32 rfl rfl ?_
        refine r_iload_n 1 dX5_readTest_33 rfl rfl ?_
        refine r_inv (a := 4) hu ⟨Nat.le_refl _, Nat.le_refl _⟩ dX5_readTest_34 kM_X5_187 (ci := 5) rfl kd_4 rfl rfl (by omega) (by decide) [(0, a1)] rfl (sk := []) rfl (Nat.le_of_ble_eq_true rfl) rfl rfl (m_X5_readBoth hu S hdS hS M12 a1) (fun r13 M14 => ?_)
        refine r_istore_n dX5_readTest_37 rfl (by decide) (ls' := [(2, 0, r13), (0, 2, 4), (1, 0, a1), (3, 0, x3)]) rfl ?_
        refine r_aload_n 1 dX5_readTest_38 rfl rfl ?_
        refine r_gf (t := 2) (kz := 1) rfl hu dX5_readTest_39 kF_X5_27 kd_4 rfl rfl rfl ?_
        refine r_bipush dX5_readTest_42 (by decide) ⟨by decide, by decide⟩ ?_
        refine r_ok (fun h15 => ?_)
        refine r_invv (a := M14 4 1) hu ⟨Nat.le_refl _, Nat.le_refl _⟩ dX5_readTest_44 kM_X5_190 (ci := 7) rfl h15 rfl rfl (by omega) (by decide) [(0, (-11))] rfl (sk := []) rfl (Nat.le_of_ble_eq_true rfl) rfl (m_X7_emit hu M14 (M14 4 1) (-11) h15) (fun r16 M17 => ?_)
        refine r_ok (fun h18 => ?_)
        refine r_iincB 3 dX5_readTest_47 rfl h18 (by decide) (lf := fun y19 => [(3, 0, y19), (2, 0, r13), (0, 2, 4), (1, 0, a1)]) (fun _ => rfl) (fun y19 ey19 => ?_)
        refine r_goto (tgt := 8) dX5_readTest_50 rfl ?_
        refine r_sub [2, 3, 1, 0] (ls' := [(0, 2, 4), (1, 0, a1), (2, 0, r13), (3, 0, y19)]) rfl ?_
        exact hw8 M17 r13 y19
      · refine r_iload_n 2 dX5_readTest_53 rfl rfl ?_
        refine r_ok (fun h20 => ?_)
        exact r_iret rfl rfl (Or.inr ⟨rfl, h20⟩) dX5_readTest_54
set_option maxRecDepth 100000 in
theorem m_X5_readTest {g : GT} {n nf : Int} (hu : Up true nf n) (S : Mem → Int → Res) {dS : Nat} (hdS : 35 ≤ dS) (hS : ∀ (M : Mem) (a1 : Int), AM g true yX5_readFact cX5_readFact 5 (some .boolean) dS n n nf [(2, 4), (0, a1)] M (S M a1)) (M : Mem) (a1 : Int) : AM g true yX5_readTest cX5_readTest 4 (some .boolean) (dS + 2) n n nf [(2, 4), (0, a1)] M (f_X5_readTest S M a1) := by
  refine AM_of (by decide +kernel) (Nat.le_of_ble_eq_true rfl) (fun h => absurd h (Int.lt_irrefl n)) ?_
  show AW g true RX5 cX5_readTest 4 (some .boolean) (dS + 2) n n nf 0 [(0, 2, 4), (1, 0, a1)] [] n M (f_X5_readTest S M a1)
  unfold f_X5_readTest
  refine r_aload_n 0 dX5_readTest_0 rfl rfl ?_
  refine r_iload_n 1 dX5_readTest_1 rfl rfl ?_
  refine r_inv (a := 4) hu ⟨Nat.le_refl _, Nat.le_refl _⟩ dX5_readTest_2 kM_X5_187 (ci := 5) rfl kd_4 rfl rfl (by omega) (by decide) [(0, a1)] rfl (sk := []) rfl (Nat.le_of_ble_eq_true rfl) rfl rfl (m_X5_readBoth hu S hdS hS M a1) (fun r1 M2 => ?_)
  refine r_istore_n dX5_readTest_5 rfl (by decide) (ls' := [(2, 0, r1), (0, 2, 4), (1, 0, a1)]) rfl ?_
  refine r_iconst dX5_readTest_6 ⟨by decide, by decide⟩ ?_
  refine r_istore_n dX5_readTest_7 rfl (by decide) (ls' := [(3, 0, 0), (2, 0, r1), (0, 2, 4), (1, 0, a1)]) rfl ?_
  refine r_sub [2, 3, 1, 0] (ls' := [(0, 2, 4), (1, 0, a1), (2, 0, r1), (3, 0, 0)]) rfl ?_
  exact wl2_aw (P := fun M x2 x3 o => AW g true RX5 cX5_readTest 4 (some .boolean) (dS + 2) n n nf 8 [(0, 2, 4), (1, 0, a1), (2, 0, x2), (3, 0, x3)] [] n M (o)) (fun M x2 x3 => aw_none) (fun w hw M x2 x3 => tb_X5_readTest_8 hu S hdS hS a1 w hw M x2 x3) FU M2 r1 0
theorem dX5_readFact_0 : decode cX5_readFact 0 = .ok (.aload_n 0, 1) := by decide +kernel
theorem dX5_readFact_1 : decode cX5_readFact 1 = .ok (.getfield 81, 3) := by decide +kernel
theorem dX5_readFact_4 : decode cX5_readFact 4 = .ok (.bipush 12, 2) := by decide +kernel
theorem dX5_readFact_6 : decode cX5_readFact 6 = .ok (.if_icmp .eq 12, 3) := by decide +kernel
theorem dX5_readFact_9 : decode cX5_readFact 9 = .ok (.aload_n 0, 1) := by decide +kernel
theorem dX5_readFact_10 : decode cX5_readFact 10 = .ok (.bipush 91, 2) := by decide +kernel
theorem dX5_readFact_12 : decode cX5_readFact 12 = .ok (.invokevirtual 84, 3) := by decide +kernel
theorem dX5_readFact_15 : decode cX5_readFact 15 = .ok (.ifCond .eq 7, 3) := by decide +kernel
theorem dX5_readFact_18 : decode cX5_readFact 18 = .ok (.iconst 1, 1) := by decide +kernel
theorem dX5_readFact_19 : decode cX5_readFact 19 = .ok (.goto 4, 3) := by decide +kernel
theorem dX5_readFact_22 : decode cX5_readFact 22 = .ok (.iconst 0, 1) := by decide +kernel
theorem dX5_readFact_23 : decode cX5_readFact 23 = .ok (.istore_n 2, 1) := by decide +kernel
theorem dX5_readFact_24 : decode cX5_readFact 24 = .ok (.iload_n 2, 1) := by decide +kernel
theorem dX5_readFact_25 : decode cX5_readFact 25 = .ok (.ifCond .eq 19, 3) := by decide +kernel
theorem dX5_readFact_28 : decode cX5_readFact 28 = .ok (.iload_n 1, 1) := by decide +kernel
theorem dX5_readFact_29 : decode cX5_readFact 29 = .ok (.bipush 6, 2) := by decide +kernel
theorem dX5_readFact_31 : decode cX5_readFact 31 = .ok (.if_icmp .lt 13, 3) := by decide +kernel
theorem dX5_readFact_34 : decode cX5_readFact 34 = .ok (.aload_n 0, 1) := by decide +kernel
theorem dX5_readFact_35 : decode cX5_readFact 35 = .ok (.iconst 4, 1) := by decide +kernel
theorem dX5_readFact_36 : decode cX5_readFact 36 = .ok (.aload_n 0, 1) := by decide +kernel
theorem dX5_readFact_37 : decode cX5_readFact 37 = .ok (.getfield 78, 3) := by decide +kernel
theorem dX5_readFact_40 : decode cX5_readFact 40 = .ok (.invokevirtual 89, 3) := by decide +kernel
theorem dX5_readFact_43 : decode cX5_readFact 43 = .ok (.ireturn, 1) := by decide +kernel
theorem dX5_readFact_44 : decode cX5_readFact 44 = .ok (.aload_n 0, 1) := by decide +kernel
theorem dX5_readFact_45 : decode cX5_readFact 45 = .ok (.getfield 81, 3) := by decide +kernel
theorem dX5_readFact_48 : decode cX5_readFact 48 = .ok (.bipush 12, 2) := by decide +kernel
theorem dX5_readFact_50 : decode cX5_readFact 50 = .ok (.if_icmp .ne 26, 3) := by decide +kernel
theorem dX5_readFact_53 : decode cX5_readFact 53 = .ok (.aload_n 0, 1) := by decide +kernel
theorem dX5_readFact_54 : decode cX5_readFact 54 = .ok (.invokevirtual 48, 3) := by decide +kernel
theorem dX5_readFact_57 : decode cX5_readFact 57 = .ok (.aload_n 0, 1) := by decide +kernel
theorem dX5_readFact_58 : decode cX5_readFact 58 = .ok (.iload_n 1, 1) := by decide +kernel
theorem dX5_readFact_59 : decode cX5_readFact 59 = .ok (.iconst 1, 1) := by decide +kernel
theorem dX5_readFact_60 : decode cX5_readFact 60 = .ok (.iadd, 1) := by decide +kernel
theorem dX5_readFact_61 : decode cX5_readFact 61 = .ok (.invokevirtual 193, 3) := by decide +kernel
theorem dX5_readFact_64 : decode cX5_readFact 64 = .ok (.istore_n 3, 1) := by decide +kernel
theorem dX5_readFact_65 : decode cX5_readFact 65 = .ok (.aload_n 0, 1) := by decide +kernel
theorem dX5_readFact_66 : decode cX5_readFact 66 = .ok (.getfield 27, 3) := by decide +kernel
theorem dX5_readFact_69 : decode cX5_readFact 69 = .ok (.bipush (-13), 2) := by decide +kernel
theorem dX5_readFact_71 : decode cX5_readFact 71 = .ok (.invokevirtual 190, 3) := by decide +kernel
theorem dX5_readFact_74 : decode cX5_readFact 74 = .ok (.iload_n 3, 1) := by decide +kernel
theorem dX5_readFact_75 : decode cX5_readFact 75 = .ok (.ireturn, 1) := by decide +kernel
theorem dX5_readFact_76 : decode cX5_readFact 76 = .ok (.iload_n 2, 1) := by decide +kernel
theorem dX5_readFact_77 : decode cX5_readFact 77 = .ok (.ifCond .eq 32, 3) := by decide +kernel
theorem dX5_readFact_80 : decode cX5_readFact 80 = .ok (.aload_n 0, 1) := by decide +kernel
theorem dX5_readFact_81 : decode cX5_readFact 81 = .ok (.invokevirtual 48, 3) := by decide +kernel
theorem dX5_readFact_84 : decode cX5_readFact 84 = .ok (.aload_n 0, 1) := by decide +kernel
theorem dX5_readFact_85 : decode cX5_readFact 85 = .ok (.iload_n 1, 1) := by decide +kernel
theorem dX5_readFact_86 : decode cX5_readFact 86 = .ok (.iconst 1, 1) := by decide +kernel
theorem dX5_readFact_87 : decode cX5_readFact 87 = .ok (.iadd, 1) := by decide +kernel
theorem dX5_readFact_88 : decode cX5_readFact 88 = .ok (.invokevirtual 181, 3) := by decide +kernel
theorem dX5_readFact_91 : decode cX5_readFact 91 = .ok (.ifCond .eq 16, 3) := by decide +kernel
theorem dX5_readFact_94 : decode cX5_readFact 94 = .ok (.aload_n 0, 1) := by decide +kernel
theorem dX5_readFact_95 : decode cX5_readFact 95 = .ok (.bipush 93, 2) := by decide +kernel
theorem dX5_readFact_97 : decode cX5_readFact 97 = .ok (.invokevirtual 100, 3) := by decide +kernel
theorem dX5_readFact_100 : decode cX5_readFact 100 = .ok (.ifCond .eq 7, 3) := by decide +kernel
theorem dX5_readFact_103 : decode cX5_readFact 103 = .ok (.iconst 1, 1) := by decide +kernel
theorem dX5_readFact_104 : decode cX5_readFact 104 = .ok (.goto 4, 3) := by decide +kernel
theorem dX5_readFact_107 : decode cX5_readFact 107 = .ok (.iconst 0, 1) := by decide +kernel
theorem dX5_readFact_108 : decode cX5_readFact 108 = .ok (.ireturn, 1) := by decide +kernel
theorem dX5_readFact_109 : decode cX5_readFact 109 = .ok (.aload_n 0, 1) := by decide +kernel
theorem dX5_readFact_110 : decode cX5_readFact 110 = .ok (.getfield 81, 3) := by decide +kernel
theorem dX5_readFact_113 : decode cX5_readFact 113 = .ok (.bipush 13, 2) := by decide +kernel
theorem dX5_readFact_115 : decode cX5_readFact 115 = .ok (.if_icmp .ne 17, 3) := by decide +kernel
theorem dX5_readFact_118 : decode cX5_readFact 118 = .ok (.aload_n 0, 1) := by decide +kernel
theorem dX5_readFact_119 : decode cX5_readFact 119 = .ok (.invokevirtual 48, 3) := by decide +kernel
theorem dX5_readFact_122 : decode cX5_readFact 122 = .ok (.aload_n 0, 1) := by decide +kernel
theorem dX5_readFact_123 : decode cX5_readFact 123 = .ok (.getfield 27, 3) := by decide +kernel
theorem dX5_readFact_126 : decode cX5_readFact 126 = .ok (.iconst 1, 1) := by decide +kernel
theorem dX5_readFact_127 : decode cX5_readFact 127 = .ok (.invokevirtual 190, 3) := by decide +kernel
theorem dX5_readFact_130 : decode cX5_readFact 130 = .ok (.iconst 1, 1) := by decide +kernel
theorem dX5_readFact_131 : decode cX5_readFact 131 = .ok (.ireturn, 1) := by decide +kernel
theorem dX5_readFact_132 : decode cX5_readFact 132 = .ok (.aload_n 0, 1) := by decide +kernel
theorem dX5_readFact_133 : decode cX5_readFact 133 = .ok (.iload_n 1, 1) := by decide +kernel
theorem dX5_readFact_134 : decode cX5_readFact 134 = .ok (.invokevirtual 158, 3) := by decide +kernel
theorem dX5_readFact_137 : decode cX5_readFact 137 = .ok (.ifCond .ne 5, 3) := by decide +kernel
theorem dX5_readFact_140 : decode cX5_readFact 140 = .ok (.iconst 0, 1) := by decide +kernel
theorem dX5_readFact_141 : decode cX5_readFact 141 = .ok (.ireturn, 1) := by decide +kernel
theorem dX5_readFact_142 : decode cX5_readFact 142 = .ok (.aload_n 0, 1) := by decide +kernel
theorem dX5_readFact_143 : decode cX5_readFact 143 = .ok (.getfield 72, 3) := by decide +kernel
theorem dX5_readFact_146 : decode cX5_readFact 146 = .ok (.istore_n 3, 1) := by decide +kernel
theorem dX5_readFact_147 : decode cX5_readFact 147 = .ok (.aload_n 0, 1) := by decide +kernel
theorem dX5_readFact_148 : decode cX5_readFact 148 = .ok (.bipush 60, 2) := by decide +kernel
theorem dX5_readFact_150 : decode cX5_readFact 150 = .ok (.invokevirtual 84, 3) := by decide +kernel
theorem dX5_readFact_153 : decode cX5_readFact 153 = .ok (.ifCond .ne 31, 3) := by decide +kernel
theorem dX5_readFact_156 : decode cX5_readFact 156 = .ok (.aload_n 0, 1) := by decide +kernel
theorem dX5_readFact_157 : decode cX5_readFact 157 = .ok (.bipush 62, 2) := by decide +kernel
theorem dX5_readFact_159 : decode cX5_readFact 159 = .ok (.invokevirtual 84, 3) := by decide +kernel
theorem dX5_readFact_162 : decode cX5_readFact 162 = .ok (.ifCond .ne 22, 3) := by decide +kernel
theorem dX5_readFact_165 : decode cX5_readFact 165 = .ok (.aload_n 0, 1) := by decide +kernel
theorem dX5_readFact_166 : decode cX5_readFact 166 = .ok (.bipush 61, 2) := by decide +kernel
theorem dX5_readFact_168 : decode cX5_readFact 168 = .ok (.invokevirtual 84, 3) := by decide +kernel
theorem dX5_readFact_171 : decode cX5_readFact 171 = .ok (.ifCond .ne 13, 3) := by decide +kernel
theorem dX5_readFact_174 : decode cX5_readFact 174 = .ok (.aload_n 0, 1) := by decide +kernel
theorem dX5_readFact_175 : decode cX5_readFact 175 = .ok (.iconst 1, 1) := by decide +kernel
theorem dX5_readFact_176 : decode cX5_readFact 176 = .ok (.aload_n 0, 1) := by decide +kernel
theorem dX5_readFact_177 : decode cX5_readFact 177 = .ok (.getfield 78, 3) := by decide +kernel
theorem dX5_readFact_180 : decode cX5_readFact 180 = .ok (.invokevirtual 89, 3) := by decide +kernel
theorem dX5_readFact_183 : decode cX5_readFact 183 = .ok (.ireturn, 1) := by decide +kernel
theorem dX5_readFact_184 : decode cX5_readFact 184 = .ok (.aload_n 0, 1) := by decide +kernel
theorem dX5_readFact_185 : decode cX5_readFact 185 = .ok (.invokevirtual 48, 3) := by decide +kernel
theorem dX5_readFact_188 : decode cX5_readFact 188 = .ok (.aload_n 0, 1) := by decide +kernel
theorem dX5_readFact_189 : decode cX5_readFact 189 = .ok (.iload_n 1, 1) := by decide +kernel
theorem dX5_readFact_190 : decode cX5_readFact 190 = .ok (.invokevirtual 158, 3) := by decide +kernel
theorem dX5_readFact_193 : decode cX5_readFact 193 = .ok (.istore 4, 2) := by decide +kernel
theorem dX5_readFact_195 : decode cX5_readFact 195 = .ok (.aload_n 0, 1) := by decide +kernel
theorem dX5_readFact_196 : decode cX5_readFact 196 = .ok (.getfield 27, 3) := by decide +kernel
theorem dX5_readFact_199 : decode cX5_readFact 199 = .ok (.iload_n 3, 1) := by decide +kernel
theorem dX5_readFact_200 : decode cX5_readFact 200 = .ok (.iconst (-1), 1) := by decide +kernel
theorem dX5_readFact_201 : decode cX5_readFact 201 = .ok (.ixor, 1) := by decide +kernel
theorem dX5_readFact_202 : decode cX5_readFact 202 = .ok (.invokevirtual 190, 3) := by decide +kernel
theorem dX5_readFact_205 : decode cX5_readFact 205 = .ok (.iload 4, 2) := by decide +kernel
theorem dX5_readFact_207 : decode cX5_readFact 207 = .ok (.ireturn, 1) := by decide +kernel
set_option maxRecDepth 100000 in
theorem tj_X5_readFact_184 {g : GT} {n nf : Int} (hu : Up true nf n) (S : Mem → Int → Res) {dS : Nat} (hdS : 35 ≤ dS) (hS : ∀ (M : Mem) (a1 : Int), AM g true yX5_readFact cX5_readFact 5 (some .boolean) dS n n nf [(2, 4), (0, a1)] M (S M a1)) (a1 : Int) (M : Mem) (x3 : Int) : AW g true RX5 cX5_readFact 5 (some .boolean) (dS + 3) n n nf 184 [(0, 2, 4), (1, 0, a1), (3, 0, x3)] [] n M (j_X5_readFact_184 S a1 M x3) := by
  unfold j_X5_readFact_184
  refine r_aload_n 0 dX5_readFact_184 rfl rfl ?_
  refine r_invv (a := 4) hu ⟨Nat.le_refl _, Nat.le_refl _⟩ dX5_readFact_185 kM_X5_48 (ci := 5) rfl kd_4 rfl rfl (by omega) (by decide) [] rfl (sk := []) rfl (Nat.le_of_ble_eq_true rfl) rfl (m_X5_step hu M) (fun r45 M46 => ?_)
  refine r_aload_n 0 dX5_readFact_188 rfl rfl ?_
  refine r_iload_n 1 dX5_readFact_189 rfl rfl ?_
  refine r_inv (a := 4) hu ⟨Nat.le_refl _, Nat.le_refl _⟩ dX5_readFact_190 kM_X5_158 (ci := 5) rfl kd_4 rfl rfl (by omega) (by decide) [(0, a1)] rfl (sk := []) rfl (Nat.le_of_ble_eq_true rfl) rfl rfl (m_X5_readSum hu 8 M46 a1) (fun r47 M48 => ?_)
  refine r_istore dX5_readFact_193 (by decide) (ls' := [(4, 0, r47), (0, 2, 4), (1, 0, a1), (3, 0, x3)]) rfl ?_
  refine r_aload_n 1 dX5_readFact_195 rfl rfl ?_
  refine r_gf (t := 2) (kz := 1) rfl hu dX5_readFact_196 kF_X5_27 kd_4 rfl rfl rfl ?_
  refine r_iload_n 3 dX5_readFact_199 rfl rfl ?_
  refine r_iconst dX5_readFact_200 ⟨by decide, by decide⟩ ?_
  refine r_ixor dX5_readFact_201 ?_
  refine r_ok (fun h49 => ?_)
  refine r_invv (a := M48 4 1) hu ⟨Nat.le_refl _, Nat.le_refl _⟩ dX5_readFact_202 kM_X5_190 (ci := 7) rfl h49 rfl rfl (by omega) (by decide) [(0, ixor x3 (-1))] rfl (sk := []) rfl (Nat.le_of_ble_eq_true rfl) rfl (m_X7_emit hu M48 (M48 4 1) (ixor x3 (-1)) h49) (fun r50 M51 => ?_)
  refine r_iload 0 dX5_readFact_205 rfl ?_
  refine r_ok (fun h52 => ?_)
  exact r_iret rfl rfl (Or.inr ⟨rfl, h52⟩) dX5_readFact_207
set_option maxRecDepth 100000 in
theorem tj_X5_readFact_44 {g : GT} {n nf : Int} (hu : Up true nf n) (S : Mem → Int → Res) {dS : Nat} (hdS : 35 ≤ dS) (hS : ∀ (M : Mem) (a1 : Int), AM g true yX5_readFact cX5_readFact 5 (some .boolean) dS n n nf [(2, 4), (0, a1)] M (S M a1)) (a1 : Int) (M : Mem) (x2 : Int) : AW g true RX5 cX5_readFact 5 (some .boolean) (dS + 3) n n nf 44 [(0, 2, 4), (1, 0, a1), (2, 0, x2)] [] n M (j_X5_readFact_44 S a1 M x2) := by
  unfold j_X5_readFact_44
  refine r_aload_n 0 dX5_readFact_44 rfl rfl ?_
  refine r_gf (t := 0) (kz := 10) rfl hu dX5_readFact_45 kF_X5_81 kd_4 rfl rfl rfl ?_
  refine r_bipush dX5_readFact_48 (by decide) ⟨by decide, by decide⟩ ?_
  refine r_icmp_ne (tgt := 76) dX5_readFact_50 rfl (fun h5 => ?_) (fun h6 => ?_)
  · refine r_aload_n 0 dX5_readFact_53 rfl rfl ?_
    refine r_invv (a := 4) hu ⟨Nat.le_refl _, Nat.le_refl _⟩ dX5_readFact_54 kM_X5_48 (ci := 5) rfl kd_4 rfl rfl (by omega) (by decide) [] rfl (sk := []) rfl (Nat.le_of_ble_eq_true rfl) rfl (m_X5_step hu M) (fun r7 M8 => ?_)
    refine r_aload_n 0 dX5_readFact_57 rfl rfl ?_
    refine r_iload_n 1 dX5_readFact_58 rfl rfl ?_
    refine r_iconst dX5_readFact_59 ⟨by decide, by decide⟩ ?_
    refine r_ok (fun h9 => ?_)
    refine r_iadd dX5_readFact_60 h9 ?_
    refine r_inv (a := 4) hu ⟨Nat.le_refl _, Nat.le_refl _⟩ dX5_readFact_61 kM_X5_193 (ci := 5) rfl kd_4 rfl rfl (by omega) (by decide) [(0, a1 + 1)] rfl (sk := []) rfl (Nat.le_of_ble_eq_true rfl) rfl rfl (hS M8 (a1 + 1)) (fun r10 M11 => ?_)
    refine r_istore_n dX5_readFact_64 rfl (by decide) (ls' := [(3, 0, r10), (0, 2, 4), (1, 0, a1), (2, 0, x2)]) rfl ?_
    refine r_aload_n 1 dX5_readFact_65 rfl rfl ?_
    refine r_gf (t := 2) (kz := 1) rfl hu dX5_readFact_66 kF_X5_27 kd_4 rfl rfl rfl ?_
    refine r_bipush dX5_readFact_69 (by decide) ⟨by decide, by decide⟩ ?_
    refine r_ok (fun h12 => ?_)
    refine r_invv (a := M11 4 1) hu ⟨Nat.le_refl _, Nat.le_refl _⟩ dX5_readFact_71 kM_X5_190 (ci := 7) rfl h12 rfl rfl (by omega) (by decide) [(0, (-13))] rfl (sk := []) rfl (Nat.le_of_ble_eq_true rfl) rfl (m_X7_emit hu M11 (M11 4 1) (-13) h12) (fun r13 M14 => ?_)
    refine r_iload_n 0 dX5_readFact_74 rfl rfl ?_
    refine r_ok (fun h15 => ?_)
    exact r_iret rfl rfl (Or.inr ⟨rfl, h15⟩) dX5_readFact_75
  · refine r_iload_n 2 dX5_readFact_76 rfl rfl ?_
    refine r_if_eq (tgt := 109) dX5_readFact_77 rfl (fun h16 => ?_) (fun h17 => ?_)
    · refine r_aload_n 0 dX5_readFact_109 rfl rfl ?_
      refine r_gf (t := 0) (kz := 10) rfl hu dX5_readFact_110 kF_X5_81 kd_4 rfl rfl rfl ?_
      refine r_bipush dX5_readFact_113 (by decide) ⟨by decide, by decide⟩ ?_
      refine r_icmp_ne (tgt := 132) dX5_readFact_115 rfl (fun h18 => ?_) (fun h19 => ?_)
      · refine r_aload_n 0 dX5_readFact_118 rfl rfl ?_
        refine r_invv (a := 4) hu ⟨Nat.le_refl _, Nat.le_refl _⟩ dX5_readFact_119 kM_X5_48 (ci := 5) rfl kd_4 rfl rfl (by omega) (by decide) [] rfl (sk := []) rfl (Nat.le_of_ble_eq_true rfl) rfl (m_X5_step hu M) (fun r20 M21 => ?_)
        refine r_aload_n 0 dX5_readFact_122 rfl rfl ?_
        refine r_gf (t := 2) (kz := 1) rfl hu dX5_readFact_123 kF_X5_27 kd_4 rfl rfl rfl ?_
        refine r_iconst dX5_readFact_126 ⟨by decide, by decide⟩ ?_
        refine r_ok (fun h22 => ?_)
        refine r_invv (a := M21 4 1) hu ⟨Nat.le_refl _, Nat.le_refl _⟩ dX5_readFact_127 kM_X5_190 (ci := 7) rfl h22 rfl rfl (by omega) (by decide) [(0, 1)] rfl (sk := []) rfl (Nat.le_of_ble_eq_true rfl) rfl (m_X7_emit hu M21 (M21 4 1) 1 h22) (fun r23 M24 => ?_)
        refine r_iconst dX5_readFact_130 ⟨by decide, by decide⟩ ?_
        exact r_iret rfl rfl (Or.inr ⟨rfl, Or.inr rfl⟩) dX5_readFact_131
      · refine r_aload_n 0 dX5_readFact_132 rfl rfl ?_
        refine r_iload_n 1 dX5_readFact_133 rfl rfl ?_
        refine r_inv (a := 4) hu ⟨Nat.le_refl _, Nat.le_refl _⟩ dX5_readFact_134 kM_X5_158 (ci := 5) rfl kd_4 rfl rfl (by omega) (by decide) [(0, a1)] rfl (sk := []) rfl (Nat.le_of_ble_eq_true rfl) rfl rfl (m_X5_readSum hu 8 M a1) (fun r25 M26 => ?_)
        refine r_if_ne (tgt := 142) dX5_readFact_137 rfl (fun h27 => ?_) (fun h28 => ?_)
        · refine r_iconst dX5_readFact_140 ⟨by decide, by decide⟩ ?_
          exact r_iret rfl rfl (Or.inr ⟨rfl, Or.inl rfl⟩) dX5_readFact_141
        · refine r_aload_n 0 dX5_readFact_142 rfl rfl ?_
          refine r_gf (t := 0) (kz := 8) rfl hu dX5_readFact_143 kF_X5_72 kd_4 rfl rfl rfl ?_
          refine r_istore_nB dX5_readFact_146 rfl (by decide) (lf := fun y29 => [(3, 0, y29), (0, 2, 4), (1, 0, a1), (2, 0, x2)]) (fun _ => rfl) (fun y29 ey29 => ?_)
          refine r_aload_n 1 dX5_readFact_147 rfl rfl ?_
          refine r_bipush dX5_readFact_148 (by decide) ⟨by decide, by decide⟩ ?_
          refine r_inv (a := 4) hu ⟨Nat.le_refl _, Nat.le_refl _⟩ dX5_readFact_150 kM_X5_84 (ci := 5) rfl kd_4 rfl rfl (by omega) (by decide) [(0, 60)] rfl (sk := []) rfl (Nat.le_of_ble_eq_true rfl) rfl rfl (m_X5_isSign hu M26 60) (fun r30 M31 => ?_)
          refine r_if_ne (tgt := 184) dX5_readFact_153 rfl (fun h32 => ?_) (fun h33 => ?_)
          · refine r_aload_n 1 dX5_readFact_156 rfl rfl ?_
            refine r_bipush dX5_readFact_157 (by decide) ⟨by decide, by decide⟩ ?_
            refine r_inv (a := 4) hu ⟨Nat.le_refl _, Nat.le_refl _⟩ dX5_readFact_159 kM_X5_84 (ci := 5) rfl kd_4 rfl rfl (by omega) (by decide) [(0, 62)] rfl (sk := []) rfl (Nat.le_of_ble_eq_true rfl) rfl rfl (m_X5_isSign hu M31 62) (fun r34 M35 => ?_)
            refine r_if_ne (tgt := 184) dX5_readFact_162 rfl (fun h36 => ?_) (fun h37 => ?_)
            · refine r_aload_n 1 dX5_readFact_165 rfl rfl ?_
              refine r_bipush dX5_readFact_166 (by decide) ⟨by decide, by decide⟩ ?_
              refine r_inv (a := 4) hu ⟨Nat.le_refl _, Nat.le_refl _⟩ dX5_readFact_168 kM_X5_84 (ci := 5) rfl kd_4 rfl rfl (by omega) (by decide) [(0, 61)] rfl (sk := []) rfl (Nat.le_of_ble_eq_true rfl) rfl rfl (m_X5_isSign hu M35 61) (fun r38 M39 => ?_)
              refine r_if_ne (tgt := 184) dX5_readFact_171 rfl (fun h40 => ?_) (fun h41 => ?_)
              · refine r_aload_n 1 dX5_readFact_174 rfl rfl ?_
                refine r_iconst dX5_readFact_175 ⟨by decide, by decide⟩ ?_
                refine r_aload_n 1 dX5_readFact_176 rfl rfl ?_
                refine r_gf (t := 0) (kz := 9) rfl hu dX5_readFact_177 kF_X5_78 kd_4 rfl rfl rfl ?_
                refine r_inv (a := 4) hu ⟨Nat.le_refl _, Nat.le_refl _⟩ dX5_readFact_180 kM_X5_89 (ci := 5) rfl kd_4 rfl rfl (by omega) (by decide) [(0, 1), (0, M39 4 9)] rfl (sk := []) rfl (Nat.le_of_ble_eq_true rfl) rfl rfl (m_X5_refused hu M39 1 (M39 4 9)) (fun r42 M43 => ?_)
                refine r_ok (fun h44 => ?_)
                exact r_iret rfl rfl (Or.inr ⟨rfl, h44⟩) dX5_readFact_183
              · refine r_sub [1, 2, 0] (ls' := [(0, 2, 4), (1, 0, a1), (3, 0, y29)]) rfl ?_
                exact tj_X5_readFact_184 hu S hdS hS a1 M39 y29
            · refine r_sub [1, 2, 0] (ls' := [(0, 2, 4), (1, 0, a1), (3, 0, y29)]) rfl ?_
              exact tj_X5_readFact_184 hu S hdS hS a1 M35 y29
          · refine r_sub [1, 2, 0] (ls' := [(0, 2, 4), (1, 0, a1), (3, 0, y29)]) rfl ?_
            exact tj_X5_readFact_184 hu S hdS hS a1 M31 y29
    · refine r_aload_n 0 dX5_readFact_80 rfl rfl ?_
      refine r_invv (a := 4) hu ⟨Nat.le_refl _, Nat.le_refl _⟩ dX5_readFact_81 kM_X5_48 (ci := 5) rfl kd_4 rfl rfl (by omega) (by decide) [] rfl (sk := []) rfl (Nat.le_of_ble_eq_true rfl) rfl (m_X5_step hu M) (fun r53 M54 => ?_)
      refine r_aload_n 0 dX5_readFact_84 rfl rfl ?_
      refine r_iload_n 1 dX5_readFact_85 rfl rfl ?_
      refine r_iconst dX5_readFact_86 ⟨by decide, by decide⟩ ?_
      refine r_ok (fun h55 => ?_)
      refine r_iadd dX5_readFact_87 h55 ?_
      refine r_inv (a := 4) hu ⟨Nat.le_refl _, Nat.le_refl _⟩ dX5_readFact_88 kM_X5_181 (ci := 5) rfl kd_4 rfl rfl (by omega) (by decide) [(0, a1 + 1)] rfl (sk := []) rfl (Nat.le_of_ble_eq_true rfl) rfl rfl (m_X5_readTest hu S hdS hS M54 (a1 + 1)) (fun r56 M57 => ?_)
      refine r_if_eq (tgt := 107) dX5_readFact_91 rfl (fun h58 => ?_) (fun h59 => ?_)
      · refine r_iconst dX5_readFact_107 ⟨by decide, by decide⟩ ?_
        exact r_iret rfl rfl (Or.inr ⟨rfl, Or.inl rfl⟩) dX5_readFact_108
      · refine r_aload_n 0 dX5_readFact_94 rfl rfl ?_
        refine r_bipush dX5_readFact_95 (by decide) ⟨by decide, by decide⟩ ?_
        refine r_inv (a := 4) hu ⟨Nat.le_refl _, Nat.le_refl _⟩ dX5_readFact_97 kM_X5_100 (ci := 5) rfl kd_4 rfl rfl (by omega) (by decide) [(0, 93)] rfl (sk := []) rfl (Nat.le_of_ble_eq_true rfl) rfl rfl (m_X5_readSign hu M57 93) (fun r60 M61 => ?_)
        refine r_if_eq (tgt := 107) dX5_readFact_100 rfl (fun h62 => ?_) (fun h63 => ?_)
        · refine r_iconst dX5_readFact_107 ⟨by decide, by decide⟩ ?_
          exact r_iret rfl rfl (Or.inr ⟨rfl, Or.inl rfl⟩) dX5_readFact_108
        · refine r_iconst dX5_readFact_103 ⟨by decide, by decide⟩ ?_
          refine r_goto (tgt := 108) dX5_readFact_104 rfl ?_
          exact r_iret rfl rfl (Or.inr ⟨rfl, Or.inr rfl⟩) dX5_readFact_108
set_option maxRecDepth 100000 in
theorem tj_X5_readFact_23 {g : GT} {n nf : Int} (hu : Up true nf n) (S : Mem → Int → Res) {dS : Nat} (hdS : 35 ≤ dS) (hS : ∀ (M : Mem) (a1 : Int), AM g true yX5_readFact cX5_readFact 5 (some .boolean) dS n n nf [(2, 4), (0, a1)] M (S M a1)) (a1 : Int) (M : Mem) (s0 : Int) : AW g true RX5 cX5_readFact 5 (some .boolean) (dS + 3) n n nf 23 [(0, 2, 4), (1, 0, a1)] [(0, s0)] n M (j_X5_readFact_23 S a1 M s0) := by
  unfold j_X5_readFact_23
  refine r_istore_n dX5_readFact_23 rfl (by decide) (ls' := [(2, 0, s0), (0, 2, 4), (1, 0, a1)]) rfl ?_
  refine r_iload_n 0 dX5_readFact_24 rfl rfl ?_
  refine r_if_eq (tgt := 44) dX5_readFact_25 rfl (fun h3 => ?_) (fun h4 => ?_)
  · refine r_sub [1, 2, 0] (ls' := [(0, 2, 4), (1, 0, a1), (2, 0, s0)]) rfl ?_
    exact tj_X5_readFact_44 hu S hdS hS a1 M s0
  · refine r_iload_n 2 dX5_readFact_28 rfl rfl ?_
    refine r_bipush dX5_readFact_29 (by decide) ⟨by decide, by decide⟩ ?_
    refine r_icmp_lt (tgt := 44) dX5_readFact_31 rfl (fun h64 => ?_) (fun h65 => ?_)
    · refine r_sub [1, 2, 0] (ls' := [(0, 2, 4), (1, 0, a1), (2, 0, s0)]) rfl ?_
      exact tj_X5_readFact_44 hu S hdS hS a1 M s0
    · refine r_aload_n 1 dX5_readFact_34 rfl rfl ?_
      refine r_iconst dX5_readFact_35 ⟨by decide, by decide⟩ ?_
      refine r_aload_n 1 dX5_readFact_36 rfl rfl ?_
      refine r_gf (t := 0) (kz := 9) rfl hu dX5_readFact_37 kF_X5_78 kd_4 rfl rfl rfl ?_
      refine r_inv (a := 4) hu ⟨Nat.le_refl _, Nat.le_refl _⟩ dX5_readFact_40 kM_X5_89 (ci := 5) rfl kd_4 rfl rfl (by omega) (by decide) [(0, 4), (0, M 4 9)] rfl (sk := []) rfl (Nat.le_of_ble_eq_true rfl) rfl rfl (m_X5_refused hu M 4 (M 4 9)) (fun r66 M67 => ?_)
      refine r_ok (fun h68 => ?_)
      exact r_iret rfl rfl (Or.inr ⟨rfl, h68⟩) dX5_readFact_43
set_option maxRecDepth 100000 in
theorem tj_X5_readFact_18 {g : GT} {n nf : Int} (hu : Up true nf n) (S : Mem → Int → Res) {dS : Nat} (hdS : 35 ≤ dS) (hS : ∀ (M : Mem) (a1 : Int), AM g true yX5_readFact cX5_readFact 5 (some .boolean) dS n n nf [(2, 4), (0, a1)] M (S M a1)) (a1 : Int) (M : Mem) : AW g true RX5 cX5_readFact 5 (some .boolean) (dS + 3) n n nf 18 [(0, 2, 4), (1, 0, a1)] [] n M (j_X5_readFact_18 S a1 M) := by
  unfold j_X5_readFact_18
  refine r_iconst dX5_readFact_18 ⟨by decide, by decide⟩ ?_
  refine r_goto (tgt := 23) dX5_readFact_19 rfl ?_
  exact tj_X5_readFact_23 hu S hdS hS a1 M 1
set_option maxRecDepth 100000 in
theorem mg_X5_readFact {g : GT} {n nf : Int} (hu : Up true nf n) (S : Mem → Int → Res) {dS : Nat} (hdS : 35 ≤ dS) (hS : ∀ (M : Mem) (a1 : Int), AM g true yX5_readFact cX5_readFact 5 (some .boolean) dS n n nf [(2, 4), (0, a1)] M (S M a1)) (M : Mem) (a1 : Int) : AM g true yX5_readFact cX5_readFact 5 (some .boolean) (dS + 3) n n nf [(2, 4), (0, a1)] M (g_X5_readFact S M a1) := by
  refine AM_of (by decide +kernel) (Nat.le_of_ble_eq_true rfl) (fun h => absurd h (Int.lt_irrefl n)) ?_
  show AW g true RX5 cX5_readFact 5 (some .boolean) (dS + 3) n n nf 0 [(0, 2, 4), (1, 0, a1)] [] n M (g_X5_readFact S M a1)
  unfold g_X5_readFact
  refine r_aload_n 0 dX5_readFact_0 rfl rfl ?_
  refine r_gf (t := 0) (kz := 10) rfl hu dX5_readFact_1 kF_X5_81 kd_4 rfl rfl rfl ?_
  refine r_bipush dX5_readFact_4 (by decide) ⟨by decide, by decide⟩ ?_
  refine r_icmp_eq (tgt := 18) dX5_readFact_6 rfl (fun h1 => ?_) (fun h2 => ?_)
  · exact tj_X5_readFact_18 hu S hdS hS a1 M
  · refine r_aload_n 0 dX5_readFact_9 rfl rfl ?_
    refine r_bipush dX5_readFact_10 (by decide) ⟨by decide, by decide⟩ ?_
    refine r_inv (a := 4) hu ⟨Nat.le_refl _, Nat.le_refl _⟩ dX5_readFact_12 kM_X5_84 (ci := 5) rfl kd_4 rfl rfl (by omega) (by decide) [(0, 91)] rfl (sk := []) rfl (Nat.le_of_ble_eq_true rfl) rfl rfl (m_X5_isSign hu M 91) (fun r69 M70 => ?_)
    refine r_if_eq (tgt := 22) dX5_readFact_15 rfl (fun h71 => ?_) (fun h72 => ?_)
    · refine r_iconst dX5_readFact_22 ⟨by decide, by decide⟩ ?_
      exact tj_X5_readFact_23 hu S hdS hS a1 M70 0
    · exact tj_X5_readFact_18 hu S hdS hS a1 M70
set_option maxRecDepth 100000 in
theorem m_X5_readFact {g : GT} {n nf : Int} (hu : Up true nf n) (q : Nat) : ∀ (M : Mem) (a1 : Int), AM g true yX5_readFact cX5_readFact 5 (some .boolean) (35 + 3 * q) n n nf [(2, 4), (0, a1)] M (f_X5_readFact q M a1) := by
  induction q with
  | zero => intro M a1 _ r M2 h; cases h
  | succ q ih => intro M a1; exact mg_X5_readFact hu (f_X5_readFact q) (dS := 35 + 3 * q) (by omega) ih M a1
theorem dX5_readRule_0 : decode cX5_readRule 0 = .ok (.aload_n 1, 1) := by decide +kernel
theorem dX5_readRule_1 : decode cX5_readRule 1 = .ok (.aload_n 0, 1) := by decide +kernel
theorem dX5_readRule_2 : decode cX5_readRule 2 = .ok (.getfield 27, 3) := by decide +kernel
theorem dX5_readRule_5 : decode cX5_readRule 5 = .ok (.getfield 152, 3) := by decide +kernel
theorem dX5_readRule_8 : decode cX5_readRule 8 = .ok (.putfield 155, 3) := by decide +kernel
theorem dX5_readRule_11 : decode cX5_readRule 11 = .ok (.aload_n 0, 1) := by decide +kernel
theorem dX5_readRule_12 : decode cX5_readRule 12 = .ok (.iconst 0, 1) := by decide +kernel
theorem dX5_readRule_13 : decode cX5_readRule 13 = .ok (.invokevirtual 158, 3) := by decide +kernel
theorem dX5_readRule_16 : decode cX5_readRule 16 = .ok (.ifCond .ne 5, 3) := by decide +kernel
theorem dX5_readRule_19 : decode cX5_readRule 19 = .ok (.iconst 0, 1) := by decide +kernel
theorem dX5_readRule_20 : decode cX5_readRule 20 = .ok (.ireturn, 1) := by decide +kernel
theorem dX5_readRule_21 : decode cX5_readRule 21 = .ok (.aload_n 1, 1) := by decide +kernel
theorem dX5_readRule_22 : decode cX5_readRule 22 = .ok (.aload_n 0, 1) := by decide +kernel
theorem dX5_readRule_23 : decode cX5_readRule 23 = .ok (.getfield 27, 3) := by decide +kernel
theorem dX5_readRule_26 : decode cX5_readRule 26 = .ok (.getfield 152, 3) := by decide +kernel
theorem dX5_readRule_29 : decode cX5_readRule 29 = .ok (.putfield 161, 3) := by decide +kernel
theorem dX5_readRule_32 : decode cX5_readRule 32 = .ok (.aload_n 0, 1) := by decide +kernel
theorem dX5_readRule_33 : decode cX5_readRule 33 = .ok (.getfield 81, 3) := by decide +kernel
theorem dX5_readRule_36 : decode cX5_readRule 36 = .ok (.bipush 9, 2) := by decide +kernel
theorem dX5_readRule_38 : decode cX5_readRule 38 = .ok (.if_icmp .eq 13, 3) := by decide +kernel
theorem dX5_readRule_41 : decode cX5_readRule 41 = .ok (.aload_n 0, 1) := by decide +kernel
theorem dX5_readRule_42 : decode cX5_readRule 42 = .ok (.iconst 1, 1) := by decide +kernel
theorem dX5_readRule_43 : decode cX5_readRule 43 = .ok (.aload_n 0, 1) := by decide +kernel
theorem dX5_readRule_44 : decode cX5_readRule 44 = .ok (.getfield 78, 3) := by decide +kernel
theorem dX5_readRule_47 : decode cX5_readRule 47 = .ok (.invokevirtual 89, 3) := by decide +kernel
theorem dX5_readRule_50 : decode cX5_readRule 50 = .ok (.ireturn, 1) := by decide +kernel
theorem dX5_readRule_51 : decode cX5_readRule 51 = .ok (.aload_n 0, 1) := by decide +kernel
theorem dX5_readRule_52 : decode cX5_readRule 52 = .ok (.invokevirtual 48, 3) := by decide +kernel
theorem dX5_readRule_55 : decode cX5_readRule 55 = .ok (.aload_n 0, 1) := by decide +kernel
theorem dX5_readRule_56 : decode cX5_readRule 56 = .ok (.iconst 0, 1) := by decide +kernel
theorem dX5_readRule_57 : decode cX5_readRule 57 = .ok (.invokevirtual 181, 3) := by decide +kernel
theorem dX5_readRule_60 : decode cX5_readRule 60 = .ok (.istore_n 2, 1) := by decide +kernel
theorem dX5_readRule_61 : decode cX5_readRule 61 = .ok (.aload_n 1, 1) := by decide +kernel
theorem dX5_readRule_62 : decode cX5_readRule 62 = .ok (.aload_n 0, 1) := by decide +kernel
theorem dX5_readRule_63 : decode cX5_readRule 63 = .ok (.getfield 27, 3) := by decide +kernel
theorem dX5_readRule_66 : decode cX5_readRule 66 = .ok (.getfield 152, 3) := by decide +kernel
theorem dX5_readRule_69 : decode cX5_readRule 69 = .ok (.putfield 184, 3) := by decide +kernel
theorem dX5_readRule_72 : decode cX5_readRule 72 = .ok (.iload_n 2, 1) := by decide +kernel
theorem dX5_readRule_73 : decode cX5_readRule 73 = .ok (.ireturn, 1) := by decide +kernel
set_option maxRecDepth 100000 in
theorem m_X5_readRule {g : GT} {n nf : Int} (hu : Up true nf n) (M : Mem) (a1 : Int) (hk1 : kd a1 = 18) : AM g true yX5_readRule cX5_readRule 3 (some .boolean) (62) n n nf [(2, 4), (2, a1)] M (f_X5_readRule M a1) := by
  refine AM_of (by decide +kernel) (Nat.le_of_ble_eq_true rfl) (fun h => absurd h (Int.lt_irrefl n)) ?_
  show AW g true RX5 cX5_readRule 3 (some .boolean) (62) n n nf 0 [(0, 2, 4), (1, 2, a1)] [] n M (f_X5_readRule M a1)
  unfold f_X5_readRule
  refine r_aload_n 1 dX5_readRule_0 rfl rfl ?_
  refine r_aload_n 0 dX5_readRule_1 rfl rfl ?_
  refine r_gf (t := 2) (kz := 1) rfl hu dX5_readRule_2 kF_X5_27 kd_4 rfl rfl rfl ?_
  refine r_ok (fun h1 => ?_)
  refine r_gf (t := 0) (kz := 5) rfl hu dX5_readRule_5 kF_X5_152 h1 rfl rfl rfl ?_
  refine r_pf (t := 0) (kz := 6) rfl hu dX5_readRule_8 kF_X5_155 hk1 rfl rfl rfl (fun h => absurd h (by decide)) rfl kX_8_6 (fun M2 eM2 => ?_)
  refine r_aload_n 0 dX5_readRule_11 rfl rfl ?_
  refine r_iconst dX5_readRule_12 ⟨by decide, by decide⟩ ?_
  refine r_inv (a := 4) hu ⟨Nat.le_refl _, Nat.le_refl _⟩ dX5_readRule_13 kM_X5_158 (ci := 5) rfl kd_4 rfl rfl (by decide) (by decide) [(0, 0)] rfl (sk := []) rfl (Nat.le_of_ble_eq_true rfl) rfl rfl (m_X5_readSum hu 8 M2 0) (fun r3 M4 => ?_)
  refine r_if_ne (tgt := 21) dX5_readRule_16 rfl (fun h5 => ?_) (fun h6 => ?_)
  · refine r_iconst dX5_readRule_19 ⟨by decide, by decide⟩ ?_
    exact r_iret rfl rfl (Or.inr ⟨rfl, Or.inl rfl⟩) dX5_readRule_20
  · refine r_aload_n 1 dX5_readRule_21 rfl rfl ?_
    refine r_aload_n 0 dX5_readRule_22 rfl rfl ?_
    refine r_gf (t := 2) (kz := 1) rfl hu dX5_readRule_23 kF_X5_27 kd_4 rfl rfl rfl ?_
    refine r_ok (fun h7 => ?_)
    refine r_gf (t := 0) (kz := 5) rfl hu dX5_readRule_26 kF_X5_152 h7 rfl rfl rfl ?_
    refine r_pf (t := 0) (kz := 7) rfl hu dX5_readRule_29 kF_X5_161 hk1 rfl rfl rfl (fun h => absurd h (by decide)) rfl kX_8_7 (fun M8 eM8 => ?_)
    refine r_aload_n 0 dX5_readRule_32 rfl rfl ?_
    refine r_gf (t := 0) (kz := 10) rfl hu dX5_readRule_33 kF_X5_81 kd_4 rfl rfl rfl ?_
    refine r_bipush dX5_readRule_36 (by decide) ⟨by decide, by decide⟩ ?_
    refine r_icmp_eq (tgt := 51) dX5_readRule_38 rfl (fun h9 => ?_) (fun h10 => ?_)
    · refine r_aload_n 0 dX5_readRule_51 rfl rfl ?_
      refine r_invv (a := 4) hu ⟨Nat.le_refl _, Nat.le_refl _⟩ dX5_readRule_52 kM_X5_48 (ci := 5) rfl kd_4 rfl rfl (by decide) (by decide) [] rfl (sk := []) rfl (Nat.le_of_ble_eq_true rfl) rfl (m_X5_step hu M8) (fun r11 M12 => ?_)
      refine r_aload_n 0 dX5_readRule_55 rfl rfl ?_
      refine r_iconst dX5_readRule_56 ⟨by decide, by decide⟩ ?_
      refine r_inv (a := 4) hu ⟨Nat.le_refl _, Nat.le_refl _⟩ dX5_readRule_57 kM_X5_181 (ci := 5) rfl kd_4 rfl rfl (by decide) (by decide) [(0, 0)] rfl (sk := []) rfl (Nat.le_of_ble_eq_true rfl) rfl rfl (m_X5_readTest hu (f_X5_readFact 8) (dS := 59) (by decide) (fun M a1 => m_X5_readFact hu 8 M a1) M12 0) (fun r13 M14 => ?_)
      refine r_istore_n dX5_readRule_60 rfl (by decide) (ls' := [(2, 0, r13), (0, 2, 4), (1, 2, a1)]) rfl ?_
      refine r_aload_n 2 dX5_readRule_61 rfl rfl ?_
      refine r_aload_n 1 dX5_readRule_62 rfl rfl ?_
      refine r_gf (t := 2) (kz := 1) rfl hu dX5_readRule_63 kF_X5_27 kd_4 rfl rfl rfl ?_
      refine r_ok (fun h15 => ?_)
      refine r_gf (t := 0) (kz := 5) rfl hu dX5_readRule_66 kF_X5_152 h15 rfl rfl rfl ?_
      refine r_pf (t := 0) (kz := 8) rfl hu dX5_readRule_69 kF_X5_184 hk1 rfl rfl rfl (fun h => absurd h (by decide)) rfl kX_8_8 (fun M16 eM16 => ?_)
      refine r_iload_n 0 dX5_readRule_72 rfl rfl ?_
      refine r_ok (fun h17 => ?_)
      exact r_iret rfl rfl (Or.inr ⟨rfl, h17⟩) dX5_readRule_73
    · refine r_aload_n 0 dX5_readRule_41 rfl rfl ?_
      refine r_iconst dX5_readRule_42 ⟨by decide, by decide⟩ ?_
      refine r_aload_n 0 dX5_readRule_43 rfl rfl ?_
      refine r_gf (t := 0) (kz := 9) rfl hu dX5_readRule_44 kF_X5_78 kd_4 rfl rfl rfl ?_
      refine r_inv (a := 4) hu ⟨Nat.le_refl _, Nat.le_refl _⟩ dX5_readRule_47 kM_X5_89 (ci := 5) rfl kd_4 rfl rfl (by decide) (by decide) [(0, 1), (0, M8 4 9)] rfl (sk := []) rfl (Nat.le_of_ble_eq_true rfl) rfl rfl (m_X5_refused hu M8 1 (M8 4 9)) (fun r18 M19 => ?_)
      refine r_ok (fun h20 => ?_)
      exact r_iret rfl rfl (Or.inr ⟨rfl, h20⟩) dX5_readRule_50
theorem dX5_readShow_0 : decode cX5_readShow 0 = .ok (.aload_n 0, 1) := by decide +kernel
theorem dX5_readShow_1 : decode cX5_readShow 1 = .ok (.getfield 72, 3) := by decide +kernel
theorem dX5_readShow_4 : decode cX5_readShow 4 = .ok (.istore_n 3, 1) := by decide +kernel
theorem dX5_readShow_5 : decode cX5_readShow 5 = .ok (.aload_n 0, 1) := by decide +kernel
theorem dX5_readShow_6 : decode cX5_readShow 6 = .ok (.getfield 78, 3) := by decide +kernel
theorem dX5_readShow_9 : decode cX5_readShow 9 = .ok (.istore 4, 2) := by decide +kernel
theorem dX5_readShow_11 : decode cX5_readShow 11 = .ok (.aload_n 0, 1) := by decide +kernel
theorem dX5_readShow_12 : decode cX5_readShow 12 = .ok (.invokevirtual 142, 3) := by decide +kernel
theorem dX5_readShow_15 : decode cX5_readShow 15 = .ok (.ifCond .ne 5, 3) := by decide +kernel
theorem dX5_readShow_18 : decode cX5_readShow 18 = .ok (.iconst 0, 1) := by decide +kernel
theorem dX5_readShow_19 : decode cX5_readShow 19 = .ok (.ireturn, 1) := by decide +kernel
theorem dX5_readShow_20 : decode cX5_readShow 20 = .ok (.aload_n 1, 1) := by decide +kernel
theorem dX5_readShow_21 : decode cX5_readShow 21 = .ok (.aload_n 0, 1) := by decide +kernel
theorem dX5_readShow_22 : decode cX5_readShow 22 = .ok (.getfield 31, 3) := by decide +kernel
theorem dX5_readShow_25 : decode cX5_readShow 25 = .ok (.iload_n 3, 1) := by decide +kernel
theorem dX5_readShow_26 : decode cX5_readShow 26 = .ok (.invokevirtual 145, 3) := by decide +kernel
theorem dX5_readShow_29 : decode cX5_readShow 29 = .ok (.putfield 149, 3) := by decide +kernel
theorem dX5_readShow_32 : decode cX5_readShow 32 = .ok (.aload_n 1, 1) := by decide +kernel
theorem dX5_readShow_33 : decode cX5_readShow 33 = .ok (.getfield 149, 3) := by decide +kernel
theorem dX5_readShow_36 : decode cX5_readShow 36 = .ok (.iconst (-1), 1) := by decide +kernel
theorem dX5_readShow_37 : decode cX5_readShow 37 = .ok (.if_icmp .ne 11, 3) := by decide +kernel
theorem dX5_readShow_40 : decode cX5_readShow 40 = .ok (.aload_n 0, 1) := by decide +kernel
theorem dX5_readShow_41 : decode cX5_readShow 41 = .ok (.iconst 3, 1) := by decide +kernel
theorem dX5_readShow_42 : decode cX5_readShow 42 = .ok (.iload 4, 2) := by decide +kernel
theorem dX5_readShow_44 : decode cX5_readShow 44 = .ok (.invokevirtual 89, 3) := by decide +kernel
theorem dX5_readShow_47 : decode cX5_readShow 47 = .ok (.ireturn, 1) := by decide +kernel
theorem dX5_readShow_48 : decode cX5_readShow 48 = .ok (.aload_n 1, 1) := by decide +kernel
theorem dX5_readShow_49 : decode cX5_readShow 49 = .ok (.aload_n 0, 1) := by decide +kernel
theorem dX5_readShow_50 : decode cX5_readShow 50 = .ok (.getfield 27, 3) := by decide +kernel
theorem dX5_readShow_53 : decode cX5_readShow 53 = .ok (.getfield 152, 3) := by decide +kernel
theorem dX5_readShow_56 : decode cX5_readShow 56 = .ok (.putfield 155, 3) := by decide +kernel
theorem dX5_readShow_59 : decode cX5_readShow 59 = .ok (.aload_n 0, 1) := by decide +kernel
theorem dX5_readShow_60 : decode cX5_readShow 60 = .ok (.aload_n 1, 1) := by decide +kernel
theorem dX5_readShow_61 : decode cX5_readShow 61 = .ok (.invokevirtual 115, 3) := by decide +kernel
theorem dX5_readShow_64 : decode cX5_readShow 64 = .ok (.ifCond .eq 11, 3) := by decide +kernel
theorem dX5_readShow_67 : decode cX5_readShow 67 = .ok (.aload_n 0, 1) := by decide +kernel
theorem dX5_readShow_68 : decode cX5_readShow 68 = .ok (.iload_n 2, 1) := by decide +kernel
theorem dX5_readShow_69 : decode cX5_readShow 69 = .ok (.invokevirtual 158, 3) := by decide +kernel
theorem dX5_readShow_72 : decode cX5_readShow 72 = .ok (.ifCond .ne 5, 3) := by decide +kernel
theorem dX5_readShow_75 : decode cX5_readShow 75 = .ok (.iconst 0, 1) := by decide +kernel
theorem dX5_readShow_76 : decode cX5_readShow 76 = .ok (.ireturn, 1) := by decide +kernel
theorem dX5_readShow_77 : decode cX5_readShow 77 = .ok (.aload_n 1, 1) := by decide +kernel
theorem dX5_readShow_78 : decode cX5_readShow 78 = .ok (.aload_n 0, 1) := by decide +kernel
theorem dX5_readShow_79 : decode cX5_readShow 79 = .ok (.getfield 27, 3) := by decide +kernel
theorem dX5_readShow_82 : decode cX5_readShow 82 = .ok (.getfield 152, 3) := by decide +kernel
theorem dX5_readShow_85 : decode cX5_readShow 85 = .ok (.putfield 161, 3) := by decide +kernel
theorem dX5_readShow_88 : decode cX5_readShow 88 = .ok (.iconst 1, 1) := by decide +kernel
theorem dX5_readShow_89 : decode cX5_readShow 89 = .ok (.ireturn, 1) := by decide +kernel
set_option maxRecDepth 100000 in
theorem m_X5_readShow {g : GT} {n nf : Int} (hu : Up true nf n) (M : Mem) (a1 a2 : Int) (hk1 : kd a1 = 18) : AM g true yX5_readShow cX5_readShow 5 (some .boolean) (35) n n nf [(2, 4), (2, a1), (0, a2)] M (f_X5_readShow M a1 a2) := by
  refine AM_of (by decide +kernel) (Nat.le_of_ble_eq_true rfl) (fun h => absurd h (Int.lt_irrefl n)) ?_
  show AW g true RX5 cX5_readShow 5 (some .boolean) (35) n n nf 0 [(0, 2, 4), (1, 2, a1), (2, 0, a2)] [] n M (f_X5_readShow M a1 a2)
  unfold f_X5_readShow
  refine r_aload_n 0 dX5_readShow_0 rfl rfl ?_
  refine r_gf (t := 0) (kz := 8) rfl hu dX5_readShow_1 kF_X5_72 kd_4 rfl rfl rfl ?_
  refine r_istore_nB dX5_readShow_4 rfl (by decide) (lf := fun y1 => [(3, 0, y1), (0, 2, 4), (1, 2, a1), (2, 0, a2)]) (fun _ => rfl) (fun y1 ey1 => ?_)
  refine r_aload_n 1 dX5_readShow_5 rfl rfl ?_
  refine r_gf (t := 0) (kz := 9) rfl hu dX5_readShow_6 kF_X5_78 kd_4 rfl rfl rfl ?_
  refine r_istoreB dX5_readShow_9 (by decide) (lf := fun y2 => [(4, 0, y2), (3, 0, y1), (0, 2, 4), (1, 2, a1), (2, 0, a2)]) (fun _ => rfl) (fun y2 ey2 => ?_)
  refine r_aload_n 2 dX5_readShow_11 rfl rfl ?_
  refine r_inv (a := 4) hu ⟨Nat.le_refl _, Nat.le_refl _⟩ dX5_readShow_12 kM_X5_142 (ci := 5) rfl kd_4 rfl rfl (by decide) (by decide) [] rfl (sk := []) rfl (Nat.le_of_ble_eq_true rfl) rfl rfl (m_X5_readName hu M) (fun r3 M4 => ?_)
  refine r_if_ne (tgt := 20) dX5_readShow_15 rfl (fun h5 => ?_) (fun h6 => ?_)
  · refine r_iconst dX5_readShow_18 ⟨by decide, by decide⟩ ?_
    exact r_iret rfl rfl (Or.inr ⟨rfl, Or.inl rfl⟩) dX5_readShow_19
  · refine r_aload_n 3 dX5_readShow_20 rfl rfl ?_
    refine r_aload_n 2 dX5_readShow_21 rfl rfl ?_
    refine r_gf (t := 2) (kz := 2) rfl hu dX5_readShow_22 kF_X5_31 kd_4 rfl rfl rfl ?_
    refine r_iload_n 1 dX5_readShow_25 rfl rfl ?_
    refine r_ok (fun h7 => ?_)
    refine r_inv (a := M4 4 2) hu ⟨Nat.le_refl _, Nat.le_refl _⟩ dX5_readShow_26 kM_X5_145 (ci := 7) rfl h7 rfl rfl (by decide) (by decide) [(0, y1)] rfl (sk := [(2, a1)]) rfl (Nat.le_of_ble_eq_true rfl) rfl rfl (m_X7_whichIs hu M4 (M4 4 2) y1 h7) (fun r8 M9 => ?_)
    refine r_pf (t := 0) (kz := 2) rfl hu dX5_readShow_29 kF_X5_149 hk1 rfl rfl rfl (fun h => absurd h (by decide)) rfl kX_8_2 (fun M10 eM10 => ?_)
    refine r_aload_n 3 dX5_readShow_32 rfl rfl ?_
    refine r_gf (t := 0) (kz := 2) rfl hu dX5_readShow_33 kF_X5_149 hk1 rfl rfl rfl ?_
    refine r_iconst dX5_readShow_36 ⟨by decide, by decide⟩ ?_
    refine r_icmp_ne (tgt := 48) dX5_readShow_37 rfl (fun h11 => ?_) (fun h12 => ?_)
    · refine r_aload_n 2 dX5_readShow_40 rfl rfl ?_
      refine r_iconst dX5_readShow_41 ⟨by decide, by decide⟩ ?_
      refine r_iload 0 dX5_readShow_42 rfl ?_
      refine r_inv (a := 4) hu ⟨Nat.le_refl _, Nat.le_refl _⟩ dX5_readShow_44 kM_X5_89 (ci := 5) rfl kd_4 rfl rfl (by decide) (by decide) [(0, 3), (0, y2)] rfl (sk := []) rfl (Nat.le_of_ble_eq_true rfl) rfl rfl (m_X5_refused hu M10 3 y2) (fun r13 M14 => ?_)
      refine r_ok (fun h15 => ?_)
      exact r_iret rfl rfl (Or.inr ⟨rfl, h15⟩) dX5_readShow_47
    · refine r_aload_n 3 dX5_readShow_48 rfl rfl ?_
      refine r_aload_n 2 dX5_readShow_49 rfl rfl ?_
      refine r_gf (t := 2) (kz := 1) rfl hu dX5_readShow_50 kF_X5_27 kd_4 rfl rfl rfl ?_
      refine r_ok (fun h16 => ?_)
      refine r_gf (t := 0) (kz := 5) rfl hu dX5_readShow_53 kF_X5_152 h16 rfl rfl rfl ?_
      refine r_pf (t := 0) (kz := 6) rfl hu dX5_readShow_56 kF_X5_155 hk1 rfl rfl rfl (fun h => absurd h (by decide)) rfl kX_8_6 (fun M17 eM17 => ?_)
      refine r_aload_n 2 dX5_readShow_59 rfl rfl ?_
      refine r_aload_n 3 dX5_readShow_60 rfl rfl ?_
      refine r_inv (a := 4) hu ⟨Nat.le_refl _, Nat.le_refl _⟩ dX5_readShow_61 kM_X5_115 (ci := 5) rfl kd_4 rfl rfl (by decide) (by decide) [(2, a1)] rfl (sk := []) rfl (Nat.le_of_ble_eq_true rfl) rfl rfl (m_X5_readSquare hu M17 a1 hk1) (fun r18 M19 => ?_)
      refine r_if_eq (tgt := 75) dX5_readShow_64 rfl (fun h20 => ?_) (fun h21 => ?_)
      · refine r_iconst dX5_readShow_75 ⟨by decide, by decide⟩ ?_
        exact r_iret rfl rfl (Or.inr ⟨rfl, Or.inl rfl⟩) dX5_readShow_76
      · refine r_aload_n 2 dX5_readShow_67 rfl rfl ?_
        refine r_iload_n 4 dX5_readShow_68 rfl rfl ?_
        refine r_inv (a := 4) hu ⟨Nat.le_refl _, Nat.le_refl _⟩ dX5_readShow_69 kM_X5_158 (ci := 5) rfl kd_4 rfl rfl (by decide) (by decide) [(0, a2)] rfl (sk := []) rfl (Nat.le_of_ble_eq_true rfl) rfl rfl (m_X5_readSum hu 8 M19 a2) (fun r22 M23 => ?_)
        refine r_if_ne (tgt := 77) dX5_readShow_72 rfl (fun h24 => ?_) (fun h25 => ?_)
        · refine r_iconst dX5_readShow_75 ⟨by decide, by decide⟩ ?_
          exact r_iret rfl rfl (Or.inr ⟨rfl, Or.inl rfl⟩) dX5_readShow_76
        · refine r_aload_n 3 dX5_readShow_77 rfl rfl ?_
          refine r_aload_n 2 dX5_readShow_78 rfl rfl ?_
          refine r_gf (t := 2) (kz := 1) rfl hu dX5_readShow_79 kF_X5_27 kd_4 rfl rfl rfl ?_
          refine r_ok (fun h26 => ?_)
          refine r_gf (t := 0) (kz := 5) rfl hu dX5_readShow_82 kF_X5_152 h26 rfl rfl rfl ?_
          refine r_pf (t := 0) (kz := 7) rfl hu dX5_readShow_85 kF_X5_161 hk1 rfl rfl rfl (fun h => absurd h (by decide)) rfl kX_8_7 (fun M27 eM27 => ?_)
          refine r_iconst dX5_readShow_88 ⟨by decide, by decide⟩ ?_
          exact r_iret rfl rfl (Or.inr ⟨rfl, Or.inr rfl⟩) dX5_readShow_89
