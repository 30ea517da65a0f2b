theorem dX11_image_0 : decode cX11_image 0 = .ok (.aload_n 0, 1) := by decide +kernel
theorem dX11_image_1 : decode cX11_image 1 = .ok (.iconst 0, 1) := by decide +kernel
theorem dX11_image_2 : decode cX11_image 2 = .ok (.putfield 464, 3) := by decide +kernel
theorem dX11_image_5 : decode cX11_image 5 = .ok (.aload_n 0, 1) := by decide +kernel
theorem dX11_image_6 : decode cX11_image 6 = .ok (.aload_n 0, 1) := by decide +kernel
theorem dX11_image_7 : decode cX11_image 7 = .ok (.getfield 42, 3) := by decide +kernel
theorem dX11_image_10 : decode cX11_image 10 = .ok (.getfield 107, 3) := by decide +kernel
theorem dX11_image_13 : decode cX11_image 13 = .ok (.invokevirtual 467, 3) := by decide +kernel
theorem dX11_image_16 : decode cX11_image 16 = .ok (.iconst 0, 1) := by decide +kernel
theorem dX11_image_17 : decode cX11_image 17 = .ok (.istore_n 1, 1) := by decide +kernel
theorem dX11_image_18 : decode cX11_image 18 = .ok (.iload_n 1, 1) := by decide +kernel
theorem dX11_image_19 : decode cX11_image 19 = .ok (.aload_n 0, 1) := by decide +kernel
theorem dX11_image_20 : decode cX11_image 20 = .ok (.getfield 42, 3) := by decide +kernel
theorem dX11_image_23 : decode cX11_image 23 = .ok (.getfield 107, 3) := by decide +kernel
theorem dX11_image_26 : decode cX11_image 26 = .ok (.if_icmp .ge 40, 3) := by decide +kernel
theorem dX11_image_29 : decode cX11_image 29 = .ok (.iconst 0, 1) := by decide +kernel
theorem dX11_image_30 : decode cX11_image 30 = .ok (.istore_n 2, 1) := by decide +kernel
theorem dX11_image_31 : decode cX11_image 31 = .ok (.iload_n 2, 1) := by decide +kernel
theorem dX11_image_32 : decode cX11_image 32 = .ok (.bipush 8, 2) := by decide +kernel
theorem dX11_image_34 : decode cX11_image 34 = .ok (.if_icmp .ge 26, 3) := by decide +kernel
theorem dX11_image_37 : decode cX11_image 37 = .ok (.aload_n 0, 1) := by decide +kernel
theorem dX11_image_38 : decode cX11_image 38 = .ok (.aload_n 0, 1) := by decide +kernel
theorem dX11_image_39 : decode cX11_image 39 = .ok (.getfield 42, 3) := by decide +kernel
theorem dX11_image_42 : decode cX11_image 42 = .ok (.getfield 350, 3) := by decide +kernel
theorem dX11_image_45 : decode cX11_image 45 = .ok (.iload_n 1, 1) := by decide +kernel
theorem dX11_image_46 : decode cX11_image 46 = .ok (.aaload, 1) := by decide +kernel
theorem dX11_image_47 : decode cX11_image 47 = .ok (.iload_n 2, 1) := by decide +kernel
theorem dX11_image_48 : decode cX11_image 48 = .ok (.invokevirtual 470, 3) := by decide +kernel
theorem dX11_image_51 : decode cX11_image 51 = .ok (.invokevirtual 467, 3) := by decide +kernel
theorem dX11_image_54 : decode cX11_image 54 = .ok (.iinc 2 1, 3) := by decide +kernel
theorem dX11_image_57 : decode cX11_image 57 = .ok (.goto (-26), 3) := by decide +kernel
theorem dX11_image_60 : decode cX11_image 60 = .ok (.iinc 1 1, 3) := by decide +kernel
theorem dX11_image_63 : decode cX11_image 63 = .ok (.goto (-45), 3) := by decide +kernel
theorem dX11_image_66 : decode cX11_image 66 = .ok (.iconst 5, 1) := by decide +kernel
theorem dX11_image_67 : decode cX11_image 67 = .ok (.istore_n 1, 1) := by decide +kernel
theorem dX11_image_68 : decode cX11_image 68 = .ok (.iconst 0, 1) := by decide +kernel
theorem dX11_image_69 : decode cX11_image 69 = .ok (.istore_n 2, 1) := by decide +kernel
theorem dX11_image_70 : decode cX11_image 70 = .ok (.iload_n 2, 1) := by decide +kernel
theorem dX11_image_71 : decode cX11_image 71 = .ok (.aload_n 0, 1) := by decide +kernel
theorem dX11_image_72 : decode cX11_image 72 = .ok (.getfield 464, 3) := by decide +kernel
theorem dX11_image_75 : decode cX11_image 75 = .ok (.if_icmp .ge 20, 3) := by decide +kernel
theorem dX11_image_78 : decode cX11_image 78 = .ok (.iload_n 1, 1) := by decide +kernel
theorem dX11_image_79 : decode cX11_image 79 = .ok (.aload_n 0, 1) := by decide +kernel
theorem dX11_image_80 : decode cX11_image 80 = .ok (.getfield 81, 3) := by decide +kernel
theorem dX11_image_83 : decode cX11_image 83 = .ok (.iload_n 2, 1) := by decide +kernel
theorem dX11_image_84 : decode cX11_image 84 = .ok (.iaload, 1) := by decide +kernel
theorem dX11_image_85 : decode cX11_image 85 = .ok (.invokestatic 473, 3) := by decide +kernel
theorem dX11_image_88 : decode cX11_image 88 = .ok (.istore_n 1, 1) := by decide +kernel
theorem dX11_image_89 : decode cX11_image 89 = .ok (.iinc 2 1, 3) := by decide +kernel
theorem dX11_image_92 : decode cX11_image 92 = .ok (.goto (-22), 3) := by decide +kernel
theorem dX11_image_95 : decode cX11_image 95 = .ok (.aload_n 0, 1) := by decide +kernel
theorem dX11_image_96 : decode cX11_image 96 = .ok (.iload_n 1, 1) := by decide +kernel
theorem dX11_image_97 : decode cX11_image 97 = .ok (.invokevirtual 467, 3) := by decide +kernel
theorem dX11_image_100 : decode cX11_image 100 = .ok (.aload_n 0, 1) := by decide +kernel
theorem dX11_image_101 : decode cX11_image 101 = .ok (.getfield 464, 3) := by decide +kernel
theorem dX11_image_104 : decode cX11_image 104 = .ok (.ireturn, 1) := by decide +kernel
set_option maxRecDepth 100000 in
theorem tb_X11_image_70 {g : GT} {n nf : Int} (hu : Up true nf n) (w70 : Mem → Int → Int → Res) (hw70 : ∀ (M : Mem) (x1 x2 : Int), AW g true RX11 cX11_image 3 (some .int) (1) n n nf 70 [(0, 2, 1), (1, 0, x1), (2, 0, x2)] [] n M (w70 M x1 x2)) (M : Mem) (x1 x2 : Int) : AW g true RX11 cX11_image 3 (some .int) (1) n n nf 70 [(0, 2, 1), (1, 0, x1), (2, 0, x2)] [] n M (b_X11_image_70 w70 M x1 x2) := by
  unfold b_X11_image_70
  refine r_iload_n 2 dX11_image_70 rfl rfl ?_
  refine r_aload_n 0 dX11_image_71 rfl rfl ?_
  refine r_gf (t := 0) (kz := 15) rfl hu dX11_image_72 kF_X11_464 kd_1 rfl rfl rfl ?_
  refine r_icmp_ge (tgt := 95) dX11_image_75 rfl (fun h6 => ?_) (fun h7 => ?_)
  · refine r_aload_n 0 dX11_image_95 rfl rfl ?_
    refine r_iload_n 1 dX11_image_96 rfl rfl ?_
    refine r_invv (a := 1) hu ⟨Nat.le_refl _, Nat.le_refl _⟩ dX11_image_97 kM_X11_467 (ci := 11) rfl kd_1 rfl rfl (by decide) (by decide) [(0, x1)] rfl (sk := []) rfl (Nat.le_of_ble_eq_true rfl) rfl (m_X11_putOctet hu M x1) (fun r8 M9 => ?_)
    refine r_aload_n 0 dX11_image_100 rfl rfl ?_
    refine r_gf (t := 0) (kz := 15) rfl hu dX11_image_101 kF_X11_464 kd_1 rfl rfl rfl ?_
    exact r_iret rfl rfl (Or.inl rfl) dX11_image_104
  · refine r_iload_n 1 dX11_image_78 rfl rfl ?_
    refine r_aload_n 0 dX11_image_79 rfl rfl ?_
    refine r_gx (kz := 14) rfl hu dX11_image_80 kF_X11_81 kd_1 rfl rfl rfl fx_1_14 ?_
    refine r_iload_n 2 dX11_image_83 rfl rfl ?_
    refine r_ok (fun h10 => ?_)
    refine r_iald hu dX11_image_84 kd_202 rfl (Or.inl rfl) rfl ln_202 h10 ?_
    refine r_ins (a := 0) ⟨Nat.le_refl _, Nat.le_refl _⟩ dX11_image_85 kM_X11_473 (by decide) (by decide) [(0, x1), (0, M 202 x2)] rfl (sk := []) rfl (Nat.le_of_ble_eq_true rfl) rfl rfl (m_X11_checkedOn hu M x1 (M 202 x2)) (fun r11 M12 => ?_)
    refine r_istore_n dX11_image_88 rfl (by decide) (ls' := [(1, 0, r11), (0, 2, 1), (2, 0, x2)]) rfl ?_
    refine r_iincB 2 dX11_image_89 rfl ⟨by have := h10; omega, by have := h10; omega⟩ (by decide) (lf := fun y13 => [(2, 0, y13), (1, 0, r11), (0, 2, 1)]) (fun _ => rfl) (fun y13 ey13 => ?_)
    refine r_goto (tgt := 70) dX11_image_92 rfl ?_
    refine r_sub [2, 1, 0] (ls' := [(0, 2, 1), (1, 0, r11), (2, 0, y13)]) rfl ?_
    exact hw70 M12 r11 y13
set_option maxRecDepth 100000 in
theorem tb_X11_image_31 {g : GT} {n nf : Int} (hu : Up true nf n) (w18 : Mem → Int → Res) (w31 : Mem → Int → Int → Res) (hw18 : ∀ (M : Mem) (x1 : Int), AW g true RX11 cX11_image 3 (some .int) (1) n n nf 18 [(0, 2, 1), (1, 0, x1)] [] n M (w18 M x1)) (hw31 : ∀ (M : Mem) (x1 x2 : Int), AW g true RX11 cX11_image 3 (some .int) (1) n n nf 31 [(0, 2, 1), (1, 0, x1), (2, 0, x2)] [] n M (w31 M x1 x2)) (M : Mem) (x1 x2 : Int) : AW g true RX11 cX11_image 3 (some .int) (1) n n nf 31 [(0, 2, 1), (1, 0, x1), (2, 0, x2)] [] n M (b_X11_image_31 w18 w31 M x1 x2) := by
  unfold b_X11_image_31
  refine r_iload_n 2 dX11_image_31 rfl rfl ?_
  refine r_bipush dX11_image_32 (by decide) ⟨by decide, by decide⟩ ?_
  refine r_icmp_ge (tgt := 60) dX11_image_34 rfl (fun h14 => ?_) (fun h15 => ?_)
  · refine r_ok (fun h16 => ?_)
    refine r_iincB 1 dX11_image_60 rfl h16 (by decide) (lf := fun y17 => [(1, 0, y17), (0, 2, 1), (2, 0, x2)]) (fun _ => rfl) (fun y17 ey17 => ?_)
    refine r_goto (tgt := 18) dX11_image_63 rfl ?_
    refine r_sub [1, 0] (ls' := [(0, 2, 1), (1, 0, y17)]) rfl ?_
    exact hw18 M y17
  · refine r_aload_n 0 dX11_image_37 rfl rfl ?_
    refine r_aload_n 0 dX11_image_38 rfl rfl ?_
    refine r_gx (kz := 4) rfl hu dX11_image_39 kF_X11_42 kd_1 rfl rfl rfl fx_1_4 ?_
    refine r_gx (kz := 0) rfl hu dX11_image_42 kF_X11_350 kd_21 rfl rfl rfl fx_21_0 ?_
    refine r_iload_n 1 dX11_image_45 rfl rfl ?_
    refine r_ok (fun h18 => ?_)
    refine r_aalx hu dX11_image_46 kd_22 (Or.inr (Or.inr rfl)) rfl ln_22 h18 (fxTr _ h18) ?_
    refine r_iload_n 2 dX11_image_47 rfl rfl ?_
    refine r_inv (a := 23 + x1) hu ⟨Nat.le_refl _, Nat.le_refl _⟩ dX11_image_48 kM_X11_470 (ci := 10) rfl (kdTr _ h18) rfl rfl (by decide) (by decide) [(0, x2)] rfl (sk := [(2, 1)]) rfl (Nat.le_of_ble_eq_true rfl) rfl rfl (m_X10_byteAt hu M (23 + x1) x2 (kdTr _ h18)) (fun r19 M20 => ?_)
    refine r_invv (a := 1) hu ⟨Nat.le_refl _, Nat.le_refl _⟩ dX11_image_51 kM_X11_467 (ci := 11) rfl kd_1 rfl rfl (by decide) (by decide) [(0, r19)] rfl (sk := []) rfl (Nat.le_of_ble_eq_true rfl) rfl (m_X11_putOctet hu M20 r19) (fun r21 M22 => ?_)
    refine r_ok (fun h23 => ?_)
    refine r_iincB 2 dX11_image_54 rfl h23 (by decide) (lf := fun y24 => [(2, 0, y24), (0, 2, 1), (1, 0, x1)]) (fun _ => rfl) (fun y24 ey24 => ?_)
    refine r_goto (tgt := 31) dX11_image_57 rfl ?_
    refine r_sub [1, 2, 0] (ls' := [(0, 2, 1), (1, 0, x1), (2, 0, y24)]) rfl ?_
    exact hw31 M22 x1 y24
set_option maxRecDepth 100000 in
theorem tb_X11_image_18 {g : GT} {n nf : Int} (hu : Up true nf n) (w18 : Mem → Int → Res) (hw18 : ∀ (M : Mem) (x1 : Int), AW g true RX11 cX11_image 3 (some .int) (1) n n nf 18 [(0, 2, 1), (1, 0, x1)] [] n M (w18 M x1)) (M : Mem) (x1 : Int) : AW g true RX11 cX11_image 3 (some .int) (1) n n nf 18 [(0, 2, 1), (1, 0, x1)] [] n M (b_X11_image_18 w18 M x1) := by
  unfold b_X11_image_18
  refine r_iload_n 1 dX11_image_18 rfl rfl ?_
  refine r_aload_n 0 dX11_image_19 rfl rfl ?_
  refine r_gx (kz := 4) rfl hu dX11_image_20 kF_X11_42 kd_1 rfl rfl rfl fx_1_4 ?_
  refine r_gf (t := 0) (kz := 1) rfl hu dX11_image_23 kF_X11_107 kd_21 rfl rfl rfl ?_
  refine r_icmp_ge (tgt := 66) dX11_image_26 rfl (fun h4 => ?_) (fun h5 => ?_)
  · refine r_iconst dX11_image_66 ⟨by decide, by decide⟩ ?_
    refine r_istore_n dX11_image_67 rfl (by decide) (ls' := [(1, 0, 5), (0, 2, 1)]) rfl ?_
    refine r_iconst dX11_image_68 ⟨by decide, by decide⟩ ?_
    refine r_istore_n dX11_image_69 rfl (by decide) (ls' := [(2, 0, 0), (1, 0, 5), (0, 2, 1)]) rfl ?_
    refine r_sub [2, 1, 0] (ls' := [(0, 2, 1), (1, 0, 5), (2, 0, 0)]) rfl ?_
    exact wl2_aw (P := fun M x1 x2 o => AW g true RX11 cX11_image 3 (some .int) (1) n n nf 70 [(0, 2, 1), (1, 0, x1), (2, 0, x2)] [] n M (o)) (fun M x1 x2 => aw_none) (fun w hw M x1 x2 => tb_X11_image_70 hu w hw M x1 x2) FU M 5 0
  · refine r_iconst dX11_image_29 ⟨by decide, by decide⟩ ?_
    refine r_istore_n dX11_image_30 rfl (by decide) (ls' := [(2, 0, 0), (0, 2, 1), (1, 0, x1)]) rfl ?_
    refine r_sub [1, 2, 0] (ls' := [(0, 2, 1), (1, 0, x1), (2, 0, 0)]) rfl ?_
    exact wl2_aw (P := fun M x1 x2 o => AW g true RX11 cX11_image 3 (some .int) (1) n n nf 31 [(0, 2, 1), (1, 0, x1), (2, 0, x2)] [] n M (o)) (fun M x1 x2 => aw_none) (fun w hw M x1 x2 => tb_X11_image_31 hu w18 w hw18 hw M x1 x2) FU M x1 0
set_option maxRecDepth 100000 in
theorem m_X11_image {g : GT} {n nf : Int} (hu : Up true nf n) (M : Mem) : AM g true yX11_image cX11_image 3 (some .int) (1) n n nf [(2, 1)] M (f_X11_image M) := by
  refine AM_of (by decide +kernel) (Nat.le_of_ble_eq_true rfl) (fun h => absurd h (Int.lt_irrefl n)) ?_
  show AW g true RX11 cX11_image 3 (some .int) (1) n n nf 0 [(0, 2, 1)] [] n M (f_X11_image M)
  unfold f_X11_image
  refine r_aload_n 0 dX11_image_0 rfl rfl ?_
  refine r_iconst dX11_image_1 ⟨by decide, by decide⟩ ?_
  refine r_pf (t := 0) (kz := 15) rfl hu dX11_image_2 kF_X11_464 kd_1 rfl rfl rfl (fun h => absurd h (by decide)) rfl kX_11_15 (fun M1 eM1 => ?_)
  refine r_aload_n 0 dX11_image_5 rfl rfl ?_
  refine r_aload_n 0 dX11_image_6 rfl rfl ?_
  refine r_gx (kz := 4) rfl hu dX11_image_7 kF_X11_42 kd_1 rfl rfl rfl fx_1_4 ?_
  refine r_gf (t := 0) (kz := 1) rfl hu dX11_image_10 kF_X11_107 kd_21 rfl rfl rfl ?_
  refine r_invv (a := 1) hu ⟨Nat.le_refl _, Nat.le_refl _⟩ dX11_image_13 kM_X11_467 (ci := 11) rfl kd_1 rfl rfl (by decide) (by decide) [(0, M1 21 1)] rfl (sk := []) rfl (Nat.le_of_ble_eq_true rfl) rfl (m_X11_putOctet hu M1 (M1 21 1)) (fun r2 M3 => ?_)
  refine r_iconst dX11_image_16 ⟨by decide, by decide⟩ ?_
  refine r_istore_n dX11_image_17 rfl (by decide) (ls' := [(1, 0, 0), (0, 2, 1)]) rfl ?_
  refine r_sub [1, 0] (ls' := [(0, 2, 1), (1, 0, 0)]) rfl ?_
  exact wl1_aw (P := fun M x1 o => AW g true RX11 cX11_image 3 (some .int) (1) n n nf 18 [(0, 2, 1), (1, 0, x1)] [] n M (o)) (fun M x1 => aw_none) (fun w hw M x1 => tb_X11_image_18 hu w hw M x1) FU M3 0
theorem dX11_octet_0 : decode cX11_octet 0 = .ok (.iload_n 1, 1) := by decide +kernel
theorem dX11_octet_1 : decode cX11_octet 1 = .ok (.ifCond .lt 20, 3) := by decide +kernel
theorem dX11_octet_4 : decode cX11_octet 4 = .ok (.iload_n 1, 1) := by decide +kernel
theorem dX11_octet_5 : decode cX11_octet 5 = .ok (.aload_n 0, 1) := by decide +kernel
theorem dX11_octet_6 : decode cX11_octet 6 = .ok (.getfield 464, 3) := by decide +kernel
theorem dX11_octet_9 : decode cX11_octet 9 = .ok (.if_icmp .ge 12, 3) := by decide +kernel
theorem dX11_octet_12 : decode cX11_octet 12 = .ok (.aload_n 0, 1) := by decide +kernel
theorem dX11_octet_13 : decode cX11_octet 13 = .ok (.getfield 81, 3) := by decide +kernel
theorem dX11_octet_16 : decode cX11_octet 16 = .ok (.iload_n 1, 1) := by decide +kernel
theorem dX11_octet_17 : decode cX11_octet 17 = .ok (.iaload, 1) := by decide +kernel
theorem dX11_octet_18 : decode cX11_octet 18 = .ok (.goto 4, 3) := by decide +kernel
theorem dX11_octet_21 : decode cX11_octet 21 = .ok (.iconst (-1), 1) := by decide +kernel
theorem dX11_octet_22 : decode cX11_octet 22 = .ok (.ireturn, 1) := by decide +kernel
set_option maxRecDepth 100000 in
theorem m_X11_octet {g : GT} {n nf : Int} (hu : Up true nf n) (M : Mem) (a1 : Int) : AM g true yX11_octet cX11_octet 2 (some .int) (0) n n nf [(2, 1), (0, a1)] M (f_X11_octet M a1) := by
  refine AM_of (by decide +kernel) (Nat.le_of_ble_eq_true rfl) (fun h => absurd h (Int.lt_irrefl n)) ?_
  show AW g true RX11 cX11_octet 2 (some .int) (0) n n nf 0 [(0, 2, 1), (1, 0, a1)] [] n M (f_X11_octet M a1)
  unfold f_X11_octet
  refine r_iload_n 1 dX11_octet_0 rfl rfl ?_
  refine r_if_lt (tgt := 21) dX11_octet_1 rfl (fun h1 => ?_) (fun h2 => ?_)
  · refine r_iconst dX11_octet_21 ⟨by decide, by decide⟩ ?_
    exact r_iret rfl rfl (Or.inl rfl) dX11_octet_22
  · refine r_iload_n 1 dX11_octet_4 rfl rfl ?_
    refine r_aload_n 0 dX11_octet_5 rfl rfl ?_
    refine r_gf (t := 0) (kz := 15) rfl hu dX11_octet_6 kF_X11_464 kd_1 rfl rfl rfl ?_
    refine r_icmp_ge (tgt := 21) dX11_octet_9 rfl (fun h3 => ?_) (fun h4 => ?_)
    · refine r_iconst dX11_octet_21 ⟨by decide, by decide⟩ ?_
      exact r_iret rfl rfl (Or.inl rfl) dX11_octet_22
    · refine r_aload_n 0 dX11_octet_12 rfl rfl ?_
      refine r_gx (kz := 14) rfl hu dX11_octet_13 kF_X11_81 kd_1 rfl rfl rfl fx_1_14 ?_
      refine r_iload_n 1 dX11_octet_16 rfl rfl ?_
      refine r_ok (fun h5 => ?_)
      refine r_iald hu dX11_octet_17 kd_202 rfl (Or.inl rfl) rfl ln_202 h5 ?_
      refine r_goto (tgt := 22) dX11_octet_18 rfl ?_
      exact r_iret rfl rfl (Or.inl rfl) dX11_octet_22
theorem dX11_imagePlace_0 : decode cX11_imagePlace 0 = .ok (.iconst 1, 1) := by decide +kernel
theorem dX11_imagePlace_1 : decode cX11_imagePlace 1 = .ok (.bipush 8, 2) := by decide +kernel
theorem dX11_imagePlace_3 : decode cX11_imagePlace 3 = .ok (.iload_n 0, 1) := by decide +kernel
theorem dX11_imagePlace_4 : decode cX11_imagePlace 4 = .ok (.imul, 1) := by decide +kernel
theorem dX11_imagePlace_5 : decode cX11_imagePlace 5 = .ok (.iadd, 1) := by decide +kernel
theorem dX11_imagePlace_6 : decode cX11_imagePlace 6 = .ok (.ireturn, 1) := by decide +kernel
set_option maxRecDepth 100000 in
theorem m_X11_imagePlace {g : GT} {n nf : Int} (hu : Up true nf n) (M : Mem) (a0 : Int) : AM g true yX11_imagePlace cX11_imagePlace 1 (some .int) (0) n n nf [(0, a0)] M (f_X11_imagePlace M a0) := by
  refine AM_of (by decide +kernel) (Nat.le_of_ble_eq_true rfl) (fun h => absurd h (Int.lt_irrefl n)) ?_
  show AW g true RX11 cX11_imagePlace 1 (some .int) (0) n n nf 0 [(0, 0, a0)] [] n M (f_X11_imagePlace M a0)
  unfold f_X11_imagePlace
  refine r_iconst dX11_imagePlace_0 ⟨by decide, by decide⟩ ?_
  refine r_bipush dX11_imagePlace_1 (by decide) ⟨by decide, by decide⟩ ?_
  refine r_iload_n 0 dX11_imagePlace_3 rfl rfl ?_
  refine r_ok (fun h1 => ?_)
  refine r_imul dX11_imagePlace_4 h1 ?_
  refine r_ok (fun h2 => ?_)
  refine r_iadd dX11_imagePlace_5 h2 ?_
  exact r_iret rfl rfl (Or.inl rfl) dX11_imagePlace_6
theorem dX11_isTrial_0 : decode cX11_isTrial 0 = .ok (.aload_n 0, 1) := by decide +kernel
theorem dX11_isTrial_1 : decode cX11_isTrial 1 = .ok (.getfield 10, 3) := by decide +kernel
theorem dX11_isTrial_4 : decode cX11_isTrial 4 = .ok (.iload_n 1, 1) := by decide +kernel
theorem dX11_isTrial_5 : decode cX11_isTrial 5 = .ok (.invokevirtual 479, 3) := by decide +kernel
theorem dX11_isTrial_8 : decode cX11_isTrial 8 = .ok (.istore_n 2, 1) := by decide +kernel
theorem dX11_isTrial_9 : decode cX11_isTrial 9 = .ok (.iload_n 2, 1) := by decide +kernel
theorem dX11_isTrial_10 : decode cX11_isTrial 10 = .ok (.aload_n 0, 1) := by decide +kernel
theorem dX11_isTrial_11 : decode cX11_isTrial 11 = .ok (.getfield 67, 3) := by decide +kernel
theorem dX11_isTrial_14 : decode cX11_isTrial 14 = .ok (.getfield 134, 3) := by decide +kernel
theorem dX11_isTrial_17 : decode cX11_isTrial 17 = .ok (.if_icmp .ge 34, 3) := by decide +kernel
theorem dX11_isTrial_20 : decode cX11_isTrial 20 = .ok (.aload_n 0, 1) := by decide +kernel
theorem dX11_isTrial_21 : decode cX11_isTrial 21 = .ok (.getfield 10, 3) := by decide +kernel
theorem dX11_isTrial_24 : decode cX11_isTrial 24 = .ok (.iload_n 1, 1) := by decide +kernel
theorem dX11_isTrial_25 : decode cX11_isTrial 25 = .ok (.iconst 1, 1) := by decide +kernel
theorem dX11_isTrial_26 : decode cX11_isTrial 26 = .ok (.iadd, 1) := by decide +kernel
theorem dX11_isTrial_27 : decode cX11_isTrial 27 = .ok (.invokevirtual 479, 3) := by decide +kernel
theorem dX11_isTrial_30 : decode cX11_isTrial 30 = .ok (.bipush 96, 2) := by decide +kernel
theorem dX11_isTrial_32 : decode cX11_isTrial 32 = .ok (.if_icmp .ge 19, 3) := by decide +kernel
theorem dX11_isTrial_35 : decode cX11_isTrial 35 = .ok (.aload_n 0, 1) := by decide +kernel
theorem dX11_isTrial_36 : decode cX11_isTrial 36 = .ok (.getfield 10, 3) := by decide +kernel
theorem dX11_isTrial_39 : decode cX11_isTrial 39 = .ok (.iload_n 1, 1) := by decide +kernel
theorem dX11_isTrial_40 : decode cX11_isTrial 40 = .ok (.iconst 2, 1) := by decide +kernel
theorem dX11_isTrial_41 : decode cX11_isTrial 41 = .ok (.iadd, 1) := by decide +kernel
theorem dX11_isTrial_42 : decode cX11_isTrial 42 = .ok (.invokevirtual 479, 3) := by decide +kernel
theorem dX11_isTrial_45 : decode cX11_isTrial 45 = .ok (.invokestatic 221, 3) := by decide +kernel
theorem dX11_isTrial_48 : decode cX11_isTrial 48 = .ok (.ifCond .ne 5, 3) := by decide +kernel
theorem dX11_isTrial_51 : decode cX11_isTrial 51 = .ok (.iconst 0, 1) := by decide +kernel
theorem dX11_isTrial_52 : decode cX11_isTrial 52 = .ok (.ireturn, 1) := by decide +kernel
theorem dX11_isTrial_53 : decode cX11_isTrial 53 = .ok (.aload_n 0, 1) := by decide +kernel
theorem dX11_isTrial_54 : decode cX11_isTrial 54 = .ok (.iload_n 2, 1) := by decide +kernel
theorem dX11_isTrial_55 : decode cX11_isTrial 55 = .ok (.aload_n 0, 1) := by decide +kernel
theorem dX11_isTrial_56 : decode cX11_isTrial 56 = .ok (.getfield 10, 3) := by decide +kernel
theorem dX11_isTrial_59 : decode cX11_isTrial 59 = .ok (.iload_n 1, 1) := by decide +kernel
theorem dX11_isTrial_60 : decode cX11_isTrial 60 = .ok (.iconst 3, 1) := by decide +kernel
theorem dX11_isTrial_61 : decode cX11_isTrial 61 = .ok (.iadd, 1) := by decide +kernel
theorem dX11_isTrial_62 : decode cX11_isTrial 62 = .ok (.invokevirtual 479, 3) := by decide +kernel
theorem dX11_isTrial_65 : decode cX11_isTrial 65 = .ok (.invokevirtual 265, 3) := by decide +kernel
theorem dX11_isTrial_68 : decode cX11_isTrial 68 = .ok (.ifCond .eq 21, 3) := by decide +kernel
theorem dX11_isTrial_71 : decode cX11_isTrial 71 = .ok (.aload_n 0, 1) := by decide +kernel
theorem dX11_isTrial_72 : decode cX11_isTrial 72 = .ok (.iload_n 2, 1) := by decide +kernel
theorem dX11_isTrial_73 : decode cX11_isTrial 73 = .ok (.aload_n 0, 1) := by decide +kernel
theorem dX11_isTrial_74 : decode cX11_isTrial 74 = .ok (.getfield 10, 3) := by decide +kernel
theorem dX11_isTrial_77 : decode cX11_isTrial 77 = .ok (.iload_n 1, 1) := by decide +kernel
theorem dX11_isTrial_78 : decode cX11_isTrial 78 = .ok (.iconst 4, 1) := by decide +kernel
theorem dX11_isTrial_79 : decode cX11_isTrial 79 = .ok (.iadd, 1) := by decide +kernel
theorem dX11_isTrial_80 : decode cX11_isTrial 80 = .ok (.invokevirtual 479, 3) := by decide +kernel
theorem dX11_isTrial_83 : decode cX11_isTrial 83 = .ok (.invokevirtual 265, 3) := by decide +kernel
theorem dX11_isTrial_86 : decode cX11_isTrial 86 = .ok (.ifCond .ne 5, 3) := by decide +kernel
theorem dX11_isTrial_89 : decode cX11_isTrial 89 = .ok (.iconst 0, 1) := by decide +kernel
theorem dX11_isTrial_90 : decode cX11_isTrial 90 = .ok (.ireturn, 1) := by decide +kernel
theorem dX11_isTrial_91 : decode cX11_isTrial 91 = .ok (.aload_n 0, 1) := by decide +kernel
theorem dX11_isTrial_92 : decode cX11_isTrial 92 = .ok (.getfield 10, 3) := by decide +kernel
theorem dX11_isTrial_95 : decode cX11_isTrial 95 = .ok (.iload_n 1, 1) := by decide +kernel
theorem dX11_isTrial_96 : decode cX11_isTrial 96 = .ok (.bipush 7, 2) := by decide +kernel
theorem dX11_isTrial_98 : decode cX11_isTrial 98 = .ok (.iadd, 1) := by decide +kernel
theorem dX11_isTrial_99 : decode cX11_isTrial 99 = .ok (.invokevirtual 479, 3) := by decide +kernel
theorem dX11_isTrial_102 : decode cX11_isTrial 102 = .ok (.istore_n 3, 1) := by decide +kernel
theorem dX11_isTrial_103 : decode cX11_isTrial 103 = .ok (.aload_n 0, 1) := by decide +kernel
theorem dX11_isTrial_104 : decode cX11_isTrial 104 = .ok (.getfield 10, 3) := by decide +kernel
theorem dX11_isTrial_107 : decode cX11_isTrial 107 = .ok (.iload_n 1, 1) := by decide +kernel
theorem dX11_isTrial_108 : decode cX11_isTrial 108 = .ok (.iconst 5, 1) := by decide +kernel
theorem dX11_isTrial_109 : decode cX11_isTrial 109 = .ok (.iadd, 1) := by decide +kernel
theorem dX11_isTrial_110 : decode cX11_isTrial 110 = .ok (.invokevirtual 479, 3) := by decide +kernel
theorem dX11_isTrial_113 : decode cX11_isTrial 113 = .ok (.iconst 3, 1) := by decide +kernel
theorem dX11_isTrial_114 : decode cX11_isTrial 114 = .ok (.if_icmp .gt 39, 3) := by decide +kernel
theorem dX11_isTrial_117 : decode cX11_isTrial 117 = .ok (.aload_n 0, 1) := by decide +kernel
theorem dX11_isTrial_118 : decode cX11_isTrial 118 = .ok (.getfield 10, 3) := by decide +kernel
theorem dX11_isTrial_121 : decode cX11_isTrial 121 = .ok (.iload_n 1, 1) := by decide +kernel
theorem dX11_isTrial_122 : decode cX11_isTrial 122 = .ok (.bipush 6, 2) := by decide +kernel
theorem dX11_isTrial_124 : decode cX11_isTrial 124 = .ok (.iadd, 1) := by decide +kernel
theorem dX11_isTrial_125 : decode cX11_isTrial 125 = .ok (.invokevirtual 479, 3) := by decide +kernel
theorem dX11_isTrial_128 : decode cX11_isTrial 128 = .ok (.bipush 9, 2) := by decide +kernel
theorem dX11_isTrial_130 : decode cX11_isTrial 130 = .ok (.if_icmp .gt 23, 3) := by decide +kernel
theorem dX11_isTrial_133 : decode cX11_isTrial 133 = .ok (.iload_n 3, 1) := by decide +kernel
theorem dX11_isTrial_134 : decode cX11_isTrial 134 = .ok (.sipush 255, 3) := by decide +kernel
theorem dX11_isTrial_137 : decode cX11_isTrial 137 = .ok (.if_icmp .eq 12, 3) := by decide +kernel
theorem dX11_isTrial_140 : decode cX11_isTrial 140 = .ok (.aload_n 0, 1) := by decide +kernel
theorem dX11_isTrial_141 : decode cX11_isTrial 141 = .ok (.iload_n 2, 1) := by decide +kernel
theorem dX11_isTrial_142 : decode cX11_isTrial 142 = .ok (.iload_n 3, 1) := by decide +kernel
theorem dX11_isTrial_143 : decode cX11_isTrial 143 = .ok (.invokevirtual 265, 3) := by decide +kernel
theorem dX11_isTrial_146 : decode cX11_isTrial 146 = .ok (.ifCond .eq 7, 3) := by decide +kernel
theorem dX11_isTrial_149 : decode cX11_isTrial 149 = .ok (.iconst 1, 1) := by decide +kernel
theorem dX11_isTrial_150 : decode cX11_isTrial 150 = .ok (.goto 4, 3) := by decide +kernel
theorem dX11_isTrial_153 : decode cX11_isTrial 153 = .ok (.iconst 0, 1) := by decide +kernel
theorem dX11_isTrial_154 : decode cX11_isTrial 154 = .ok (.ireturn, 1) := by decide +kernel
set_option maxRecDepth 100000 in
theorem m_X11_isTrial {g : GT} {n nf : Int} (hu : Up true nf n) (M : Mem) (a1 : Int) : AM g true yX11_isTrial cX11_isTrial 4 (some .boolean) (3) n n nf [(2, 1), (0, a1)] M (f_X11_isTrial M a1) := by
  refine AM_of (by decide +kernel) (Nat.le_of_ble_eq_true rfl) (fun h => absurd h (Int.lt_irrefl n)) ?_
  show AW g true RX11 cX11_isTrial 4 (some .boolean) (3) n n nf 0 [(0, 2, 1), (1, 0, a1)] [] n M (f_X11_isTrial M a1)
  unfold f_X11_isTrial
  refine r_aload_n 0 dX11_isTrial_0 rfl rfl ?_
  refine r_gx (kz := 0) rfl hu dX11_isTrial_1 kF_X11_10 kd_1 rfl rfl rfl fx_1_0 ?_
  refine r_iload_n 1 dX11_isTrial_4 rfl rfl ?_
  refine r_inv (a := 2) hu ⟨Nat.le_refl _, Nat.le_refl _⟩ dX11_isTrial_5 kM_X11_479 (ci := 9) rfl kd_2 rfl rfl (by decide) (by decide) [(0, a1)] rfl (sk := []) rfl (Nat.le_of_ble_eq_true rfl) rfl rfl (m_X9_at hu M a1) (fun r1 M2 => ?_)
  refine r_istore_n dX11_isTrial_8 rfl (by decide) (ls' := [(2, 0, r1), (0, 2, 1), (1, 0, a1)]) rfl ?_
  refine r_iload_n 0 dX11_isTrial_9 rfl rfl ?_
  refine r_aload_n 1 dX11_isTrial_10 rfl rfl ?_
  refine r_gf (t := 2) (kz := 8) rfl hu dX11_isTrial_11 kF_X11_67 kd_1 rfl rfl rfl ?_
  refine r_ok (fun h3 => ?_)
  refine r_gf (t := 0) (kz := 3) rfl hu dX11_isTrial_14 kF_X11_134 h3 rfl rfl rfl ?_
  refine r_icmp_ge (tgt := 51) dX11_isTrial_17 rfl (fun h4 => ?_) (fun h5 => ?_)
  · refine r_iconst dX11_isTrial_51 ⟨by decide, by decide⟩ ?_
    exact r_iret rfl rfl (Or.inr ⟨rfl, Or.inl rfl⟩) dX11_isTrial_52
  · refine r_aload_n 1 dX11_isTrial_20 rfl rfl ?_
    refine r_gx (kz := 0) rfl hu dX11_isTrial_21 kF_X11_10 kd_1 rfl rfl rfl fx_1_0 ?_
    refine r_iload_n 2 dX11_isTrial_24 rfl rfl ?_
    refine r_iconst dX11_isTrial_25 ⟨by decide, by decide⟩ ?_
    refine r_ok (fun h6 => ?_)
    refine r_iadd dX11_isTrial_26 h6 ?_
    refine r_inv (a := 2) hu ⟨Nat.le_refl _, Nat.le_refl _⟩ dX11_isTrial_27 kM_X11_479 (ci := 9) rfl kd_2 rfl rfl (by decide) (by decide) [(0, a1 + 1)] rfl (sk := []) rfl (Nat.le_of_ble_eq_true rfl) rfl rfl (m_X9_at hu M2 (a1 + 1)) (fun r7 M8 => ?_)
    refine r_bipush dX11_isTrial_30 (by decide) ⟨by decide, by decide⟩ ?_
    refine r_icmp_ge (tgt := 51) dX11_isTrial_32 rfl (fun h9 => ?_) (fun h10 => ?_)
    · refine r_iconst dX11_isTrial_51 ⟨by decide, by decide⟩ ?_
      exact r_iret rfl rfl (Or.inr ⟨rfl, Or.inl rfl⟩) dX11_isTrial_52
    · refine r_aload_n 1 dX11_isTrial_35 rfl rfl ?_
      refine r_gx (kz := 0) rfl hu dX11_isTrial_36 kF_X11_10 kd_1 rfl rfl rfl fx_1_0 ?_
      refine r_iload_n 2 dX11_isTrial_39 rfl rfl ?_
      refine r_iconst dX11_isTrial_40 ⟨by decide, by decide⟩ ?_
      refine r_ok (fun h11 => ?_)
      refine r_iadd dX11_isTrial_41 h11 ?_
      refine r_inv (a := 2) hu ⟨Nat.le_refl _, Nat.le_refl _⟩ dX11_isTrial_42 kM_X11_479 (ci := 9) rfl kd_2 rfl rfl (by decide) (by decide) [(0, a1 + 2)] rfl (sk := []) rfl (Nat.le_of_ble_eq_true rfl) rfl rfl (m_X9_at hu M8 (a1 + 2)) (fun r12 M13 => ?_)
      refine r_ins (a := 0) ⟨Nat.le_refl _, Nat.le_refl _⟩ dX11_isTrial_45 kM_X11_221 (by decide) (by decide) [(0, r12)] rfl (sk := []) rfl (Nat.le_of_ble_eq_true rfl) rfl rfl (m_X11_isBright hu M13 r12) (fun r14 M15 => ?_)
      refine r_if_ne (tgt := 53) dX11_isTrial_48 rfl (fun h16 => ?_) (fun h17 => ?_)
      · refine r_iconst dX11_isTrial_51 ⟨by decide, by decide⟩ ?_
        exact r_iret rfl rfl (Or.inr ⟨rfl, Or.inl rfl⟩) dX11_isTrial_52
      · refine r_aload_n 1 dX11_isTrial_53 rfl rfl ?_
        refine r_iload_n 0 dX11_isTrial_54 rfl rfl ?_
        refine r_aload_n 1 dX11_isTrial_55 rfl rfl ?_
        refine r_gx (kz := 0) rfl hu dX11_isTrial_56 kF_X11_10 kd_1 rfl rfl rfl fx_1_0 ?_
        refine r_iload_n 2 dX11_isTrial_59 rfl rfl ?_
        refine r_iconst dX11_isTrial_60 ⟨by decide, by decide⟩ ?_
        refine r_ok (fun h18 => ?_)
        refine r_iadd dX11_isTrial_61 h18 ?_
        refine r_inv (a := 2) hu ⟨Nat.le_refl _, Nat.le_refl _⟩ dX11_isTrial_62 kM_X11_479 (ci := 9) rfl kd_2 rfl rfl (by decide) (by decide) [(0, a1 + 3)] rfl (sk := [(0, r1), (2, 1)]) rfl (Nat.le_of_ble_eq_true rfl) rfl rfl (m_X9_at hu M15 (a1 + 3)) (fun r19 M20 => ?_)
        refine r_inv (a := 1) hu ⟨Nat.le_refl _, Nat.le_refl _⟩ dX11_isTrial_65 kM_X11_265 (ci := 11) rfl kd_1 rfl rfl (by decide) (by decide) [(0, r1), (0, r19)] rfl (sk := []) rfl (Nat.le_of_ble_eq_true rfl) rfl rfl (m_X11_isSort hu M20 r1 r19) (fun r21 M22 => ?_)
        refine r_if_eq (tgt := 89) dX11_isTrial_68 rfl (fun h23 => ?_) (fun h24 => ?_)
        · refine r_iconst dX11_isTrial_89 ⟨by decide, by decide⟩ ?_
          exact r_iret rfl rfl (Or.inr ⟨rfl, Or.inl rfl⟩) dX11_isTrial_90
        · refine r_aload_n 1 dX11_isTrial_71 rfl rfl ?_
          refine r_iload_n 0 dX11_isTrial_72 rfl rfl ?_
          refine r_aload_n 1 dX11_isTrial_73 rfl rfl ?_
          refine r_gx (kz := 0) rfl hu dX11_isTrial_74 kF_X11_10 kd_1 rfl rfl rfl fx_1_0 ?_
          refine r_iload_n 2 dX11_isTrial_77 rfl rfl ?_
          refine r_iconst dX11_isTrial_78 ⟨by decide, by decide⟩ ?_
          refine r_ok (fun h25 => ?_)
          refine r_iadd dX11_isTrial_79 h25 ?_
          refine r_inv (a := 2) hu ⟨Nat.le_refl _, Nat.le_refl _⟩ dX11_isTrial_80 kM_X11_479 (ci := 9) rfl kd_2 rfl rfl (by decide) (by decide) [(0, a1 + 4)] rfl (sk := [(0, r1), (2, 1)]) rfl (Nat.le_of_ble_eq_true rfl) rfl rfl (m_X9_at hu M22 (a1 + 4)) (fun r26 M27 => ?_)
          refine r_inv (a := 1) hu ⟨Nat.le_refl _, Nat.le_refl _⟩ dX11_isTrial_83 kM_X11_265 (ci := 11) rfl kd_1 rfl rfl (by decide) (by decide) [(0, r1), (0, r26)] rfl (sk := []) rfl (Nat.le_of_ble_eq_true rfl) rfl rfl (m_X11_isSort hu M27 r1 r26) (fun r28 M29 => ?_)
          refine r_if_ne (tgt := 91) dX11_isTrial_86 rfl (fun h30 => ?_) (fun h31 => ?_)
          · refine r_iconst dX11_isTrial_89 ⟨by decide, by decide⟩ ?_
            exact r_iret rfl rfl (Or.inr ⟨rfl, Or.inl rfl⟩) dX11_isTrial_90
          · refine r_aload_n 1 dX11_isTrial_91 rfl rfl ?_
            refine r_gx (kz := 0) rfl hu dX11_isTrial_92 kF_X11_10 kd_1 rfl rfl rfl fx_1_0 ?_
            refine r_iload_n 2 dX11_isTrial_95 rfl rfl ?_
            refine r_bipush dX11_isTrial_96 (by decide) ⟨by decide, by decide⟩ ?_
            refine r_ok (fun h32 => ?_)
            refine r_iadd dX11_isTrial_98 h32 ?_
            refine r_inv (a := 2) hu ⟨Nat.le_refl _, Nat.le_refl _⟩ dX11_isTrial_99 kM_X11_479 (ci := 9) rfl kd_2 rfl rfl (by decide) (by decide) [(0, a1 + 7)] rfl (sk := []) rfl (Nat.le_of_ble_eq_true rfl) rfl rfl (m_X9_at hu M29 (a1 + 7)) (fun r33 M34 => ?_)
            refine r_istore_n dX11_isTrial_102 rfl (by decide) (ls' := [(3, 0, r33), (2, 0, r1), (0, 2, 1), (1, 0, a1)]) rfl ?_
            refine r_aload_n 2 dX11_isTrial_103 rfl rfl ?_
            refine r_gx (kz := 0) rfl hu dX11_isTrial_104 kF_X11_10 kd_1 rfl rfl rfl fx_1_0 ?_
            refine r_iload_n 3 dX11_isTrial_107 rfl rfl ?_
            refine r_iconst dX11_isTrial_108 ⟨by decide, by decide⟩ ?_
            refine r_ok (fun h35 => ?_)
            refine r_iadd dX11_isTrial_109 h35 ?_
            refine r_inv (a := 2) hu ⟨Nat.le_refl _, Nat.le_refl _⟩ dX11_isTrial_110 kM_X11_479 (ci := 9) rfl kd_2 rfl rfl (by decide) (by decide) [(0, a1 + 5)] rfl (sk := []) rfl (Nat.le_of_ble_eq_true rfl) rfl rfl (m_X9_at hu M34 (a1 + 5)) (fun r36 M37 => ?_)
            refine r_iconst dX11_isTrial_113 ⟨by decide, by decide⟩ ?_
            refine r_icmp_gt (tgt := 153) dX11_isTrial_114 rfl (fun h38 => ?_) (fun h39 => ?_)
            · refine r_iconst dX11_isTrial_153 ⟨by decide, by decide⟩ ?_
              exact r_iret rfl rfl (Or.inr ⟨rfl, Or.inl rfl⟩) dX11_isTrial_154
            · refine r_aload_n 2 dX11_isTrial_117 rfl rfl ?_
              refine r_gx (kz := 0) rfl hu dX11_isTrial_118 kF_X11_10 kd_1 rfl rfl rfl fx_1_0 ?_
              refine r_iload_n 3 dX11_isTrial_121 rfl rfl ?_
              refine r_bipush dX11_isTrial_122 (by decide) ⟨by decide, by decide⟩ ?_
              refine r_ok (fun h40 => ?_)
              refine r_iadd dX11_isTrial_124 h40 ?_
              refine r_inv (a := 2) hu ⟨Nat.le_refl _, Nat.le_refl _⟩ dX11_isTrial_125 kM_X11_479 (ci := 9) rfl kd_2 rfl rfl (by decide) (by decide) [(0, a1 + 6)] rfl (sk := []) rfl (Nat.le_of_ble_eq_true rfl) rfl rfl (m_X9_at hu M37 (a1 + 6)) (fun r41 M42 => ?_)
              refine r_bipush dX11_isTrial_128 (by decide) ⟨by decide, by decide⟩ ?_
              refine r_icmp_gt (tgt := 153) dX11_isTrial_130 rfl (fun h43 => ?_) (fun h44 => ?_)
              · refine r_iconst dX11_isTrial_153 ⟨by decide, by decide⟩ ?_
                exact r_iret rfl rfl (Or.inr ⟨rfl, Or.inl rfl⟩) dX11_isTrial_154
              · refine r_iload_n 0 dX11_isTrial_133 rfl rfl ?_
                refine r_sipush dX11_isTrial_134 (by decide) ⟨by decide, by decide⟩ ?_
                refine r_icmp_eq (tgt := 149) dX11_isTrial_137 rfl (fun h45 => ?_) (fun h46 => ?_)
                · refine r_iconst dX11_isTrial_149 ⟨by decide, by decide⟩ ?_
                  refine r_goto (tgt := 154) dX11_isTrial_150 rfl ?_
                  exact r_iret rfl rfl (Or.inr ⟨rfl, Or.inr rfl⟩) dX11_isTrial_154
                · refine r_aload_n 2 dX11_isTrial_140 rfl rfl ?_
                  refine r_iload_n 1 dX11_isTrial_141 rfl rfl ?_
                  refine r_iload_n 0 dX11_isTrial_142 rfl rfl ?_
                  refine r_inv (a := 1) hu ⟨Nat.le_refl _, Nat.le_refl _⟩ dX11_isTrial_143 kM_X11_265 (ci := 11) rfl kd_1 rfl rfl (by decide) (by decide) [(0, r1), (0, r33)] rfl (sk := []) rfl (Nat.le_of_ble_eq_true rfl) rfl rfl (m_X11_isSort hu M42 r1 r33) (fun r47 M48 => ?_)
                  refine r_if_eq (tgt := 153) dX11_isTrial_146 rfl (fun h49 => ?_) (fun h50 => ?_)
                  · refine r_iconst dX11_isTrial_153 ⟨by decide, by decide⟩ ?_
                    exact r_iret rfl rfl (Or.inr ⟨rfl, Or.inl rfl⟩) dX11_isTrial_154
                  · refine r_iconst dX11_isTrial_149 ⟨by decide, by decide⟩ ?_
                    refine r_goto (tgt := 154) dX11_isTrial_150 rfl ?_
                    exact r_iret rfl rfl (Or.inr ⟨rfl, Or.inr rfl⟩) dX11_isTrial_154
theorem dX11_isImage_0 : decode cX11_isImage 0 = .ok (.aload_n 0, 1) := by decide +kernel
theorem dX11_isImage_1 : decode cX11_isImage 1 = .ok (.getfield 10, 3) := by decide +kernel
theorem dX11_isImage_4 : decode cX11_isImage 4 = .ok (.iconst 0, 1) := by decide +kernel
theorem dX11_isImage_5 : decode cX11_isImage 5 = .ok (.invokevirtual 479, 3) := by decide +kernel
theorem dX11_isImage_8 : decode cX11_isImage 8 = .ok (.istore_n 1, 1) := by decide +kernel
theorem dX11_isImage_9 : decode cX11_isImage 9 = .ok (.iload_n 1, 1) := by decide +kernel
theorem dX11_isImage_10 : decode cX11_isImage 10 = .ok (.ifCond .lt 25, 3) := by decide +kernel
theorem dX11_isImage_13 : decode cX11_isImage 13 = .ok (.iload_n 1, 1) := by decide +kernel
theorem dX11_isImage_14 : decode cX11_isImage 14 = .ok (.bipush 40, 2) := by decide +kernel
theorem dX11_isImage_16 : decode cX11_isImage 16 = .ok (.if_icmp .gt 19, 3) := by decide +kernel
theorem dX11_isImage_19 : decode cX11_isImage 19 = .ok (.aload_n 0, 1) := by decide +kernel
theorem dX11_isImage_20 : decode cX11_isImage 20 = .ok (.getfield 10, 3) := by decide +kernel
theorem dX11_isImage_23 : decode cX11_isImage 23 = .ok (.getfield 95, 3) := by decide +kernel
theorem dX11_isImage_26 : decode cX11_isImage 26 = .ok (.iload_n 1, 1) := by decide +kernel
theorem dX11_isImage_27 : decode cX11_isImage 27 = .ok (.invokestatic 482, 3) := by decide +kernel
theorem dX11_isImage_30 : decode cX11_isImage 30 = .ok (.iconst 1, 1) := by decide +kernel
theorem dX11_isImage_31 : decode cX11_isImage 31 = .ok (.iadd, 1) := by decide +kernel
theorem dX11_isImage_32 : decode cX11_isImage 32 = .ok (.if_icmp .eq 5, 3) := by decide +kernel
theorem dX11_isImage_35 : decode cX11_isImage 35 = .ok (.iconst 0, 1) := by decide +kernel
theorem dX11_isImage_36 : decode cX11_isImage 36 = .ok (.ireturn, 1) := by decide +kernel
theorem dX11_isImage_37 : decode cX11_isImage 37 = .ok (.iconst 5, 1) := by decide +kernel
theorem dX11_isImage_38 : decode cX11_isImage 38 = .ok (.istore_n 2, 1) := by decide +kernel
theorem dX11_isImage_39 : decode cX11_isImage 39 = .ok (.iconst 0, 1) := by decide +kernel
theorem dX11_isImage_40 : decode cX11_isImage 40 = .ok (.istore_n 3, 1) := by decide +kernel
theorem dX11_isImage_41 : decode cX11_isImage 41 = .ok (.iload_n 3, 1) := by decide +kernel
theorem dX11_isImage_42 : decode cX11_isImage 42 = .ok (.aload_n 0, 1) := by decide +kernel
theorem dX11_isImage_43 : decode cX11_isImage 43 = .ok (.getfield 10, 3) := by decide +kernel
theorem dX11_isImage_46 : decode cX11_isImage 46 = .ok (.getfield 95, 3) := by decide +kernel
theorem dX11_isImage_49 : decode cX11_isImage 49 = .ok (.iconst 1, 1) := by decide +kernel
theorem dX11_isImage_50 : decode cX11_isImage 50 = .ok (.isub, 1) := by decide +kernel
theorem dX11_isImage_51 : decode cX11_isImage 51 = .ok (.if_icmp .ge 22, 3) := by decide +kernel
theorem dX11_isImage_54 : decode cX11_isImage 54 = .ok (.iload_n 2, 1) := by decide +kernel
theorem dX11_isImage_55 : decode cX11_isImage 55 = .ok (.aload_n 0, 1) := by decide +kernel
theorem dX11_isImage_56 : decode cX11_isImage 56 = .ok (.getfield 10, 3) := by decide +kernel
theorem dX11_isImage_59 : decode cX11_isImage 59 = .ok (.iload_n 3, 1) := by decide +kernel
theorem dX11_isImage_60 : decode cX11_isImage 60 = .ok (.invokevirtual 479, 3) := by decide +kernel
theorem dX11_isImage_63 : decode cX11_isImage 63 = .ok (.invokestatic 473, 3) := by decide +kernel
theorem dX11_isImage_66 : decode cX11_isImage 66 = .ok (.istore_n 2, 1) := by decide +kernel
theorem dX11_isImage_67 : decode cX11_isImage 67 = .ok (.iinc 3 1, 3) := by decide +kernel
theorem dX11_isImage_70 : decode cX11_isImage 70 = .ok (.goto (-29), 3) := by decide +kernel
theorem dX11_isImage_73 : decode cX11_isImage 73 = .ok (.iload_n 2, 1) := by decide +kernel
theorem dX11_isImage_74 : decode cX11_isImage 74 = .ok (.aload_n 0, 1) := by decide +kernel
theorem dX11_isImage_75 : decode cX11_isImage 75 = .ok (.getfield 10, 3) := by decide +kernel
theorem dX11_isImage_78 : decode cX11_isImage 78 = .ok (.aload_n 0, 1) := by decide +kernel
theorem dX11_isImage_79 : decode cX11_isImage 79 = .ok (.getfield 10, 3) := by decide +kernel
theorem dX11_isImage_82 : decode cX11_isImage 82 = .ok (.getfield 95, 3) := by decide +kernel
theorem dX11_isImage_85 : decode cX11_isImage 85 = .ok (.iconst 1, 1) := by decide +kernel
theorem dX11_isImage_86 : decode cX11_isImage 86 = .ok (.isub, 1) := by decide +kernel
theorem dX11_isImage_87 : decode cX11_isImage 87 = .ok (.invokevirtual 479, 3) := by decide +kernel
theorem dX11_isImage_90 : decode cX11_isImage 90 = .ok (.if_icmp .eq 5, 3) := by decide +kernel
theorem dX11_isImage_93 : decode cX11_isImage 93 = .ok (.iconst 0, 1) := by decide +kernel
theorem dX11_isImage_94 : decode cX11_isImage 94 = .ok (.ireturn, 1) := by decide +kernel
theorem dX11_isImage_95 : decode cX11_isImage 95 = .ok (.iconst 0, 1) := by decide +kernel
theorem dX11_isImage_96 : decode cX11_isImage 96 = .ok (.istore_n 3, 1) := by decide +kernel
theorem dX11_isImage_97 : decode cX11_isImage 97 = .ok (.iload_n 3, 1) := by decide +kernel
theorem dX11_isImage_98 : decode cX11_isImage 98 = .ok (.iload_n 1, 1) := by decide +kernel
theorem dX11_isImage_99 : decode cX11_isImage 99 = .ok (.if_icmp .ge 22, 3) := by decide +kernel
theorem dX11_isImage_102 : decode cX11_isImage 102 = .ok (.aload_n 0, 1) := by decide +kernel
theorem dX11_isImage_103 : decode cX11_isImage 103 = .ok (.iload_n 3, 1) := by decide +kernel
theorem dX11_isImage_104 : decode cX11_isImage 104 = .ok (.invokestatic 482, 3) := by decide +kernel
theorem dX11_isImage_107 : decode cX11_isImage 107 = .ok (.invokevirtual 489, 3) := by decide +kernel
theorem dX11_isImage_110 : decode cX11_isImage 110 = .ok (.ifCond .ne 5, 3) := by decide +kernel
theorem dX11_isImage_113 : decode cX11_isImage 113 = .ok (.iconst 0, 1) := by decide +kernel
theorem dX11_isImage_114 : decode cX11_isImage 114 = .ok (.ireturn, 1) := by decide +kernel
theorem dX11_isImage_115 : decode cX11_isImage 115 = .ok (.iinc 3 1, 3) := by decide +kernel
theorem dX11_isImage_118 : decode cX11_isImage 118 = .ok (.goto (-21), 3) := by decide +kernel
theorem dX11_isImage_121 : decode cX11_isImage 121 = .ok (.iconst 1, 1) := by decide +kernel
theorem dX11_isImage_122 : decode cX11_isImage 122 = .ok (.ireturn, 1) := by decide +kernel
set_option maxRecDepth 100000 in
theorem tb_X11_isImage_97 {g : GT} {n nf : Int} (hu : Up true nf n) (w97 : Mem → Int → Int → Res) (hw97 : ∀ (M : Mem) (x1 x3 : Int), AW g true RX11 cX11_isImage 4 (some .boolean) (4) n n nf 97 [(0, 2, 1), (1, 0, x1), (3, 0, x3)] [] n M (w97 M x1 x3)) (M : Mem) (x1 x3 : Int) : AW g true RX11 cX11_isImage 4 (some .boolean) (4) n n nf 97 [(0, 2, 1), (1, 0, x1), (3, 0, x3)] [] n M (b_X11_isImage_97 w97 M x1 x3) := by
  unfold b_X11_isImage_97
  refine r_iload_n 2 dX11_isImage_97 rfl rfl ?_
  refine r_iload_n 1 dX11_isImage_98 rfl rfl ?_
  refine r_icmp_ge (tgt := 121) dX11_isImage_99 rfl (fun h19 => ?_) (fun h20 => ?_)
  · refine r_iconst dX11_isImage_121 ⟨by decide, by decide⟩ ?_
    exact r_iret rfl rfl (Or.inr ⟨rfl, Or.inr rfl⟩) dX11_isImage_122
  · refine r_aload_n 0 dX11_isImage_102 rfl rfl ?_
    refine r_iload_n 2 dX11_isImage_103 rfl rfl ?_
    refine r_ins (a := 0) ⟨Nat.le_refl _, Nat.le_refl _⟩ dX11_isImage_104 kM_X11_482 (by decide) (by decide) [(0, x3)] rfl (sk := [(2, 1)]) rfl (Nat.le_of_ble_eq_true rfl) rfl rfl (m_X11_imagePlace hu M x3) (fun r21 M22 => ?_)
    refine r_inv (a := 1) hu ⟨Nat.le_refl _, Nat.le_refl _⟩ dX11_isImage_107 kM_X11_489 (ci := 11) rfl kd_1 rfl rfl (by decide) (by decide) [(0, r21)] rfl (sk := []) rfl (Nat.le_of_ble_eq_true rfl) rfl rfl (m_X11_isTrial hu M22 r21) (fun r23 M24 => ?_)
    refine r_if_ne (tgt := 115) dX11_isImage_110 rfl (fun h25 => ?_) (fun h26 => ?_)
    · refine r_iconst dX11_isImage_113 ⟨by decide, by decide⟩ ?_
      exact r_iret rfl rfl (Or.inr ⟨rfl, Or.inl rfl⟩) dX11_isImage_114
    · refine r_ok (fun h27 => ?_)
      refine r_iincB 2 dX11_isImage_115 rfl h27 (by decide) (lf := fun y28 => [(3, 0, y28), (0, 2, 1), (1, 0, x1)]) (fun _ => rfl) (fun y28 ey28 => ?_)
      refine r_goto (tgt := 97) dX11_isImage_118 rfl ?_
      refine r_sub [1, 2, 0] (ls' := [(0, 2, 1), (1, 0, x1), (3, 0, y28)]) rfl ?_
      exact hw97 M24 x1 y28
set_option maxRecDepth 100000 in
theorem tb_X11_isImage_41 {g : GT} {n nf : Int} (hu : Up true nf n) (w41 : Mem → Int → Int → Int → Res) (hw41 : ∀ (M : Mem) (x1 x2 x3 : Int), AW g true RX11 cX11_isImage 4 (some .boolean) (4) n n nf 41 [(0, 2, 1), (1, 0, x1), (2, 0, x2), (3, 0, x3)] [] n M (w41 M x1 x2 x3)) (M : Mem) (x1 x2 x3 : Int) : AW g true RX11 cX11_isImage 4 (some .boolean) (4) n n nf 41 [(0, 2, 1), (1, 0, x1), (2, 0, x2), (3, 0, x3)] [] n M (b_X11_isImage_41 w41 M x1 x2 x3) := by
  unfold b_X11_isImage_41
  refine r_iload_n 3 dX11_isImage_41 rfl rfl ?_
  refine r_aload_n 0 dX11_isImage_42 rfl rfl ?_
  refine r_gx (kz := 0) rfl hu dX11_isImage_43 kF_X11_10 kd_1 rfl rfl rfl fx_1_0 ?_
  refine r_gf (t := 0) (kz := 1) rfl hu dX11_isImage_46 kF_X11_95 kd_2 rfl rfl rfl ?_
  refine r_iconst dX11_isImage_49 ⟨by decide, by decide⟩ ?_
  refine r_ok (fun h12 => ?_)
  refine r_isub dX11_isImage_50 h12 ?_
  refine r_icmp_ge (tgt := 73) dX11_isImage_51 rfl (fun h13 => ?_) (fun h14 => ?_)
  · refine r_iload_n 2 dX11_isImage_73 rfl rfl ?_
    refine r_aload_n 0 dX11_isImage_74 rfl rfl ?_
    refine r_gx (kz := 0) rfl hu dX11_isImage_75 kF_X11_10 kd_1 rfl rfl rfl fx_1_0 ?_
    refine r_aload_n 0 dX11_isImage_78 rfl rfl ?_
    refine r_gx (kz := 0) rfl hu dX11_isImage_79 kF_X11_10 kd_1 rfl rfl rfl fx_1_0 ?_
    refine r_gf (t := 0) (kz := 1) rfl hu dX11_isImage_82 kF_X11_95 kd_2 rfl rfl rfl ?_
    refine r_iconst dX11_isImage_85 ⟨by decide, by decide⟩ ?_
    refine r_isub dX11_isImage_86 h12 ?_
    refine r_inv (a := 2) hu ⟨Nat.le_refl _, Nat.le_refl _⟩ dX11_isImage_87 kM_X11_479 (ci := 9) rfl kd_2 rfl rfl (by decide) (by decide) [(0, (M 2 1) - 1)] rfl (sk := [(0, x2)]) rfl (Nat.le_of_ble_eq_true rfl) rfl rfl (m_X9_at hu M ((M 2 1) - 1)) (fun r15 M16 => ?_)
    refine r_icmp_eq (tgt := 95) dX11_isImage_90 rfl (fun h17 => ?_) (fun h18 => ?_)
    · refine r_iconst dX11_isImage_95 ⟨by decide, by decide⟩ ?_
      refine r_istore_n dX11_isImage_96 rfl (by decide) (ls' := [(3, 0, 0), (0, 2, 1), (1, 0, x1), (2, 0, x2)]) rfl ?_
      refine r_sub [1, 2, 0] (ls' := [(0, 2, 1), (1, 0, x1), (3, 0, 0)]) rfl ?_
      exact wl2_aw (P := fun M x1 x3 o => AW g true RX11 cX11_isImage 4 (some .boolean) (4) n n nf 97 [(0, 2, 1), (1, 0, x1), (3, 0, x3)] [] n M (o)) (fun M x1 x3 => aw_none) (fun w hw M x1 x3 => tb_X11_isImage_97 hu w hw M x1 x3) FU M16 x1 0
    · refine r_iconst dX11_isImage_93 ⟨by decide, by decide⟩ ?_
      exact r_iret rfl rfl (Or.inr ⟨rfl, Or.inl rfl⟩) dX11_isImage_94
  · refine r_iload_n 2 dX11_isImage_54 rfl rfl ?_
    refine r_aload_n 0 dX11_isImage_55 rfl rfl ?_
    refine r_gx (kz := 0) rfl hu dX11_isImage_56 kF_X11_10 kd_1 rfl rfl rfl fx_1_0 ?_
    refine r_iload_n 3 dX11_isImage_59 rfl rfl ?_
    refine r_inv (a := 2) hu ⟨Nat.le_refl _, Nat.le_refl _⟩ dX11_isImage_60 kM_X11_479 (ci := 9) rfl kd_2 rfl rfl (by decide) (by decide) [(0, x3)] rfl (sk := [(0, x2)]) rfl (Nat.le_of_ble_eq_true rfl) rfl rfl (m_X9_at hu M x3) (fun r29 M30 => ?_)
    refine r_ins (a := 0) ⟨Nat.le_refl _, Nat.le_refl _⟩ dX11_isImage_63 kM_X11_473 (by decide) (by decide) [(0, x2), (0, r29)] rfl (sk := []) rfl (Nat.le_of_ble_eq_true rfl) rfl rfl (m_X11_checkedOn hu M30 x2 r29) (fun r31 M32 => ?_)
    refine r_istore_n dX11_isImage_66 rfl (by decide) (ls' := [(2, 0, r31), (0, 2, 1), (1, 0, x1), (3, 0, x3)]) rfl ?_
    refine r_ok (fun h33 => ?_)
    refine r_iincB 3 dX11_isImage_67 rfl h33 (by decide) (lf := fun y34 => [(3, 0, y34), (2, 0, r31), (0, 2, 1), (1, 0, x1)]) (fun _ => rfl) (fun y34 ey34 => ?_)
    refine r_goto (tgt := 41) dX11_isImage_70 rfl ?_
    refine r_sub [2, 3, 1, 0] (ls' := [(0, 2, 1), (1, 0, x1), (2, 0, r31), (3, 0, y34)]) rfl ?_
    exact hw41 M32 x1 r31 y34
set_option maxRecDepth 100000 in
theorem m_X11_isImage {g : GT} {n nf : Int} (hu : Up true nf n) (M : Mem) : AM g true yX11_isImage cX11_isImage 4 (some .boolean) (4) n n nf [(2, 1)] M (f_X11_isImage M) := by
  refine AM_of (by decide +kernel) (Nat.le_of_ble_eq_true rfl) (fun h => absurd h (Int.lt_irrefl n)) ?_
  show AW g true RX11 cX11_isImage 4 (some .boolean) (4) n n nf 0 [(0, 2, 1)] [] n M (f_X11_isImage M)
  unfold f_X11_isImage
  refine r_aload_n 0 dX11_isImage_0 rfl rfl ?_
  refine r_gx (kz := 0) rfl hu dX11_isImage_1 kF_X11_10 kd_1 rfl rfl rfl fx_1_0 ?_
  refine r_iconst dX11_isImage_4 ⟨by decide, by decide⟩ ?_
  refine r_inv (a := 2) hu ⟨Nat.le_refl _, Nat.le_refl _⟩ dX11_isImage_5 kM_X11_479 (ci := 9) rfl kd_2 rfl rfl (by decide) (by decide) [(0, 0)] rfl (sk := []) rfl (Nat.le_of_ble_eq_true rfl) rfl rfl (m_X9_at hu M 0) (fun r1 M2 => ?_)
  refine r_istore_n dX11_isImage_8 rfl (by decide) (ls' := [(1, 0, r1), (0, 2, 1)]) rfl ?_
  refine r_iload_n 0 dX11_isImage_9 rfl rfl ?_
  refine r_if_lt (tgt := 35) dX11_isImage_10 rfl (fun h3 => ?_) (fun h4 => ?_)
  · refine r_iconst dX11_isImage_35 ⟨by decide, by decide⟩ ?_
    exact r_iret rfl rfl (Or.inr ⟨rfl, Or.inl rfl⟩) dX11_isImage_36
  · refine r_iload_n 0 dX11_isImage_13 rfl rfl ?_
    refine r_bipush dX11_isImage_14 (by decide) ⟨by decide, by decide⟩ ?_
    refine r_icmp_gt (tgt := 35) dX11_isImage_16 rfl (fun h5 => ?_) (fun h6 => ?_)
    · refine r_iconst dX11_isImage_35 ⟨by decide, by decide⟩ ?_
      exact r_iret rfl rfl (Or.inr ⟨rfl, Or.inl rfl⟩) dX11_isImage_36
    · refine r_aload_n 1 dX11_isImage_19 rfl rfl ?_
      refine r_gx (kz := 0) rfl hu dX11_isImage_20 kF_X11_10 kd_1 rfl rfl rfl fx_1_0 ?_
      refine r_gf (t := 0) (kz := 1) rfl hu dX11_isImage_23 kF_X11_95 kd_2 rfl rfl rfl ?_
      refine r_iload_n 0 dX11_isImage_26 rfl rfl ?_
      refine r_ins (a := 0) ⟨Nat.le_refl _, Nat.le_refl _⟩ dX11_isImage_27 kM_X11_482 (by decide) (by decide) [(0, r1)] rfl (sk := [(0, M2 2 1)]) rfl (Nat.le_of_ble_eq_true rfl) rfl rfl (m_X11_imagePlace hu M2 r1) (fun r7 M8 => ?_)
      refine r_iconst dX11_isImage_30 ⟨by decide, by decide⟩ ?_
      refine r_ok (fun h9 => ?_)
      refine r_iadd dX11_isImage_31 h9 ?_
      refine r_icmp_eq (tgt := 37) dX11_isImage_32 rfl (fun h10 => ?_) (fun h11 => ?_)
      · refine r_iconst dX11_isImage_37 ⟨by decide, by decide⟩ ?_
        refine r_istore_n dX11_isImage_38 rfl (by decide) (ls' := [(2, 0, 5), (1, 0, r1), (0, 2, 1)]) rfl ?_
        refine r_iconst dX11_isImage_39 ⟨by decide, by decide⟩ ?_
        refine r_istore_n dX11_isImage_40 rfl (by decide) (ls' := [(3, 0, 0), (2, 0, 5), (1, 0, r1), (0, 2, 1)]) rfl ?_
        refine r_sub [3, 2, 1, 0] (ls' := [(0, 2, 1), (1, 0, r1), (2, 0, 5), (3, 0, 0)]) rfl ?_
        exact wl3_aw (P := fun M x1 x2 x3 o => AW g true RX11 cX11_isImage 4 (some .boolean) (4) n n nf 41 [(0, 2, 1), (1, 0, x1), (2, 0, x2), (3, 0, x3)] [] n M (o)) (fun M x1 x2 x3 => aw_none) (fun w hw M x1 x2 x3 => tb_X11_isImage_41 hu w hw M x1 x2 x3) FU M8 r1 5 0
      · refine r_iconst dX11_isImage_35 ⟨by decide, by decide⟩ ?_
        exact r_iret rfl rfl (Or.inr ⟨rfl, Or.inl rfl⟩) dX11_isImage_36
theorem dX11_on_0 : decode cX11_on 0 = .ok (.aload_n 0, 1) := by decide +kernel
theorem dX11_on_1 : decode cX11_on 1 = .ok (.invokevirtual 476, 3) := by decide +kernel
theorem dX11_on_4 : decode cX11_on 4 = .ok (.istore_n 1, 1) := by decide +kernel
theorem dX11_on_5 : decode cX11_on 5 = .ok (.iload_n 1, 1) := by decide +kernel
theorem dX11_on_6 : decode cX11_on 6 = .ok (.ifCond .eq 57, 3) := by decide +kernel
theorem dX11_on_9 : decode cX11_on 9 = .ok (.aload_n 0, 1) := by decide +kernel
theorem dX11_on_10 : decode cX11_on 10 = .ok (.getfield 42, 3) := by decide +kernel
theorem dX11_on_13 : decode cX11_on 13 = .ok (.aload_n 0, 1) := by decide +kernel
theorem dX11_on_14 : decode cX11_on 14 = .ok (.getfield 10, 3) := by decide +kernel
theorem dX11_on_17 : decode cX11_on 17 = .ok (.iconst 0, 1) := by decide +kernel
theorem dX11_on_18 : decode cX11_on 18 = .ok (.invokevirtual 479, 3) := by decide +kernel
theorem dX11_on_21 : decode cX11_on 21 = .ok (.putfield 107, 3) := by decide +kernel
theorem dX11_on_24 : decode cX11_on 24 = .ok (.iconst 0, 1) := by decide +kernel
theorem dX11_on_25 : decode cX11_on 25 = .ok (.istore_n 2, 1) := by decide +kernel
theorem dX11_on_26 : decode cX11_on 26 = .ok (.iload_n 2, 1) := by decide +kernel
theorem dX11_on_27 : decode cX11_on 27 = .ok (.aload_n 0, 1) := by decide +kernel
theorem dX11_on_28 : decode cX11_on 28 = .ok (.getfield 42, 3) := by decide +kernel
theorem dX11_on_31 : decode cX11_on 31 = .ok (.getfield 107, 3) := by decide +kernel
theorem dX11_on_34 : decode cX11_on 34 = .ok (.if_icmp .ge 29, 3) := by decide +kernel
theorem dX11_on_37 : decode cX11_on 37 = .ok (.aload_n 0, 1) := by decide +kernel
theorem dX11_on_38 : decode cX11_on 38 = .ok (.getfield 42, 3) := by decide +kernel
theorem dX11_on_41 : decode cX11_on 41 = .ok (.getfield 350, 3) := by decide +kernel
theorem dX11_on_44 : decode cX11_on 44 = .ok (.iload_n 2, 1) := by decide +kernel
theorem dX11_on_45 : decode cX11_on 45 = .ok (.aaload, 1) := by decide +kernel
theorem dX11_on_46 : decode cX11_on 46 = .ok (.aload_n 0, 1) := by decide +kernel
theorem dX11_on_47 : decode cX11_on 47 = .ok (.getfield 10, 3) := by decide +kernel
theorem dX11_on_50 : decode cX11_on 50 = .ok (.iload_n 2, 1) := by decide +kernel
theorem dX11_on_51 : decode cX11_on 51 = .ok (.invokestatic 482, 3) := by decide +kernel
theorem dX11_on_54 : decode cX11_on 54 = .ok (.invokevirtual 485, 3) := by decide +kernel
theorem dX11_on_57 : decode cX11_on 57 = .ok (.iinc 2 1, 3) := by decide +kernel
theorem dX11_on_60 : decode cX11_on 60 = .ok (.goto (-34), 3) := by decide +kernel
theorem dX11_on_63 : decode cX11_on 63 = .ok (.aload_n 0, 1) := by decide +kernel
theorem dX11_on_64 : decode cX11_on 64 = .ok (.getfield 10, 3) := by decide +kernel
theorem dX11_on_67 : decode cX11_on 67 = .ok (.iconst 0, 1) := by decide +kernel
theorem dX11_on_68 : decode cX11_on 68 = .ok (.putfield 95, 3) := by decide +kernel
theorem dX11_on_71 : decode cX11_on 71 = .ok (.iload_n 1, 1) := by decide +kernel
theorem dX11_on_72 : decode cX11_on 72 = .ok (.ireturn, 1) := by decide +kernel
set_option maxRecDepth 100000 in
theorem tb_X11_on_26 {g : GT} {n nf : Int} (hu : Up true nf n) (w26 : Mem → Int → Int → Res) (hw26 : ∀ (M : Mem) (x1 x2 : Int), AW g true RX11 cX11_on 3 (some .boolean) (5) n n nf 26 [(0, 2, 1), (1, 0, x1), (2, 0, x2)] [] n M (w26 M x1 x2)) (M : Mem) (x1 x2 : Int) : AW g true RX11 cX11_on 3 (some .boolean) (5) n n nf 26 [(0, 2, 1), (1, 0, x1), (2, 0, x2)] [] n M (b_X11_on_26 w26 M x1 x2) := by
  unfold b_X11_on_26
  refine r_iload_n 2 dX11_on_26 rfl rfl ?_
  refine r_aload_n 0 dX11_on_27 rfl rfl ?_
  refine r_gx (kz := 4) rfl hu dX11_on_28 kF_X11_42 kd_1 rfl rfl rfl fx_1_4 ?_
  refine r_gf (t := 0) (kz := 1) rfl hu dX11_on_31 kF_X11_107 kd_21 rfl rfl rfl ?_
  refine r_icmp_ge (tgt := 63) dX11_on_34 rfl (fun h10 => ?_) (fun h11 => ?_)
  · refine r_aload_n 0 dX11_on_63 rfl rfl ?_
    refine r_gx (kz := 0) rfl hu dX11_on_64 kF_X11_10 kd_1 rfl rfl rfl fx_1_0 ?_
    refine r_iconst dX11_on_67 ⟨by decide, by decide⟩ ?_
    refine r_pf (t := 0) (kz := 1) rfl hu dX11_on_68 kF_X11_95 kd_2 rfl rfl rfl (fun h => absurd h (by decide)) rfl kX_9_1 (fun M12 eM12 => ?_)
    refine r_iload_n 1 dX11_on_71 rfl rfl ?_
    refine r_ok (fun h13 => ?_)
    exact r_iret rfl rfl (Or.inr ⟨rfl, h13⟩) dX11_on_72
  · refine r_aload_n 0 dX11_on_37 rfl rfl ?_
    refine r_gx (kz := 4) rfl hu dX11_on_38 kF_X11_42 kd_1 rfl rfl rfl fx_1_4 ?_
    refine r_gx (kz := 0) rfl hu dX11_on_41 kF_X11_350 kd_21 rfl rfl rfl fx_21_0 ?_
    refine r_iload_n 2 dX11_on_44 rfl rfl ?_
    refine r_ok (fun h14 => ?_)
    refine r_aalx hu dX11_on_45 kd_22 (Or.inr (Or.inr rfl)) rfl ln_22 h14 (fxTr _ h14) ?_
    refine r_aload_n 0 dX11_on_46 rfl rfl ?_
    refine r_gx (kz := 0) rfl hu dX11_on_47 kF_X11_10 kd_1 rfl rfl rfl fx_1_0 ?_
    refine r_iload_n 2 dX11_on_50 rfl rfl ?_
    refine r_ins (a := 0) ⟨Nat.le_refl _, Nat.le_refl _⟩ dX11_on_51 kM_X11_482 (by decide) (by decide) [(0, x2)] rfl (sk := [(2, 2), (2, 23 + x2)]) rfl (Nat.le_of_ble_eq_true rfl) rfl rfl (m_X11_imagePlace hu M x2) (fun r15 M16 => ?_)
    refine r_invv (a := 23 + x2) hu ⟨Nat.le_refl _, Nat.le_refl _⟩ dX11_on_54 kM_X11_485 (ci := 10) rfl (kdTr _ h14) rfl rfl (by decide) (by decide) [(2, 2), (0, r15)] rfl (sk := []) rfl (Nat.le_of_ble_eq_true rfl) rfl (m_X10_take hu M16 (23 + x2) r15 (kdTr _ h14)) (fun r17 M18 => ?_)
    refine r_iincB 2 dX11_on_57 rfl ⟨by have := h14; omega, by have := h14; omega⟩ (by decide) (lf := fun y19 => [(2, 0, y19), (0, 2, 1), (1, 0, x1)]) (fun _ => rfl) (fun y19 ey19 => ?_)
    refine r_goto (tgt := 26) dX11_on_60 rfl ?_
    refine r_sub [1, 2, 0] (ls' := [(0, 2, 1), (1, 0, x1), (2, 0, y19)]) rfl ?_
    exact hw26 M18 x1 y19
set_option maxRecDepth 100000 in
theorem m_X11_on {g : GT} {n nf : Int} (hu : Up true nf n) (M : Mem) : AM g true yX11_on cX11_on 3 (some .boolean) (5) n n nf [(2, 1)] M (f_X11_on M) := by
  refine AM_of (by decide +kernel) (Nat.le_of_ble_eq_true rfl) (fun h => absurd h (Int.lt_irrefl n)) ?_
  show AW g true RX11 cX11_on 3 (some .boolean) (5) n n nf 0 [(0, 2, 1)] [] n M (f_X11_on M)
  unfold f_X11_on
  refine r_aload_n 0 dX11_on_0 rfl rfl ?_
  refine r_inv (a := 1) hu ⟨Nat.le_refl _, Nat.le_refl _⟩ dX11_on_1 kM_X11_476 (ci := 11) rfl kd_1 rfl rfl (by decide) (by decide) [] rfl (sk := []) rfl (Nat.le_of_ble_eq_true rfl) rfl rfl (m_X11_isImage hu M) (fun r1 M2 => ?_)
  refine r_istore_n dX11_on_4 rfl (by decide) (ls' := [(1, 0, r1), (0, 2, 1)]) rfl ?_
  refine r_iload_n 0 dX11_on_5 rfl rfl ?_
  refine r_if_eq (tgt := 63) dX11_on_6 rfl (fun h3 => ?_) (fun h4 => ?_)
  · refine r_aload_n 1 dX11_on_63 rfl rfl ?_
    refine r_gx (kz := 0) rfl hu dX11_on_64 kF_X11_10 kd_1 rfl rfl rfl fx_1_0 ?_
    refine r_iconst dX11_on_67 ⟨by decide, by decide⟩ ?_
    refine r_pf (t := 0) (kz := 1) rfl hu dX11_on_68 kF_X11_95 kd_2 rfl rfl rfl (fun h => absurd h (by decide)) rfl kX_9_1 (fun M5 eM5 => ?_)
    refine r_iload_n 0 dX11_on_71 rfl rfl ?_
    refine r_ok (fun h6 => ?_)
    exact r_iret rfl rfl (Or.inr ⟨rfl, h6⟩) dX11_on_72
  · refine r_aload_n 1 dX11_on_9 rfl rfl ?_
    refine r_gx (kz := 4) rfl hu dX11_on_10 kF_X11_42 kd_1 rfl rfl rfl fx_1_4 ?_
    refine r_aload_n 1 dX11_on_13 rfl rfl ?_
    refine r_gx (kz := 0) rfl hu dX11_on_14 kF_X11_10 kd_1 rfl rfl rfl fx_1_0 ?_
    refine r_iconst dX11_on_17 ⟨by decide, by decide⟩ ?_
    refine r_inv (a := 2) hu ⟨Nat.le_refl _, Nat.le_refl _⟩ dX11_on_18 kM_X11_479 (ci := 9) rfl kd_2 rfl rfl (by decide) (by decide) [(0, 0)] rfl (sk := [(2, 21)]) rfl (Nat.le_of_ble_eq_true rfl) rfl rfl (m_X9_at hu M2 0) (fun r7 M8 => ?_)
    refine r_pf (t := 0) (kz := 1) rfl hu dX11_on_21 kF_X11_107 kd_21 rfl rfl rfl (fun h => absurd h (by decide)) rfl kX_0_1 (fun M9 eM9 => ?_)
    refine r_iconst dX11_on_24 ⟨by decide, by decide⟩ ?_
    refine r_istore_n dX11_on_25 rfl (by decide) (ls' := [(2, 0, 0), (1, 0, r1), (0, 2, 1)]) rfl ?_
    refine r_sub [2, 1, 0] (ls' := [(0, 2, 1), (1, 0, r1), (2, 0, 0)]) rfl ?_
    exact wl2_aw (P := fun M x1 x2 o => AW g true RX11 cX11_on 3 (some .boolean) (5) n n nf 26 [(0, 2, 1), (1, 0, x1), (2, 0, x2)] [] n M (o)) (fun M x1 x2 => aw_none) (fun w hw M x1 x2 => tb_X11_on_26 hu w hw M x1 x2) FU M9 r1 0
theorem dX12_isIn_0 : decode cX12_isIn 0 = .ok (.lload_n 0, 1) := by decide +kernel
theorem dX12_isIn_1 : decode cX12_isIn 1 = .ok (.lload_n 2, 1) := by decide +kernel
theorem dX12_isIn_2 : decode cX12_isIn 2 = .ok (.lcmp, 1) := by decide +kernel
theorem dX12_isIn_3 : decode cX12_isIn 3 = .ok (.ifCond .lt 14, 3) := by decide +kernel
theorem dX12_isIn_6 : decode cX12_isIn 6 = .ok (.lload_n 0, 1) := by decide +kernel
theorem dX12_isIn_7 : decode cX12_isIn 7 = .ok (.lload 4, 2) := by decide +kernel
theorem dX12_isIn_9 : decode cX12_isIn 9 = .ok (.lcmp, 1) := by decide +kernel
theorem dX12_isIn_10 : decode cX12_isIn 10 = .ok (.ifCond .gt 7, 3) := by decide +kernel
theorem dX12_isIn_13 : decode cX12_isIn 13 = .ok (.iconst 1, 1) := by decide +kernel
theorem dX12_isIn_14 : decode cX12_isIn 14 = .ok (.goto 4, 3) := by decide +kernel
theorem dX12_isIn_17 : decode cX12_isIn 17 = .ok (.iconst 0, 1) := by decide +kernel
theorem dX12_isIn_18 : decode cX12_isIn 18 = .ok (.ireturn, 1) := by decide +kernel
set_option maxRecDepth 100000 in
theorem m_X12_isIn {g : GT} {n nf : Int} (hu : Up false nf n) (M : Mem) (a0 a2 a4 : Int) : AM g false yX12_isIn cX12_isIn 6 (some .boolean) (0) n n nf [(1, a0), (1, a2), (1, a4)] M (f_X12_isIn M a0 a2 a4) := by
  refine AM_of (by decide +kernel) (Nat.le_of_ble_eq_true rfl) (fun h => absurd h (Int.lt_irrefl n)) ?_
  show AW g false RX12 cX12_isIn 6 (some .boolean) (0) n n nf 0 [(0, 1, a0), (2, 1, a2), (4, 1, a4)] [] n M (f_X12_isIn M a0 a2 a4)
  unfold f_X12_isIn
  refine r_lload_n 0 dX12_isIn_0 rfl rfl ?_
  refine r_lload_n 1 dX12_isIn_1 rfl rfl ?_
  refine r_lif_lt (tgt := 17) dX12_isIn_2 dX12_isIn_3 rfl (fun h1 => ?_) (fun h2 => ?_)
  · refine r_iconst dX12_isIn_17 ⟨by decide, by decide⟩ ?_
    exact r_iret rfl rfl (Or.inr ⟨rfl, Or.inl rfl⟩) dX12_isIn_18
  · refine r_lload_n 0 dX12_isIn_6 rfl rfl ?_
    refine r_lload 2 dX12_isIn_7 rfl ?_
    refine r_lif_gt (tgt := 17) dX12_isIn_9 dX12_isIn_10 rfl (fun h3 => ?_) (fun h4 => ?_)
    · refine r_iconst dX12_isIn_17 ⟨by decide, by decide⟩ ?_
      exact r_iret rfl rfl (Or.inr ⟨rfl, Or.inl rfl⟩) dX12_isIn_18
    · refine r_iconst dX12_isIn_13 ⟨by decide, by decide⟩ ?_
      refine r_goto (tgt := 18) dX12_isIn_14 rfl ?_
      exact r_iret rfl rfl (Or.inr ⟨rfl, Or.inr rfl⟩) dX12_isIn_18
theorem dX12_feed_0 : decode cX12_feed 0 = .ok (.aload_n 0, 1) := by decide +kernel
theorem dX12_feed_1 : decode cX12_feed 1 = .ok (.getfield 224, 3) := by decide +kernel
theorem dX12_feed_4 : decode cX12_feed 4 = .ok (.bipush 20, 2) := by decide +kernel
theorem dX12_feed_6 : decode cX12_feed 6 = .ok (.iadd, 1) := by decide +kernel
theorem dX12_feed_7 : decode cX12_feed 7 = .ok (.sipush 900, 3) := by decide +kernel
theorem dX12_feed_10 : decode cX12_feed 10 = .ok (.if_icmp .le 5, 3) := by decide +kernel
theorem dX12_feed_13 : decode cX12_feed 13 = .ok (.iconst (-1), 1) := by decide +kernel
theorem dX12_feed_14 : decode cX12_feed 14 = .ok (.ireturn, 1) := by decide +kernel
theorem dX12_feed_15 : decode cX12_feed 15 = .ok (.iconst 0, 1) := by decide +kernel
theorem dX12_feed_16 : decode cX12_feed 16 = .ok (.istore 6, 2) := by decide +kernel
theorem dX12_feed_18 : decode cX12_feed 18 = .ok (.iload 6, 2) := by decide +kernel
theorem dX12_feed_20 : decode cX12_feed 20 = .ok (.bipush 20, 2) := by decide +kernel
theorem dX12_feed_22 : decode cX12_feed 22 = .ok (.if_icmp .ge 92, 3) := by decide +kernel
theorem dX12_feed_25 : decode cX12_feed 25 = .ok (.iload 6, 2) := by decide +kernel
theorem dX12_feed_27 : decode cX12_feed 27 = .ok (.iconst 4, 1) := by decide +kernel
theorem dX12_feed_28 : decode cX12_feed 28 = .ok (.if_icmp .ge 7, 3) := by decide +kernel
theorem dX12_feed_31 : decode cX12_feed 31 = .ok (.iload_n 1, 1) := by decide +kernel
theorem dX12_feed_32 : decode cX12_feed 32 = .ok (.goto 39, 3) := by decide +kernel
theorem dX12_feed_35 : decode cX12_feed 35 = .ok (.iload 6, 2) := by decide +kernel
theorem dX12_feed_37 : decode cX12_feed 37 = .ok (.bipush 8, 2) := by decide +kernel
theorem dX12_feed_39 : decode cX12_feed 39 = .ok (.if_icmp .ge 7, 3) := by decide +kernel
theorem dX12_feed_42 : decode cX12_feed 42 = .ok (.iload_n 2, 1) := by decide +kernel
theorem dX12_feed_43 : decode cX12_feed 43 = .ok (.goto 28, 3) := by decide +kernel
theorem dX12_feed_46 : decode cX12_feed 46 = .ok (.iload 6, 2) := by decide +kernel
theorem dX12_feed_48 : decode cX12_feed 48 = .ok (.bipush 12, 2) := by decide +kernel
theorem dX12_feed_50 : decode cX12_feed 50 = .ok (.if_icmp .ge 7, 3) := by decide +kernel
theorem dX12_feed_53 : decode cX12_feed 53 = .ok (.iload_n 3, 1) := by decide +kernel
theorem dX12_feed_54 : decode cX12_feed 54 = .ok (.goto 17, 3) := by decide +kernel
theorem dX12_feed_57 : decode cX12_feed 57 = .ok (.iload 6, 2) := by decide +kernel
theorem dX12_feed_59 : decode cX12_feed 59 = .ok (.bipush 16, 2) := by decide +kernel
theorem dX12_feed_61 : decode cX12_feed 61 = .ok (.if_icmp .ge 8, 3) := by decide +kernel
theorem dX12_feed_64 : decode cX12_feed 64 = .ok (.iload 4, 2) := by decide +kernel
theorem dX12_feed_66 : decode cX12_feed 66 = .ok (.goto 5, 3) := by decide +kernel
theorem dX12_feed_69 : decode cX12_feed 69 = .ok (.iload 5, 2) := by decide +kernel
theorem dX12_feed_71 : decode cX12_feed 71 = .ok (.istore 7, 2) := by decide +kernel
theorem dX12_feed_73 : decode cX12_feed 73 = .ok (.aload_n 0, 1) := by decide +kernel
theorem dX12_feed_74 : decode cX12_feed 74 = .ok (.getfield 7, 3) := by decide +kernel
theorem dX12_feed_77 : decode cX12_feed 77 = .ok (.aload_n 0, 1) := by decide +kernel
theorem dX12_feed_78 : decode cX12_feed 78 = .ok (.getfield 224, 3) := by decide +kernel
theorem dX12_feed_81 : decode cX12_feed 81 = .ok (.iload 7, 2) := by decide +kernel
theorem dX12_feed_83 : decode cX12_feed 83 = .ok (.bipush 8, 2) := by decide +kernel
theorem dX12_feed_85 : decode cX12_feed 85 = .ok (.iconst 3, 1) := by decide +kernel
theorem dX12_feed_86 : decode cX12_feed 86 = .ok (.iload 6, 2) := by decide +kernel
theorem dX12_feed_88 : decode cX12_feed 88 = .ok (.iconst 4, 1) := by decide +kernel
theorem dX12_feed_89 : decode cX12_feed 89 = .ok (.irem, 1) := by decide +kernel
theorem dX12_feed_90 : decode cX12_feed 90 = .ok (.isub, 1) := by decide +kernel
theorem dX12_feed_91 : decode cX12_feed 91 = .ok (.imul, 1) := by decide +kernel
theorem dX12_feed_92 : decode cX12_feed 92 = .ok (.ishr, 1) := by decide +kernel
theorem dX12_feed_93 : decode cX12_feed 93 = .ok (.sipush 255, 3) := by decide +kernel
theorem dX12_feed_96 : decode cX12_feed 96 = .ok (.iand, 1) := by decide +kernel
theorem dX12_feed_97 : decode cX12_feed 97 = .ok (.iastore, 1) := by decide +kernel
theorem dX12_feed_98 : decode cX12_feed 98 = .ok (.aload_n 0, 1) := by decide +kernel
theorem dX12_feed_99 : decode cX12_feed 99 = .ok (.dup, 1) := by decide +kernel
theorem dX12_feed_100 : decode cX12_feed 100 = .ok (.getfield 224, 3) := by decide +kernel
theorem dX12_feed_103 : decode cX12_feed 103 = .ok (.iconst 1, 1) := by decide +kernel
theorem dX12_feed_104 : decode cX12_feed 104 = .ok (.iadd, 1) := by decide +kernel
theorem dX12_feed_105 : decode cX12_feed 105 = .ok (.putfield 224, 3) := by decide +kernel
theorem dX12_feed_108 : decode cX12_feed 108 = .ok (.iinc 6 1, 3) := by decide +kernel
theorem dX12_feed_111 : decode cX12_feed 111 = .ok (.goto (-93), 3) := by decide +kernel
theorem dX12_feed_114 : decode cX12_feed 114 = .ok (.aload_n 0, 1) := by decide +kernel
theorem dX12_feed_115 : decode cX12_feed 115 = .ok (.getfield 224, 3) := by decide +kernel
theorem dX12_feed_118 : decode cX12_feed 118 = .ok (.ireturn, 1) := by decide +kernel
set_option maxRecDepth 100000 in
theorem tj_X12_feed_71 {g : GT} {n nf : Int} (hu : Up false nf n) (a1 a2 a3 a4 a5 : Int) (w18 : Mem → Int → Res) (hw18 : ∀ (M : Mem) (x6 : Int), AW g false RX12 cX12_feed 8 (some .int) (0) n n nf 18 [(0, 2, 337), (1, 0, a1), (2, 0, a2), (3, 0, a3), (4, 0, a4), (5, 0, a5), (6, 0, x6)] [] n M (w18 M x6)) (M : Mem) (x6 s0 : Int) : AW g false RX12 cX12_feed 8 (some .int) (0) n n nf 71 [(0, 2, 337), (1, 0, a1), (2, 0, a2), (3, 0, a3), (4, 0, a4), (5, 0, a5), (6, 0, x6)] [(0, s0)] n M (j_X12_feed_71 a1 a2 a3 a4 a5 w18 M x6 s0) := by
  unfold j_X12_feed_71
  refine r_istore dX12_feed_71 (by decide) (ls' := [(7, 0, s0), (0, 2, 337), (1, 0, a1), (2, 0, a2), (3, 0, a3), (4, 0, a4), (5, 0, a5), (6, 0, x6)]) rfl ?_
  refine r_aload_n 1 dX12_feed_73 rfl rfl ?_
  refine r_gx (kz := 0) rfl hu dX12_feed_74 kF_X12_7 kd_337 rfl rfl rfl fx_337_0 ?_
  refine r_aload_n 1 dX12_feed_77 rfl rfl ?_
  refine r_gf (t := 0) (kz := 1) rfl hu dX12_feed_78 kF_X12_224 kd_337 rfl rfl rfl ?_
  refine r_iload 0 dX12_feed_81 rfl ?_
  refine r_bipush dX12_feed_83 (by decide) ⟨by decide, by decide⟩ ?_
  refine r_iconst dX12_feed_85 ⟨by decide, by decide⟩ ?_
  refine r_iload 7 dX12_feed_86 rfl ?_
  refine r_iconst dX12_feed_88 ⟨by decide, by decide⟩ ?_
  refine r_ok (fun h14 => ?_)
  refine r_iremP dX12_feed_89 ⟨h14, by decide⟩ ?_
  refine r_ok (fun h15 => ?_)
  refine r_isub dX12_feed_90 h15 ?_
  refine r_ok (fun h16 => ?_)
  refine r_imul dX12_feed_91 h16 ?_
  refine r_ishr dX12_feed_92 ?_
  refine r_sipush dX12_feed_93 (by decide) ⟨by decide, by decide⟩ ?_
  refine r_iand dX12_feed_96 ?_
  refine r_ok (fun h17 => ?_)
  refine r_iast hu dX12_feed_97 kd_338 rfl (Or.inl rfl) rfl ln_338 h17 rfl (fun M18 eM18 => ?_)
  refine r_aload_n 1 dX12_feed_98 rfl rfl ?_
  refine r_dup dX12_feed_99 (nz2 _) ?_
  refine r_gf (t := 0) (kz := 1) rfl hu dX12_feed_100 kF_X12_224 kd_337 rfl rfl rfl ?_
  refine r_iconst dX12_feed_103 ⟨by decide, by decide⟩ ?_
  refine r_ok (fun h19 => ?_)
  refine r_iadd dX12_feed_104 h19 ?_
  refine r_pf (t := 0) (kz := 1) rfl hu dX12_feed_105 kF_X12_224 kd_337 rfl rfl rfl (fun h => absurd h (by decide)) rfl kX_12_1 (fun M20 eM20 => ?_)
  refine r_ok (fun h21 => ?_)
  refine r_iincB 7 dX12_feed_108 rfl h21 (by decide) (lf := fun y22 => [(6, 0, y22), (7, 0, s0), (0, 2, 337), (1, 0, a1), (2, 0, a2), (3, 0, a3), (4, 0, a4), (5, 0, a5)]) (fun _ => rfl) (fun y22 ey22 => ?_)
  refine r_goto (tgt := 18) dX12_feed_111 rfl ?_
  refine r_sub [2, 3, 4, 5, 6, 7, 0] (ls' := [(0, 2, 337), (1, 0, a1), (2, 0, a2), (3, 0, a3), (4, 0, a4), (5, 0, a5), (6, 0, y22)]) rfl ?_
  exact hw18 M20 y22
set_option maxRecDepth 100000 in
theorem tb_X12_feed_18 {g : GT} {n nf : Int} (hu : Up false nf n) (a1 a2 a3 a4 a5 : Int) (w18 : Mem → Int → Res) (hw18 : ∀ (M : Mem) (x6 : Int), AW g false RX12 cX12_feed 8 (some .int) (0) n n nf 18 [(0, 2, 337), (1, 0, a1), (2, 0, a2), (3, 0, a3), (4, 0, a4), (5, 0, a5), (6, 0, x6)] [] n M (w18 M x6)) (M : Mem) (x6 : Int) : AW g false RX12 cX12_feed 8 (some .int) (0) n n nf 18 [(0, 2, 337), (1, 0, a1), (2, 0, a2), (3, 0, a3), (4, 0, a4), (5, 0, a5), (6, 0, x6)] [] n M (b_X12_feed_18 a1 a2 a3 a4 a5 w18 M x6) := by
  unfold b_X12_feed_18
  refine r_iload 6 dX12_feed_18 rfl ?_
  refine r_bipush dX12_feed_20 (by decide) ⟨by decide, by decide⟩ ?_
  refine r_icmp_ge (tgt := 114) dX12_feed_22 rfl (fun h4 => ?_) (fun h5 => ?_)
  · refine r_aload_n 0 dX12_feed_114 rfl rfl ?_
    refine r_gf (t := 0) (kz := 1) rfl hu dX12_feed_115 kF_X12_224 kd_337 rfl rfl rfl ?_
    exact r_iret rfl rfl (Or.inl rfl) dX12_feed_118
  · refine r_iload 6 dX12_feed_25 rfl ?_
    refine r_iconst dX12_feed_27 ⟨by decide, by decide⟩ ?_
    refine r_icmp_ge (tgt := 35) dX12_feed_28 rfl (fun h6 => ?_) (fun h7 => ?_)
    · refine r_iload 6 dX12_feed_35 rfl ?_
      refine r_bipush dX12_feed_37 (by decide) ⟨by decide, by decide⟩ ?_
      refine r_icmp_ge (tgt := 46) dX12_feed_39 rfl (fun h8 => ?_) (fun h9 => ?_)
      · refine r_iload 6 dX12_feed_46 rfl ?_
        refine r_bipush dX12_feed_48 (by decide) ⟨by decide, by decide⟩ ?_
        refine r_icmp_ge (tgt := 57) dX12_feed_50 rfl (fun h10 => ?_) (fun h11 => ?_)
        · refine r_iload 6 dX12_feed_57 rfl ?_
          refine r_bipush dX12_feed_59 (by decide) ⟨by decide, by decide⟩ ?_
          refine r_icmp_ge (tgt := 69) dX12_feed_61 rfl (fun h12 => ?_) (fun h13 => ?_)
          · refine r_iload 5 dX12_feed_69 rfl ?_
            exact tj_X12_feed_71 hu a1 a2 a3 a4 a5 w18 hw18 M x6 a5
          · refine r_iload 4 dX12_feed_64 rfl ?_
            refine r_goto (tgt := 71) dX12_feed_66 rfl ?_
            exact tj_X12_feed_71 hu a1 a2 a3 a4 a5 w18 hw18 M x6 a4
        · refine r_iload_n 3 dX12_feed_53 rfl rfl ?_
          refine r_goto (tgt := 71) dX12_feed_54 rfl ?_
          exact tj_X12_feed_71 hu a1 a2 a3 a4 a5 w18 hw18 M x6 a3
      · refine r_iload_n 2 dX12_feed_42 rfl rfl ?_
        refine r_goto (tgt := 71) dX12_feed_43 rfl ?_
        exact tj_X12_feed_71 hu a1 a2 a3 a4 a5 w18 hw18 M x6 a2
    · refine r_iload_n 1 dX12_feed_31 rfl rfl ?_
      refine r_goto (tgt := 71) dX12_feed_32 rfl ?_
      exact tj_X12_feed_71 hu a1 a2 a3 a4 a5 w18 hw18 M x6 a1
set_option maxRecDepth 100000 in
theorem m_X12_feed {g : GT} {n nf : Int} (hu : Up false nf n) (M : Mem) (a1 a2 a3 a4 a5 : Int) : AM g false yX12_feed cX12_feed 8 (some .int) (0) n n nf [(2, 337), (0, a1), (0, a2), (0, a3), (0, a4), (0, a5)] M (f_X12_feed M a1 a2 a3 a4 a5) := by
  refine AM_of (by decide +kernel) (Nat.le_of_ble_eq_true rfl) (fun h => absurd h (Int.lt_irrefl n)) ?_
  show AW g false RX12 cX12_feed 8 (some .int) (0) n n nf 0 [(0, 2, 337), (1, 0, a1), (2, 0, a2), (3, 0, a3), (4, 0, a4), (5, 0, a5)] [] n M (f_X12_feed M a1 a2 a3 a4 a5)
  unfold f_X12_feed
  refine r_aload_n 0 dX12_feed_0 rfl rfl ?_
  refine r_gf (t := 0) (kz := 1) rfl hu dX12_feed_1 kF_X12_224 kd_337 rfl rfl rfl ?_
  refine r_bipush dX12_feed_4 (by decide) ⟨by decide, by decide⟩ ?_
  refine r_ok (fun h1 => ?_)
  refine r_iadd dX12_feed_6 h1 ?_
  refine r_sipush dX12_feed_7 (by decide) ⟨by decide, by decide⟩ ?_
  refine r_icmp_le (tgt := 15) dX12_feed_10 rfl (fun h2 => ?_) (fun h3 => ?_)
  · refine r_iconst dX12_feed_15 ⟨by decide, by decide⟩ ?_
    refine r_istore dX12_feed_16 (by decide) (ls' := [(6, 0, 0), (0, 2, 337), (1, 0, a1), (2, 0, a2), (3, 0, a3), (4, 0, a4), (5, 0, a5)]) rfl ?_
    refine r_sub [1, 2, 3, 4, 5, 6, 0] (ls' := [(0, 2, 337), (1, 0, a1), (2, 0, a2), (3, 0, a3), (4, 0, a4), (5, 0, a5), (6, 0, 0)]) rfl ?_
    exact wl1_aw (P := fun M x6 o => AW g false RX12 cX12_feed 8 (some .int) (0) n n nf 18 [(0, 2, 337), (1, 0, a1), (2, 0, a2), (3, 0, a3), (4, 0, a4), (5, 0, a5), (6, 0, x6)] [] n M (o)) (fun M x6 => aw_none) (fun w hw M x6 => tb_X12_feed_18 hu a1 a2 a3 a4 a5 w hw M x6) FU M 0
  · refine r_iconst dX12_feed_13 ⟨by decide, by decide⟩ ?_
    exact r_iret rfl rfl (Or.inl rfl) dX12_feed_14
theorem dX12_end_0 : decode cX12_end 0 = .ok (.iload_n 1, 1) := by decide +kernel
theorem dX12_end_1 : decode cX12_end 1 = .ok (.ifCond .lt 11, 3) := by decide +kernel
theorem dX12_end_4 : decode cX12_end 4 = .ok (.iload_n 1, 1) := by decide +kernel
theorem dX12_end_5 : decode cX12_end 5 = .ok (.aload_n 0, 1) := by decide +kernel
theorem dX12_end_6 : decode cX12_end 6 = .ok (.getfield 224, 3) := by decide +kernel
theorem dX12_end_9 : decode cX12_end 9 = .ok (.if_icmp .le 5, 3) := by decide +kernel
theorem dX12_end_12 : decode cX12_end 12 = .ok (.iconst 0, 1) := by decide +kernel
theorem dX12_end_13 : decode cX12_end 13 = .ok (.ireturn, 1) := by decide +kernel
theorem dX12_end_14 : decode cX12_end 14 = .ok (.aload_n 0, 1) := by decide +kernel
theorem dX12_end_15 : decode cX12_end 15 = .ok (.iload_n 1, 1) := by decide +kernel
theorem dX12_end_16 : decode cX12_end 16 = .ok (.putfield 224, 3) := by decide +kernel
theorem dX12_end_19 : decode cX12_end 19 = .ok (.iconst 1, 1) := by decide +kernel
theorem dX12_end_20 : decode cX12_end 20 = .ok (.ireturn, 1) := by decide +kernel
set_option maxRecDepth 100000 in
theorem m_X12_end {g : GT} {n nf : Int} (hu : Up false nf n) (M : Mem) (a1 : Int) : AM g false yX12_end cX12_end 2 (some .boolean) (0) n n nf [(2, 337), (0, a1)] M (f_X12_end M a1) := by
  refine AM_of (by decide +kernel) (Nat.le_of_ble_eq_true rfl) (fun h => absurd h (Int.lt_irrefl n)) ?_
  show AW g false RX12 cX12_end 2 (some .boolean) (0) n n nf 0 [(0, 2, 337), (1, 0, a1)] [] n M (f_X12_end M a1)
  unfold f_X12_end
  refine r_iload_n 1 dX12_end_0 rfl rfl ?_
  refine r_if_lt (tgt := 12) dX12_end_1 rfl (fun h1 => ?_) (fun h2 => ?_)
  · refine r_iconst dX12_end_12 ⟨by decide, by decide⟩ ?_
    exact r_iret rfl rfl (Or.inr ⟨rfl, Or.inl rfl⟩) dX12_end_13
  · refine r_iload_n 1 dX12_end_4 rfl rfl ?_
    refine r_aload_n 0 dX12_end_5 rfl rfl ?_
    refine r_gf (t := 0) (kz := 1) rfl hu dX12_end_6 kF_X12_224 kd_337 rfl rfl rfl ?_
    refine r_icmp_le (tgt := 14) dX12_end_9 rfl (fun h3 => ?_) (fun h4 => ?_)
    · refine r_aload_n 0 dX12_end_14 rfl rfl ?_
      refine r_iload_n 1 dX12_end_15 rfl rfl ?_
      refine r_pf (t := 0) (kz := 1) rfl hu dX12_end_16 kF_X12_224 kd_337 rfl rfl rfl (fun h => absurd h (by decide)) rfl kX_12_1 (fun M5 eM5 => ?_)
      refine r_iconst dX12_end_19 ⟨by decide, by decide⟩ ?_
      exact r_iret rfl rfl (Or.inr ⟨rfl, Or.inr rfl⟩) dX12_end_20
    · refine r_iconst dX12_end_12 ⟨by decide, by decide⟩ ?_
      exact r_iret rfl rfl (Or.inr ⟨rfl, Or.inl rfl⟩) dX12_end_13
theorem dX12_fail_0 : decode cX12_fail 0 = .ok (.aload_n 0, 1) := by decide +kernel
theorem dX12_fail_1 : decode cX12_fail 1 = .ok (.getfield 227, 3) := by decide +kernel
theorem dX12_fail_4 : decode cX12_fail 4 = .ok (.ifCond .eq 4, 3) := by decide +kernel
theorem dX12_fail_7 : decode cX12_fail 7 = .ok (.return_, 1) := by decide +kernel
theorem dX12_fail_8 : decode cX12_fail 8 = .ok (.aload_n 0, 1) := by decide +kernel
theorem dX12_fail_9 : decode cX12_fail 9 = .ok (.iload_n 1, 1) := by decide +kernel
theorem dX12_fail_10 : decode cX12_fail 10 = .ok (.putfield 227, 3) := by decide +kernel
theorem dX12_fail_13 : decode cX12_fail 13 = .ok (.aload_n 0, 1) := by decide +kernel
theorem dX12_fail_14 : decode cX12_fail 14 = .ok (.iload_n 2, 1) := by decide +kernel
theorem dX12_fail_15 : decode cX12_fail 15 = .ok (.putfield 230, 3) := by decide +kernel
theorem dX12_fail_18 : decode cX12_fail 18 = .ok (.return_, 1) := by decide +kernel
set_option maxRecDepth 100000 in
theorem m_X12_fail {g : GT} {n nf : Int} (hu : Up false nf n) (M : Mem) (a1 a2 : Int) : AM g false yX12_fail cX12_fail 3 none (0) n n nf [(2, 337), (0, a1), (0, a2)] M (f_X12_fail M a1 a2) := by
  refine AM_of (by decide +kernel) (Nat.le_of_ble_eq_true rfl) (fun h => absurd h (Int.lt_irrefl n)) ?_
  show AW g false RX12 cX12_fail 3 none (0) n n nf 0 [(0, 2, 337), (1, 0, a1), (2, 0, a2)] [] n M (f_X12_fail M a1 a2)
  unfold f_X12_fail
  refine r_aload_n 0 dX12_fail_0 rfl rfl ?_
  refine r_gf (t := 0) (kz := 5) rfl hu dX12_fail_1 kF_X12_227 kd_337 rfl rfl rfl ?_
  refine r_if_eq (tgt := 8) dX12_fail_4 rfl (fun h1 => ?_) (fun h2 => ?_)
  · refine r_aload_n 0 dX12_fail_8 rfl rfl ?_
    refine r_iload_n 1 dX12_fail_9 rfl rfl ?_
    refine r_pf (t := 0) (kz := 5) rfl hu dX12_fail_10 kF_X12_227 kd_337 rfl rfl rfl (fun h => absurd h (by decide)) rfl kX_12_5 (fun M3 eM3 => ?_)
    refine r_aload_n 0 dX12_fail_13 rfl rfl ?_
    refine r_iload_n 2 dX12_fail_14 rfl rfl ?_
    refine r_pf (t := 0) (kz := 6) rfl hu dX12_fail_15 kF_X12_230 kd_337 rfl rfl rfl (fun h => absurd h (by decide)) rfl kX_12_6 (fun M4 eM4 => ?_)
    exact r_vret rfl rfl dX12_fail_18
  · exact r_vret rfl rfl dX12_fail_7
theorem dX12_isLetter_0 : decode cX12_isLetter 0 = .ok (.iload_n 0, 1) := by decide +kernel
theorem dX12_isLetter_1 : decode cX12_isLetter 1 = .ok (.bipush 97, 2) := by decide +kernel
theorem dX12_isLetter_3 : decode cX12_isLetter 3 = .ok (.if_icmp .lt 13, 3) := by decide +kernel
theorem dX12_isLetter_6 : decode cX12_isLetter 6 = .ok (.iload_n 0, 1) := by decide +kernel
theorem dX12_isLetter_7 : decode cX12_isLetter 7 = .ok (.bipush 122, 2) := by decide +kernel
theorem dX12_isLetter_9 : decode cX12_isLetter 9 = .ok (.if_icmp .gt 7, 3) := by decide +kernel
theorem dX12_isLetter_12 : decode cX12_isLetter 12 = .ok (.iconst 1, 1) := by decide +kernel
theorem dX12_isLetter_13 : decode cX12_isLetter 13 = .ok (.goto 4, 3) := by decide +kernel
theorem dX12_isLetter_16 : decode cX12_isLetter 16 = .ok (.iconst 0, 1) := by decide +kernel
theorem dX12_isLetter_17 : decode cX12_isLetter 17 = .ok (.ireturn, 1) := by decide +kernel
set_option maxRecDepth 100000 in
theorem m_X12_isLetter {g : GT} {n nf : Int} (hu : Up false nf n) (M : Mem) (a0 : Int) : AM g false yX12_isLetter cX12_isLetter 1 (some .boolean) (0) n n nf [(0, a0)] M (f_X12_isLetter M a0) := by
  refine AM_of (by decide +kernel) (Nat.le_of_ble_eq_true rfl) (fun h => absurd h (Int.lt_irrefl n)) ?_
  show AW g false RX12 cX12_isLetter 1 (some .boolean) (0) n n nf 0 [(0, 0, a0)] [] n M (f_X12_isLetter M a0)
  unfold f_X12_isLetter
  refine r_iload_n 0 dX12_isLetter_0 rfl rfl ?_
  refine r_bipush dX12_isLetter_1 (by decide) ⟨by decide, by decide⟩ ?_
  refine r_icmp_lt (tgt := 16) dX12_isLetter_3 rfl (fun h1 => ?_) (fun h2 => ?_)
  · refine r_iconst dX12_isLetter_16 ⟨by decide, by decide⟩ ?_
    exact r_iret rfl rfl (Or.inr ⟨rfl, Or.inl rfl⟩) dX12_isLetter_17
  · refine r_iload_n 0 dX12_isLetter_6 rfl rfl ?_
    refine r_bipush dX12_isLetter_7 (by decide) ⟨by decide, by decide⟩ ?_
    refine r_icmp_gt (tgt := 16) dX12_isLetter_9 rfl (fun h3 => ?_) (fun h4 => ?_)
    · refine r_iconst dX12_isLetter_16 ⟨by decide, by decide⟩ ?_
      exact r_iret rfl rfl (Or.inr ⟨rfl, Or.inl rfl⟩) dX12_isLetter_17
    · refine r_iconst dX12_isLetter_12 ⟨by decide, by decide⟩ ?_
      refine r_goto (tgt := 17) dX12_isLetter_13 rfl ?_
      exact r_iret rfl rfl (Or.inr ⟨rfl, Or.inr rfl⟩) dX12_isLetter_17
theorem dX12_isDigit_0 : decode cX12_isDigit 0 = .ok (.iload_n 0, 1) := by decide +kernel
theorem dX12_isDigit_1 : decode cX12_isDigit 1 = .ok (.bipush 48, 2) := by decide +kernel
theorem dX12_isDigit_3 : decode cX12_isDigit 3 = .ok (.if_icmp .lt 13, 3) := by decide +kernel
theorem dX12_isDigit_6 : decode cX12_isDigit 6 = .ok (.iload_n 0, 1) := by decide +kernel
theorem dX12_isDigit_7 : decode cX12_isDigit 7 = .ok (.bipush 57, 2) := by decide +kernel
theorem dX12_isDigit_9 : decode cX12_isDigit 9 = .ok (.if_icmp .gt 7, 3) := by decide +kernel
theorem dX12_isDigit_12 : decode cX12_isDigit 12 = .ok (.iconst 1, 1) := by decide +kernel
theorem dX12_isDigit_13 : decode cX12_isDigit 13 = .ok (.goto 4, 3) := by decide +kernel
theorem dX12_isDigit_16 : decode cX12_isDigit 16 = .ok (.iconst 0, 1) := by decide +kernel
theorem dX12_isDigit_17 : decode cX12_isDigit 17 = .ok (.ireturn, 1) := by decide +kernel
set_option maxRecDepth 100000 in
theorem m_X12_isDigit {g : GT} {n nf : Int} (hu : Up false nf n) (M : Mem) (a0 : Int) : AM g false yX12_isDigit cX12_isDigit 1 (some .boolean) (0) n n nf [(0, a0)] M (f_X12_isDigit M a0) := by
  refine AM_of (by decide +kernel) (Nat.le_of_ble_eq_true rfl) (fun h => absurd h (Int.lt_irrefl n)) ?_
  show AW g false RX12 cX12_isDigit 1 (some .boolean) (0) n n nf 0 [(0, 0, a0)] [] n M (f_X12_isDigit M a0)
  unfold f_X12_isDigit
  refine r_iload_n 0 dX12_isDigit_0 rfl rfl ?_
  refine r_bipush dX12_isDigit_1 (by decide) ⟨by decide, by decide⟩ ?_
  refine r_icmp_lt (tgt := 16) dX12_isDigit_3 rfl (fun h1 => ?_) (fun h2 => ?_)
  · refine r_iconst dX12_isDigit_16 ⟨by decide, by decide⟩ ?_
    exact r_iret rfl rfl (Or.inr ⟨rfl, Or.inl rfl⟩) dX12_isDigit_17
  · refine r_iload_n 0 dX12_isDigit_6 rfl rfl ?_
    refine r_bipush dX12_isDigit_7 (by decide) ⟨by decide, by decide⟩ ?_
    refine r_icmp_gt (tgt := 16) dX12_isDigit_9 rfl (fun h3 => ?_) (fun h4 => ?_)
    · refine r_iconst dX12_isDigit_16 ⟨by decide, by decide⟩ ?_
      exact r_iret rfl rfl (Or.inr ⟨rfl, Or.inl rfl⟩) dX12_isDigit_17
    · refine r_iconst dX12_isDigit_12 ⟨by decide, by decide⟩ ?_
      refine r_goto (tgt := 17) dX12_isDigit_13 rfl ?_
      exact r_iret rfl rfl (Or.inr ⟨rfl, Or.inr rfl⟩) dX12_isDigit_17
theorem dX12_look_0 : decode cX12_look 0 = .ok (.aload_n 0, 1) := by decide +kernel
theorem dX12_look_1 : decode cX12_look 1 = .ok (.getfield 233, 3) := by decide +kernel
theorem dX12_look_4 : decode cX12_look 4 = .ok (.aload_n 0, 1) := by decide +kernel
theorem dX12_look_5 : decode cX12_look 5 = .ok (.getfield 236, 3) := by decide +kernel
theorem dX12_look_8 : decode cX12_look 8 = .ok (.if_icmp .ge 44, 3) := by decide +kernel
theorem dX12_look_11 : decode cX12_look 11 = .ok (.aload_n 0, 1) := by decide +kernel
theorem dX12_look_12 : decode cX12_look 12 = .ok (.getfield 7, 3) := by decide +kernel
theorem dX12_look_15 : decode cX12_look 15 = .ok (.aload_n 0, 1) := by decide +kernel
theorem dX12_look_16 : decode cX12_look 16 = .ok (.getfield 233, 3) := by decide +kernel
theorem dX12_look_19 : decode cX12_look 19 = .ok (.iaload, 1) := by decide +kernel
theorem dX12_look_20 : decode cX12_look 20 = .ok (.bipush 10, 2) := by decide +kernel
theorem dX12_look_22 : decode cX12_look 22 = .ok (.if_icmp .eq 17, 3) := by decide +kernel
theorem dX12_look_25 : decode cX12_look 25 = .ok (.aload_n 0, 1) := by decide +kernel
theorem dX12_look_26 : decode cX12_look 26 = .ok (.getfield 7, 3) := by decide +kernel
theorem dX12_look_29 : decode cX12_look 29 = .ok (.aload_n 0, 1) := by decide +kernel
theorem dX12_look_30 : decode cX12_look 30 = .ok (.getfield 233, 3) := by decide +kernel
theorem dX12_look_33 : decode cX12_look 33 = .ok (.iaload, 1) := by decide +kernel
theorem dX12_look_34 : decode cX12_look 34 = .ok (.bipush 32, 2) := by decide +kernel
theorem dX12_look_36 : decode cX12_look 36 = .ok (.if_icmp .ne 16, 3) := by decide +kernel
theorem dX12_look_39 : decode cX12_look 39 = .ok (.aload_n 0, 1) := by decide +kernel
theorem dX12_look_40 : decode cX12_look 40 = .ok (.dup, 1) := by decide +kernel
theorem dX12_look_41 : decode cX12_look 41 = .ok (.getfield 233, 3) := by decide +kernel
theorem dX12_look_44 : decode cX12_look 44 = .ok (.iconst 1, 1) := by decide +kernel
theorem dX12_look_45 : decode cX12_look 45 = .ok (.iadd, 1) := by decide +kernel
theorem dX12_look_46 : decode cX12_look 46 = .ok (.putfield 233, 3) := by decide +kernel
theorem dX12_look_49 : decode cX12_look 49 = .ok (.goto (-49), 3) := by decide +kernel
theorem dX12_look_52 : decode cX12_look 52 = .ok (.aload_n 0, 1) := by decide +kernel
theorem dX12_look_53 : decode cX12_look 53 = .ok (.getfield 233, 3) := by decide +kernel
theorem dX12_look_56 : decode cX12_look 56 = .ok (.aload_n 0, 1) := by decide +kernel
theorem dX12_look_57 : decode cX12_look 57 = .ok (.getfield 236, 3) := by decide +kernel
theorem dX12_look_60 : decode cX12_look 60 = .ok (.if_icmp .ge 15, 3) := by decide +kernel
theorem dX12_look_63 : decode cX12_look 63 = .ok (.aload_n 0, 1) := by decide +kernel
theorem dX12_look_64 : decode cX12_look 64 = .ok (.getfield 7, 3) := by decide +kernel
theorem dX12_look_67 : decode cX12_look 67 = .ok (.aload_n 0, 1) := by decide +kernel
theorem dX12_look_68 : decode cX12_look 68 = .ok (.getfield 233, 3) := by decide +kernel
theorem dX12_look_71 : decode cX12_look 71 = .ok (.iaload, 1) := by decide +kernel
theorem dX12_look_72 : decode cX12_look 72 = .ok (.goto 4, 3) := by decide +kernel
theorem dX12_look_75 : decode cX12_look 75 = .ok (.iconst (-1), 1) := by decide +kernel
theorem dX12_look_76 : decode cX12_look 76 = .ok (.ireturn, 1) := by decide +kernel
set_option maxRecDepth 100000 in
theorem tj_X12_look_52 {g : GT} {n nf : Int} (hu : Up false nf n) (M : Mem) : AW g false RX12 cX12_look 1 (some .int) (0) n n nf 52 [(0, 2, 337)] [] n M (j_X12_look_52 M) := by
  unfold j_X12_look_52
  refine r_aload_n 0 dX12_look_52 rfl rfl ?_
  refine r_gf (t := 0) (kz := 2) rfl hu dX12_look_53 kF_X12_233 kd_337 rfl rfl rfl ?_
  refine r_aload_n 0 dX12_look_56 rfl rfl ?_
  refine r_gf (t := 0) (kz := 3) rfl hu dX12_look_57 kF_X12_236 kd_337 rfl rfl rfl ?_
  refine r_icmp_ge (tgt := 75) dX12_look_60 rfl (fun h3 => ?_) (fun h4 => ?_)
  · refine r_iconst dX12_look_75 ⟨by decide, by decide⟩ ?_
    exact r_iret rfl rfl (Or.inl rfl) dX12_look_76
  · refine r_aload_n 0 dX12_look_63 rfl rfl ?_
    refine r_gx (kz := 0) rfl hu dX12_look_64 kF_X12_7 kd_337 rfl rfl rfl fx_337_0 ?_
    refine r_aload_n 0 dX12_look_67 rfl rfl ?_
    refine r_gf (t := 0) (kz := 2) rfl hu dX12_look_68 kF_X12_233 kd_337 rfl rfl rfl ?_
    refine r_ok (fun h5 => ?_)
    refine r_iald hu dX12_look_71 kd_338 rfl (Or.inl rfl) rfl ln_338 h5 ?_
    refine r_goto (tgt := 76) dX12_look_72 rfl ?_
    exact r_iret rfl rfl (Or.inl rfl) dX12_look_76
set_option maxRecDepth 100000 in
theorem tb_X12_look_0 {g : GT} {n nf : Int} (hu : Up false nf n) (w0 : Mem → Res) (hw0 : ∀ (M : Mem), AW g false RX12 cX12_look 1 (some .int) (0) n n nf 0 [(0, 2, 337)] [] n M (w0 M)) (M : Mem) : AW g false RX12 cX12_look 1 (some .int) (0) n n nf 0 [(0, 2, 337)] [] n M (b_X12_look_0 w0 M) := by
  unfold b_X12_look_0
  refine r_aload_n 0 dX12_look_0 rfl rfl ?_
  refine r_gf (t := 0) (kz := 2) rfl hu dX12_look_1 kF_X12_233 kd_337 rfl rfl rfl ?_
  refine r_aload_n 0 dX12_look_4 rfl rfl ?_
  refine r_gf (t := 0) (kz := 3) rfl hu dX12_look_5 kF_X12_236 kd_337 rfl rfl rfl ?_
  refine r_icmp_ge (tgt := 52) dX12_look_8 rfl (fun h1 => ?_) (fun h2 => ?_)
  · exact tj_X12_look_52 hu M
  · refine r_aload_n 0 dX12_look_11 rfl rfl ?_
    refine r_gx (kz := 0) rfl hu dX12_look_12 kF_X12_7 kd_337 rfl rfl rfl fx_337_0 ?_
    refine r_aload_n 0 dX12_look_15 rfl rfl ?_
    refine r_gf (t := 0) (kz := 2) rfl hu dX12_look_16 kF_X12_233 kd_337 rfl rfl rfl ?_
    refine r_ok (fun h6 => ?_)
    refine r_iald hu dX12_look_19 kd_338 rfl (Or.inl rfl) rfl ln_338 h6 ?_
    refine r_bipush dX12_look_20 (by decide) ⟨by decide, by decide⟩ ?_
    refine r_icmp_eq (tgt := 39) dX12_look_22 rfl (fun h7 => ?_) (fun h8 => ?_)
    · refine r_aload_n 0 dX12_look_39 rfl rfl ?_
      refine r_dup dX12_look_40 (nz2 _) ?_
      refine r_gf (t := 0) (kz := 2) rfl hu dX12_look_41 kF_X12_233 kd_337 rfl rfl rfl ?_
      refine r_iconst dX12_look_44 ⟨by decide, by decide⟩ ?_
      refine r_iadd dX12_look_45 ⟨by have := h6; omega, by have := h6; omega⟩ ?_
      refine r_pf (t := 0) (kz := 2) rfl hu dX12_look_46 kF_X12_233 kd_337 rfl rfl rfl (fun h => absurd h (by decide)) rfl kX_12_2 (fun M9 eM9 => ?_)
      refine r_goto (tgt := 0) dX12_look_49 rfl ?_
      exact hw0 M9
    · refine r_aload_n 0 dX12_look_25 rfl rfl ?_
      refine r_gx (kz := 0) rfl hu dX12_look_26 kF_X12_7 kd_337 rfl rfl rfl fx_337_0 ?_
      refine r_aload_n 0 dX12_look_29 rfl rfl ?_
      refine r_gf (t := 0) (kz := 2) rfl hu dX12_look_30 kF_X12_233 kd_337 rfl rfl rfl ?_
      refine r_iald hu dX12_look_33 kd_338 rfl (Or.inl rfl) rfl ln_338 h6 ?_
      refine r_bipush dX12_look_34 (by decide) ⟨by decide, by decide⟩ ?_
      refine r_icmp_ne (tgt := 52) dX12_look_36 rfl (fun h10 => ?_) (fun h11 => ?_)
      · refine r_aload_n 0 dX12_look_39 rfl rfl ?_
        refine r_dup dX12_look_40 (nz2 _) ?_
        refine r_gf (t := 0) (kz := 2) rfl hu dX12_look_41 kF_X12_233 kd_337 rfl rfl rfl ?_
        refine r_iconst dX12_look_44 ⟨by decide, by decide⟩ ?_
        refine r_iadd dX12_look_45 ⟨by have := h6; omega, by have := h6; omega⟩ ?_
        refine r_pf (t := 0) (kz := 2) rfl hu dX12_look_46 kF_X12_233 kd_337 rfl rfl rfl (fun h => absurd h (by decide)) rfl kX_12_2 (fun M12 eM12 => ?_)
        refine r_goto (tgt := 0) dX12_look_49 rfl ?_
        exact hw0 M12
      · exact tj_X12_look_52 hu M
set_option maxRecDepth 100000 in
theorem m_X12_look {g : GT} {n nf : Int} (hu : Up false nf n) (M : Mem) : AM g false yX12_look cX12_look 1 (some .int) (0) n n nf [(2, 337)] M (f_X12_look M) := by
  refine AM_of (by decide +kernel) (Nat.le_of_ble_eq_true rfl) (fun h => absurd h (Int.lt_irrefl n)) ?_
  show AW g false RX12 cX12_look 1 (some .int) (0) n n nf 0 [(0, 2, 337)] [] n M (f_X12_look M)
  unfold f_X12_look
  exact wl0_aw (P := fun M o => AW g false RX12 cX12_look 1 (some .int) (0) n n nf 0 [(0, 2, 337)] [] n M (o)) (fun M => aw_none) (fun w hw M => tb_X12_look_0 hu w hw M) FU M
theorem dX12_isHere_0 : decode cX12_isHere 0 = .ok (.aload_n 0, 1) := by decide +kernel
theorem dX12_isHere_1 : decode cX12_isHere 1 = .ok (.getfield 227, 3) := by decide +kernel
theorem dX12_isHere_4 : decode cX12_isHere 4 = .ok (.ifCond .ne 24, 3) := by decide +kernel
theorem dX12_isHere_7 : decode cX12_isHere 7 = .ok (.aload_n 0, 1) := by decide +kernel
theorem dX12_isHere_8 : decode cX12_isHere 8 = .ok (.invokevirtual 239, 3) := by decide +kernel
theorem dX12_isHere_11 : decode cX12_isHere 11 = .ok (.invokestatic 243, 3) := by decide +kernel
theorem dX12_isHere_14 : decode cX12_isHere 14 = .ok (.ifCond .eq 14, 3) := by decide +kernel
theorem dX12_isHere_17 : decode cX12_isHere 17 = .ok (.aload_n 0, 1) := by decide +kernel
theorem dX12_isHere_18 : decode cX12_isHere 18 = .ok (.getfield 233, 3) := by decide +kernel
theorem dX12_isHere_21 : decode cX12_isHere 21 = .ok (.aload_n 0, 1) := by decide +kernel
theorem dX12_isHere_22 : decode cX12_isHere 22 = .ok (.getfield 247, 3) := by decide +kernel
theorem dX12_isHere_25 : decode cX12_isHere 25 = .ok (.if_icmp .ne 5, 3) := by decide +kernel
theorem dX12_isHere_28 : decode cX12_isHere 28 = .ok (.iconst 0, 1) := by decide +kernel
theorem dX12_isHere_29 : decode cX12_isHere 29 = .ok (.ireturn, 1) := by decide +kernel
theorem dX12_isHere_30 : decode cX12_isHere 30 = .ok (.aload_n 0, 1) := by decide +kernel
theorem dX12_isHere_31 : decode cX12_isHere 31 = .ok (.getfield 233, 3) := by decide +kernel
theorem dX12_isHere_34 : decode cX12_isHere 34 = .ok (.istore_n 2, 1) := by decide +kernel
theorem dX12_isHere_35 : decode cX12_isHere 35 = .ok (.iload_n 2, 1) := by decide +kernel
theorem dX12_isHere_36 : decode cX12_isHere 36 = .ok (.aload_n 0, 1) := by decide +kernel
theorem dX12_isHere_37 : decode cX12_isHere 37 = .ok (.getfield 236, 3) := by decide +kernel
theorem dX12_isHere_40 : decode cX12_isHere 40 = .ok (.if_icmp .ge 21, 3) := by decide +kernel
theorem dX12_isHere_43 : decode cX12_isHere 43 = .ok (.aload_n 0, 1) := by decide +kernel
theorem dX12_isHere_44 : decode cX12_isHere 44 = .ok (.getfield 7, 3) := by decide +kernel
theorem dX12_isHere_47 : decode cX12_isHere 47 = .ok (.iload_n 2, 1) := by decide +kernel
theorem dX12_isHere_48 : decode cX12_isHere 48 = .ok (.iaload, 1) := by decide +kernel
theorem dX12_isHere_49 : decode cX12_isHere 49 = .ok (.invokestatic 243, 3) := by decide +kernel
theorem dX12_isHere_52 : decode cX12_isHere 52 = .ok (.ifCond .eq 9, 3) := by decide +kernel
theorem dX12_isHere_55 : decode cX12_isHere 55 = .ok (.iinc 2 1, 3) := by decide +kernel
theorem dX12_isHere_58 : decode cX12_isHere 58 = .ok (.goto (-23), 3) := by decide +kernel
theorem dX12_isHere_61 : decode cX12_isHere 61 = .ok (.iload_n 2, 1) := by decide +kernel
theorem dX12_isHere_62 : decode cX12_isHere 62 = .ok (.aload_n 0, 1) := by decide +kernel
theorem dX12_isHere_63 : decode cX12_isHere 63 = .ok (.getfield 233, 3) := by decide +kernel
theorem dX12_isHere_66 : decode cX12_isHere 66 = .ok (.isub, 1) := by decide +kernel
theorem dX12_isHere_67 : decode cX12_isHere 67 = .ok (.aload_n 1, 1) := by decide +kernel
theorem dX12_isHere_68 : decode cX12_isHere 68 = .ok (.arraylength, 1) := by decide +kernel
theorem dX12_isHere_69 : decode cX12_isHere 69 = .ok (.if_icmp .eq 5, 3) := by decide +kernel
theorem dX12_isHere_72 : decode cX12_isHere 72 = .ok (.iconst 0, 1) := by decide +kernel
theorem dX12_isHere_73 : decode cX12_isHere 73 = .ok (.ireturn, 1) := by decide +kernel
theorem dX12_isHere_74 : decode cX12_isHere 74 = .ok (.iconst 0, 1) := by decide +kernel
theorem dX12_isHere_75 : decode cX12_isHere 75 = .ok (.istore_n 3, 1) := by decide +kernel
theorem dX12_isHere_76 : decode cX12_isHere 76 = .ok (.iload_n 3, 1) := by decide +kernel
theorem dX12_isHere_77 : decode cX12_isHere 77 = .ok (.aload_n 1, 1) := by decide +kernel
theorem dX12_isHere_78 : decode cX12_isHere 78 = .ok (.arraylength, 1) := by decide +kernel
theorem dX12_isHere_79 : decode cX12_isHere 79 = .ok (.if_icmp .ge 28, 3) := by decide +kernel
theorem dX12_isHere_82 : decode cX12_isHere 82 = .ok (.aload_n 0, 1) := by decide +kernel
theorem dX12_isHere_83 : decode cX12_isHere 83 = .ok (.getfield 7, 3) := by decide +kernel
theorem dX12_isHere_86 : decode cX12_isHere 86 = .ok (.aload_n 0, 1) := by decide +kernel
theorem dX12_isHere_87 : decode cX12_isHere 87 = .ok (.getfield 233, 3) := by decide +kernel
theorem dX12_isHere_90 : decode cX12_isHere 90 = .ok (.iload_n 3, 1) := by decide +kernel
theorem dX12_isHere_91 : decode cX12_isHere 91 = .ok (.iadd, 1) := by decide +kernel
theorem dX12_isHere_92 : decode cX12_isHere 92 = .ok (.iaload, 1) := by decide +kernel
theorem dX12_isHere_93 : decode cX12_isHere 93 = .ok (.aload_n 1, 1) := by decide +kernel
theorem dX12_isHere_94 : decode cX12_isHere 94 = .ok (.iload_n 3, 1) := by decide +kernel
theorem dX12_isHere_95 : decode cX12_isHere 95 = .ok (.caload, 1) := by decide +kernel
theorem dX12_isHere_96 : decode cX12_isHere 96 = .ok (.if_icmp .eq 5, 3) := by decide +kernel
theorem dX12_isHere_99 : decode cX12_isHere 99 = .ok (.iconst 0, 1) := by decide +kernel
theorem dX12_isHere_100 : decode cX12_isHere 100 = .ok (.ireturn, 1) := by decide +kernel
theorem dX12_isHere_101 : decode cX12_isHere 101 = .ok (.iinc 3 1, 3) := by decide +kernel
theorem dX12_isHere_104 : decode cX12_isHere 104 = .ok (.goto (-28), 3) := by decide +kernel
theorem dX12_isHere_107 : decode cX12_isHere 107 = .ok (.iconst 1, 1) := by decide +kernel
theorem dX12_isHere_108 : decode cX12_isHere 108 = .ok (.ireturn, 1) := by decide +kernel
set_option maxRecDepth 100000 in
theorem tb_X12_isHere_76 {g : GT} {n nf : Int} (hu : Up false nf n) (a1 : Int) (hk1 : kd a1 = 54) (w76 : Mem → Int → Res) (hw76 : ∀ (M : Mem) (x3 : Int), AW g false RX12 cX12_isHere 4 (some .boolean) (1) n n nf 76 [(0, 2, 337), (1, 2, a1), (3, 0, x3)] [] n M (w76 M x3)) (M : Mem) (x3 : Int) : AW g false RX12 cX12_isHere 4 (some .boolean) (1) n n nf 76 [(0, 2, 337), (1, 2, a1), (3, 0, x3)] [] n M (b_X12_isHere_76 a1 w76 M x3) := by
  unfold b_X12_isHere_76
  refine r_iload_n 2 dX12_isHere_76 rfl rfl ?_
  refine r_aload_n 1 dX12_isHere_77 rfl rfl ?_
  refine r_alen hu dX12_isHere_78 hk1 rfl (Or.inr (Or.inr (Or.inr rfl))) rfl rfl (ln_rng _) ?_
  refine r_icmp_ge (tgt := 107) dX12_isHere_79 rfl (fun h17 => ?_) (fun h18 => ?_)
  · refine r_iconst dX12_isHere_107 ⟨by decide, by decide⟩ ?_
    exact r_iret rfl rfl (Or.inr ⟨rfl, Or.inr rfl⟩) dX12_isHere_108
  · refine r_aload_n 0 dX12_isHere_82 rfl rfl ?_
    refine r_gx (kz := 0) rfl hu dX12_isHere_83 kF_X12_7 kd_337 rfl rfl rfl fx_337_0 ?_
    refine r_aload_n 0 dX12_isHere_86 rfl rfl ?_
    refine r_gf (t := 0) (kz := 2) rfl hu dX12_isHere_87 kF_X12_233 kd_337 rfl rfl rfl ?_
    refine r_iload_n 2 dX12_isHere_90 rfl rfl ?_
    refine r_ok (fun h19 => ?_)
    refine r_iadd dX12_isHere_91 h19 ?_
    refine r_ok (fun h20 => ?_)
    refine r_iald hu dX12_isHere_92 kd_338 rfl (Or.inl rfl) rfl ln_338 h20 ?_
    refine r_aload_n 1 dX12_isHere_93 rfl rfl ?_
    refine r_iload_n 2 dX12_isHere_94 rfl rfl ?_
    refine r_ok (fun h21 => ?_)
    refine r_cax hu dX12_isHere_95 hk1 rfl rfl rfl rfl h21 (fxv_word _ hk1 _ h21) ?_
    refine r_icmp_eq (tgt := 101) dX12_isHere_96 rfl (fun h22 => ?_) (fun h23 => ?_)
    · refine r_ok (fun h24 => ?_)
      refine r_iincB 2 dX12_isHere_101 rfl h24 (by decide) (lf := fun y25 => [(3, 0, y25), (0, 2, 337), (1, 2, a1)]) (fun _ => rfl) (fun y25 ey25 => ?_)
      refine r_goto (tgt := 76) dX12_isHere_104 rfl ?_
      refine r_sub [1, 2, 0] (ls' := [(0, 2, 337), (1, 2, a1), (3, 0, y25)]) rfl ?_
      exact hw76 M y25
    · refine r_iconst dX12_isHere_99 ⟨by decide, by decide⟩ ?_
      exact r_iret rfl rfl (Or.inr ⟨rfl, Or.inl rfl⟩) dX12_isHere_100
set_option maxRecDepth 100000 in
theorem tj_X12_isHere_61 {g : GT} {n nf : Int} (hu : Up false nf n) (a1 : Int) (hk1 : kd a1 = 54) (M : Mem) (x2 : Int) : AW g false RX12 cX12_isHere 4 (some .boolean) (1) n n nf 61 [(0, 2, 337), (1, 2, a1), (2, 0, x2)] [] n M (j_X12_isHere_61 a1 M x2) := by
  unfold j_X12_isHere_61
  refine r_iload_n 2 dX12_isHere_61 rfl rfl ?_
  refine r_aload_n 0 dX12_isHere_62 rfl rfl ?_
  refine r_gf (t := 0) (kz := 2) rfl hu dX12_isHere_63 kF_X12_233 kd_337 rfl rfl rfl ?_
  refine r_ok (fun h14 => ?_)
  refine r_isub dX12_isHere_66 h14 ?_
  refine r_aload_n 1 dX12_isHere_67 rfl rfl ?_
  refine r_alen hu dX12_isHere_68 hk1 rfl (Or.inr (Or.inr (Or.inr rfl))) rfl rfl (ln_rng _) ?_
  refine r_icmp_eq (tgt := 74) dX12_isHere_69 rfl (fun h15 => ?_) (fun h16 => ?_)
  · refine r_iconst dX12_isHere_74 ⟨by decide, by decide⟩ ?_
    refine r_istore_n dX12_isHere_75 rfl (by decide) (ls' := [(3, 0, 0), (0, 2, 337), (1, 2, a1), (2, 0, x2)]) rfl ?_
    refine r_sub [1, 2, 0] (ls' := [(0, 2, 337), (1, 2, a1), (3, 0, 0)]) rfl ?_
    exact wl1_aw (P := fun M x3 o => AW g false RX12 cX12_isHere 4 (some .boolean) (1) n n nf 76 [(0, 2, 337), (1, 2, a1), (3, 0, x3)] [] n M (o)) (fun M x3 => aw_none) (fun w hw M x3 => tb_X12_isHere_76 hu a1 hk1 w hw M x3) FU M 0
  · refine r_iconst dX12_isHere_72 ⟨by decide, by decide⟩ ?_
    exact r_iret rfl rfl (Or.inr ⟨rfl, Or.inl rfl⟩) dX12_isHere_73
set_option maxRecDepth 100000 in
theorem tb_X12_isHere_35 {g : GT} {n nf : Int} (hu : Up false nf n) (a1 : Int) (hk1 : kd a1 = 54) (w35 : Mem → Int → Res) (hw35 : ∀ (M : Mem) (x2 : Int), AW g false RX12 cX12_isHere 4 (some .boolean) (1) n n nf 35 [(0, 2, 337), (1, 2, a1), (2, 0, x2)] [] n M (w35 M x2)) (M : Mem) (x2 : Int) : AW g false RX12 cX12_isHere 4 (some .boolean) (1) n n nf 35 [(0, 2, 337), (1, 2, a1), (2, 0, x2)] [] n M (b_X12_isHere_35 a1 w35 M x2) := by
  unfold b_X12_isHere_35
  refine r_iload_n 2 dX12_isHere_35 rfl rfl ?_
  refine r_aload_n 0 dX12_isHere_36 rfl rfl ?_
  refine r_gf (t := 0) (kz := 3) rfl hu dX12_isHere_37 kF_X12_236 kd_337 rfl rfl rfl ?_
  refine r_icmp_ge (tgt := 61) dX12_isHere_40 rfl (fun h12 => ?_) (fun h13 => ?_)
  · exact tj_X12_isHere_61 hu a1 hk1 M x2
  · refine r_aload_n 0 dX12_isHere_43 rfl rfl ?_
    refine r_gx (kz := 0) rfl hu dX12_isHere_44 kF_X12_7 kd_337 rfl rfl rfl fx_337_0 ?_
    refine r_iload_n 2 dX12_isHere_47 rfl rfl ?_
    refine r_ok (fun h26 => ?_)
    refine r_iald hu dX12_isHere_48 kd_338 rfl (Or.inl rfl) rfl ln_338 h26 ?_
    refine r_ins (a := 0) ⟨Nat.le_refl _, Nat.le_refl _⟩ dX12_isHere_49 kM_X12_243 (by decide) (by decide) [(0, M 338 x2)] rfl (sk := []) rfl (Nat.le_of_ble_eq_true rfl) rfl rfl (m_X12_isLetter hu M (M 338 x2)) (fun r27 M28 => ?_)
    refine r_if_eq (tgt := 61) dX12_isHere_52 rfl (fun h29 => ?_) (fun h30 => ?_)
    · exact tj_X12_isHere_61 hu a1 hk1 M28 x2
    · refine r_iincB 2 dX12_isHere_55 rfl ⟨by have := h26; omega, by have := h26; omega⟩ (by decide) (lf := fun y31 => [(2, 0, y31), (0, 2, 337), (1, 2, a1)]) (fun _ => rfl) (fun y31 ey31 => ?_)
      refine r_goto (tgt := 35) dX12_isHere_58 rfl ?_
      refine r_sub [1, 2, 0] (ls' := [(0, 2, 337), (1, 2, a1), (2, 0, y31)]) rfl ?_
      exact hw35 M28 y31
set_option maxRecDepth 100000 in
theorem m_X12_isHere {g : GT} {n nf : Int} (hu : Up false nf n) (M : Mem) (a1 : Int) (hk1 : kd a1 = 54) : AM g false yX12_isHere cX12_isHere 4 (some .boolean) (1) n n nf [(2, 337), (2, a1)] M (f_X12_isHere M a1) := by
  refine AM_of (by decide +kernel) (Nat.le_of_ble_eq_true rfl) (fun h => absurd h (Int.lt_irrefl n)) ?_
  show AW g false RX12 cX12_isHere 4 (some .boolean) (1) n n nf 0 [(0, 2, 337), (1, 2, a1)] [] n M (f_X12_isHere M a1)
  unfold f_X12_isHere
  refine r_aload_n 0 dX12_isHere_0 rfl rfl ?_
  refine r_gf (t := 0) (kz := 5) rfl hu dX12_isHere_1 kF_X12_227 kd_337 rfl rfl rfl ?_
  refine r_if_ne (tgt := 28) dX12_isHere_4 rfl (fun h1 => ?_) (fun h2 => ?_)
  · refine r_aload_n 0 dX12_isHere_7 rfl rfl ?_
    refine r_inv (a := 337) hu ⟨Nat.le_refl _, Nat.le_refl _⟩ dX12_isHere_8 kM_X12_239 (ci := 12) rfl kd_337 rfl rfl (by decide) (by decide) [] rfl (sk := []) rfl (Nat.le_of_ble_eq_true rfl) rfl rfl (m_X12_look hu M) (fun r3 M4 => ?_)
    refine r_ins (a := 0) ⟨Nat.le_refl _, Nat.le_refl _⟩ dX12_isHere_11 kM_X12_243 (by decide) (by decide) [(0, r3)] rfl (sk := []) rfl (Nat.le_of_ble_eq_true rfl) rfl rfl (m_X12_isLetter hu M4 r3) (fun r5 M6 => ?_)
    refine r_if_eq (tgt := 28) dX12_isHere_14 rfl (fun h7 => ?_) (fun h8 => ?_)
    · refine r_iconst dX12_isHere_28 ⟨by decide, by decide⟩ ?_
      exact r_iret rfl rfl (Or.inr ⟨rfl, Or.inl rfl⟩) dX12_isHere_29
    · refine r_aload_n 0 dX12_isHere_17 rfl rfl ?_
      refine r_gf (t := 0) (kz := 2) rfl hu dX12_isHere_18 kF_X12_233 kd_337 rfl rfl rfl ?_
      refine r_aload_n 0 dX12_isHere_21 rfl rfl ?_
      refine r_gf (t := 0) (kz := 4) rfl hu dX12_isHere_22 kF_X12_247 kd_337 rfl rfl rfl ?_
      refine r_icmp_ne (tgt := 30) dX12_isHere_25 rfl (fun h9 => ?_) (fun h10 => ?_)
      · refine r_iconst dX12_isHere_28 ⟨by decide, by decide⟩ ?_
        exact r_iret rfl rfl (Or.inr ⟨rfl, Or.inl rfl⟩) dX12_isHere_29
      · refine r_aload_n 0 dX12_isHere_30 rfl rfl ?_
        refine r_gf (t := 0) (kz := 2) rfl hu dX12_isHere_31 kF_X12_233 kd_337 rfl rfl rfl ?_
        refine r_istore_nB dX12_isHere_34 rfl (by decide) (lf := fun y11 => [(2, 0, y11), (0, 2, 337), (1, 2, a1)]) (fun _ => rfl) (fun y11 ey11 => ?_)
        refine r_sub [1, 2, 0] (ls' := [(0, 2, 337), (1, 2, a1), (2, 0, y11)]) rfl ?_
        exact wl1_aw (P := fun M x2 o => AW g false RX12 cX12_isHere 4 (some .boolean) (1) n n nf 35 [(0, 2, 337), (1, 2, a1), (2, 0, x2)] [] n M (o)) (fun M x2 => aw_none) (fun w hw M x2 => tb_X12_isHere_35 hu a1 hk1 w hw M x2) FU M6 y11
  · refine r_iconst dX12_isHere_28 ⟨by decide, by decide⟩ ?_
    exact r_iret rfl rfl (Or.inr ⟨rfl, Or.inl rfl⟩) dX12_isHere_29
theorem dX12_takes_0 : decode cX12_takes 0 = .ok (.aload_n 0, 1) := by decide +kernel
theorem dX12_takes_1 : decode cX12_takes 1 = .ok (.aload_n 1, 1) := by decide +kernel
theorem dX12_takes_2 : decode cX12_takes 2 = .ok (.invokevirtual 250, 3) := by decide +kernel
theorem dX12_takes_5 : decode cX12_takes 5 = .ok (.ifCond .ne 5, 3) := by decide +kernel
theorem dX12_takes_8 : decode cX12_takes 8 = .ok (.iconst 0, 1) := by decide +kernel
theorem dX12_takes_9 : decode cX12_takes 9 = .ok (.ireturn, 1) := by decide +kernel
theorem dX12_takes_10 : decode cX12_takes 10 = .ok (.aload_n 0, 1) := by decide +kernel
theorem dX12_takes_11 : decode cX12_takes 11 = .ok (.dup, 1) := by decide +kernel
theorem dX12_takes_12 : decode cX12_takes 12 = .ok (.getfield 233, 3) := by decide +kernel
theorem dX12_takes_15 : decode cX12_takes 15 = .ok (.aload_n 1, 1) := by decide +kernel
theorem dX12_takes_16 : decode cX12_takes 16 = .ok (.arraylength, 1) := by decide +kernel
theorem dX12_takes_17 : decode cX12_takes 17 = .ok (.iadd, 1) := by decide +kernel
theorem dX12_takes_18 : decode cX12_takes 18 = .ok (.putfield 233, 3) := by decide +kernel
theorem dX12_takes_21 : decode cX12_takes 21 = .ok (.aload_n 0, 1) := by decide +kernel
theorem dX12_takes_22 : decode cX12_takes 22 = .ok (.aload_n 0, 1) := by decide +kernel
theorem dX12_takes_23 : decode cX12_takes 23 = .ok (.getfield 233, 3) := by decide +kernel
theorem dX12_takes_26 : decode cX12_takes 26 = .ok (.putfield 247, 3) := by decide +kernel
theorem dX12_takes_29 : decode cX12_takes 29 = .ok (.iconst 1, 1) := by decide +kernel
theorem dX12_takes_30 : decode cX12_takes 30 = .ok (.ireturn, 1) := by decide +kernel
set_option maxRecDepth 100000 in
theorem m_X12_takes {g : GT} {n nf : Int} (hu : Up false nf n) (M : Mem) (a1 : Int) (hk1 : kd a1 = 54) : AM g false yX12_takes cX12_takes 2 (some .boolean) (2) n n nf [(2, 337), (2, a1)] M (f_X12_takes M a1) := by
  refine AM_of (by decide +kernel) (Nat.le_of_ble_eq_true rfl) (fun h => absurd h (Int.lt_irrefl n)) ?_
  show AW g false RX12 cX12_takes 2 (some .boolean) (2) n n nf 0 [(0, 2, 337), (1, 2, a1)] [] n M (f_X12_takes M a1)
  unfold f_X12_takes
  refine r_aload_n 0 dX12_takes_0 rfl rfl ?_
  refine r_aload_n 1 dX12_takes_1 rfl rfl ?_
  refine r_inv (a := 337) hu ⟨Nat.le_refl _, Nat.le_refl _⟩ dX12_takes_2 kM_X12_250 (ci := 12) rfl kd_337 rfl rfl (by decide) (by decide) [(2, a1)] rfl (sk := []) rfl (Nat.le_of_ble_eq_true rfl) rfl rfl (m_X12_isHere hu M a1 hk1) (fun r1 M2 => ?_)
  refine r_if_ne (tgt := 10) dX12_takes_5 rfl (fun h3 => ?_) (fun h4 => ?_)
  · refine r_iconst dX12_takes_8 ⟨by decide, by decide⟩ ?_
    exact r_iret rfl rfl (Or.inr ⟨rfl, Or.inl rfl⟩) dX12_takes_9
  · refine r_aload_n 0 dX12_takes_10 rfl rfl ?_
    refine r_dup dX12_takes_11 (nz2 _) ?_
    refine r_gf (t := 0) (kz := 2) rfl hu dX12_takes_12 kF_X12_233 kd_337 rfl rfl rfl ?_
    refine r_aload_n 1 dX12_takes_15 rfl rfl ?_
    refine r_alen hu dX12_takes_16 hk1 rfl (Or.inr (Or.inr (Or.inr rfl))) rfl rfl (ln_rng _) ?_
    refine r_ok (fun h5 => ?_)
    refine r_iadd dX12_takes_17 h5 ?_
    refine r_pf (t := 0) (kz := 2) rfl hu dX12_takes_18 kF_X12_233 kd_337 rfl rfl rfl (fun h => absurd h (by decide)) rfl kX_12_2 (fun M6 eM6 => ?_)
    refine r_aload_n 0 dX12_takes_21 rfl rfl ?_
    refine r_aload_n 0 dX12_takes_22 rfl rfl ?_
    refine r_gf (t := 0) (kz := 2) rfl hu dX12_takes_23 kF_X12_233 kd_337 rfl rfl rfl ?_
    refine r_pf (t := 0) (kz := 4) rfl hu dX12_takes_26 kF_X12_247 kd_337 rfl rfl rfl (fun h => absurd h (by decide)) rfl kX_12_4 (fun M7 eM7 => ?_)
    refine r_iconst dX12_takes_29 ⟨by decide, by decide⟩ ?_
    exact r_iret rfl rfl (Or.inr ⟨rfl, Or.inr rfl⟩) dX12_takes_30
theorem dX12_asks_0 : decode cX12_asks 0 = .ok (.aload_n 0, 1) := by decide +kernel
theorem dX12_asks_1 : decode cX12_asks 1 = .ok (.getfield 227, 3) := by decide +kernel
theorem dX12_asks_4 : decode cX12_asks 4 = .ok (.ifCond .ne 20, 3) := by decide +kernel
theorem dX12_asks_7 : decode cX12_asks 7 = .ok (.aload_n 0, 1) := by decide +kernel
theorem dX12_asks_8 : decode cX12_asks 8 = .ok (.aload_n 1, 1) := by decide +kernel
theorem dX12_asks_9 : decode cX12_asks 9 = .ok (.invokevirtual 254, 3) := by decide +kernel
theorem dX12_asks_12 : decode cX12_asks 12 = .ok (.ifCond .ne 12, 3) := by decide +kernel
theorem dX12_asks_15 : decode cX12_asks 15 = .ok (.aload_n 0, 1) := by decide +kernel
theorem dX12_asks_16 : decode cX12_asks 16 = .ok (.iconst 1, 1) := by decide +kernel
theorem dX12_asks_17 : decode cX12_asks 17 = .ok (.aload_n 0, 1) := by decide +kernel
theorem dX12_asks_18 : decode cX12_asks 18 = .ok (.getfield 233, 3) := by decide +kernel
theorem dX12_asks_21 : decode cX12_asks 21 = .ok (.invokevirtual 257, 3) := by decide +kernel
theorem dX12_asks_24 : decode cX12_asks 24 = .ok (.return_, 1) := by decide +kernel
set_option maxRecDepth 100000 in
theorem m_X12_asks {g : GT} {n nf : Int} (hu : Up false nf n) (M : Mem) (a1 : Int) (hk1 : kd a1 = 54) : AM g false yX12_asks cX12_asks 2 none (3) n n nf [(2, 337), (2, a1)] M (f_X12_asks M a1) := by
  refine AM_of (by decide +kernel) (Nat.le_of_ble_eq_true rfl) (fun h => absurd h (Int.lt_irrefl n)) ?_
  show AW g false RX12 cX12_asks 2 none (3) n n nf 0 [(0, 2, 337), (1, 2, a1)] [] n M (f_X12_asks M a1)
  unfold f_X12_asks
  refine r_aload_n 0 dX12_asks_0 rfl rfl ?_
  refine r_gf (t := 0) (kz := 5) rfl hu dX12_asks_1 kF_X12_227 kd_337 rfl rfl rfl ?_
  refine r_if_ne (tgt := 24) dX12_asks_4 rfl (fun h1 => ?_) (fun h2 => ?_)
  · refine r_aload_n 0 dX12_asks_7 rfl rfl ?_
    refine r_aload_n 1 dX12_asks_8 rfl rfl ?_
    refine r_inv (a := 337) hu ⟨Nat.le_refl _, Nat.le_refl _⟩ dX12_asks_9 kM_X12_254 (ci := 12) rfl kd_337 rfl rfl (by decide) (by decide) [(2, a1)] rfl (sk := []) rfl (Nat.le_of_ble_eq_true rfl) rfl rfl (m_X12_takes hu M a1 hk1) (fun r3 M4 => ?_)
    refine r_if_ne (tgt := 24) dX12_asks_12 rfl (fun h5 => ?_) (fun h6 => ?_)
    · refine r_aload_n 0 dX12_asks_15 rfl rfl ?_
      refine r_iconst dX12_asks_16 ⟨by decide, by decide⟩ ?_
      refine r_aload_n 0 dX12_asks_17 rfl rfl ?_
      refine r_gf (t := 0) (kz := 2) rfl hu dX12_asks_18 kF_X12_233 kd_337 rfl rfl rfl ?_
      refine r_invv (a := 337) hu ⟨Nat.le_refl _, Nat.le_refl _⟩ dX12_asks_21 kM_X12_257 (ci := 12) rfl kd_337 rfl rfl (by decide) (by decide) [(0, 1), (0, M4 337 2)] rfl (sk := []) rfl (Nat.le_of_ble_eq_true rfl) rfl (m_X12_fail hu M4 1 (M4 337 2)) (fun r7 M8 => ?_)
      exact r_vret rfl rfl dX12_asks_24
    · exact r_vret rfl rfl dX12_asks_24
  · exact r_vret rfl rfl dX12_asks_24
theorem dX12_takesSign_0 : decode cX12_takesSign 0 = .ok (.aload_n 0, 1) := by decide +kernel
theorem dX12_takesSign_1 : decode cX12_takesSign 1 = .ok (.getfield 227, 3) := by decide +kernel
theorem dX12_takesSign_4 : decode cX12_takesSign 4 = .ok (.ifCond .ne 11, 3) := by decide +kernel
theorem dX12_takesSign_7 : decode cX12_takesSign 7 = .ok (.aload_n 0, 1) := by decide +kernel
theorem dX12_takesSign_8 : decode cX12_takesSign 8 = .ok (.invokevirtual 239, 3) := by decide +kernel
theorem dX12_takesSign_11 : decode cX12_takesSign 11 = .ok (.iload_n 1, 1) := by decide +kernel
theorem dX12_takesSign_12 : decode cX12_takesSign 12 = .ok (.if_icmp .eq 5, 3) := by decide +kernel
theorem dX12_takesSign_15 : decode cX12_takesSign 15 = .ok (.iconst 0, 1) := by decide +kernel
theorem dX12_takesSign_16 : decode cX12_takesSign 16 = .ok (.ireturn, 1) := by decide +kernel
theorem dX12_takesSign_17 : decode cX12_takesSign 17 = .ok (.aload_n 0, 1) := by decide +kernel
theorem dX12_takesSign_18 : decode cX12_takesSign 18 = .ok (.dup, 1) := by decide +kernel
theorem dX12_takesSign_19 : decode cX12_takesSign 19 = .ok (.getfield 233, 3) := by decide +kernel
theorem dX12_takesSign_22 : decode cX12_takesSign 22 = .ok (.iconst 1, 1) := by decide +kernel
theorem dX12_takesSign_23 : decode cX12_takesSign 23 = .ok (.iadd, 1) := by decide +kernel
theorem dX12_takesSign_24 : decode cX12_takesSign 24 = .ok (.putfield 233, 3) := by decide +kernel
theorem dX12_takesSign_27 : decode cX12_takesSign 27 = .ok (.iconst 1, 1) := by decide +kernel
theorem dX12_takesSign_28 : decode cX12_takesSign 28 = .ok (.ireturn, 1) := by decide +kernel
set_option maxRecDepth 100000 in
theorem m_X12_takesSign {g : GT} {n nf : Int} (hu : Up false nf n) (M : Mem) (a1 : Int) : AM g false yX12_takesSign cX12_takesSign 2 (some .boolean) (1) n n nf [(2, 337), (0, a1)] M (f_X12_takesSign M a1) := by
  refine AM_of (by decide +kernel) (Nat.le_of_ble_eq_true rfl) (fun h => absurd h (Int.lt_irrefl n)) ?_
  show AW g false RX12 cX12_takesSign 2 (some .boolean) (1) n n nf 0 [(0, 2, 337), (1, 0, a1)] [] n M (f_X12_takesSign M a1)
  unfold f_X12_takesSign
  refine r_aload_n 0 dX12_takesSign_0 rfl rfl ?_
  refine r_gf (t := 0) (kz := 5) rfl hu dX12_takesSign_1 kF_X12_227 kd_337 rfl rfl rfl ?_
  refine r_if_ne (tgt := 15) dX12_takesSign_4 rfl (fun h1 => ?_) (fun h2 => ?_)
  · refine r_aload_n 0 dX12_takesSign_7 rfl rfl ?_
    refine r_inv (a := 337) hu ⟨Nat.le_refl _, Nat.le_refl _⟩ dX12_takesSign_8 kM_X12_239 (ci := 12) rfl kd_337 rfl rfl (by decide) (by decide) [] rfl (sk := []) rfl (Nat.le_of_ble_eq_true rfl) rfl rfl (m_X12_look hu M) (fun r3 M4 => ?_)
    refine r_iload_n 1 dX12_takesSign_11 rfl rfl ?_
    refine r_icmp_eq (tgt := 17) dX12_takesSign_12 rfl (fun h5 => ?_) (fun h6 => ?_)
    · refine r_aload_n 0 dX12_takesSign_17 rfl rfl ?_
      refine r_dup dX12_takesSign_18 (nz2 _) ?_
      refine r_gf (t := 0) (kz := 2) rfl hu dX12_takesSign_19 kF_X12_233 kd_337 rfl rfl rfl ?_
      refine r_iconst dX12_takesSign_22 ⟨by decide, by decide⟩ ?_
      refine r_ok (fun h7 => ?_)
      refine r_iadd dX12_takesSign_23 h7 ?_
      refine r_pf (t := 0) (kz := 2) rfl hu dX12_takesSign_24 kF_X12_233 kd_337 rfl rfl rfl (fun h => absurd h (by decide)) rfl kX_12_2 (fun M8 eM8 => ?_)
      refine r_iconst dX12_takesSign_27 ⟨by decide, by decide⟩ ?_
      exact r_iret rfl rfl (Or.inr ⟨rfl, Or.inr rfl⟩) dX12_takesSign_28
    · refine r_iconst dX12_takesSign_15 ⟨by decide, by decide⟩ ?_
      exact r_iret rfl rfl (Or.inr ⟨rfl, Or.inl rfl⟩) dX12_takesSign_16
  · refine r_iconst dX12_takesSign_15 ⟨by decide, by decide⟩ ?_
    exact r_iret rfl rfl (Or.inr ⟨rfl, Or.inl rfl⟩) dX12_takesSign_16
theorem dX12_asksSign_0 : decode cX12_asksSign 0 = .ok (.aload_n 0, 1) := by decide +kernel
theorem dX12_asksSign_1 : decode cX12_asksSign 1 = .ok (.getfield 227, 3) := by decide +kernel
theorem dX12_asksSign_4 : decode cX12_asksSign 4 = .ok (.ifCond .ne 20, 3) := by decide +kernel
theorem dX12_asksSign_7 : decode cX12_asksSign 7 = .ok (.aload_n 0, 1) := by decide +kernel
theorem dX12_asksSign_8 : decode cX12_asksSign 8 = .ok (.iload_n 1, 1) := by decide +kernel
theorem dX12_asksSign_9 : decode cX12_asksSign 9 = .ok (.invokevirtual 261, 3) := by decide +kernel
theorem dX12_asksSign_12 : decode cX12_asksSign 12 = .ok (.ifCond .ne 12, 3) := by decide +kernel
theorem dX12_asksSign_15 : decode cX12_asksSign 15 = .ok (.aload_n 0, 1) := by decide +kernel
theorem dX12_asksSign_16 : decode cX12_asksSign 16 = .ok (.iconst 1, 1) := by decide +kernel
theorem dX12_asksSign_17 : decode cX12_asksSign 17 = .ok (.aload_n 0, 1) := by decide +kernel
theorem dX12_asksSign_18 : decode cX12_asksSign 18 = .ok (.getfield 233, 3) := by decide +kernel
theorem dX12_asksSign_21 : decode cX12_asksSign 21 = .ok (.invokevirtual 257, 3) := by decide +kernel
theorem dX12_asksSign_24 : decode cX12_asksSign 24 = .ok (.return_, 1) := by decide +kernel
set_option maxRecDepth 100000 in
theorem m_X12_asksSign {g : GT} {n nf : Int} (hu : Up false nf n) (M : Mem) (a1 : Int) : AM g false yX12_asksSign cX12_asksSign 2 none (2) n n nf [(2, 337), (0, a1)] M (f_X12_asksSign M a1) := by
  refine AM_of (by decide +kernel) (Nat.le_of_ble_eq_true rfl) (fun h => absurd h (Int.lt_irrefl n)) ?_
  show AW g false RX12 cX12_asksSign 2 none (2) n n nf 0 [(0, 2, 337), (1, 0, a1)] [] n M (f_X12_asksSign M a1)
  unfold f_X12_asksSign
  refine r_aload_n 0 dX12_asksSign_0 rfl rfl ?_
  refine r_gf (t := 0) (kz := 5) rfl hu dX12_asksSign_1 kF_X12_227 kd_337 rfl rfl rfl ?_
  refine r_if_ne (tgt := 24) dX12_asksSign_4 rfl (fun h1 => ?_) (fun h2 => ?_)
  · refine r_aload_n 0 dX12_asksSign_7 rfl rfl ?_
    refine r_iload_n 1 dX12_asksSign_8 rfl rfl ?_
    refine r_inv (a := 337) hu ⟨Nat.le_refl _, Nat.le_refl _⟩ dX12_asksSign_9 kM_X12_261 (ci := 12) rfl kd_337 rfl rfl (by decide) (by decide) [(0, a1)] rfl (sk := []) rfl (Nat.le_of_ble_eq_true rfl) rfl rfl (m_X12_takesSign hu M a1) (fun r3 M4 => ?_)
    refine r_if_ne (tgt := 24) dX12_asksSign_12 rfl (fun h5 => ?_) (fun h6 => ?_)
    · refine r_aload_n 0 dX12_asksSign_15 rfl rfl ?_
      refine r_iconst dX12_asksSign_16 ⟨by decide, by decide⟩ ?_
      refine r_aload_n 0 dX12_asksSign_17 rfl rfl ?_
      refine r_gf (t := 0) (kz := 2) rfl hu dX12_asksSign_18 kF_X12_233 kd_337 rfl rfl rfl ?_
      refine r_invv (a := 337) hu ⟨Nat.le_refl _, Nat.le_refl _⟩ dX12_asksSign_21 kM_X12_257 (ci := 12) rfl kd_337 rfl rfl (by decide) (by decide) [(0, 1), (0, M4 337 2)] rfl (sk := []) rfl (Nat.le_of_ble_eq_true rfl) rfl (m_X12_fail hu M4 1 (M4 337 2)) (fun r7 M8 => ?_)
      exact r_vret rfl rfl dX12_asksSign_24
    · exact r_vret rfl rfl dX12_asksSign_24
  · exact r_vret rfl rfl dX12_asksSign_24
theorem dX12_number_0 : decode cX12_number 0 = .ok (.aload_n 0, 1) := by decide +kernel
theorem dX12_number_1 : decode cX12_number 1 = .ok (.getfield 227, 3) := by decide +kernel
theorem dX12_number_4 : decode cX12_number 4 = .ok (.ifCond .eq 5, 3) := by decide +kernel
theorem dX12_number_7 : decode cX12_number 7 = .ok (.iconst 0, 1) := by decide +kernel
theorem dX12_number_8 : decode cX12_number 8 = .ok (.ireturn, 1) := by decide +kernel
theorem dX12_number_9 : decode cX12_number 9 = .ok (.aload_n 0, 1) := by decide +kernel
theorem dX12_number_10 : decode cX12_number 10 = .ok (.invokevirtual 239, 3) := by decide +kernel
theorem dX12_number_13 : decode cX12_number 13 = .ok (.invokestatic 264, 3) := by decide +kernel
theorem dX12_number_16 : decode cX12_number 16 = .ok (.ifCond .eq 14, 3) := by decide +kernel
theorem dX12_number_19 : decode cX12_number 19 = .ok (.aload_n 0, 1) := by decide +kernel
theorem dX12_number_20 : decode cX12_number 20 = .ok (.getfield 233, 3) := by decide +kernel
theorem dX12_number_23 : decode cX12_number 23 = .ok (.aload_n 0, 1) := by decide +kernel
theorem dX12_number_24 : decode cX12_number 24 = .ok (.getfield 247, 3) := by decide +kernel
theorem dX12_number_27 : decode cX12_number 27 = .ok (.if_icmp .ne 14, 3) := by decide +kernel
theorem dX12_number_30 : decode cX12_number 30 = .ok (.aload_n 0, 1) := by decide +kernel
theorem dX12_number_31 : decode cX12_number 31 = .ok (.iconst 1, 1) := by decide +kernel
theorem dX12_number_32 : decode cX12_number 32 = .ok (.aload_n 0, 1) := by decide +kernel
theorem dX12_number_33 : decode cX12_number 33 = .ok (.getfield 233, 3) := by decide +kernel
theorem dX12_number_36 : decode cX12_number 36 = .ok (.invokevirtual 257, 3) := by decide +kernel
theorem dX12_number_39 : decode cX12_number 39 = .ok (.iconst 0, 1) := by decide +kernel
theorem dX12_number_40 : decode cX12_number 40 = .ok (.ireturn, 1) := by decide +kernel
theorem dX12_number_41 : decode cX12_number 41 = .ok (.aload_n 0, 1) := by decide +kernel
theorem dX12_number_42 : decode cX12_number 42 = .ok (.getfield 233, 3) := by decide +kernel
theorem dX12_number_45 : decode cX12_number 45 = .ok (.istore_n 3, 1) := by decide +kernel
theorem dX12_number_46 : decode cX12_number 46 = .ok (.iconst 0, 1) := by decide +kernel
theorem dX12_number_47 : decode cX12_number 47 = .ok (.istore 4, 2) := by decide +kernel
theorem dX12_number_49 : decode cX12_number 49 = .ok (.aload_n 0, 1) := by decide +kernel
theorem dX12_number_50 : decode cX12_number 50 = .ok (.getfield 233, 3) := by decide +kernel
theorem dX12_number_53 : decode cX12_number 53 = .ok (.aload_n 0, 1) := by decide +kernel
theorem dX12_number_54 : decode cX12_number 54 = .ok (.getfield 236, 3) := by decide +kernel
theorem dX12_number_57 : decode cX12_number 57 = .ok (.if_icmp .ge 72, 3) := by decide +kernel
theorem dX12_number_60 : decode cX12_number 60 = .ok (.aload_n 0, 1) := by decide +kernel
theorem dX12_number_61 : decode cX12_number 61 = .ok (.getfield 7, 3) := by decide +kernel
theorem dX12_number_64 : decode cX12_number 64 = .ok (.aload_n 0, 1) := by decide +kernel
theorem dX12_number_65 : decode cX12_number 65 = .ok (.getfield 233, 3) := by decide +kernel
theorem dX12_number_68 : decode cX12_number 68 = .ok (.iaload, 1) := by decide +kernel
theorem dX12_number_69 : decode cX12_number 69 = .ok (.invokestatic 264, 3) := by decide +kernel
theorem dX12_number_72 : decode cX12_number 72 = .ok (.ifCond .eq 57, 3) := by decide +kernel
theorem dX12_number_75 : decode cX12_number 75 = .ok (.aload_n 0, 1) := by decide +kernel
theorem dX12_number_76 : decode cX12_number 76 = .ok (.getfield 233, 3) := by decide +kernel
theorem dX12_number_79 : decode cX12_number 79 = .ok (.iload_n 3, 1) := by decide +kernel
theorem dX12_number_80 : decode cX12_number 80 = .ok (.isub, 1) := by decide +kernel
theorem dX12_number_81 : decode cX12_number 81 = .ok (.iconst 4, 1) := by decide +kernel
theorem dX12_number_82 : decode cX12_number 82 = .ok (.if_icmp .ne 14, 3) := by decide +kernel
theorem dX12_number_85 : decode cX12_number 85 = .ok (.aload_n 0, 1) := by decide +kernel
theorem dX12_number_86 : decode cX12_number 86 = .ok (.iconst 1, 1) := by decide +kernel
theorem dX12_number_87 : decode cX12_number 87 = .ok (.aload_n 0, 1) := by decide +kernel
theorem dX12_number_88 : decode cX12_number 88 = .ok (.getfield 233, 3) := by decide +kernel
theorem dX12_number_91 : decode cX12_number 91 = .ok (.invokevirtual 257, 3) := by decide +kernel
theorem dX12_number_94 : decode cX12_number 94 = .ok (.iconst 0, 1) := by decide +kernel
theorem dX12_number_95 : decode cX12_number 95 = .ok (.ireturn, 1) := by decide +kernel
theorem dX12_number_96 : decode cX12_number 96 = .ok (.bipush 10, 2) := by decide +kernel
theorem dX12_number_98 : decode cX12_number 98 = .ok (.iload 4, 2) := by decide +kernel
theorem dX12_number_100 : decode cX12_number 100 = .ok (.imul, 1) := by decide +kernel
theorem dX12_number_101 : decode cX12_number 101 = .ok (.aload_n 0, 1) := by decide +kernel
theorem dX12_number_102 : decode cX12_number 102 = .ok (.getfield 7, 3) := by decide +kernel
theorem dX12_number_105 : decode cX12_number 105 = .ok (.aload_n 0, 1) := by decide +kernel
theorem dX12_number_106 : decode cX12_number 106 = .ok (.getfield 233, 3) := by decide +kernel
theorem dX12_number_109 : decode cX12_number 109 = .ok (.iaload, 1) := by decide +kernel
theorem dX12_number_110 : decode cX12_number 110 = .ok (.iadd, 1) := by decide +kernel
theorem dX12_number_111 : decode cX12_number 111 = .ok (.bipush 48, 2) := by decide +kernel
theorem dX12_number_113 : decode cX12_number 113 = .ok (.isub, 1) := by decide +kernel
theorem dX12_number_114 : decode cX12_number 114 = .ok (.istore 4, 2) := by decide +kernel
theorem dX12_number_116 : decode cX12_number 116 = .ok (.aload_n 0, 1) := by decide +kernel
theorem dX12_number_117 : decode cX12_number 117 = .ok (.dup, 1) := by decide +kernel
theorem dX12_number_118 : decode cX12_number 118 = .ok (.getfield 233, 3) := by decide +kernel
theorem dX12_number_121 : decode cX12_number 121 = .ok (.iconst 1, 1) := by decide +kernel
theorem dX12_number_122 : decode cX12_number 122 = .ok (.iadd, 1) := by decide +kernel
theorem dX12_number_123 : decode cX12_number 123 = .ok (.putfield 233, 3) := by decide +kernel
theorem dX12_number_126 : decode cX12_number 126 = .ok (.goto (-77), 3) := by decide +kernel
theorem dX12_number_129 : decode cX12_number 129 = .ok (.aload_n 0, 1) := by decide +kernel
theorem dX12_number_130 : decode cX12_number 130 = .ok (.aload_n 0, 1) := by decide +kernel
theorem dX12_number_131 : decode cX12_number 131 = .ok (.getfield 233, 3) := by decide +kernel
theorem dX12_number_134 : decode cX12_number 134 = .ok (.putfield 247, 3) := by decide +kernel
theorem dX12_number_137 : decode cX12_number 137 = .ok (.iload 4, 2) := by decide +kernel
theorem dX12_number_139 : decode cX12_number 139 = .ok (.i2l, 1) := by decide +kernel
theorem dX12_number_140 : decode cX12_number 140 = .ok (.iload_n 1, 1) := by decide +kernel
theorem dX12_number_141 : decode cX12_number 141 = .ok (.i2l, 1) := by decide +kernel
theorem dX12_number_142 : decode cX12_number 142 = .ok (.iload_n 2, 1) := by decide +kernel
theorem dX12_number_143 : decode cX12_number 143 = .ok (.i2l, 1) := by decide +kernel
theorem dX12_number_144 : decode cX12_number 144 = .ok (.invokestatic 267, 3) := by decide +kernel
theorem dX12_number_147 : decode cX12_number 147 = .ok (.ifCond .ne 9, 3) := by decide +kernel
theorem dX12_number_150 : decode cX12_number 150 = .ok (.aload_n 0, 1) := by decide +kernel
theorem dX12_number_151 : decode cX12_number 151 = .ok (.iconst 2, 1) := by decide +kernel
theorem dX12_number_152 : decode cX12_number 152 = .ok (.iload_n 3, 1) := by decide +kernel
theorem dX12_number_153 : decode cX12_number 153 = .ok (.invokevirtual 257, 3) := by decide +kernel
theorem dX12_number_156 : decode cX12_number 156 = .ok (.iload 4, 2) := by decide +kernel
theorem dX12_number_158 : decode cX12_number 158 = .ok (.ireturn, 1) := by decide +kernel
set_option maxRecDepth 100000 in
theorem tj_X12_number_30 {g : GT} {n nf : Int} (hu : Up false nf n) (M : Mem) : AW g false RX12 cX12_number 5 (some .int) (1) n n nf 30 [(0, 2, 337)] [] n M (j_X12_number_30 M) := by
  unfold j_X12_number_30
  refine r_aload_n 0 dX12_number_30 rfl rfl ?_
  refine r_iconst dX12_number_31 ⟨by decide, by decide⟩ ?_
  refine r_aload_n 0 dX12_number_32 rfl rfl ?_
  refine r_gf (t := 0) (kz := 2) rfl hu dX12_number_33 kF_X12_233 kd_337 rfl rfl rfl ?_
  refine r_invv (a := 337) hu ⟨Nat.le_refl _, Nat.le_refl _⟩ dX12_number_36 kM_X12_257 (ci := 12) rfl kd_337 rfl rfl (by decide) (by decide) [(0, 1), (0, M 337 2)] rfl (sk := []) rfl (Nat.le_of_ble_eq_true rfl) rfl (m_X12_fail hu M 1 (M 337 2)) (fun r9 M10 => ?_)
  refine r_iconst dX12_number_39 ⟨by decide, by decide⟩ ?_
  exact r_iret rfl rfl (Or.inl rfl) dX12_number_40
set_option maxRecDepth 100000 in
theorem tj_X12_number_129 {g : GT} {n nf : Int} (hu : Up false nf n) (a1 a2 : Int) (M : Mem) (x3 x4 : Int) : AW g false RX12 cX12_number 5 (some .int) (1) n n nf 129 [(0, 2, 337), (1, 0, a1), (2, 0, a2), (3, 0, x3), (4, 0, x4)] [] n M (j_X12_number_129 a1 a2 M x3 x4) := by
  unfold j_X12_number_129
  refine r_aload_n 0 dX12_number_129 rfl rfl ?_
  refine r_aload_n 0 dX12_number_130 rfl rfl ?_
  refine r_gf (t := 0) (kz := 2) rfl hu dX12_number_131 kF_X12_233 kd_337 rfl rfl rfl ?_
  refine r_pf (t := 0) (kz := 4) rfl hu dX12_number_134 kF_X12_247 kd_337 rfl rfl rfl (fun h => absurd h (by decide)) rfl kX_12_4 (fun M16 eM16 => ?_)
  refine r_iload 4 dX12_number_137 rfl ?_
  refine r_i2l dX12_number_139 ?_
  refine r_iload_n 1 dX12_number_140 rfl rfl ?_
  refine r_i2l dX12_number_141 ?_
  refine r_iload_n 2 dX12_number_142 rfl rfl ?_
  refine r_i2l dX12_number_143 ?_
  refine r_ins (a := 0) ⟨Nat.le_refl _, Nat.le_refl _⟩ dX12_number_144 kM_X12_267 (by decide) (by decide) [(1, x4), (1, a1), (1, a2)] rfl (sk := []) rfl (Nat.le_of_ble_eq_true rfl) rfl rfl (m_X12_isIn hu M16 x4 a1 a2) (fun r17 M18 => ?_)
  refine r_if_ne (tgt := 156) dX12_number_147 rfl (fun h19 => ?_) (fun h20 => ?_)
  · refine r_aload_n 0 dX12_number_150 rfl rfl ?_
    refine r_iconst dX12_number_151 ⟨by decide, by decide⟩ ?_
    refine r_iload_n 3 dX12_number_152 rfl rfl ?_
    refine r_invv (a := 337) hu ⟨Nat.le_refl _, Nat.le_refl _⟩ dX12_number_153 kM_X12_257 (ci := 12) rfl kd_337 rfl rfl (by decide) (by decide) [(0, 2), (0, x3)] rfl (sk := []) rfl (Nat.le_of_ble_eq_true rfl) rfl (m_X12_fail hu M18 2 x3) (fun r21 M22 => ?_)
    refine r_iload 4 dX12_number_156 rfl ?_
    exact r_iret rfl rfl (Or.inl rfl) dX12_number_158
  · refine r_iload 4 dX12_number_156 rfl ?_
    exact r_iret rfl rfl (Or.inl rfl) dX12_number_158
set_option maxRecDepth 100000 in
theorem tb_X12_number_49 {g : GT} {n nf : Int} (hu : Up false nf n) (a1 a2 : Int) (w49 : Mem → Int → Int → Res) (hw49 : ∀ (M : Mem) (x3 x4 : Int), AW g false RX12 cX12_number 5 (some .int) (1) n n nf 49 [(0, 2, 337), (1, 0, a1), (2, 0, a2), (3, 0, x3), (4, 0, x4)] [] n M (w49 M x3 x4)) (M : Mem) (x3 x4 : Int) : AW g false RX12 cX12_number 5 (some .int) (1) n n nf 49 [(0, 2, 337), (1, 0, a1), (2, 0, a2), (3, 0, x3), (4, 0, x4)] [] n M (b_X12_number_49 a1 a2 w49 M x3 x4) := by
  unfold b_X12_number_49
  refine r_aload_n 0 dX12_number_49 rfl rfl ?_
  refine r_gf (t := 0) (kz := 2) rfl hu dX12_number_50 kF_X12_233 kd_337 rfl rfl rfl ?_
  refine r_aload_n 0 dX12_number_53 rfl rfl ?_
  refine r_gf (t := 0) (kz := 3) rfl hu dX12_number_54 kF_X12_236 kd_337 rfl rfl rfl ?_
  refine r_icmp_ge (tgt := 129) dX12_number_57 rfl (fun h14 => ?_) (fun h15 => ?_)
  · exact tj_X12_number_129 hu a1 a2 M x3 x4
  · refine r_aload_n 0 dX12_number_60 rfl rfl ?_
    refine r_gx (kz := 0) rfl hu dX12_number_61 kF_X12_7 kd_337 rfl rfl rfl fx_337_0 ?_
    refine r_aload_n 0 dX12_number_64 rfl rfl ?_
    refine r_gf (t := 0) (kz := 2) rfl hu dX12_number_65 kF_X12_233 kd_337 rfl rfl rfl ?_
    refine r_ok (fun h23 => ?_)
    refine r_iald hu dX12_number_68 kd_338 rfl (Or.inl rfl) rfl ln_338 h23 ?_
    refine r_ins (a := 0) ⟨Nat.le_refl _, Nat.le_refl _⟩ dX12_number_69 kM_X12_264 (by decide) (by decide) [(0, M 338 (M 337 2))] rfl (sk := []) rfl (Nat.le_of_ble_eq_true rfl) rfl rfl (m_X12_isDigit hu M (M 338 (M 337 2))) (fun r24 M25 => ?_)
    refine r_if_eq (tgt := 129) dX12_number_72 rfl (fun h26 => ?_) (fun h27 => ?_)
    · exact tj_X12_number_129 hu a1 a2 M25 x3 x4
    · refine r_aload_n 0 dX12_number_75 rfl rfl ?_
      refine r_gf (t := 0) (kz := 2) rfl hu dX12_number_76 kF_X12_233 kd_337 rfl rfl rfl ?_
      refine r_iload_n 3 dX12_number_79 rfl rfl ?_
      refine r_ok (fun h28 => ?_)
      refine r_isub dX12_number_80 h28 ?_
      refine r_iconst dX12_number_81 ⟨by decide, by decide⟩ ?_
      refine r_icmp_ne (tgt := 96) dX12_number_82 rfl (fun h29 => ?_) (fun h30 => ?_)
      · refine r_aload_n 0 dX12_number_85 rfl rfl ?_
        refine r_iconst dX12_number_86 ⟨by decide, by decide⟩ ?_
        refine r_aload_n 0 dX12_number_87 rfl rfl ?_
        refine r_gf (t := 0) (kz := 2) rfl hu dX12_number_88 kF_X12_233 kd_337 rfl rfl rfl ?_
        refine r_invv (a := 337) hu ⟨Nat.le_refl _, Nat.le_refl _⟩ dX12_number_91 kM_X12_257 (ci := 12) rfl kd_337 rfl rfl (by decide) (by decide) [(0, 1), (0, M25 337 2)] rfl (sk := []) rfl (Nat.le_of_ble_eq_true rfl) rfl (m_X12_fail hu M25 1 (M25 337 2)) (fun r31 M32 => ?_)
        refine r_iconst dX12_number_94 ⟨by decide, by decide⟩ ?_
        exact r_iret rfl rfl (Or.inl rfl) dX12_number_95
      · refine r_bipush dX12_number_96 (by decide) ⟨by decide, by decide⟩ ?_
        refine r_iload 4 dX12_number_98 rfl ?_
        refine r_ok (fun h33 => ?_)
        refine r_imul dX12_number_100 h33 ?_
        refine r_aload_n 0 dX12_number_101 rfl rfl ?_
        refine r_gx (kz := 0) rfl hu dX12_number_102 kF_X12_7 kd_337 rfl rfl rfl fx_337_0 ?_
        refine r_aload_n 0 dX12_number_105 rfl rfl ?_
        refine r_gf (t := 0) (kz := 2) rfl hu dX12_number_106 kF_X12_233 kd_337 rfl rfl rfl ?_
        refine r_ok (fun h34 => ?_)
        refine r_iald hu dX12_number_109 kd_338 rfl (Or.inl rfl) rfl ln_338 h34 ?_
        refine r_ok (fun h35 => ?_)
        refine r_iadd dX12_number_110 h35 ?_
        refine r_bipush dX12_number_111 (by decide) ⟨by decide, by decide⟩ ?_
        refine r_ok (fun h36 => ?_)
        refine r_isub dX12_number_113 h36 ?_
        refine r_istoreB dX12_number_114 (by decide) (lf := fun y37 => [(4, 0, y37), (0, 2, 337), (1, 0, a1), (2, 0, a2), (3, 0, x3)]) (fun _ => rfl) (fun y37 ey37 => ?_)
        refine r_aload_n 1 dX12_number_116 rfl rfl ?_
        refine r_dup dX12_number_117 (nz2 _) ?_
        refine r_gf (t := 0) (kz := 2) rfl hu dX12_number_118 kF_X12_233 kd_337 rfl rfl rfl ?_
        refine r_iconst dX12_number_121 ⟨by decide, by decide⟩ ?_
        refine r_iadd dX12_number_122 ⟨by have := h34; omega, by have := h34; omega⟩ ?_
        refine r_pf (t := 0) (kz := 2) rfl hu dX12_number_123 kF_X12_233 kd_337 rfl rfl rfl (fun h => absurd h (by decide)) rfl kX_12_2 (fun M38 eM38 => ?_)
        refine r_goto (tgt := 49) dX12_number_126 rfl ?_
        refine r_sub [1, 2, 3, 4, 0] (ls' := [(0, 2, 337), (1, 0, a1), (2, 0, a2), (3, 0, x3), (4, 0, y37)]) rfl ?_
        exact hw49 M38 x3 y37
set_option maxRecDepth 100000 in
theorem m_X12_number {g : GT} {n nf : Int} (hu : Up false nf n) (M : Mem) (a1 a2 : Int) : AM g false yX12_number cX12_number 5 (some .int) (1) n n nf [(2, 337), (0, a1), (0, a2)] M (f_X12_number M a1 a2) := by
  refine AM_of (by decide +kernel) (Nat.le_of_ble_eq_true rfl) (fun h => absurd h (Int.lt_irrefl n)) ?_
  show AW g false RX12 cX12_number 5 (some .int) (1) n n nf 0 [(0, 2, 337), (1, 0, a1), (2, 0, a2)] [] n M (f_X12_number M a1 a2)
  unfold f_X12_number
  refine r_aload_n 0 dX12_number_0 rfl rfl ?_
  refine r_gf (t := 0) (kz := 5) rfl hu dX12_number_1 kF_X12_227 kd_337 rfl rfl rfl ?_
  refine r_if_eq (tgt := 9) dX12_number_4 rfl (fun h1 => ?_) (fun h2 => ?_)
  · refine r_aload_n 0 dX12_number_9 rfl rfl ?_
    refine r_inv (a := 337) hu ⟨Nat.le_refl _, Nat.le_refl _⟩ dX12_number_10 kM_X12_239 (ci := 12) rfl kd_337 rfl rfl (by decide) (by decide) [] rfl (sk := []) rfl (Nat.le_of_ble_eq_true rfl) rfl rfl (m_X12_look hu M) (fun r3 M4 => ?_)
    refine r_ins (a := 0) ⟨Nat.le_refl _, Nat.le_refl _⟩ dX12_number_13 kM_X12_264 (by decide) (by decide) [(0, r3)] rfl (sk := []) rfl (Nat.le_of_ble_eq_true rfl) rfl rfl (m_X12_isDigit hu M4 r3) (fun r5 M6 => ?_)
    refine r_if_eq (tgt := 30) dX12_number_16 rfl (fun h7 => ?_) (fun h8 => ?_)
    · refine r_sub [0] (ls' := [(0, 2, 337)]) rfl ?_
      exact tj_X12_number_30 hu M6
    · refine r_aload_n 0 dX12_number_19 rfl rfl ?_
      refine r_gf (t := 0) (kz := 2) rfl hu dX12_number_20 kF_X12_233 kd_337 rfl rfl rfl ?_
      refine r_aload_n 0 dX12_number_23 rfl rfl ?_
      refine r_gf (t := 0) (kz := 4) rfl hu dX12_number_24 kF_X12_247 kd_337 rfl rfl rfl ?_
      refine r_icmp_ne (tgt := 41) dX12_number_27 rfl (fun h11 => ?_) (fun h12 => ?_)
      · refine r_sub [0] (ls' := [(0, 2, 337)]) rfl ?_
        exact tj_X12_number_30 hu M6
      · refine r_aload_n 0 dX12_number_41 rfl rfl ?_
        refine r_gf (t := 0) (kz := 2) rfl hu dX12_number_42 kF_X12_233 kd_337 rfl rfl rfl ?_
        refine r_istore_nB dX12_number_45 rfl (by decide) (lf := fun y13 => [(3, 0, y13), (0, 2, 337), (1, 0, a1), (2, 0, a2)]) (fun _ => rfl) (fun y13 ey13 => ?_)
        refine r_iconst dX12_number_46 ⟨by decide, by decide⟩ ?_
        refine r_istore dX12_number_47 (by decide) (ls' := [(4, 0, 0), (3, 0, y13), (0, 2, 337), (1, 0, a1), (2, 0, a2)]) rfl ?_
        refine r_sub [2, 3, 4, 1, 0] (ls' := [(0, 2, 337), (1, 0, a1), (2, 0, a2), (3, 0, y13), (4, 0, 0)]) rfl ?_
        exact wl2_aw (P := fun M x3 x4 o => AW g false RX12 cX12_number 5 (some .int) (1) n n nf 49 [(0, 2, 337), (1, 0, a1), (2, 0, a2), (3, 0, x3), (4, 0, x4)] [] n M (o)) (fun M x3 x4 => aw_none) (fun w hw M x3 x4 => tb_X12_number_49 hu a1 a2 w hw M x3 x4) FU M6 y13 0
  · refine r_iconst dX12_number_7 ⟨by decide, by decide⟩ ?_
    exact r_iret rfl rfl (Or.inl rfl) dX12_number_8
theorem dX12_isOwnHere_0 : decode cX12_isOwnHere 0 = .ok (.aload_n 0, 1) := by decide +kernel
theorem dX12_isOwnHere_1 : decode cX12_isOwnHere 1 = .ok (.aload_n 0, 1) := by decide +kernel
theorem dX12_isOwnHere_2 : decode cX12_isOwnHere 2 = .ok (.getfield 17, 3) := by decide +kernel
theorem dX12_isOwnHere_5 : decode cX12_isOwnHere 5 = .ok (.invokevirtual 250, 3) := by decide +kernel
theorem dX12_isOwnHere_8 : decode cX12_isOwnHere 8 = .ok (.ifCond .ne 102, 3) := by decide +kernel
theorem dX12_isOwnHere_11 : decode cX12_isOwnHere 11 = .ok (.aload_n 0, 1) := by decide +kernel
theorem dX12_isOwnHere_12 : decode cX12_isOwnHere 12 = .ok (.aload_n 0, 1) := by decide +kernel
theorem dX12_isOwnHere_13 : decode cX12_isOwnHere 13 = .ok (.getfield 21, 3) := by decide +kernel
theorem dX12_isOwnHere_16 : decode cX12_isOwnHere 16 = .ok (.invokevirtual 250, 3) := by decide +kernel
theorem dX12_isOwnHere_19 : decode cX12_isOwnHere 19 = .ok (.ifCond .ne 91, 3) := by decide +kernel
theorem dX12_isOwnHere_22 : decode cX12_isOwnHere 22 = .ok (.aload_n 0, 1) := by decide +kernel
theorem dX12_isOwnHere_23 : decode cX12_isOwnHere 23 = .ok (.aload_n 0, 1) := by decide +kernel
theorem dX12_isOwnHere_24 : decode cX12_isOwnHere 24 = .ok (.getfield 24, 3) := by decide +kernel
theorem dX12_isOwnHere_27 : decode cX12_isOwnHere 27 = .ok (.invokevirtual 250, 3) := by decide +kernel
theorem dX12_isOwnHere_30 : decode cX12_isOwnHere 30 = .ok (.ifCond .ne 80, 3) := by decide +kernel
theorem dX12_isOwnHere_33 : decode cX12_isOwnHere 33 = .ok (.aload_n 0, 1) := by decide +kernel
theorem dX12_isOwnHere_34 : decode cX12_isOwnHere 34 = .ok (.aload_n 0, 1) := by decide +kernel
theorem dX12_isOwnHere_35 : decode cX12_isOwnHere 35 = .ok (.getfield 27, 3) := by decide +kernel
theorem dX12_isOwnHere_38 : decode cX12_isOwnHere 38 = .ok (.invokevirtual 250, 3) := by decide +kernel
theorem dX12_isOwnHere_41 : decode cX12_isOwnHere 41 = .ok (.ifCond .ne 69, 3) := by decide +kernel
theorem dX12_isOwnHere_44 : decode cX12_isOwnHere 44 = .ok (.aload_n 0, 1) := by decide +kernel
theorem dX12_isOwnHere_45 : decode cX12_isOwnHere 45 = .ok (.aload_n 0, 1) := by decide +kernel
theorem dX12_isOwnHere_46 : decode cX12_isOwnHere 46 = .ok (.getfield 30, 3) := by decide +kernel
theorem dX12_isOwnHere_49 : decode cX12_isOwnHere 49 = .ok (.invokevirtual 250, 3) := by decide +kernel
theorem dX12_isOwnHere_52 : decode cX12_isOwnHere 52 = .ok (.ifCond .ne 58, 3) := by decide +kernel
theorem dX12_isOwnHere_55 : decode cX12_isOwnHere 55 = .ok (.aload_n 0, 1) := by decide +kernel
theorem dX12_isOwnHere_56 : decode cX12_isOwnHere 56 = .ok (.aload_n 0, 1) := by decide +kernel
theorem dX12_isOwnHere_57 : decode cX12_isOwnHere 57 = .ok (.getfield 33, 3) := by decide +kernel
theorem dX12_isOwnHere_60 : decode cX12_isOwnHere 60 = .ok (.invokevirtual 250, 3) := by decide +kernel
theorem dX12_isOwnHere_63 : decode cX12_isOwnHere 63 = .ok (.ifCond .ne 47, 3) := by decide +kernel
theorem dX12_isOwnHere_66 : decode cX12_isOwnHere 66 = .ok (.aload_n 0, 1) := by decide +kernel
theorem dX12_isOwnHere_67 : decode cX12_isOwnHere 67 = .ok (.aload_n 0, 1) := by decide +kernel
theorem dX12_isOwnHere_68 : decode cX12_isOwnHere 68 = .ok (.getfield 36, 3) := by decide +kernel
theorem dX12_isOwnHere_71 : decode cX12_isOwnHere 71 = .ok (.invokevirtual 250, 3) := by decide +kernel
theorem dX12_isOwnHere_74 : decode cX12_isOwnHere 74 = .ok (.ifCond .ne 36, 3) := by decide +kernel
theorem dX12_isOwnHere_77 : decode cX12_isOwnHere 77 = .ok (.aload_n 0, 1) := by decide +kernel
theorem dX12_isOwnHere_78 : decode cX12_isOwnHere 78 = .ok (.aload_n 0, 1) := by decide +kernel
theorem dX12_isOwnHere_79 : decode cX12_isOwnHere 79 = .ok (.getfield 45, 3) := by decide +kernel
theorem dX12_isOwnHere_82 : decode cX12_isOwnHere 82 = .ok (.invokevirtual 250, 3) := by decide +kernel
theorem dX12_isOwnHere_85 : decode cX12_isOwnHere 85 = .ok (.ifCond .ne 25, 3) := by decide +kernel
theorem dX12_isOwnHere_88 : decode cX12_isOwnHere 88 = .ok (.aload_n 0, 1) := by decide +kernel
theorem dX12_isOwnHere_89 : decode cX12_isOwnHere 89 = .ok (.aload_n 0, 1) := by decide +kernel
theorem dX12_isOwnHere_90 : decode cX12_isOwnHere 90 = .ok (.getfield 48, 3) := by decide +kernel
theorem dX12_isOwnHere_93 : decode cX12_isOwnHere 93 = .ok (.invokevirtual 250, 3) := by decide +kernel
theorem dX12_isOwnHere_96 : decode cX12_isOwnHere 96 = .ok (.ifCond .ne 14, 3) := by decide +kernel
theorem dX12_isOwnHere_99 : decode cX12_isOwnHere 99 = .ok (.aload_n 0, 1) := by decide +kernel
theorem dX12_isOwnHere_100 : decode cX12_isOwnHere 100 = .ok (.aload_n 0, 1) := by decide +kernel
theorem dX12_isOwnHere_101 : decode cX12_isOwnHere 101 = .ok (.getfield 51, 3) := by decide +kernel
theorem dX12_isOwnHere_104 : decode cX12_isOwnHere 104 = .ok (.invokevirtual 250, 3) := by decide +kernel
theorem dX12_isOwnHere_107 : decode cX12_isOwnHere 107 = .ok (.ifCond .eq 7, 3) := by decide +kernel
theorem dX12_isOwnHere_110 : decode cX12_isOwnHere 110 = .ok (.iconst 1, 1) := by decide +kernel
theorem dX12_isOwnHere_111 : decode cX12_isOwnHere 111 = .ok (.goto 4, 3) := by decide +kernel
theorem dX12_isOwnHere_114 : decode cX12_isOwnHere 114 = .ok (.iconst 0, 1) := by decide +kernel
theorem dX12_isOwnHere_115 : decode cX12_isOwnHere 115 = .ok (.istore_n 1, 1) := by decide +kernel
theorem dX12_isOwnHere_116 : decode cX12_isOwnHere 116 = .ok (.iload_n 1, 1) := by decide +kernel
theorem dX12_isOwnHere_117 : decode cX12_isOwnHere 117 = .ok (.ifCond .ne 25, 3) := by decide +kernel
theorem dX12_isOwnHere_120 : decode cX12_isOwnHere 120 = .ok (.aload_n 0, 1) := by decide +kernel
theorem dX12_isOwnHere_121 : decode cX12_isOwnHere 121 = .ok (.aload_n 0, 1) := by decide +kernel
theorem dX12_isOwnHere_122 : decode cX12_isOwnHere 122 = .ok (.getfield 39, 3) := by decide +kernel
theorem dX12_isOwnHere_125 : decode cX12_isOwnHere 125 = .ok (.invokevirtual 250, 3) := by decide +kernel
theorem dX12_isOwnHere_128 : decode cX12_isOwnHere 128 = .ok (.ifCond .ne 14, 3) := by decide +kernel
theorem dX12_isOwnHere_131 : decode cX12_isOwnHere 131 = .ok (.aload_n 0, 1) := by decide +kernel
theorem dX12_isOwnHere_132 : decode cX12_isOwnHere 132 = .ok (.aload_n 0, 1) := by decide +kernel
theorem dX12_isOwnHere_133 : decode cX12_isOwnHere 133 = .ok (.getfield 42, 3) := by decide +kernel
theorem dX12_isOwnHere_136 : decode cX12_isOwnHere 136 = .ok (.invokevirtual 250, 3) := by decide +kernel
theorem dX12_isOwnHere_139 : decode cX12_isOwnHere 139 = .ok (.ifCond .eq 7, 3) := by decide +kernel
theorem dX12_isOwnHere_142 : decode cX12_isOwnHere 142 = .ok (.iconst 1, 1) := by decide +kernel
theorem dX12_isOwnHere_143 : decode cX12_isOwnHere 143 = .ok (.goto 4, 3) := by decide +kernel
theorem dX12_isOwnHere_146 : decode cX12_isOwnHere 146 = .ok (.iconst 0, 1) := by decide +kernel
theorem dX12_isOwnHere_147 : decode cX12_isOwnHere 147 = .ok (.istore_n 1, 1) := by decide +kernel
theorem dX12_isOwnHere_148 : decode cX12_isOwnHere 148 = .ok (.iload_n 1, 1) := by decide +kernel
theorem dX12_isOwnHere_149 : decode cX12_isOwnHere 149 = .ok (.ifCond .ne 102, 3) := by decide +kernel
theorem dX12_isOwnHere_152 : decode cX12_isOwnHere 152 = .ok (.aload_n 0, 1) := by decide +kernel
theorem dX12_isOwnHere_153 : decode cX12_isOwnHere 153 = .ok (.aload_n 0, 1) := by decide +kernel
theorem dX12_isOwnHere_154 : decode cX12_isOwnHere 154 = .ok (.getfield 54, 3) := by decide +kernel
theorem dX12_isOwnHere_157 : decode cX12_isOwnHere 157 = .ok (.invokevirtual 250, 3) := by decide +kernel
theorem dX12_isOwnHere_160 : decode cX12_isOwnHere 160 = .ok (.ifCond .ne 91, 3) := by decide +kernel
theorem dX12_isOwnHere_163 : decode cX12_isOwnHere 163 = .ok (.aload_n 0, 1) := by decide +kernel
theorem dX12_isOwnHere_164 : decode cX12_isOwnHere 164 = .ok (.aload_n 0, 1) := by decide +kernel
theorem dX12_isOwnHere_165 : decode cX12_isOwnHere 165 = .ok (.getfield 57, 3) := by decide +kernel
theorem dX12_isOwnHere_168 : decode cX12_isOwnHere 168 = .ok (.invokevirtual 250, 3) := by decide +kernel
theorem dX12_isOwnHere_171 : decode cX12_isOwnHere 171 = .ok (.ifCond .ne 80, 3) := by decide +kernel
theorem dX12_isOwnHere_174 : decode cX12_isOwnHere 174 = .ok (.aload_n 0, 1) := by decide +kernel
theorem dX12_isOwnHere_175 : decode cX12_isOwnHere 175 = .ok (.aload_n 0, 1) := by decide +kernel
theorem dX12_isOwnHere_176 : decode cX12_isOwnHere 176 = .ok (.getfield 60, 3) := by decide +kernel
theorem dX12_isOwnHere_179 : decode cX12_isOwnHere 179 = .ok (.invokevirtual 250, 3) := by decide +kernel
theorem dX12_isOwnHere_182 : decode cX12_isOwnHere 182 = .ok (.ifCond .ne 69, 3) := by decide +kernel
theorem dX12_isOwnHere_185 : decode cX12_isOwnHere 185 = .ok (.aload_n 0, 1) := by decide +kernel
theorem dX12_isOwnHere_186 : decode cX12_isOwnHere 186 = .ok (.aload_n 0, 1) := by decide +kernel
theorem dX12_isOwnHere_187 : decode cX12_isOwnHere 187 = .ok (.getfield 63, 3) := by decide +kernel
theorem dX12_isOwnHere_190 : decode cX12_isOwnHere 190 = .ok (.invokevirtual 250, 3) := by decide +kernel
theorem dX12_isOwnHere_193 : decode cX12_isOwnHere 193 = .ok (.ifCond .ne 58, 3) := by decide +kernel
theorem dX12_isOwnHere_196 : decode cX12_isOwnHere 196 = .ok (.aload_n 0, 1) := by decide +kernel
theorem dX12_isOwnHere_197 : decode cX12_isOwnHere 197 = .ok (.aload_n 0, 1) := by decide +kernel
theorem dX12_isOwnHere_198 : decode cX12_isOwnHere 198 = .ok (.getfield 66, 3) := by decide +kernel
theorem dX12_isOwnHere_201 : decode cX12_isOwnHere 201 = .ok (.invokevirtual 250, 3) := by decide +kernel
theorem dX12_isOwnHere_204 : decode cX12_isOwnHere 204 = .ok (.ifCond .ne 47, 3) := by decide +kernel
theorem dX12_isOwnHere_207 : decode cX12_isOwnHere 207 = .ok (.aload_n 0, 1) := by decide +kernel
theorem dX12_isOwnHere_208 : decode cX12_isOwnHere 208 = .ok (.aload_n 0, 1) := by decide +kernel
theorem dX12_isOwnHere_209 : decode cX12_isOwnHere 209 = .ok (.getfield 69, 3) := by decide +kernel
theorem dX12_isOwnHere_212 : decode cX12_isOwnHere 212 = .ok (.invokevirtual 250, 3) := by decide +kernel
theorem dX12_isOwnHere_215 : decode cX12_isOwnHere 215 = .ok (.ifCond .ne 36, 3) := by decide +kernel
theorem dX12_isOwnHere_218 : decode cX12_isOwnHere 218 = .ok (.aload_n 0, 1) := by decide +kernel
theorem dX12_isOwnHere_219 : decode cX12_isOwnHere 219 = .ok (.aload_n 0, 1) := by decide +kernel
theorem dX12_isOwnHere_220 : decode cX12_isOwnHere 220 = .ok (.getfield 72, 3) := by decide +kernel
theorem dX12_isOwnHere_223 : decode cX12_isOwnHere 223 = .ok (.invokevirtual 250, 3) := by decide +kernel
theorem dX12_isOwnHere_226 : decode cX12_isOwnHere 226 = .ok (.ifCond .ne 25, 3) := by decide +kernel
theorem dX12_isOwnHere_229 : decode cX12_isOwnHere 229 = .ok (.aload_n 0, 1) := by decide +kernel
theorem dX12_isOwnHere_230 : decode cX12_isOwnHere 230 = .ok (.aload_n 0, 1) := by decide +kernel
theorem dX12_isOwnHere_231 : decode cX12_isOwnHere 231 = .ok (.getfield 75, 3) := by decide +kernel
theorem dX12_isOwnHere_234 : decode cX12_isOwnHere 234 = .ok (.invokevirtual 250, 3) := by decide +kernel
theorem dX12_isOwnHere_237 : decode cX12_isOwnHere 237 = .ok (.ifCond .ne 14, 3) := by decide +kernel
theorem dX12_isOwnHere_240 : decode cX12_isOwnHere 240 = .ok (.aload_n 0, 1) := by decide +kernel
theorem dX12_isOwnHere_241 : decode cX12_isOwnHere 241 = .ok (.aload_n 0, 1) := by decide +kernel
theorem dX12_isOwnHere_242 : decode cX12_isOwnHere 242 = .ok (.getfield 78, 3) := by decide +kernel
theorem dX12_isOwnHere_245 : decode cX12_isOwnHere 245 = .ok (.invokevirtual 250, 3) := by decide +kernel
theorem dX12_isOwnHere_248 : decode cX12_isOwnHere 248 = .ok (.ifCond .eq 7, 3) := by decide +kernel
theorem dX12_isOwnHere_251 : decode cX12_isOwnHere 251 = .ok (.iconst 1, 1) := by decide +kernel
theorem dX12_isOwnHere_252 : decode cX12_isOwnHere 252 = .ok (.goto 4, 3) := by decide +kernel
theorem dX12_isOwnHere_255 : decode cX12_isOwnHere 255 = .ok (.iconst 0, 1) := by decide +kernel
theorem dX12_isOwnHere_256 : decode cX12_isOwnHere 256 = .ok (.ireturn, 1) := by decide +kernel
set_option maxRecDepth 100000 in
theorem tj_X12_isOwnHere_147 {g : GT} {n nf : Int} (hu : Up false nf n) (M : Mem) (s0 : Int) : AW g false RX12 cX12_isOwnHere 2 (some .boolean) (2) n n nf 147 [(0, 2, 337)] [(0, s0)] n M (j_X12_isOwnHere_147 M s0) := by
  unfold j_X12_isOwnHere_147
  refine r_istore_n dX12_isOwnHere_147 rfl (by decide) (ls' := [(1, 0, s0), (0, 2, 337)]) rfl ?_
  refine r_iload_n 0 dX12_isOwnHere_148 rfl rfl ?_
  refine r_if_ne (tgt := 251) dX12_isOwnHere_149 rfl (fun h51 => ?_) (fun h52 => ?_)
  · refine r_aload_n 1 dX12_isOwnHere_152 rfl rfl ?_
    refine r_aload_n 1 dX12_isOwnHere_153 rfl rfl ?_
    refine r_gx (kz := 21) rfl hu dX12_isOwnHere_154 kF_X12_54 kd_337 rfl rfl rfl fx_337_21 ?_
    refine r_inv (a := 337) hu ⟨Nat.le_refl _, Nat.le_refl _⟩ dX12_isOwnHere_157 kM_X12_250 (ci := 12) rfl kd_337 rfl rfl (by decide) (by decide) [(2, 351)] rfl (sk := []) rfl (Nat.le_of_ble_eq_true rfl) rfl rfl (m_X12_isHere hu M 351 kd_351) (fun r53 M54 => ?_)
    refine r_if_ne (tgt := 251) dX12_isOwnHere_160 rfl (fun h55 => ?_) (fun h56 => ?_)
    · refine r_aload_n 1 dX12_isOwnHere_163 rfl rfl ?_
      refine r_aload_n 1 dX12_isOwnHere_164 rfl rfl ?_
      refine r_gx (kz := 22) rfl hu dX12_isOwnHere_165 kF_X12_57 kd_337 rfl rfl rfl fx_337_22 ?_
      refine r_inv (a := 337) hu ⟨Nat.le_refl _, Nat.le_refl _⟩ dX12_isOwnHere_168 kM_X12_250 (ci := 12) rfl kd_337 rfl rfl (by decide) (by decide) [(2, 352)] rfl (sk := []) rfl (Nat.le_of_ble_eq_true rfl) rfl rfl (m_X12_isHere hu M54 352 kd_352) (fun r57 M58 => ?_)
      refine r_if_ne (tgt := 251) dX12_isOwnHere_171 rfl (fun h59 => ?_) (fun h60 => ?_)
      · refine r_aload_n 1 dX12_isOwnHere_174 rfl rfl ?_
        refine r_aload_n 1 dX12_isOwnHere_175 rfl rfl ?_
        refine r_gx (kz := 23) rfl hu dX12_isOwnHere_176 kF_X12_60 kd_337 rfl rfl rfl fx_337_23 ?_
        refine r_inv (a := 337) hu ⟨Nat.le_refl _, Nat.le_refl _⟩ dX12_isOwnHere_179 kM_X12_250 (ci := 12) rfl kd_337 rfl rfl (by decide) (by decide) [(2, 353)] rfl (sk := []) rfl (Nat.le_of_ble_eq_true rfl) rfl rfl (m_X12_isHere hu M58 353 kd_353) (fun r61 M62 => ?_)
        refine r_if_ne (tgt := 251) dX12_isOwnHere_182 rfl (fun h63 => ?_) (fun h64 => ?_)
        · refine r_aload_n 1 dX12_isOwnHere_185 rfl rfl ?_
          refine r_aload_n 1 dX12_isOwnHere_186 rfl rfl ?_
          refine r_gx (kz := 24) rfl hu dX12_isOwnHere_187 kF_X12_63 kd_337 rfl rfl rfl fx_337_24 ?_
          refine r_inv (a := 337) hu ⟨Nat.le_refl _, Nat.le_refl _⟩ dX12_isOwnHere_190 kM_X12_250 (ci := 12) rfl kd_337 rfl rfl (by decide) (by decide) [(2, 354)] rfl (sk := []) rfl (Nat.le_of_ble_eq_true rfl) rfl rfl (m_X12_isHere hu M62 354 kd_354) (fun r65 M66 => ?_)
          refine r_if_ne (tgt := 251) dX12_isOwnHere_193 rfl (fun h67 => ?_) (fun h68 => ?_)
          · refine r_aload_n 1 dX12_isOwnHere_196 rfl rfl ?_
            refine r_aload_n 1 dX12_isOwnHere_197 rfl rfl ?_
            refine r_gx (kz := 25) rfl hu dX12_isOwnHere_198 kF_X12_66 kd_337 rfl rfl rfl fx_337_25 ?_
            refine r_inv (a := 337) hu ⟨Nat.le_refl _, Nat.le_refl _⟩ dX12_isOwnHere_201 kM_X12_250 (ci := 12) rfl kd_337 rfl rfl (by decide) (by decide) [(2, 355)] rfl (sk := []) rfl (Nat.le_of_ble_eq_true rfl) rfl rfl (m_X12_isHere hu M66 355 kd_355) (fun r69 M70 => ?_)
            refine r_if_ne (tgt := 251) dX12_isOwnHere_204 rfl (fun h71 => ?_) (fun h72 => ?_)
            · refine r_aload_n 1 dX12_isOwnHere_207 rfl rfl ?_
              refine r_aload_n 1 dX12_isOwnHere_208 rfl rfl ?_
              refine r_gx (kz := 26) rfl hu dX12_isOwnHere_209 kF_X12_69 kd_337 rfl rfl rfl fx_337_26 ?_
              refine r_inv (a := 337) hu ⟨Nat.le_refl _, Nat.le_refl _⟩ dX12_isOwnHere_212 kM_X12_250 (ci := 12) rfl kd_337 rfl rfl (by decide) (by decide) [(2, 356)] rfl (sk := []) rfl (Nat.le_of_ble_eq_true rfl) rfl rfl (m_X12_isHere hu M70 356 kd_356) (fun r73 M74 => ?_)
              refine r_if_ne (tgt := 251) dX12_isOwnHere_215 rfl (fun h75 => ?_) (fun h76 => ?_)
              · refine r_aload_n 1 dX12_isOwnHere_218 rfl rfl ?_
                refine r_aload_n 1 dX12_isOwnHere_219 rfl rfl ?_
                refine r_gx (kz := 27) rfl hu dX12_isOwnHere_220 kF_X12_72 kd_337 rfl rfl rfl fx_337_27 ?_
                refine r_inv (a := 337) hu ⟨Nat.le_refl _, Nat.le_refl _⟩ dX12_isOwnHere_223 kM_X12_250 (ci := 12) rfl kd_337 rfl rfl (by decide) (by decide) [(2, 357)] rfl (sk := []) rfl (Nat.le_of_ble_eq_true rfl) rfl rfl (m_X12_isHere hu M74 357 kd_357) (fun r77 M78 => ?_)
                refine r_if_ne (tgt := 251) dX12_isOwnHere_226 rfl (fun h79 => ?_) (fun h80 => ?_)
                · refine r_aload_n 1 dX12_isOwnHere_229 rfl rfl ?_
                  refine r_aload_n 1 dX12_isOwnHere_230 rfl rfl ?_
                  refine r_gx (kz := 28) rfl hu dX12_isOwnHere_231 kF_X12_75 kd_337 rfl rfl rfl fx_337_28 ?_
                  refine r_inv (a := 337) hu ⟨Nat.le_refl _, Nat.le_refl _⟩ dX12_isOwnHere_234 kM_X12_250 (ci := 12) rfl kd_337 rfl rfl (by decide) (by decide) [(2, 358)] rfl (sk := []) rfl (Nat.le_of_ble_eq_true rfl) rfl rfl (m_X12_isHere hu M78 358 kd_358) (fun r81 M82 => ?_)
                  refine r_if_ne (tgt := 251) dX12_isOwnHere_237 rfl (fun h83 => ?_) (fun h84 => ?_)
                  · refine r_aload_n 1 dX12_isOwnHere_240 rfl rfl ?_
                    refine r_aload_n 1 dX12_isOwnHere_241 rfl rfl ?_
                    refine r_gx (kz := 29) rfl hu dX12_isOwnHere_242 kF_X12_78 kd_337 rfl rfl rfl fx_337_29 ?_
                    refine r_inv (a := 337) hu ⟨Nat.le_refl _, Nat.le_refl _⟩ dX12_isOwnHere_245 kM_X12_250 (ci := 12) rfl kd_337 rfl rfl (by decide) (by decide) [(2, 359)] rfl (sk := []) rfl (Nat.le_of_ble_eq_true rfl) rfl rfl (m_X12_isHere hu M82 359 kd_359) (fun r85 M86 => ?_)
                    refine r_if_eq (tgt := 255) dX12_isOwnHere_248 rfl (fun h87 => ?_) (fun h88 => ?_)
                    · refine r_iconst dX12_isOwnHere_255 ⟨by decide, by decide⟩ ?_
                      exact r_iret rfl rfl (Or.inr ⟨rfl, Or.inl rfl⟩) dX12_isOwnHere_256
                    · refine r_iconst dX12_isOwnHere_251 ⟨by decide, by decide⟩ ?_
                      refine r_goto (tgt := 256) dX12_isOwnHere_252 rfl ?_
                      exact r_iret rfl rfl (Or.inr ⟨rfl, Or.inr rfl⟩) dX12_isOwnHere_256
                  · refine r_iconst dX12_isOwnHere_251 ⟨by decide, by decide⟩ ?_
                    refine r_goto (tgt := 256) dX12_isOwnHere_252 rfl ?_
                    exact r_iret rfl rfl (Or.inr ⟨rfl, Or.inr rfl⟩) dX12_isOwnHere_256
                · refine r_iconst dX12_isOwnHere_251 ⟨by decide, by decide⟩ ?_
                  refine r_goto (tgt := 256) dX12_isOwnHere_252 rfl ?_
                  exact r_iret rfl rfl (Or.inr ⟨rfl, Or.inr rfl⟩) dX12_isOwnHere_256
              · refine r_iconst dX12_isOwnHere_251 ⟨by decide, by decide⟩ ?_
                refine r_goto (tgt := 256) dX12_isOwnHere_252 rfl ?_
                exact r_iret rfl rfl (Or.inr ⟨rfl, Or.inr rfl⟩) dX12_isOwnHere_256
            · refine r_iconst dX12_isOwnHere_251 ⟨by decide, by decide⟩ ?_
              refine r_goto (tgt := 256) dX12_isOwnHere_252 rfl ?_
              exact r_iret rfl rfl (Or.inr ⟨rfl, Or.inr rfl⟩) dX12_isOwnHere_256
          · refine r_iconst dX12_isOwnHere_251 ⟨by decide, by decide⟩ ?_
            refine r_goto (tgt := 256) dX12_isOwnHere_252 rfl ?_
            exact r_iret rfl rfl (Or.inr ⟨rfl, Or.inr rfl⟩) dX12_isOwnHere_256
        · refine r_iconst dX12_isOwnHere_251 ⟨by decide, by decide⟩ ?_
          refine r_goto (tgt := 256) dX12_isOwnHere_252 rfl ?_
          exact r_iret rfl rfl (Or.inr ⟨rfl, Or.inr rfl⟩) dX12_isOwnHere_256
      · refine r_iconst dX12_isOwnHere_251 ⟨by decide, by decide⟩ ?_
        refine r_goto (tgt := 256) dX12_isOwnHere_252 rfl ?_
        exact r_iret rfl rfl (Or.inr ⟨rfl, Or.inr rfl⟩) dX12_isOwnHere_256
    · refine r_iconst dX12_isOwnHere_251 ⟨by decide, by decide⟩ ?_
      refine r_goto (tgt := 256) dX12_isOwnHere_252 rfl ?_
      exact r_iret rfl rfl (Or.inr ⟨rfl, Or.inr rfl⟩) dX12_isOwnHere_256
  · refine r_iconst dX12_isOwnHere_251 ⟨by decide, by decide⟩ ?_
    refine r_goto (tgt := 256) dX12_isOwnHere_252 rfl ?_
    exact r_iret rfl rfl (Or.inr ⟨rfl, Or.inr rfl⟩) dX12_isOwnHere_256
set_option maxRecDepth 100000 in
theorem tj_X12_isOwnHere_142 {g : GT} {n nf : Int} (hu : Up false nf n) (M : Mem) : AW g false RX12 cX12_isOwnHere 2 (some .boolean) (2) n n nf 142 [(0, 2, 337)] [] n M (j_X12_isOwnHere_142 M) := by
  unfold j_X12_isOwnHere_142
  refine r_iconst dX12_isOwnHere_142 ⟨by decide, by decide⟩ ?_
  refine r_goto (tgt := 147) dX12_isOwnHere_143 rfl ?_
  exact tj_X12_isOwnHere_147 hu M 1
set_option maxRecDepth 100000 in
theorem tj_X12_isOwnHere_115 {g : GT} {n nf : Int} (hu : Up false nf n) (M : Mem) (s0 : Int) : AW g false RX12 cX12_isOwnHere 2 (some .boolean) (2) n n nf 115 [(0, 2, 337)] [(0, s0)] n M (j_X12_isOwnHere_115 M s0) := by
  unfold j_X12_isOwnHere_115
  refine r_istore_n dX12_isOwnHere_115 rfl (by decide) (ls' := [(1, 0, s0), (0, 2, 337)]) rfl ?_
  refine r_iload_n 0 dX12_isOwnHere_116 rfl rfl ?_
  refine r_if_ne (tgt := 142) dX12_isOwnHere_117 rfl (fun h41 => ?_) (fun h42 => ?_)
  · refine r_aload_n 1 dX12_isOwnHere_120 rfl rfl ?_
    refine r_aload_n 1 dX12_isOwnHere_121 rfl rfl ?_
    refine r_gx (kz := 16) rfl hu dX12_isOwnHere_122 kF_X12_39 kd_337 rfl rfl rfl fx_337_16 ?_
    refine r_inv (a := 337) hu ⟨Nat.le_refl _, Nat.le_refl _⟩ dX12_isOwnHere_125 kM_X12_250 (ci := 12) rfl kd_337 rfl rfl (by decide) (by decide) [(2, 346)] rfl (sk := []) rfl (Nat.le_of_ble_eq_true rfl) rfl rfl (m_X12_isHere hu M 346 kd_346) (fun r43 M44 => ?_)
    refine r_if_ne (tgt := 142) dX12_isOwnHere_128 rfl (fun h45 => ?_) (fun h46 => ?_)
    · refine r_aload_n 1 dX12_isOwnHere_131 rfl rfl ?_
      refine r_aload_n 1 dX12_isOwnHere_132 rfl rfl ?_
      refine r_gx (kz := 17) rfl hu dX12_isOwnHere_133 kF_X12_42 kd_337 rfl rfl rfl fx_337_17 ?_
      refine r_inv (a := 337) hu ⟨Nat.le_refl _, Nat.le_refl _⟩ dX12_isOwnHere_136 kM_X12_250 (ci := 12) rfl kd_337 rfl rfl (by decide) (by decide) [(2, 347)] rfl (sk := []) rfl (Nat.le_of_ble_eq_true rfl) rfl rfl (m_X12_isHere hu M44 347 kd_347) (fun r47 M48 => ?_)
      refine r_if_eq (tgt := 146) dX12_isOwnHere_139 rfl (fun h49 => ?_) (fun h50 => ?_)
      · refine r_iconst dX12_isOwnHere_146 ⟨by decide, by decide⟩ ?_
        refine r_sub [1] (ls' := [(0, 2, 337)]) rfl ?_
        exact tj_X12_isOwnHere_147 hu M48 0
      · refine r_sub [1] (ls' := [(0, 2, 337)]) rfl ?_
        exact tj_X12_isOwnHere_142 hu M48
    · refine r_sub [1] (ls' := [(0, 2, 337)]) rfl ?_
      exact tj_X12_isOwnHere_142 hu M44
  · refine r_sub [1] (ls' := [(0, 2, 337)]) rfl ?_
    exact tj_X12_isOwnHere_142 hu M
set_option maxRecDepth 100000 in
theorem tj_X12_isOwnHere_110 {g : GT} {n nf : Int} (hu : Up false nf n) (M : Mem) : AW g false RX12 cX12_isOwnHere 2 (some .boolean) (2) n n nf 110 [(0, 2, 337)] [] n M (j_X12_isOwnHere_110 M) := by
  unfold j_X12_isOwnHere_110
  refine r_iconst dX12_isOwnHere_110 ⟨by decide, by decide⟩ ?_
  refine r_goto (tgt := 115) dX12_isOwnHere_111 rfl ?_
  exact tj_X12_isOwnHere_115 hu M 1
set_option maxRecDepth 100000 in
theorem m_X12_isOwnHere {g : GT} {n nf : Int} (hu : Up false nf n) (M : Mem) : AM g false yX12_isOwnHere cX12_isOwnHere 2 (some .boolean) (2) n n nf [(2, 337)] M (f_X12_isOwnHere M) := by
  refine AM_of (by decide +kernel) (Nat.le_of_ble_eq_true rfl) (fun h => absurd h (Int.lt_irrefl n)) ?_
  show AW g false RX12 cX12_isOwnHere 2 (some .boolean) (2) n n nf 0 [(0, 2, 337)] [] n M (f_X12_isOwnHere M)
  unfold f_X12_isOwnHere
  refine r_aload_n 0 dX12_isOwnHere_0 rfl rfl ?_
  refine r_aload_n 0 dX12_isOwnHere_1 rfl rfl ?_
  refine r_gx (kz := 9) rfl hu dX12_isOwnHere_2 kF_X12_17 kd_337 rfl rfl rfl fx_337_9 ?_
  refine r_inv (a := 337) hu ⟨Nat.le_refl _, Nat.le_refl _⟩ dX12_isOwnHere_5 kM_X12_250 (ci := 12) rfl kd_337 rfl rfl (by decide) (by decide) [(2, 339)] rfl (sk := []) rfl (Nat.le_of_ble_eq_true rfl) rfl rfl (m_X12_isHere hu M 339 kd_339) (fun r1 M2 => ?_)
  refine r_if_ne (tgt := 110) dX12_isOwnHere_8 rfl (fun h3 => ?_) (fun h4 => ?_)
  · refine r_aload_n 0 dX12_isOwnHere_11 rfl rfl ?_
    refine r_aload_n 0 dX12_isOwnHere_12 rfl rfl ?_
    refine r_gx (kz := 10) rfl hu dX12_isOwnHere_13 kF_X12_21 kd_337 rfl rfl rfl fx_337_10 ?_
    refine r_inv (a := 337) hu ⟨Nat.le_refl _, Nat.le_refl _⟩ dX12_isOwnHere_16 kM_X12_250 (ci := 12) rfl kd_337 rfl rfl (by decide) (by decide) [(2, 340)] rfl (sk := []) rfl (Nat.le_of_ble_eq_true rfl) rfl rfl (m_X12_isHere hu M2 340 kd_340) (fun r5 M6 => ?_)
    refine r_if_ne (tgt := 110) dX12_isOwnHere_19 rfl (fun h7 => ?_) (fun h8 => ?_)
    · refine r_aload_n 0 dX12_isOwnHere_22 rfl rfl ?_
      refine r_aload_n 0 dX12_isOwnHere_23 rfl rfl ?_
      refine r_gx (kz := 11) rfl hu dX12_isOwnHere_24 kF_X12_24 kd_337 rfl rfl rfl fx_337_11 ?_
      refine r_inv (a := 337) hu ⟨Nat.le_refl _, Nat.le_refl _⟩ dX12_isOwnHere_27 kM_X12_250 (ci := 12) rfl kd_337 rfl rfl (by decide) (by decide) [(2, 341)] rfl (sk := []) rfl (Nat.le_of_ble_eq_true rfl) rfl rfl (m_X12_isHere hu M6 341 kd_341) (fun r9 M10 => ?_)
      refine r_if_ne (tgt := 110) dX12_isOwnHere_30 rfl (fun h11 => ?_) (fun h12 => ?_)
      · refine r_aload_n 0 dX12_isOwnHere_33 rfl rfl ?_
        refine r_aload_n 0 dX12_isOwnHere_34 rfl rfl ?_
        refine r_gx (kz := 12) rfl hu dX12_isOwnHere_35 kF_X12_27 kd_337 rfl rfl rfl fx_337_12 ?_
        refine r_inv (a := 337) hu ⟨Nat.le_refl _, Nat.le_refl _⟩ dX12_isOwnHere_38 kM_X12_250 (ci := 12) rfl kd_337 rfl rfl (by decide) (by decide) [(2, 342)] rfl (sk := []) rfl (Nat.le_of_ble_eq_true rfl) rfl rfl (m_X12_isHere hu M10 342 kd_342) (fun r13 M14 => ?_)
        refine r_if_ne (tgt := 110) dX12_isOwnHere_41 rfl (fun h15 => ?_) (fun h16 => ?_)
        · refine r_aload_n 0 dX12_isOwnHere_44 rfl rfl ?_
          refine r_aload_n 0 dX12_isOwnHere_45 rfl rfl ?_
          refine r_gx (kz := 13) rfl hu dX12_isOwnHere_46 kF_X12_30 kd_337 rfl rfl rfl fx_337_13 ?_
          refine r_inv (a := 337) hu ⟨Nat.le_refl _, Nat.le_refl _⟩ dX12_isOwnHere_49 kM_X12_250 (ci := 12) rfl kd_337 rfl rfl (by decide) (by decide) [(2, 343)] rfl (sk := []) rfl (Nat.le_of_ble_eq_true rfl) rfl rfl (m_X12_isHere hu M14 343 kd_343) (fun r17 M18 => ?_)
          refine r_if_ne (tgt := 110) dX12_isOwnHere_52 rfl (fun h19 => ?_) (fun h20 => ?_)
          · refine r_aload_n 0 dX12_isOwnHere_55 rfl rfl ?_
            refine r_aload_n 0 dX12_isOwnHere_56 rfl rfl ?_
            refine r_gx (kz := 14) rfl hu dX12_isOwnHere_57 kF_X12_33 kd_337 rfl rfl rfl fx_337_14 ?_
            refine r_inv (a := 337) hu ⟨Nat.le_refl _, Nat.le_refl _⟩ dX12_isOwnHere_60 kM_X12_250 (ci := 12) rfl kd_337 rfl rfl (by decide) (by decide) [(2, 344)] rfl (sk := []) rfl (Nat.le_of_ble_eq_true rfl) rfl rfl (m_X12_isHere hu M18 344 kd_344) (fun r21 M22 => ?_)
            refine r_if_ne (tgt := 110) dX12_isOwnHere_63 rfl (fun h23 => ?_) (fun h24 => ?_)
            · refine r_aload_n 0 dX12_isOwnHere_66 rfl rfl ?_
              refine r_aload_n 0 dX12_isOwnHere_67 rfl rfl ?_
              refine r_gx (kz := 15) rfl hu dX12_isOwnHere_68 kF_X12_36 kd_337 rfl rfl rfl fx_337_15 ?_
              refine r_inv (a := 337) hu ⟨Nat.le_refl _, Nat.le_refl _⟩ dX12_isOwnHere_71 kM_X12_250 (ci := 12) rfl kd_337 rfl rfl (by decide) (by decide) [(2, 345)] rfl (sk := []) rfl (Nat.le_of_ble_eq_true rfl) rfl rfl (m_X12_isHere hu M22 345 kd_345) (fun r25 M26 => ?_)
              refine r_if_ne (tgt := 110) dX12_isOwnHere_74 rfl (fun h27 => ?_) (fun h28 => ?_)
              · refine r_aload_n 0 dX12_isOwnHere_77 rfl rfl ?_
                refine r_aload_n 0 dX12_isOwnHere_78 rfl rfl ?_
                refine r_gx (kz := 18) rfl hu dX12_isOwnHere_79 kF_X12_45 kd_337 rfl rfl rfl fx_337_18 ?_
                refine r_inv (a := 337) hu ⟨Nat.le_refl _, Nat.le_refl _⟩ dX12_isOwnHere_82 kM_X12_250 (ci := 12) rfl kd_337 rfl rfl (by decide) (by decide) [(2, 348)] rfl (sk := []) rfl (Nat.le_of_ble_eq_true rfl) rfl rfl (m_X12_isHere hu M26 348 kd_348) (fun r29 M30 => ?_)
                refine r_if_ne (tgt := 110) dX12_isOwnHere_85 rfl (fun h31 => ?_) (fun h32 => ?_)
                · refine r_aload_n 0 dX12_isOwnHere_88 rfl rfl ?_
                  refine r_aload_n 0 dX12_isOwnHere_89 rfl rfl ?_
                  refine r_gx (kz := 19) rfl hu dX12_isOwnHere_90 kF_X12_48 kd_337 rfl rfl rfl fx_337_19 ?_
                  refine r_inv (a := 337) hu ⟨Nat.le_refl _, Nat.le_refl _⟩ dX12_isOwnHere_93 kM_X12_250 (ci := 12) rfl kd_337 rfl rfl (by decide) (by decide) [(2, 349)] rfl (sk := []) rfl (Nat.le_of_ble_eq_true rfl) rfl rfl (m_X12_isHere hu M30 349 kd_349) (fun r33 M34 => ?_)
                  refine r_if_ne (tgt := 110) dX12_isOwnHere_96 rfl (fun h35 => ?_) (fun h36 => ?_)
                  · refine r_aload_n 0 dX12_isOwnHere_99 rfl rfl ?_
                    refine r_aload_n 0 dX12_isOwnHere_100 rfl rfl ?_
                    refine r_gx (kz := 20) rfl hu dX12_isOwnHere_101 kF_X12_51 kd_337 rfl rfl rfl fx_337_20 ?_
                    refine r_inv (a := 337) hu ⟨Nat.le_refl _, Nat.le_refl _⟩ dX12_isOwnHere_104 kM_X12_250 (ci := 12) rfl kd_337 rfl rfl (by decide) (by decide) [(2, 350)] rfl (sk := []) rfl (Nat.le_of_ble_eq_true rfl) rfl rfl (m_X12_isHere hu M34 350 kd_350) (fun r37 M38 => ?_)
                    refine r_if_eq (tgt := 114) dX12_isOwnHere_107 rfl (fun h39 => ?_) (fun h40 => ?_)
                    · refine r_iconst dX12_isOwnHere_114 ⟨by decide, by decide⟩ ?_
                      exact tj_X12_isOwnHere_115 hu M38 0
                    · exact tj_X12_isOwnHere_110 hu M38
                  · exact tj_X12_isOwnHere_110 hu M34
                · exact tj_X12_isOwnHere_110 hu M30
              · exact tj_X12_isOwnHere_110 hu M26
            · exact tj_X12_isOwnHere_110 hu M22
          · exact tj_X12_isOwnHere_110 hu M18
        · exact tj_X12_isOwnHere_110 hu M14
      · exact tj_X12_isOwnHere_110 hu M10
    · exact tj_X12_isOwnHere_110 hu M6
  · exact tj_X12_isOwnHere_110 hu M2
theorem dX12_name_0 : decode cX12_name 0 = .ok (.aload_n 0, 1) := by decide +kernel
theorem dX12_name_1 : decode cX12_name 1 = .ok (.getfield 227, 3) := by decide +kernel
theorem dX12_name_4 : decode cX12_name 4 = .ok (.ifCond .eq 5, 3) := by decide +kernel
theorem dX12_name_7 : decode cX12_name 7 = .ok (.lconst 0, 1) := by decide +kernel
theorem dX12_name_8 : decode cX12_name 8 = .ok (.lreturn, 1) := by decide +kernel
theorem dX12_name_9 : decode cX12_name 9 = .ok (.aload_n 0, 1) := by decide +kernel
theorem dX12_name_10 : decode cX12_name 10 = .ok (.invokevirtual 239, 3) := by decide +kernel
theorem dX12_name_13 : decode cX12_name 13 = .ok (.invokestatic 243, 3) := by decide +kernel
theorem dX12_name_16 : decode cX12_name 16 = .ok (.ifCond .eq 21, 3) := by decide +kernel
theorem dX12_name_19 : decode cX12_name 19 = .ok (.aload_n 0, 1) := by decide +kernel
theorem dX12_name_20 : decode cX12_name 20 = .ok (.getfield 233, 3) := by decide +kernel
theorem dX12_name_23 : decode cX12_name 23 = .ok (.aload_n 0, 1) := by decide +kernel
theorem dX12_name_24 : decode cX12_name 24 = .ok (.getfield 247, 3) := by decide +kernel
theorem dX12_name_27 : decode cX12_name 27 = .ok (.if_icmp .eq 10, 3) := by decide +kernel
theorem dX12_name_30 : decode cX12_name 30 = .ok (.aload_n 0, 1) := by decide +kernel
theorem dX12_name_31 : decode cX12_name 31 = .ok (.invokevirtual 271, 3) := by decide +kernel
theorem dX12_name_34 : decode cX12_name 34 = .ok (.ifCond .eq 14, 3) := by decide +kernel
theorem dX12_name_37 : decode cX12_name 37 = .ok (.aload_n 0, 1) := by decide +kernel
theorem dX12_name_38 : decode cX12_name 38 = .ok (.iconst 1, 1) := by decide +kernel
theorem dX12_name_39 : decode cX12_name 39 = .ok (.aload_n 0, 1) := by decide +kernel
theorem dX12_name_40 : decode cX12_name 40 = .ok (.getfield 233, 3) := by decide +kernel
theorem dX12_name_43 : decode cX12_name 43 = .ok (.invokevirtual 257, 3) := by decide +kernel
theorem dX12_name_46 : decode cX12_name 46 = .ok (.lconst 0, 1) := by decide +kernel
theorem dX12_name_47 : decode cX12_name 47 = .ok (.lreturn, 1) := by decide +kernel
theorem dX12_name_48 : decode cX12_name 48 = .ok (.aload_n 0, 1) := by decide +kernel
theorem dX12_name_49 : decode cX12_name 49 = .ok (.aload_n 0, 1) := by decide +kernel
theorem dX12_name_50 : decode cX12_name 50 = .ok (.getfield 233, 3) := by decide +kernel
theorem dX12_name_53 : decode cX12_name 53 = .ok (.putfield 275, 3) := by decide +kernel
theorem dX12_name_56 : decode cX12_name 56 = .ok (.lconst 0, 1) := by decide +kernel
theorem dX12_name_57 : decode cX12_name 57 = .ok (.lstore_n 1, 1) := by decide +kernel
theorem dX12_name_58 : decode cX12_name 58 = .ok (.aload_n 0, 1) := by decide +kernel
theorem dX12_name_59 : decode cX12_name 59 = .ok (.getfield 233, 3) := by decide +kernel
theorem dX12_name_62 : decode cX12_name 62 = .ok (.aload_n 0, 1) := by decide +kernel
theorem dX12_name_63 : decode cX12_name 63 = .ok (.getfield 236, 3) := by decide +kernel
theorem dX12_name_66 : decode cX12_name 66 = .ok (.if_icmp .ge 79, 3) := by decide +kernel
theorem dX12_name_69 : decode cX12_name 69 = .ok (.aload_n 0, 1) := by decide +kernel
theorem dX12_name_70 : decode cX12_name 70 = .ok (.getfield 7, 3) := by decide +kernel
theorem dX12_name_73 : decode cX12_name 73 = .ok (.aload_n 0, 1) := by decide +kernel
theorem dX12_name_74 : decode cX12_name 74 = .ok (.getfield 233, 3) := by decide +kernel
theorem dX12_name_77 : decode cX12_name 77 = .ok (.iaload, 1) := by decide +kernel
theorem dX12_name_78 : decode cX12_name 78 = .ok (.invokestatic 243, 3) := by decide +kernel
theorem dX12_name_81 : decode cX12_name 81 = .ok (.ifCond .eq 64, 3) := by decide +kernel
theorem dX12_name_84 : decode cX12_name 84 = .ok (.aload_n 0, 1) := by decide +kernel
theorem dX12_name_85 : decode cX12_name 85 = .ok (.getfield 233, 3) := by decide +kernel
theorem dX12_name_88 : decode cX12_name 88 = .ok (.aload_n 0, 1) := by decide +kernel
theorem dX12_name_89 : decode cX12_name 89 = .ok (.getfield 275, 3) := by decide +kernel
theorem dX12_name_92 : decode cX12_name 92 = .ok (.isub, 1) := by decide +kernel
theorem dX12_name_93 : decode cX12_name 93 = .ok (.bipush 6, 2) := by decide +kernel
theorem dX12_name_95 : decode cX12_name 95 = .ok (.if_icmp .ne 14, 3) := by decide +kernel
theorem dX12_name_98 : decode cX12_name 98 = .ok (.aload_n 0, 1) := by decide +kernel
theorem dX12_name_99 : decode cX12_name 99 = .ok (.iconst 1, 1) := by decide +kernel
theorem dX12_name_100 : decode cX12_name 100 = .ok (.aload_n 0, 1) := by decide +kernel
theorem dX12_name_101 : decode cX12_name 101 = .ok (.getfield 233, 3) := by decide +kernel
theorem dX12_name_104 : decode cX12_name 104 = .ok (.invokevirtual 257, 3) := by decide +kernel
theorem dX12_name_107 : decode cX12_name 107 = .ok (.lconst 0, 1) := by decide +kernel
theorem dX12_name_108 : decode cX12_name 108 = .ok (.lreturn, 1) := by decide +kernel
theorem dX12_name_109 : decode cX12_name 109 = .ok (.ldc2_w 278, 3) := by decide +kernel
theorem dX12_name_112 : decode cX12_name 112 = .ok (.lload_n 1, 1) := by decide +kernel
theorem dX12_name_113 : decode cX12_name 113 = .ok (.lmul, 1) := by decide +kernel
theorem dX12_name_114 : decode cX12_name 114 = .ok (.aload_n 0, 1) := by decide +kernel
theorem dX12_name_115 : decode cX12_name 115 = .ok (.getfield 7, 3) := by decide +kernel
theorem dX12_name_118 : decode cX12_name 118 = .ok (.aload_n 0, 1) := by decide +kernel
theorem dX12_name_119 : decode cX12_name 119 = .ok (.getfield 233, 3) := by decide +kernel
theorem dX12_name_122 : decode cX12_name 122 = .ok (.iaload, 1) := by decide +kernel
theorem dX12_name_123 : decode cX12_name 123 = .ok (.i2l, 1) := by decide +kernel
theorem dX12_name_124 : decode cX12_name 124 = .ok (.ladd, 1) := by decide +kernel
theorem dX12_name_125 : decode cX12_name 125 = .ok (.ldc2_w 280, 3) := by decide +kernel
theorem dX12_name_128 : decode cX12_name 128 = .ok (.lsub, 1) := by decide +kernel
theorem dX12_name_129 : decode cX12_name 129 = .ok (.lconst 1, 1) := by decide +kernel
theorem dX12_name_130 : decode cX12_name 130 = .ok (.ladd, 1) := by decide +kernel
theorem dX12_name_131 : decode cX12_name 131 = .ok (.lstore_n 1, 1) := by decide +kernel
theorem dX12_name_132 : decode cX12_name 132 = .ok (.aload_n 0, 1) := by decide +kernel
theorem dX12_name_133 : decode cX12_name 133 = .ok (.dup, 1) := by decide +kernel
theorem dX12_name_134 : decode cX12_name 134 = .ok (.getfield 233, 3) := by decide +kernel
theorem dX12_name_137 : decode cX12_name 137 = .ok (.iconst 1, 1) := by decide +kernel
theorem dX12_name_138 : decode cX12_name 138 = .ok (.iadd, 1) := by decide +kernel
theorem dX12_name_139 : decode cX12_name 139 = .ok (.putfield 233, 3) := by decide +kernel
theorem dX12_name_142 : decode cX12_name 142 = .ok (.goto (-84), 3) := by decide +kernel
theorem dX12_name_145 : decode cX12_name 145 = .ok (.aload_n 0, 1) := by decide +kernel
theorem dX12_name_146 : decode cX12_name 146 = .ok (.aload_n 0, 1) := by decide +kernel
theorem dX12_name_147 : decode cX12_name 147 = .ok (.getfield 233, 3) := by decide +kernel
theorem dX12_name_150 : decode cX12_name 150 = .ok (.putfield 247, 3) := by decide +kernel
theorem dX12_name_153 : decode cX12_name 153 = .ok (.lload_n 1, 1) := by decide +kernel
theorem dX12_name_154 : decode cX12_name 154 = .ok (.lreturn, 1) := by decide +kernel
set_option maxRecDepth 100000 in
theorem tj_X12_name_37 {g : GT} {n nf : Int} (hu : Up false nf n) (M : Mem) : AW g false RX12 cX12_name 3 (some .long) (3) n n nf 37 [(0, 2, 337)] [] n M (j_X12_name_37 M) := by
  unfold j_X12_name_37
  refine r_aload_n 0 dX12_name_37 rfl rfl ?_
  refine r_iconst dX12_name_38 ⟨by decide, by decide⟩ ?_
  refine r_aload_n 0 dX12_name_39 rfl rfl ?_
  refine r_gf (t := 0) (kz := 2) rfl hu dX12_name_40 kF_X12_233 kd_337 rfl rfl rfl ?_
  refine r_invv (a := 337) hu ⟨Nat.le_refl _, Nat.le_refl _⟩ dX12_name_43 kM_X12_257 (ci := 12) rfl kd_337 rfl rfl (by decide) (by decide) [(0, 1), (0, M 337 2)] rfl (sk := []) rfl (Nat.le_of_ble_eq_true rfl) rfl (m_X12_fail hu M 1 (M 337 2)) (fun r9 M10 => ?_)
  refine r_lconst (v := 0) dX12_name_46 (by decide) ⟨by decide, by decide⟩ ?_
  exact r_lret rfl rfl dX12_name_47
set_option maxRecDepth 100000 in
theorem tb_X12_name_58 {g : GT} {n nf : Int} (hu : Up false nf n) (w58 : Mem → Int → Res) (hw58 : ∀ (M : Mem) (x1 : Int), AW g false RX12 cX12_name 3 (some .long) (3) n n nf 58 [(0, 2, 337), (1, 1, x1)] [] n M (w58 M x1)) (M : Mem) (x1 : Int) : AW g false RX12 cX12_name 3 (some .long) (3) n n nf 58 [(0, 2, 337), (1, 1, x1)] [] n M (b_X12_name_58 w58 M x1) := by
  unfold b_X12_name_58
  refine r_aload_n 0 dX12_name_58 rfl rfl ?_
  refine r_gf (t := 0) (kz := 2) rfl hu dX12_name_59 kF_X12_233 kd_337 rfl rfl rfl ?_
  refine r_aload_n 0 dX12_name_62 rfl rfl ?_
  refine r_gf (t := 0) (kz := 3) rfl hu dX12_name_63 kF_X12_236 kd_337 rfl rfl rfl ?_
  refine r_icmp_ge (tgt := 145) dX12_name_66 rfl (fun h18 => ?_) (fun h19 => ?_)
  · refine r_aload_n 0 dX12_name_145 rfl rfl ?_
    refine r_aload_n 0 dX12_name_146 rfl rfl ?_
    refine r_gf (t := 0) (kz := 2) rfl hu dX12_name_147 kF_X12_233 kd_337 rfl rfl rfl ?_
    refine r_pf (t := 0) (kz := 4) rfl hu dX12_name_150 kF_X12_247 kd_337 rfl rfl rfl (fun h => absurd h (by decide)) rfl kX_12_4 (fun M20 eM20 => ?_)
    refine r_lload_n 1 dX12_name_153 rfl rfl ?_
    exact r_lret rfl rfl dX12_name_154
  · refine r_aload_n 0 dX12_name_69 rfl rfl ?_
    refine r_gx (kz := 0) rfl hu dX12_name_70 kF_X12_7 kd_337 rfl rfl rfl fx_337_0 ?_
    refine r_aload_n 0 dX12_name_73 rfl rfl ?_
    refine r_gf (t := 0) (kz := 2) rfl hu dX12_name_74 kF_X12_233 kd_337 rfl rfl rfl ?_
    refine r_ok (fun h21 => ?_)
    refine r_iald hu dX12_name_77 kd_338 rfl (Or.inl rfl) rfl ln_338 h21 ?_
    refine r_ins (a := 0) ⟨Nat.le_refl _, Nat.le_refl _⟩ dX12_name_78 kM_X12_243 (by decide) (by decide) [(0, M 338 (M 337 2))] rfl (sk := []) rfl (Nat.le_of_ble_eq_true rfl) rfl rfl (m_X12_isLetter hu M (M 338 (M 337 2))) (fun r22 M23 => ?_)
    refine r_if_eq (tgt := 145) dX12_name_81 rfl (fun h24 => ?_) (fun h25 => ?_)
    · refine r_aload_n 0 dX12_name_145 rfl rfl ?_
      refine r_aload_n 0 dX12_name_146 rfl rfl ?_
      refine r_gf (t := 0) (kz := 2) rfl hu dX12_name_147 kF_X12_233 kd_337 rfl rfl rfl ?_
      refine r_pf (t := 0) (kz := 4) rfl hu dX12_name_150 kF_X12_247 kd_337 rfl rfl rfl (fun h => absurd h (by decide)) rfl kX_12_4 (fun M26 eM26 => ?_)
      refine r_lload_n 1 dX12_name_153 rfl rfl ?_
      exact r_lret rfl rfl dX12_name_154
    · refine r_aload_n 0 dX12_name_84 rfl rfl ?_
      refine r_gf (t := 0) (kz := 2) rfl hu dX12_name_85 kF_X12_233 kd_337 rfl rfl rfl ?_
      refine r_aload_n 0 dX12_name_88 rfl rfl ?_
      refine r_gf (t := 0) (kz := 30) rfl hu dX12_name_89 kF_X12_275 kd_337 rfl rfl rfl ?_
      refine r_ok (fun h27 => ?_)
      refine r_isub dX12_name_92 h27 ?_
      refine r_bipush dX12_name_93 (by decide) ⟨by decide, by decide⟩ ?_
      refine r_icmp_ne (tgt := 109) dX12_name_95 rfl (fun h28 => ?_) (fun h29 => ?_)
      · refine r_aload_n 0 dX12_name_98 rfl rfl ?_
        refine r_iconst dX12_name_99 ⟨by decide, by decide⟩ ?_
        refine r_aload_n 0 dX12_name_100 rfl rfl ?_
        refine r_gf (t := 0) (kz := 2) rfl hu dX12_name_101 kF_X12_233 kd_337 rfl rfl rfl ?_
        refine r_invv (a := 337) hu ⟨Nat.le_refl _, Nat.le_refl _⟩ dX12_name_104 kM_X12_257 (ci := 12) rfl kd_337 rfl rfl (by decide) (by decide) [(0, 1), (0, M23 337 2)] rfl (sk := []) rfl (Nat.le_of_ble_eq_true rfl) rfl (m_X12_fail hu M23 1 (M23 337 2)) (fun r30 M31 => ?_)
        refine r_lconst (v := 0) dX12_name_107 (by decide) ⟨by decide, by decide⟩ ?_
        exact r_lret rfl rfl dX12_name_108
      · refine r_ldc2 (v := 27) dX12_name_109 kC_X12_278 rfl ⟨by decide, by decide⟩ ?_
        refine r_lload_n 1 dX12_name_112 rfl rfl ?_
        refine r_ok (fun h32 => ?_)
        refine r_lmul dX12_name_113 h32 ?_
        refine r_aload_n 0 dX12_name_114 rfl rfl ?_
        refine r_gx (kz := 0) rfl hu dX12_name_115 kF_X12_7 kd_337 rfl rfl rfl fx_337_0 ?_
        refine r_aload_n 0 dX12_name_118 rfl rfl ?_
        refine r_gf (t := 0) (kz := 2) rfl hu dX12_name_119 kF_X12_233 kd_337 rfl rfl rfl ?_
        refine r_ok (fun h33 => ?_)
        refine r_iald hu dX12_name_122 kd_338 rfl (Or.inl rfl) rfl ln_338 h33 ?_
        refine r_i2l dX12_name_123 ?_
        refine r_ok (fun h34 => ?_)
        refine r_ladd dX12_name_124 h34 ?_
        refine r_ldc2 (v := 97) dX12_name_125 kC_X12_280 rfl ⟨by decide, by decide⟩ ?_
        refine r_ok (fun h35 => ?_)
        refine r_lsub dX12_name_128 h35 ?_
        refine r_lconst (v := 1) dX12_name_129 (by decide) ⟨by decide, by decide⟩ ?_
        refine r_ok (fun h36 => ?_)
        refine r_ladd dX12_name_130 h36 ?_
        refine r_lstore_nB dX12_name_131 rfl (by decide) (lf := fun y37 => [(1, 1, y37), (0, 2, 337)]) (fun _ => rfl) (fun y37 ey37 => ?_)
        refine r_aload_n 1 dX12_name_132 rfl rfl ?_
        refine r_dup dX12_name_133 (nz2 _) ?_
        refine r_gf (t := 0) (kz := 2) rfl hu dX12_name_134 kF_X12_233 kd_337 rfl rfl rfl ?_
        refine r_iconst dX12_name_137 ⟨by decide, by decide⟩ ?_
        refine r_iadd dX12_name_138 ⟨by have := h33; omega, by have := h33; omega⟩ ?_
        refine r_pf (t := 0) (kz := 2) rfl hu dX12_name_139 kF_X12_233 kd_337 rfl rfl rfl (fun h => absurd h (by decide)) rfl kX_12_2 (fun M38 eM38 => ?_)
        refine r_goto (tgt := 58) dX12_name_142 rfl ?_
        refine r_sub [1, 0] (ls' := [(0, 2, 337), (1, 1, y37)]) rfl ?_
        exact hw58 M38 y37
set_option maxRecDepth 100000 in
theorem m_X12_name {g : GT} {n nf : Int} (hu : Up false nf n) (M : Mem) : AM g false yX12_name cX12_name 3 (some .long) (3) n n nf [(2, 337)] M (f_X12_name M) := by
  refine AM_of (by decide +kernel) (Nat.le_of_ble_eq_true rfl) (fun h => absurd h (Int.lt_irrefl n)) ?_
  show AW g false RX12 cX12_name 3 (some .long) (3) n n nf 0 [(0, 2, 337)] [] n M (f_X12_name M)
  unfold f_X12_name
  refine r_aload_n 0 dX12_name_0 rfl rfl ?_
  refine r_gf (t := 0) (kz := 5) rfl hu dX12_name_1 kF_X12_227 kd_337 rfl rfl rfl ?_
  refine r_if_eq (tgt := 9) dX12_name_4 rfl (fun h1 => ?_) (fun h2 => ?_)
  · refine r_aload_n 0 dX12_name_9 rfl rfl ?_
    refine r_inv (a := 337) hu ⟨Nat.le_refl _, Nat.le_refl _⟩ dX12_name_10 kM_X12_239 (ci := 12) rfl kd_337 rfl rfl (by decide) (by decide) [] rfl (sk := []) rfl (Nat.le_of_ble_eq_true rfl) rfl rfl (m_X12_look hu M) (fun r3 M4 => ?_)
    refine r_ins (a := 0) ⟨Nat.le_refl _, Nat.le_refl _⟩ dX12_name_13 kM_X12_243 (by decide) (by decide) [(0, r3)] rfl (sk := []) rfl (Nat.le_of_ble_eq_true rfl) rfl rfl (m_X12_isLetter hu M4 r3) (fun r5 M6 => ?_)
    refine r_if_eq (tgt := 37) dX12_name_16 rfl (fun h7 => ?_) (fun h8 => ?_)
    · exact tj_X12_name_37 hu M6
    · refine r_aload_n 0 dX12_name_19 rfl rfl ?_
      refine r_gf (t := 0) (kz := 2) rfl hu dX12_name_20 kF_X12_233 kd_337 rfl rfl rfl ?_
      refine r_aload_n 0 dX12_name_23 rfl rfl ?_
      refine r_gf (t := 0) (kz := 4) rfl hu dX12_name_24 kF_X12_247 kd_337 rfl rfl rfl ?_
      refine r_icmp_eq (tgt := 37) dX12_name_27 rfl (fun h11 => ?_) (fun h12 => ?_)
      · exact tj_X12_name_37 hu M6
      · refine r_aload_n 0 dX12_name_30 rfl rfl ?_
        refine r_inv (a := 337) hu ⟨Nat.le_refl _, Nat.le_refl _⟩ dX12_name_31 kM_X12_271 (ci := 12) rfl kd_337 rfl rfl (by decide) (by decide) [] rfl (sk := []) rfl (Nat.le_of_ble_eq_true rfl) rfl rfl (m_X12_isOwnHere hu M6) (fun r13 M14 => ?_)
        refine r_if_eq (tgt := 48) dX12_name_34 rfl (fun h15 => ?_) (fun h16 => ?_)
        · refine r_aload_n 0 dX12_name_48 rfl rfl ?_
          refine r_aload_n 0 dX12_name_49 rfl rfl ?_
          refine r_gf (t := 0) (kz := 2) rfl hu dX12_name_50 kF_X12_233 kd_337 rfl rfl rfl ?_
          refine r_pf (t := 0) (kz := 30) rfl hu dX12_name_53 kF_X12_275 kd_337 rfl rfl rfl (fun h => absurd h (by decide)) rfl kX_12_30 (fun M17 eM17 => ?_)
          refine r_lconst (v := 0) dX12_name_56 (by decide) ⟨by decide, by decide⟩ ?_
          refine r_lstore_n dX12_name_57 rfl (by decide) (ls' := [(1, 1, 0), (0, 2, 337)]) rfl ?_
          refine r_sub [1, 0] (ls' := [(0, 2, 337), (1, 1, 0)]) rfl ?_
          exact wl1_aw (P := fun M x1 o => AW g false RX12 cX12_name 3 (some .long) (3) n n nf 58 [(0, 2, 337), (1, 1, x1)] [] n M (o)) (fun M x1 => aw_none) (fun w hw M x1 => tb_X12_name_58 hu w hw M x1) FU M17 0
        · exact tj_X12_name_37 hu M14
  · refine r_lconst (v := 0) dX12_name_7 (by decide) ⟨by decide, by decide⟩ ?_
    exact r_lret rfl rfl dX12_name_8
theorem dX12_code_0 : decode cX12_code 0 = .ok (.aload_n 0, 1) := by decide +kernel
theorem dX12_code_1 : decode cX12_code 1 = .ok (.getfield 81, 3) := by decide +kernel
theorem dX12_code_4 : decode cX12_code 4 = .ok (.aload_n 0, 1) := by decide +kernel
theorem dX12_code_5 : decode cX12_code 5 = .ok (.getfield 282, 3) := by decide +kernel
theorem dX12_code_8 : decode cX12_code 8 = .ok (.iload_n 1, 1) := by decide +kernel
theorem dX12_code_9 : decode cX12_code 9 = .ok (.iastore, 1) := by decide +kernel
theorem dX12_code_10 : decode cX12_code 10 = .ok (.aload_n 0, 1) := by decide +kernel
theorem dX12_code_11 : decode cX12_code 11 = .ok (.dup, 1) := by decide +kernel
theorem dX12_code_12 : decode cX12_code 12 = .ok (.getfield 282, 3) := by decide +kernel
theorem dX12_code_15 : decode cX12_code 15 = .ok (.iconst 1, 1) := by decide +kernel
theorem dX12_code_16 : decode cX12_code 16 = .ok (.iadd, 1) := by decide +kernel
theorem dX12_code_17 : decode cX12_code 17 = .ok (.putfield 282, 3) := by decide +kernel
theorem dX12_code_20 : decode cX12_code 20 = .ok (.return_, 1) := by decide +kernel
set_option maxRecDepth 100000 in
theorem m_X12_code {g : GT} {n nf : Int} (hu : Up false nf n) (M : Mem) (a1 : Int) : AM g false yX12_code cX12_code 2 none (0) n n nf [(2, 337), (0, a1)] M (f_X12_code M a1) := by
  refine AM_of (by decide +kernel) (Nat.le_of_ble_eq_true rfl) (fun h => absurd h (Int.lt_irrefl n)) ?_
  show AW g false RX12 cX12_code 2 none (0) n n nf 0 [(0, 2, 337), (1, 0, a1)] [] n M (f_X12_code M a1)
  unfold f_X12_code
  refine r_aload_n 0 dX12_code_0 rfl rfl ?_
  refine r_gx (kz := 31) rfl hu dX12_code_1 kF_X12_81 kd_337 rfl rfl rfl fx_337_31 ?_
  refine r_aload_n 0 dX12_code_4 rfl rfl ?_
  refine r_gf (t := 0) (kz := 32) rfl hu dX12_code_5 kF_X12_282 kd_337 rfl rfl rfl ?_
  refine r_iload_n 1 dX12_code_8 rfl rfl ?_
  refine r_ok (fun h1 => ?_)
  refine r_iast hu dX12_code_9 kd_360 rfl (Or.inl rfl) rfl ln_360 h1 rfl (fun M2 eM2 => ?_)
  refine r_aload_n 0 dX12_code_10 rfl rfl ?_
  refine r_dup dX12_code_11 (nz2 _) ?_
  refine r_gf (t := 0) (kz := 32) rfl hu dX12_code_12 kF_X12_282 kd_337 rfl rfl rfl ?_
  refine r_iconst dX12_code_15 ⟨by decide, by decide⟩ ?_
  refine r_ok (fun h3 => ?_)
  refine r_iadd dX12_code_16 h3 ?_
  refine r_pf (t := 0) (kz := 32) rfl hu dX12_code_17 kF_X12_282 kd_337 rfl rfl rfl (fun h => absurd h (by decide)) rfl kX_12_32 (fun M4 eM4 => ?_)
  exact r_vret rfl rfl dX12_code_20
theorem dX12_opens_0 : decode cX12_opens 0 = .ok (.aload_n 0, 1) := by decide +kernel
theorem dX12_opens_1 : decode cX12_opens 1 = .ok (.getfield 285, 3) := by decide +kernel
theorem dX12_opens_4 : decode cX12_opens 4 = .ok (.bipush 6, 2) := by decide +kernel
theorem dX12_opens_6 : decode cX12_opens 6 = .ok (.if_icmp .ne 10, 3) := by decide +kernel
theorem dX12_opens_9 : decode cX12_opens 9 = .ok (.aload_n 0, 1) := by decide +kernel
theorem dX12_opens_10 : decode cX12_opens 10 = .ok (.iconst 4, 1) := by decide +kernel
theorem dX12_opens_11 : decode cX12_opens 11 = .ok (.iload_n 2, 1) := by decide +kernel
theorem dX12_opens_12 : decode cX12_opens 12 = .ok (.invokevirtual 257, 3) := by decide +kernel
theorem dX12_opens_15 : decode cX12_opens 15 = .ok (.return_, 1) := by decide +kernel
theorem dX12_opens_16 : decode cX12_opens 16 = .ok (.aload_n 0, 1) := by decide +kernel
theorem dX12_opens_17 : decode cX12_opens 17 = .ok (.dup, 1) := by decide +kernel
theorem dX12_opens_18 : decode cX12_opens 18 = .ok (.getfield 285, 3) := by decide +kernel
theorem dX12_opens_21 : decode cX12_opens 21 = .ok (.iconst 1, 1) := by decide +kernel
theorem dX12_opens_22 : decode cX12_opens 22 = .ok (.iadd, 1) := by decide +kernel
theorem dX12_opens_23 : decode cX12_opens 23 = .ok (.putfield 285, 3) := by decide +kernel
theorem dX12_opens_26 : decode cX12_opens 26 = .ok (.aload_n 0, 1) := by decide +kernel
theorem dX12_opens_27 : decode cX12_opens 27 = .ok (.getfield 84, 3) := by decide +kernel
theorem dX12_opens_30 : decode cX12_opens 30 = .ok (.aload_n 0, 1) := by decide +kernel
theorem dX12_opens_31 : decode cX12_opens 31 = .ok (.getfield 288, 3) := by decide +kernel
theorem dX12_opens_34 : decode cX12_opens 34 = .ok (.iload_n 1, 1) := by decide +kernel
theorem dX12_opens_35 : decode cX12_opens 35 = .ok (.iastore, 1) := by decide +kernel
theorem dX12_opens_36 : decode cX12_opens 36 = .ok (.aload_n 0, 1) := by decide +kernel
theorem dX12_opens_37 : decode cX12_opens 37 = .ok (.dup, 1) := by decide +kernel
theorem dX12_opens_38 : decode cX12_opens 38 = .ok (.getfield 288, 3) := by decide +kernel
theorem dX12_opens_41 : decode cX12_opens 41 = .ok (.iconst 1, 1) := by decide +kernel
theorem dX12_opens_42 : decode cX12_opens 42 = .ok (.iadd, 1) := by decide +kernel
theorem dX12_opens_43 : decode cX12_opens 43 = .ok (.putfield 288, 3) := by decide +kernel
theorem dX12_opens_46 : decode cX12_opens 46 = .ok (.return_, 1) := by decide +kernel
set_option maxRecDepth 100000 in
theorem m_X12_opens {g : GT} {n nf : Int} (hu : Up false nf n) (M : Mem) (a1 a2 : Int) : AM g false yX12_opens cX12_opens 3 none (1) n n nf [(2, 337), (0, a1), (0, a2)] M (f_X12_opens M a1 a2) := by
  refine AM_of (by decide +kernel) (Nat.le_of_ble_eq_true rfl) (fun h => absurd h (Int.lt_irrefl n)) ?_
  show AW g false RX12 cX12_opens 3 none (1) n n nf 0 [(0, 2, 337), (1, 0, a1), (2, 0, a2)] [] n M (f_X12_opens M a1 a2)
  unfold f_X12_opens
  refine r_aload_n 0 dX12_opens_0 rfl rfl ?_
  refine r_gf (t := 0) (kz := 35) rfl hu dX12_opens_1 kF_X12_285 kd_337 rfl rfl rfl ?_
  refine r_bipush dX12_opens_4 (by decide) ⟨by decide, by decide⟩ ?_
  refine r_icmp_ne (tgt := 16) dX12_opens_6 rfl (fun h1 => ?_) (fun h2 => ?_)
  · refine r_aload_n 0 dX12_opens_9 rfl rfl ?_
    refine r_iconst dX12_opens_10 ⟨by decide, by decide⟩ ?_
    refine r_iload_n 2 dX12_opens_11 rfl rfl ?_
    refine r_invv (a := 337) hu ⟨Nat.le_refl _, Nat.le_refl _⟩ dX12_opens_12 kM_X12_257 (ci := 12) rfl kd_337 rfl rfl (by decide) (by decide) [(0, 4), (0, a2)] rfl (sk := []) rfl (Nat.le_of_ble_eq_true rfl) rfl (m_X12_fail hu M 4 a2) (fun r3 M4 => ?_)
    exact r_vret rfl rfl dX12_opens_15
  · refine r_aload_n 0 dX12_opens_16 rfl rfl ?_
    refine r_dup dX12_opens_17 (nz2 _) ?_
    refine r_gf (t := 0) (kz := 35) rfl hu dX12_opens_18 kF_X12_285 kd_337 rfl rfl rfl ?_
    refine r_iconst dX12_opens_21 ⟨by decide, by decide⟩ ?_
    refine r_ok (fun h5 => ?_)
    refine r_iadd dX12_opens_22 h5 ?_
    refine r_pf (t := 0) (kz := 35) rfl hu dX12_opens_23 kF_X12_285 kd_337 rfl rfl rfl (fun h => absurd h (by decide)) rfl kX_12_35 (fun M6 eM6 => ?_)
    refine r_aload_n 0 dX12_opens_26 rfl rfl ?_
    refine r_gx (kz := 33) rfl hu dX12_opens_27 kF_X12_84 kd_337 rfl rfl rfl fx_337_33 ?_
    refine r_aload_n 0 dX12_opens_30 rfl rfl ?_
    refine r_gf (t := 0) (kz := 34) rfl hu dX12_opens_31 kF_X12_288 kd_337 rfl rfl rfl ?_
    refine r_iload_n 1 dX12_opens_34 rfl rfl ?_
    refine r_ok (fun h7 => ?_)
    refine r_iast hu dX12_opens_35 kd_361 rfl (Or.inl rfl) rfl ln_361 h7 rfl (fun M8 eM8 => ?_)
    refine r_aload_n 0 dX12_opens_36 rfl rfl ?_
    refine r_dup dX12_opens_37 (nz2 _) ?_
    refine r_gf (t := 0) (kz := 34) rfl hu dX12_opens_38 kF_X12_288 kd_337 rfl rfl rfl ?_
    refine r_iconst dX12_opens_41 ⟨by decide, by decide⟩ ?_
    refine r_ok (fun h9 => ?_)
    refine r_iadd dX12_opens_42 h9 ?_
    refine r_pf (t := 0) (kz := 34) rfl hu dX12_opens_43 kF_X12_288 kd_337 rfl rfl rfl (fun h => absurd h (by decide)) rfl kX_12_34 (fun M10 eM10 => ?_)
    exact r_vret rfl rfl dX12_opens_46
theorem dX12_isOn_0 : decode cX12_isOn 0 = .ok (.aload_n 0, 1) := by decide +kernel
theorem dX12_isOn_1 : decode cX12_isOn 1 = .ok (.getfield 288, 3) := by decide +kernel
theorem dX12_isOn_4 : decode cX12_isOn 4 = .ok (.ifCond .le 22, 3) := by decide +kernel
theorem dX12_isOn_7 : decode cX12_isOn 7 = .ok (.aload_n 0, 1) := by decide +kernel
theorem dX12_isOn_8 : decode cX12_isOn 8 = .ok (.getfield 84, 3) := by decide +kernel
theorem dX12_isOn_11 : decode cX12_isOn 11 = .ok (.aload_n 0, 1) := by decide +kernel
theorem dX12_isOn_12 : decode cX12_isOn 12 = .ok (.getfield 288, 3) := by decide +kernel
theorem dX12_isOn_15 : decode cX12_isOn 15 = .ok (.iconst 1, 1) := by decide +kernel
theorem dX12_isOn_16 : decode cX12_isOn 16 = .ok (.isub, 1) := by decide +kernel
theorem dX12_isOn_17 : decode cX12_isOn 17 = .ok (.iaload, 1) := by decide +kernel
theorem dX12_isOn_18 : decode cX12_isOn 18 = .ok (.iload_n 1, 1) := by decide +kernel
theorem dX12_isOn_19 : decode cX12_isOn 19 = .ok (.if_icmp .ne 7, 3) := by decide +kernel
theorem dX12_isOn_22 : decode cX12_isOn 22 = .ok (.iconst 1, 1) := by decide +kernel
theorem dX12_isOn_23 : decode cX12_isOn 23 = .ok (.goto 4, 3) := by decide +kernel
theorem dX12_isOn_26 : decode cX12_isOn 26 = .ok (.iconst 0, 1) := by decide +kernel
theorem dX12_isOn_27 : decode cX12_isOn 27 = .ok (.ireturn, 1) := by decide +kernel
set_option maxRecDepth 100000 in
theorem m_X12_isOn {g : GT} {n nf : Int} (hu : Up false nf n) (M : Mem) (a1 : Int) : AM g false yX12_isOn cX12_isOn 2 (some .boolean) (0) n n nf [(2, 337), (0, a1)] M (f_X12_isOn M a1) := by
  refine AM_of (by decide +kernel) (Nat.le_of_ble_eq_true rfl) (fun h => absurd h (Int.lt_irrefl n)) ?_
  show AW g false RX12 cX12_isOn 2 (some .boolean) (0) n n nf 0 [(0, 2, 337), (1, 0, a1)] [] n M (f_X12_isOn M a1)
  unfold f_X12_isOn
  refine r_aload_n 0 dX12_isOn_0 rfl rfl ?_
  refine r_gf (t := 0) (kz := 34) rfl hu dX12_isOn_1 kF_X12_288 kd_337 rfl rfl rfl ?_
  refine r_if_le (tgt := 26) dX12_isOn_4 rfl (fun h1 => ?_) (fun h2 => ?_)
  · refine r_iconst dX12_isOn_26 ⟨by decide, by decide⟩ ?_
    exact r_iret rfl rfl (Or.inr ⟨rfl, Or.inl rfl⟩) dX12_isOn_27
  · refine r_aload_n 0 dX12_isOn_7 rfl rfl ?_
    refine r_gx (kz := 33) rfl hu dX12_isOn_8 kF_X12_84 kd_337 rfl rfl rfl fx_337_33 ?_
    refine r_aload_n 0 dX12_isOn_11 rfl rfl ?_
    refine r_gf (t := 0) (kz := 34) rfl hu dX12_isOn_12 kF_X12_288 kd_337 rfl rfl rfl ?_
    refine r_iconst dX12_isOn_15 ⟨by decide, by decide⟩ ?_
    refine r_ok (fun h3 => ?_)
    refine r_isub dX12_isOn_16 h3 ?_
    refine r_ok (fun h4 => ?_)
    refine r_iald hu dX12_isOn_17 kd_361 rfl (Or.inl rfl) rfl ln_361 h4 ?_
    refine r_iload_n 1 dX12_isOn_18 rfl rfl ?_
    refine r_icmp_ne (tgt := 26) dX12_isOn_19 rfl (fun h5 => ?_) (fun h6 => ?_)
    · refine r_iconst dX12_isOn_22 ⟨by decide, by decide⟩ ?_
      refine r_goto (tgt := 27) dX12_isOn_23 rfl ?_
      exact r_iret rfl rfl (Or.inr ⟨rfl, Or.inr rfl⟩) dX12_isOn_27
    · refine r_iconst dX12_isOn_26 ⟨by decide, by decide⟩ ?_
      exact r_iret rfl rfl (Or.inr ⟨rfl, Or.inl rfl⟩) dX12_isOn_27
theorem dX12_drops_0 : decode cX12_drops 0 = .ok (.aload_n 0, 1) := by decide +kernel
theorem dX12_drops_1 : decode cX12_drops 1 = .ok (.dup, 1) := by decide +kernel
theorem dX12_drops_2 : decode cX12_drops 2 = .ok (.getfield 288, 3) := by decide +kernel
theorem dX12_drops_5 : decode cX12_drops 5 = .ok (.iconst 1, 1) := by decide +kernel
theorem dX12_drops_6 : decode cX12_drops 6 = .ok (.isub, 1) := by decide +kernel
theorem dX12_drops_7 : decode cX12_drops 7 = .ok (.putfield 288, 3) := by decide +kernel
theorem dX12_drops_10 : decode cX12_drops 10 = .ok (.aload_n 0, 1) := by decide +kernel
theorem dX12_drops_11 : decode cX12_drops 11 = .ok (.aload_n 0, 1) := by decide +kernel
theorem dX12_drops_12 : decode cX12_drops 12 = .ok (.getfield 84, 3) := by decide +kernel
theorem dX12_drops_15 : decode cX12_drops 15 = .ok (.aload_n 0, 1) := by decide +kernel
theorem dX12_drops_16 : decode cX12_drops 16 = .ok (.getfield 288, 3) := by decide +kernel
theorem dX12_drops_19 : decode cX12_drops 19 = .ok (.iaload, 1) := by decide +kernel
theorem dX12_drops_20 : decode cX12_drops 20 = .ok (.invokevirtual 291, 3) := by decide +kernel
theorem dX12_drops_23 : decode cX12_drops 23 = .ok (.return_, 1) := by decide +kernel
set_option maxRecDepth 100000 in
theorem m_X12_drops {g : GT} {n nf : Int} (hu : Up false nf n) (M : Mem) : AM g false yX12_drops cX12_drops 1 none (1) n n nf [(2, 337)] M (f_X12_drops M) := by
  refine AM_of (by decide +kernel) (Nat.le_of_ble_eq_true rfl) (fun h => absurd h (Int.lt_irrefl n)) ?_
  show AW g false RX12 cX12_drops 1 none (1) n n nf 0 [(0, 2, 337)] [] n M (f_X12_drops M)
  unfold f_X12_drops
  refine r_aload_n 0 dX12_drops_0 rfl rfl ?_
  refine r_dup dX12_drops_1 (nz2 _) ?_
  refine r_gf (t := 0) (kz := 34) rfl hu dX12_drops_2 kF_X12_288 kd_337 rfl rfl rfl ?_
  refine r_iconst dX12_drops_5 ⟨by decide, by decide⟩ ?_
  refine r_ok (fun h1 => ?_)
  refine r_isub dX12_drops_6 h1 ?_
  refine r_pf (t := 0) (kz := 34) rfl hu dX12_drops_7 kF_X12_288 kd_337 rfl rfl rfl (fun h => absurd h (by decide)) rfl kX_12_34 (fun M2 eM2 => ?_)
  refine r_aload_n 0 dX12_drops_10 rfl rfl ?_
  refine r_aload_n 0 dX12_drops_11 rfl rfl ?_
  refine r_gx (kz := 33) rfl hu dX12_drops_12 kF_X12_84 kd_337 rfl rfl rfl fx_337_33 ?_
  refine r_aload_n 0 dX12_drops_15 rfl rfl ?_
  refine r_gf (t := 0) (kz := 34) rfl hu dX12_drops_16 kF_X12_288 kd_337 rfl rfl rfl ?_
  refine r_ok (fun h3 => ?_)
  refine r_iald hu dX12_drops_19 kd_361 rfl (Or.inl rfl) rfl ln_361 h3 ?_
  refine r_invv (a := 337) hu ⟨Nat.le_refl _, Nat.le_refl _⟩ dX12_drops_20 kM_X12_291 (ci := 12) rfl kd_337 rfl rfl (by decide) (by decide) [(0, M2 361 (M2 337 34))] rfl (sk := []) rfl (Nat.le_of_ble_eq_true rfl) rfl (m_X12_code hu M2 (M2 361 (M2 337 34))) (fun r4 M5 => ?_)
  exact r_vret rfl rfl dX12_drops_23
theorem dX12_isMark_0 : decode cX12_isMark 0 = .ok (.iload_n 1, 1) := by decide +kernel
theorem dX12_isMark_1 : decode cX12_isMark 1 = .ok (.bipush 20, 2) := by decide +kernel
theorem dX12_isMark_3 : decode cX12_isMark 3 = .ok (.if_icmp .lt 13, 3) := by decide +kernel
theorem dX12_isMark_6 : decode cX12_isMark 6 = .ok (.iload_n 1, 1) := by decide +kernel
theorem dX12_isMark_7 : decode cX12_isMark 7 = .ok (.bipush 24, 2) := by decide +kernel
theorem dX12_isMark_9 : decode cX12_isMark 9 = .ok (.if_icmp .gt 7, 3) := by decide +kernel
theorem dX12_isMark_12 : decode cX12_isMark 12 = .ok (.iconst 1, 1) := by decide +kernel
theorem dX12_isMark_13 : decode cX12_isMark 13 = .ok (.goto 4, 3) := by decide +kernel
theorem dX12_isMark_16 : decode cX12_isMark 16 = .ok (.iconst 0, 1) := by decide +kernel
theorem dX12_isMark_17 : decode cX12_isMark 17 = .ok (.ireturn, 1) := by decide +kernel
set_option maxRecDepth 100000 in
theorem m_X12_isMark {g : GT} {n nf : Int} (hu : Up false nf n) (M : Mem) (a1 : Int) : AM g false yX12_isMark cX12_isMark 2 (some .boolean) (0) n n nf [(2, 337), (0, a1)] M (f_X12_isMark M a1) := by
  refine AM_of (by decide +kernel) (Nat.le_of_ble_eq_true rfl) (fun h => absurd h (Int.lt_irrefl n)) ?_
  show AW g false RX12 cX12_isMark 2 (some .boolean) (0) n n nf 0 [(0, 2, 337), (1, 0, a1)] [] n M (f_X12_isMark M a1)
  unfold f_X12_isMark
  refine r_iload_n 1 dX12_isMark_0 rfl rfl ?_
  refine r_bipush dX12_isMark_1 (by decide) ⟨by decide, by decide⟩ ?_
  refine r_icmp_lt (tgt := 16) dX12_isMark_3 rfl (fun h1 => ?_) (fun h2 => ?_)
  · refine r_iconst dX12_isMark_16 ⟨by decide, by decide⟩ ?_
    exact r_iret rfl rfl (Or.inr ⟨rfl, Or.inl rfl⟩) dX12_isMark_17
  · refine r_iload_n 1 dX12_isMark_6 rfl rfl ?_
    refine r_bipush dX12_isMark_7 (by decide) ⟨by decide, by decide⟩ ?_
    refine r_icmp_gt (tgt := 16) dX12_isMark_9 rfl (fun h3 => ?_) (fun h4 => ?_)
    · refine r_iconst dX12_isMark_16 ⟨by decide, by decide⟩ ?_
      exact r_iret rfl rfl (Or.inr ⟨rfl, Or.inl rfl⟩) dX12_isMark_17
    · refine r_iconst dX12_isMark_12 ⟨by decide, by decide⟩ ?_
      refine r_goto (tgt := 17) dX12_isMark_13 rfl ?_
      exact r_iret rfl rfl (Or.inr ⟨rfl, Or.inr rfl⟩) dX12_isMark_17
theorem dX12_mark_0 : decode cX12_mark 0 = .ok (.aload_n 0, 1) := by decide +kernel
theorem dX12_mark_1 : decode cX12_mark 1 = .ok (.getfield 288, 3) := by decide +kernel
theorem dX12_mark_4 : decode cX12_mark 4 = .ok (.iconst 1, 1) := by decide +kernel
theorem dX12_mark_5 : decode cX12_mark 5 = .ok (.isub, 1) := by decide +kernel
theorem dX12_mark_6 : decode cX12_mark 6 = .ok (.istore_n 1, 1) := by decide +kernel
theorem dX12_mark_7 : decode cX12_mark 7 = .ok (.iload_n 1, 1) := by decide +kernel
theorem dX12_mark_8 : decode cX12_mark 8 = .ok (.aload_n 0, 1) := by decide +kernel
theorem dX12_mark_9 : decode cX12_mark 9 = .ok (.getfield 295, 3) := by decide +kernel
theorem dX12_mark_12 : decode cX12_mark 12 = .ok (.if_icmp .lt 22, 3) := by decide +kernel
theorem dX12_mark_15 : decode cX12_mark 15 = .ok (.aload_n 0, 1) := by decide +kernel
theorem dX12_mark_16 : decode cX12_mark 16 = .ok (.aload_n 0, 1) := by decide +kernel
theorem dX12_mark_17 : decode cX12_mark 17 = .ok (.getfield 84, 3) := by decide +kernel
theorem dX12_mark_20 : decode cX12_mark 20 = .ok (.iload_n 1, 1) := by decide +kernel
theorem dX12_mark_21 : decode cX12_mark 21 = .ok (.iaload, 1) := by decide +kernel
theorem dX12_mark_22 : decode cX12_mark 22 = .ok (.invokevirtual 298, 3) := by decide +kernel
theorem dX12_mark_25 : decode cX12_mark 25 = .ok (.ifCond .ne 9, 3) := by decide +kernel
theorem dX12_mark_28 : decode cX12_mark 28 = .ok (.iinc 1 (-1), 3) := by decide +kernel
theorem dX12_mark_31 : decode cX12_mark 31 = .ok (.goto (-24), 3) := by decide +kernel
theorem dX12_mark_34 : decode cX12_mark 34 = .ok (.iload_n 1, 1) := by decide +kernel
theorem dX12_mark_35 : decode cX12_mark 35 = .ok (.aload_n 0, 1) := by decide +kernel
theorem dX12_mark_36 : decode cX12_mark 36 = .ok (.getfield 295, 3) := by decide +kernel
theorem dX12_mark_39 : decode cX12_mark 39 = .ok (.if_icmp .lt 12, 3) := by decide +kernel
theorem dX12_mark_42 : decode cX12_mark 42 = .ok (.aload_n 0, 1) := by decide +kernel
theorem dX12_mark_43 : decode cX12_mark 43 = .ok (.getfield 84, 3) := by decide +kernel
theorem dX12_mark_46 : decode cX12_mark 46 = .ok (.iload_n 1, 1) := by decide +kernel
theorem dX12_mark_47 : decode cX12_mark 47 = .ok (.iaload, 1) := by decide +kernel
theorem dX12_mark_48 : decode cX12_mark 48 = .ok (.goto 4, 3) := by decide +kernel
theorem dX12_mark_51 : decode cX12_mark 51 = .ok (.iconst (-1), 1) := by decide +kernel
theorem dX12_mark_52 : decode cX12_mark 52 = .ok (.ireturn, 1) := by decide +kernel
set_option maxRecDepth 100000 in
theorem tj_X12_mark_34 {g : GT} {n nf : Int} (hu : Up false nf n) (M : Mem) (x1 : Int) : AW g false RX12 cX12_mark 2 (some .int) (1) n n nf 34 [(0, 2, 337), (1, 0, x1)] [] n M (j_X12_mark_34 M x1) := by
  unfold j_X12_mark_34
  refine r_iload_n 1 dX12_mark_34 rfl rfl ?_
  refine r_aload_n 0 dX12_mark_35 rfl rfl ?_
  refine r_gf (t := 0) (kz := 51) rfl hu dX12_mark_36 kF_X12_295 kd_337 rfl rfl rfl ?_
  refine r_icmp_lt (tgt := 51) dX12_mark_39 rfl (fun h5 => ?_) (fun h6 => ?_)
  · refine r_iconst dX12_mark_51 ⟨by decide, by decide⟩ ?_
    exact r_iret rfl rfl (Or.inl rfl) dX12_mark_52
  · refine r_aload_n 0 dX12_mark_42 rfl rfl ?_
    refine r_gx (kz := 33) rfl hu dX12_mark_43 kF_X12_84 kd_337 rfl rfl rfl fx_337_33 ?_
    refine r_iload_n 1 dX12_mark_46 rfl rfl ?_
    refine r_ok (fun h7 => ?_)
    refine r_iald hu dX12_mark_47 kd_361 rfl (Or.inl rfl) rfl ln_361 h7 ?_
    refine r_goto (tgt := 52) dX12_mark_48 rfl ?_
    exact r_iret rfl rfl (Or.inl rfl) dX12_mark_52
set_option maxRecDepth 100000 in
theorem tb_X12_mark_7 {g : GT} {n nf : Int} (hu : Up false nf n) (w7 : Mem → Int → Res) (hw7 : ∀ (M : Mem) (x1 : Int), AW g false RX12 cX12_mark 2 (some .int) (1) n n nf 7 [(0, 2, 337), (1, 0, x1)] [] n M (w7 M x1)) (M : Mem) (x1 : Int) : AW g false RX12 cX12_mark 2 (some .int) (1) n n nf 7 [(0, 2, 337), (1, 0, x1)] [] n M (b_X12_mark_7 w7 M x1) := by
  unfold b_X12_mark_7
  refine r_iload_n 1 dX12_mark_7 rfl rfl ?_
  refine r_aload_n 0 dX12_mark_8 rfl rfl ?_
  refine r_gf (t := 0) (kz := 51) rfl hu dX12_mark_9 kF_X12_295 kd_337 rfl rfl rfl ?_
  refine r_icmp_lt (tgt := 34) dX12_mark_12 rfl (fun h3 => ?_) (fun h4 => ?_)
  · exact tj_X12_mark_34 hu M x1
  · refine r_aload_n 0 dX12_mark_15 rfl rfl ?_
    refine r_aload_n 0 dX12_mark_16 rfl rfl ?_
    refine r_gx (kz := 33) rfl hu dX12_mark_17 kF_X12_84 kd_337 rfl rfl rfl fx_337_33 ?_
    refine r_iload_n 1 dX12_mark_20 rfl rfl ?_
    refine r_ok (fun h8 => ?_)
    refine r_iald hu dX12_mark_21 kd_361 rfl (Or.inl rfl) rfl ln_361 h8 ?_
    refine r_inv (a := 337) hu ⟨Nat.le_refl _, Nat.le_refl _⟩ dX12_mark_22 kM_X12_298 (ci := 12) rfl kd_337 rfl rfl (by decide) (by decide) [(0, M 361 x1)] rfl (sk := []) rfl (Nat.le_of_ble_eq_true rfl) rfl rfl (m_X12_isMark hu M (M 361 x1)) (fun r9 M10 => ?_)
    refine r_if_ne (tgt := 34) dX12_mark_25 rfl (fun h11 => ?_) (fun h12 => ?_)
    · refine r_iincB 1 dX12_mark_28 rfl ⟨by have := h8; omega, by have := h8; omega⟩ (by decide) (lf := fun y13 => [(1, 0, y13), (0, 2, 337)]) (fun _ => rfl) (fun y13 ey13 => ?_)
      refine r_goto (tgt := 7) dX12_mark_31 rfl ?_
      refine r_sub [1, 0] (ls' := [(0, 2, 337), (1, 0, y13)]) rfl ?_
      exact hw7 M10 y13
    · exact tj_X12_mark_34 hu M10 x1
set_option maxRecDepth 100000 in
theorem m_X12_mark {g : GT} {n nf : Int} (hu : Up false nf n) (M : Mem) : AM g false yX12_mark cX12_mark 2 (some .int) (1) n n nf [(2, 337)] M (f_X12_mark M) := by
  refine AM_of (by decide +kernel) (Nat.le_of_ble_eq_true rfl) (fun h => absurd h (Int.lt_irrefl n)) ?_
  show AW g false RX12 cX12_mark 2 (some .int) (1) n n nf 0 [(0, 2, 337)] [] n M (f_X12_mark M)
  unfold f_X12_mark
  refine r_aload_n 0 dX12_mark_0 rfl rfl ?_
  refine r_gf (t := 0) (kz := 34) rfl hu dX12_mark_1 kF_X12_288 kd_337 rfl rfl rfl ?_
  refine r_iconst dX12_mark_4 ⟨by decide, by decide⟩ ?_
  refine r_ok (fun h1 => ?_)
  refine r_isub dX12_mark_5 h1 ?_
  refine r_istore_nB dX12_mark_6 rfl (by decide) (lf := fun y2 => [(1, 0, y2), (0, 2, 337)]) (fun _ => rfl) (fun y2 ey2 => ?_)
  refine r_sub [1, 0] (ls' := [(0, 2, 337), (1, 0, y2)]) rfl ?_
  exact wl1_aw (P := fun M x1 o => AW g false RX12 cX12_mark 2 (some .int) (1) n n nf 7 [(0, 2, 337), (1, 0, x1)] [] n M (o)) (fun M x1 => aw_none) (fun w hw M x1 => tb_X12_mark_7 hu w hw M x1) FU M y2
theorem dX12_dropsToMark_0 : decode cX12_dropsToMark 0 = .ok (.aload_n 0, 1) := by decide +kernel
theorem dX12_dropsToMark_1 : decode cX12_dropsToMark 1 = .ok (.getfield 288, 3) := by decide +kernel
theorem dX12_dropsToMark_4 : decode cX12_dropsToMark 4 = .ok (.aload_n 0, 1) := by decide +kernel
theorem dX12_dropsToMark_5 : decode cX12_dropsToMark 5 = .ok (.getfield 295, 3) := by decide +kernel
theorem dX12_dropsToMark_8 : decode cX12_dropsToMark 8 = .ok (.if_icmp .le 28, 3) := by decide +kernel
theorem dX12_dropsToMark_11 : decode cX12_dropsToMark 11 = .ok (.aload_n 0, 1) := by decide +kernel
theorem dX12_dropsToMark_12 : decode cX12_dropsToMark 12 = .ok (.aload_n 0, 1) := by decide +kernel
theorem dX12_dropsToMark_13 : decode cX12_dropsToMark 13 = .ok (.getfield 84, 3) := by decide +kernel
theorem dX12_dropsToMark_16 : decode cX12_dropsToMark 16 = .ok (.aload_n 0, 1) := by decide +kernel
theorem dX12_dropsToMark_17 : decode cX12_dropsToMark 17 = .ok (.getfield 288, 3) := by decide +kernel
theorem dX12_dropsToMark_20 : decode cX12_dropsToMark 20 = .ok (.iconst 1, 1) := by decide +kernel
theorem dX12_dropsToMark_21 : decode cX12_dropsToMark 21 = .ok (.isub, 1) := by decide +kernel
theorem dX12_dropsToMark_22 : decode cX12_dropsToMark 22 = .ok (.iaload, 1) := by decide +kernel
theorem dX12_dropsToMark_23 : decode cX12_dropsToMark 23 = .ok (.invokevirtual 298, 3) := by decide +kernel
theorem dX12_dropsToMark_26 : decode cX12_dropsToMark 26 = .ok (.ifCond .ne 10, 3) := by decide +kernel
theorem dX12_dropsToMark_29 : decode cX12_dropsToMark 29 = .ok (.aload_n 0, 1) := by decide +kernel
theorem dX12_dropsToMark_30 : decode cX12_dropsToMark 30 = .ok (.invokevirtual 301, 3) := by decide +kernel
theorem dX12_dropsToMark_33 : decode cX12_dropsToMark 33 = .ok (.goto (-33), 3) := by decide +kernel
theorem dX12_dropsToMark_36 : decode cX12_dropsToMark 36 = .ok (.return_, 1) := by decide +kernel
set_option maxRecDepth 100000 in
theorem tb_X12_dropsToMark_0 {g : GT} {n nf : Int} (hu : Up false nf n) (w0 : Mem → Res) (hw0 : ∀ (M : Mem), AW g false RX12 cX12_dropsToMark 1 none (2) n n nf 0 [(0, 2, 337)] [] n M (w0 M)) (M : Mem) : AW g false RX12 cX12_dropsToMark 1 none (2) n n nf 0 [(0, 2, 337)] [] n M (b_X12_dropsToMark_0 w0 M) := by
  unfold b_X12_dropsToMark_0
  refine r_aload_n 0 dX12_dropsToMark_0 rfl rfl ?_
  refine r_gf (t := 0) (kz := 34) rfl hu dX12_dropsToMark_1 kF_X12_288 kd_337 rfl rfl rfl ?_
  refine r_aload_n 0 dX12_dropsToMark_4 rfl rfl ?_
  refine r_gf (t := 0) (kz := 51) rfl hu dX12_dropsToMark_5 kF_X12_295 kd_337 rfl rfl rfl ?_
  refine r_icmp_le (tgt := 36) dX12_dropsToMark_8 rfl (fun h1 => ?_) (fun h2 => ?_)
  · exact r_vret rfl rfl dX12_dropsToMark_36
  · refine r_aload_n 0 dX12_dropsToMark_11 rfl rfl ?_
    refine r_aload_n 0 dX12_dropsToMark_12 rfl rfl ?_
    refine r_gx (kz := 33) rfl hu dX12_dropsToMark_13 kF_X12_84 kd_337 rfl rfl rfl fx_337_33 ?_
    refine r_aload_n 0 dX12_dropsToMark_16 rfl rfl ?_
    refine r_gf (t := 0) (kz := 34) rfl hu dX12_dropsToMark_17 kF_X12_288 kd_337 rfl rfl rfl ?_
    refine r_iconst dX12_dropsToMark_20 ⟨by decide, by decide⟩ ?_
    refine r_ok (fun h3 => ?_)
    refine r_isub dX12_dropsToMark_21 h3 ?_
    refine r_ok (fun h4 => ?_)
    refine r_iald hu dX12_dropsToMark_22 kd_361 rfl (Or.inl rfl) rfl ln_361 h4 ?_
    refine r_inv (a := 337) hu ⟨Nat.le_refl _, Nat.le_refl _⟩ dX12_dropsToMark_23 kM_X12_298 (ci := 12) rfl kd_337 rfl rfl (by decide) (by decide) [(0, M 361 ((M 337 34) - 1))] rfl (sk := []) rfl (Nat.le_of_ble_eq_true rfl) rfl rfl (m_X12_isMark hu M (M 361 ((M 337 34) - 1))) (fun r5 M6 => ?_)
    refine r_if_ne (tgt := 36) dX12_dropsToMark_26 rfl (fun h7 => ?_) (fun h8 => ?_)
    · refine r_aload_n 0 dX12_dropsToMark_29 rfl rfl ?_
      refine r_invv (a := 337) hu ⟨Nat.le_refl _, Nat.le_refl _⟩ dX12_dropsToMark_30 kM_X12_301 (ci := 12) rfl kd_337 rfl rfl (by decide) (by decide) [] rfl (sk := []) rfl (Nat.le_of_ble_eq_true rfl) rfl (m_X12_drops hu M6) (fun r9 M10 => ?_)
      refine r_goto (tgt := 0) dX12_dropsToMark_33 rfl ?_
      exact hw0 M10
    · exact r_vret rfl rfl dX12_dropsToMark_36
set_option maxRecDepth 100000 in
theorem m_X12_dropsToMark {g : GT} {n nf : Int} (hu : Up false nf n) (M : Mem) : AM g false yX12_dropsToMark cX12_dropsToMark 1 none (2) n n nf [(2, 337)] M (f_X12_dropsToMark M) := by
  refine AM_of (by decide +kernel) (Nat.le_of_ble_eq_true rfl) (fun h => absurd h (Int.lt_irrefl n)) ?_
  show AW g false RX12 cX12_dropsToMark 1 none (2) n n nf 0 [(0, 2, 337)] [] n M (f_X12_dropsToMark M)
  unfold f_X12_dropsToMark
  exact wl0_aw (P := fun M o => AW g false RX12 cX12_dropsToMark 1 none (2) n n nf 0 [(0, 2, 337)] [] n M (o)) (fun M => aw_none) (fun w hw M => tb_X12_dropsToMark_0 hu w hw M) FU M
