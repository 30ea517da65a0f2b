theorem dX11_letterOf_0 : decode cX11_letterOf 0 = .ok (.iload_n 0, 1) := by decide +kernel
theorem dX11_letterOf_1 : decode cX11_letterOf 1 = .ok (.istore_n 2, 1) := by decide +kernel
theorem dX11_letterOf_2 : decode cX11_letterOf 2 = .ok (.iload_n 1, 1) := by decide +kernel
theorem dX11_letterOf_3 : decode cX11_letterOf 3 = .ok (.istore_n 3, 1) := by decide +kernel
theorem dX11_letterOf_4 : decode cX11_letterOf 4 = .ok (.iload_n 3, 1) := by decide +kernel
theorem dX11_letterOf_5 : decode cX11_letterOf 5 = .ok (.iconst 5, 1) := by decide +kernel
theorem dX11_letterOf_6 : decode cX11_letterOf 6 = .ok (.if_icmp .ge 14, 3) := by decide +kernel
theorem dX11_letterOf_9 : decode cX11_letterOf 9 = .ok (.iload_n 2, 1) := by decide +kernel
theorem dX11_letterOf_10 : decode cX11_letterOf 10 = .ok (.bipush 27, 2) := by decide +kernel
theorem dX11_letterOf_12 : decode cX11_letterOf 12 = .ok (.idiv, 1) := by decide +kernel
theorem dX11_letterOf_13 : decode cX11_letterOf 13 = .ok (.istore_n 2, 1) := by decide +kernel
theorem dX11_letterOf_14 : decode cX11_letterOf 14 = .ok (.iinc 3 1, 3) := by decide +kernel
theorem dX11_letterOf_17 : decode cX11_letterOf 17 = .ok (.goto (-13), 3) := by decide +kernel
theorem dX11_letterOf_20 : decode cX11_letterOf 20 = .ok (.iload_n 2, 1) := by decide +kernel
theorem dX11_letterOf_21 : decode cX11_letterOf 21 = .ok (.bipush 27, 2) := by decide +kernel
theorem dX11_letterOf_23 : decode cX11_letterOf 23 = .ok (.irem, 1) := by decide +kernel
theorem dX11_letterOf_24 : decode cX11_letterOf 24 = .ok (.ireturn, 1) := by decide +kernel
set_option maxRecDepth 100000 in
theorem tb_X11_letterOf_4 {g : GT} {n nf : Int} (hu : Up true nf n) (w4 : Mem → Int → Int → Res) (hw4 : ∀ (M : Mem) (x2 x3 : Int), AW g true RX11 cX11_letterOf 4 (some .int) (0) n n nf 4 [(2, 0, x2), (3, 0, x3)] [] n M (w4 M x2 x3)) (M : Mem) (x2 x3 : Int) : AW g true RX11 cX11_letterOf 4 (some .int) (0) n n nf 4 [(2, 0, x2), (3, 0, x3)] [] n M (b_X11_letterOf_4 w4 M x2 x3) := by
  unfold b_X11_letterOf_4
  refine r_iload_n 1 dX11_letterOf_4 rfl rfl ?_
  refine r_iconst dX11_letterOf_5 ⟨by decide, by decide⟩ ?_
  refine r_icmp_ge (tgt := 20) dX11_letterOf_6 rfl (fun h1 => ?_) (fun h2 => ?_)
  · refine r_iload_n 0 dX11_letterOf_20 rfl rfl ?_
    refine r_bipush dX11_letterOf_21 (by decide) ⟨by decide, by decide⟩ ?_
    refine r_ok (fun h3 => ?_)
    refine r_iremP dX11_letterOf_23 ⟨h3, by decide⟩ ?_
    exact r_iret rfl rfl (Or.inl rfl) dX11_letterOf_24
  · refine r_iload_n 0 dX11_letterOf_9 rfl rfl ?_
    refine r_bipush dX11_letterOf_10 (by decide) ⟨by decide, by decide⟩ ?_
    refine r_ok (fun h4 => ?_)
    refine r_idivP dX11_letterOf_12 ⟨h4, by decide⟩ ?_
    refine r_istore_nB dX11_letterOf_13 rfl (by decide) (lf := fun y5 => [(2, 0, y5), (3, 0, x3)]) (fun _ => rfl) (fun y5 ey5 => ?_)
    refine r_ok (fun h6 => ?_)
    refine r_iincB 1 dX11_letterOf_14 rfl h6 (by decide) (lf := fun y7 => [(3, 0, y7), (2, 0, y5)]) (fun _ => rfl) (fun y7 ey7 => ?_)
    refine r_goto (tgt := 4) dX11_letterOf_17 rfl ?_
    refine r_sub [1, 0] (ls' := [(2, 0, y5), (3, 0, y7)]) rfl ?_
    exact hw4 M y5 y7
set_option maxRecDepth 100000 in
theorem m_X11_letterOf {g : GT} {n nf : Int} (hu : Up true nf n) (M : Mem) (a0 a1 : Int) : AM g true yX11_letterOf cX11_letterOf 4 (some .int) (0) n n nf [(0, a0), (0, a1)] M (f_X11_letterOf M a0 a1) := by
  refine AM_of (by decide +kernel) (Nat.le_of_ble_eq_true rfl) (fun h => absurd h (Int.lt_irrefl n)) ?_
  show AW g true RX11 cX11_letterOf 4 (some .int) (0) n n nf 0 [(0, 0, a0), (1, 0, a1)] [] n M (f_X11_letterOf M a0 a1)
  unfold f_X11_letterOf
  refine r_iload_n 0 dX11_letterOf_0 rfl rfl ?_
  refine r_istore_n dX11_letterOf_1 rfl (by decide) (ls' := [(2, 0, a0), (0, 0, a0), (1, 0, a1)]) rfl ?_
  refine r_iload_n 2 dX11_letterOf_2 rfl rfl ?_
  refine r_istore_n dX11_letterOf_3 rfl (by decide) (ls' := [(3, 0, a1), (2, 0, a0), (0, 0, a0), (1, 0, a1)]) rfl ?_
  refine r_sub [1, 0] (ls' := [(2, 0, a0), (3, 0, a1)]) rfl ?_
  exact wl2_aw (P := fun M x2 x3 o => AW g true RX11 cX11_letterOf 4 (some .int) (0) n n nf 4 [(2, 0, x2), (3, 0, x3)] [] n M (o)) (fun M x2 x3 => aw_none) (fun w hw M x2 x3 => tb_X11_letterOf_4 hu w hw M x2 x3) FU M a0 a1
theorem dX11_letter_0 : decode cX11_letter 0 = .ok (.iload_n 1, 1) := by decide +kernel
theorem dX11_letter_1 : decode cX11_letter 1 = .ok (.iconst (-1), 1) := by decide +kernel
theorem dX11_letter_2 : decode cX11_letter 2 = .ok (.if_icmp .ne 10, 3) := by decide +kernel
theorem dX11_letter_5 : decode cX11_letter 5 = .ok (.aload_n 0, 1) := by decide +kernel
theorem dX11_letter_6 : decode cX11_letter 6 = .ok (.getfield 67, 3) := by decide +kernel
theorem dX11_letter_9 : decode cX11_letter 9 = .ok (.goto 8, 3) := by decide +kernel
theorem dX11_letter_12 : decode cX11_letter 12 = .ok (.aload_n 0, 1) := by decide +kernel
theorem dX11_letter_13 : decode cX11_letter 13 = .ok (.iload_n 1, 1) := by decide +kernel
theorem dX11_letter_14 : decode cX11_letter 14 = .ok (.invokevirtual 153, 3) := by decide +kernel
theorem dX11_letter_17 : decode cX11_letter 17 = .ok (.astore 4, 2) := by decide +kernel
theorem dX11_letter_19 : decode cX11_letter 19 = .ok (.aload 4, 2) := by decide +kernel
theorem dX11_letter_21 : decode cX11_letter 21 = .ok (.ifnull 13, 3) := by decide +kernel
theorem dX11_letter_24 : decode cX11_letter 24 = .ok (.iload_n 3, 1) := by decide +kernel
theorem dX11_letter_25 : decode cX11_letter 25 = .ok (.ifCond .lt 9, 3) := by decide +kernel
theorem dX11_letter_28 : decode cX11_letter 28 = .ok (.iload_n 3, 1) := by decide +kernel
theorem dX11_letter_29 : decode cX11_letter 29 = .ok (.bipush 6, 2) := by decide +kernel
theorem dX11_letter_31 : decode cX11_letter 31 = .ok (.if_icmp .lt 5, 3) := by decide +kernel
theorem dX11_letter_34 : decode cX11_letter 34 = .ok (.iconst (-1), 1) := by decide +kernel
theorem dX11_letter_35 : decode cX11_letter 35 = .ok (.ireturn, 1) := by decide +kernel
theorem dX11_letter_36 : decode cX11_letter 36 = .ok (.aload 4, 2) := by decide +kernel
theorem dX11_letter_38 : decode cX11_letter 38 = .ok (.iload_n 2, 1) := by decide +kernel
theorem dX11_letter_39 : decode cX11_letter 39 = .ok (.invokevirtual 157, 3) := by decide +kernel
theorem dX11_letter_42 : decode cX11_letter 42 = .ok (.astore 5, 2) := by decide +kernel
theorem dX11_letter_44 : decode cX11_letter 44 = .ok (.aload 5, 2) := by decide +kernel
theorem dX11_letter_46 : decode cX11_letter 46 = .ok (.ifnonnull 7, 3) := by decide +kernel
theorem dX11_letter_49 : decode cX11_letter 49 = .ok (.iconst (-1), 1) := by decide +kernel
theorem dX11_letter_50 : decode cX11_letter 50 = .ok (.goto 12, 3) := by decide +kernel
theorem dX11_letter_53 : decode cX11_letter 53 = .ok (.aload 5, 2) := by decide +kernel
theorem dX11_letter_55 : decode cX11_letter 55 = .ok (.getfield 161, 3) := by decide +kernel
theorem dX11_letter_58 : decode cX11_letter 58 = .ok (.iload_n 3, 1) := by decide +kernel
theorem dX11_letter_59 : decode cX11_letter 59 = .ok (.invokestatic 166, 3) := by decide +kernel
theorem dX11_letter_62 : decode cX11_letter 62 = .ok (.ireturn, 1) := by decide +kernel
set_option maxRecDepth 100000 in
theorem tj_X11_letter_17 {g : GT} {n nf : Int} (hu : Up true nf n) (a2 a3 : Int) (M : Mem) (s0 : Int) : AW g true RX11 cX11_letter 6 (some .int) (1) n n nf 17 [(2, 0, a2), (3, 0, a3)] [(2, s0)] n M (j_X11_letter_17 a2 a3 M s0) := by
  unfold j_X11_letter_17
  refine r_astore dX11_letter_17 (by decide) (ls' := [(4, 2, s0), (2, 0, a2), (3, 0, a3)]) rfl ?_
  refine r_aload 0 dX11_letter_19 rfl ?_
  refine r_ifnull (tgt := 34) dX11_letter_21 rfl (fun h3 => ?_) (fun h4 => ?_)
  · refine r_iconst dX11_letter_34 ⟨by decide, by decide⟩ ?_
    exact r_iret rfl rfl (Or.inl rfl) dX11_letter_35
  · refine r_iload_n 2 dX11_letter_24 rfl rfl ?_
    refine r_if_lt (tgt := 34) dX11_letter_25 rfl (fun h5 => ?_) (fun h6 => ?_)
    · refine r_iconst dX11_letter_34 ⟨by decide, by decide⟩ ?_
      exact r_iret rfl rfl (Or.inl rfl) dX11_letter_35
    · refine r_iload_n 2 dX11_letter_28 rfl rfl ?_
      refine r_bipush dX11_letter_29 (by decide) ⟨by decide, by decide⟩ ?_
      refine r_icmp_lt (tgt := 36) dX11_letter_31 rfl (fun h7 => ?_) (fun h8 => ?_)
      · refine r_aload 0 dX11_letter_36 rfl ?_
        refine r_iload_n 1 dX11_letter_38 rfl rfl ?_
        refine r_ok (fun h9 => ?_)
        refine r_inv (a := s0) hu ⟨Nat.le_refl _, Nat.le_refl _⟩ dX11_letter_39 kM_X11_157 (ci := 7) rfl h9 rfl rfl (by decide) (by decide) [(0, a2)] rfl (sk := []) rfl (Nat.le_of_ble_eq_true rfl) rfl rfl (m_X7_namedAt hu M s0 a2 h9) (fun r10 M11 => ?_)
        refine r_astore dX11_letter_42 (by decide) (ls' := [(5, 2, r10), (4, 2, s0), (2, 0, a2), (3, 0, a3)]) rfl ?_
        refine r_aload 0 dX11_letter_44 rfl ?_
        refine r_ifnonnull (tgt := 53) dX11_letter_46 rfl (fun h12 => ?_) (fun h13 => ?_)
        · refine r_iconst dX11_letter_49 ⟨by decide, by decide⟩ ?_
          refine r_goto (tgt := 62) dX11_letter_50 rfl ?_
          exact r_iret rfl rfl (Or.inl rfl) dX11_letter_62
        · refine r_aload 0 dX11_letter_53 rfl ?_
          refine r_ok (fun h14 => ?_)
          refine r_gf (t := 0) (kz := 1) rfl hu dX11_letter_55 kF_X11_161 h14 rfl rfl rfl ?_
          refine r_iload_n 3 dX11_letter_58 rfl rfl ?_
          refine r_ins (a := 0) ⟨Nat.le_refl _, Nat.le_refl _⟩ dX11_letter_59 kM_X11_166 (by decide) (by decide) [(0, M11 r10 1), (0, a3)] rfl (sk := []) rfl (Nat.le_of_ble_eq_true rfl) rfl rfl (m_X11_letterOf hu M11 (M11 r10 1) a3) (fun r15 M16 => ?_)
          exact r_iret rfl rfl (Or.inl rfl) dX11_letter_62
      · refine r_iconst dX11_letter_34 ⟨by decide, by decide⟩ ?_
        exact r_iret rfl rfl (Or.inl rfl) dX11_letter_35
set_option maxRecDepth 100000 in
theorem m_X11_letter {g : GT} {n nf : Int} (hu : Up true nf n) (M : Mem) (a1 a2 a3 : Int) : AM g true yX11_letter cX11_letter 6 (some .int) (1) n n nf [(2, 1), (0, a1), (0, a2), (0, a3)] M (f_X11_letter M a1 a2 a3) := by
  refine AM_of (by decide +kernel) (Nat.le_of_ble_eq_true rfl) (fun h => absurd h (Int.lt_irrefl n)) ?_
  show AW g true RX11 cX11_letter 6 (some .int) (1) n n nf 0 [(0, 2, 1), (1, 0, a1), (2, 0, a2), (3, 0, a3)] [] n M (f_X11_letter M a1 a2 a3)
  unfold f_X11_letter
  refine r_iload_n 1 dX11_letter_0 rfl rfl ?_
  refine r_iconst dX11_letter_1 ⟨by decide, by decide⟩ ?_
  refine r_icmp_ne (tgt := 12) dX11_letter_2 rfl (fun h1 => ?_) (fun h2 => ?_)
  · refine r_aload_n 0 dX11_letter_5 rfl rfl ?_
    refine r_gf (t := 2) (kz := 8) rfl hu dX11_letter_6 kF_X11_67 kd_1 rfl rfl rfl ?_
    refine r_goto (tgt := 17) dX11_letter_9 rfl ?_
    refine r_sub [2, 3] (ls' := [(2, 0, a2), (3, 0, a3)]) rfl ?_
    exact tj_X11_letter_17 hu a2 a3 M (M 1 8)
  · refine r_aload_n 0 dX11_letter_12 rfl rfl ?_
    refine r_iload_n 1 dX11_letter_13 rfl rfl ?_
    refine r_inv (a := 1) hu ⟨Nat.le_refl _, Nat.le_refl _⟩ dX11_letter_14 kM_X11_153 (ci := 11) rfl kd_1 rfl rfl (by decide) (by decide) [(0, a1)] rfl (sk := []) rfl (Nat.le_of_ble_eq_true rfl) rfl rfl (m_X11_lawAt hu M a1) (fun r17 M18 => ?_)
    refine r_sub [2, 3] (ls' := [(2, 0, a2), (3, 0, a3)]) rfl ?_
    exact tj_X11_letter_17 hu a2 a3 M18 r17
theorem dX11_isSquare_0 : decode cX11_isSquare 0 = .ok (.iload_n 0, 1) := by decide +kernel
theorem dX11_isSquare_1 : decode cX11_isSquare 1 = .ok (.ifCond .lt 23, 3) := by decide +kernel
theorem dX11_isSquare_4 : decode cX11_isSquare 4 = .ok (.iload_n 0, 1) := by decide +kernel
theorem dX11_isSquare_5 : decode cX11_isSquare 5 = .ok (.bipush 12, 2) := by decide +kernel
theorem dX11_isSquare_7 : decode cX11_isSquare 7 = .ok (.if_icmp .ge 17, 3) := by decide +kernel
theorem dX11_isSquare_10 : decode cX11_isSquare 10 = .ok (.iload_n 1, 1) := by decide +kernel
theorem dX11_isSquare_11 : decode cX11_isSquare 11 = .ok (.ifCond .lt 13, 3) := by decide +kernel
theorem dX11_isSquare_14 : decode cX11_isSquare 14 = .ok (.iload_n 1, 1) := by decide +kernel
theorem dX11_isSquare_15 : decode cX11_isSquare 15 = .ok (.bipush 8, 2) := by decide +kernel
theorem dX11_isSquare_17 : decode cX11_isSquare 17 = .ok (.if_icmp .ge 7, 3) := by decide +kernel
theorem dX11_isSquare_20 : decode cX11_isSquare 20 = .ok (.iconst 1, 1) := by decide +kernel
theorem dX11_isSquare_21 : decode cX11_isSquare 21 = .ok (.goto 4, 3) := by decide +kernel
theorem dX11_isSquare_24 : decode cX11_isSquare 24 = .ok (.iconst 0, 1) := by decide +kernel
theorem dX11_isSquare_25 : decode cX11_isSquare 25 = .ok (.ireturn, 1) := by decide +kernel
set_option maxRecDepth 100000 in
theorem m_X11_isSquare {g : GT} {n nf : Int} (hu : Up true nf n) (M : Mem) (a0 a1 : Int) : AM g true yX11_isSquare cX11_isSquare 2 (some .boolean) (0) n n nf [(0, a0), (0, a1)] M (f_X11_isSquare M a0 a1) := by
  refine AM_of (by decide +kernel) (Nat.le_of_ble_eq_true rfl) (fun h => absurd h (Int.lt_irrefl n)) ?_
  show AW g true RX11 cX11_isSquare 2 (some .boolean) (0) n n nf 0 [(0, 0, a0), (1, 0, a1)] [] n M (f_X11_isSquare M a0 a1)
  unfold f_X11_isSquare
  refine r_iload_n 0 dX11_isSquare_0 rfl rfl ?_
  refine r_if_lt (tgt := 24) dX11_isSquare_1 rfl (fun h1 => ?_) (fun h2 => ?_)
  · refine r_iconst dX11_isSquare_24 ⟨by decide, by decide⟩ ?_
    exact r_iret rfl rfl (Or.inr ⟨rfl, Or.inl rfl⟩) dX11_isSquare_25
  · refine r_iload_n 0 dX11_isSquare_4 rfl rfl ?_
    refine r_bipush dX11_isSquare_5 (by decide) ⟨by decide, by decide⟩ ?_
    refine r_icmp_ge (tgt := 24) dX11_isSquare_7 rfl (fun h3 => ?_) (fun h4 => ?_)
    · refine r_iconst dX11_isSquare_24 ⟨by decide, by decide⟩ ?_
      exact r_iret rfl rfl (Or.inr ⟨rfl, Or.inl rfl⟩) dX11_isSquare_25
    · refine r_iload_n 1 dX11_isSquare_10 rfl rfl ?_
      refine r_if_lt (tgt := 24) dX11_isSquare_11 rfl (fun h5 => ?_) (fun h6 => ?_)
      · refine r_iconst dX11_isSquare_24 ⟨by decide, by decide⟩ ?_
        exact r_iret rfl rfl (Or.inr ⟨rfl, Or.inl rfl⟩) dX11_isSquare_25
      · refine r_iload_n 1 dX11_isSquare_14 rfl rfl ?_
        refine r_bipush dX11_isSquare_15 (by decide) ⟨by decide, by decide⟩ ?_
        refine r_icmp_ge (tgt := 24) dX11_isSquare_17 rfl (fun h7 => ?_) (fun h8 => ?_)
        · refine r_iconst dX11_isSquare_24 ⟨by decide, by decide⟩ ?_
          exact r_iret rfl rfl (Or.inr ⟨rfl, Or.inl rfl⟩) dX11_isSquare_25
        · refine r_iconst dX11_isSquare_20 ⟨by decide, by decide⟩ ?_
          refine r_goto (tgt := 25) dX11_isSquare_21 rfl ?_
          exact r_iret rfl rfl (Or.inr ⟨rfl, Or.inr rfl⟩) dX11_isSquare_25
theorem dX11_sight_0 : decode cX11_sight 0 = .ok (.iload_n 1, 1) := by decide +kernel
theorem dX11_sight_1 : decode cX11_sight 1 = .ok (.iload_n 2, 1) := by decide +kernel
theorem dX11_sight_2 : decode cX11_sight 2 = .ok (.invokestatic 196, 3) := by decide +kernel
theorem dX11_sight_5 : decode cX11_sight 5 = .ok (.ifCond .eq 19, 3) := by decide +kernel
theorem dX11_sight_8 : decode cX11_sight 8 = .ok (.aload_n 0, 1) := by decide +kernel
theorem dX11_sight_9 : decode cX11_sight 9 = .ok (.getfield 35, 3) := by decide +kernel
theorem dX11_sight_12 : decode cX11_sight 12 = .ok (.getfield 200, 3) := by decide +kernel
theorem dX11_sight_15 : decode cX11_sight 15 = .ok (.iload_n 1, 1) := by decide +kernel
theorem dX11_sight_16 : decode cX11_sight 16 = .ok (.iload_n 2, 1) := by decide +kernel
theorem dX11_sight_17 : decode cX11_sight 17 = .ok (.invokestatic 203, 3) := by decide +kernel
theorem dX11_sight_20 : decode cX11_sight 20 = .ok (.iaload, 1) := by decide +kernel
theorem dX11_sight_21 : decode cX11_sight 21 = .ok (.goto 4, 3) := by decide +kernel
theorem dX11_sight_24 : decode cX11_sight 24 = .ok (.iconst (-1), 1) := by decide +kernel
theorem dX11_sight_25 : decode cX11_sight 25 = .ok (.ireturn, 1) := by decide +kernel
set_option maxRecDepth 100000 in
theorem m_X11_sight {g : GT} {n nf : Int} (hu : Up true nf n) (M : Mem) (a1 a2 : Int) : AM g true yX11_sight cX11_sight 3 (some .int) (1) n n nf [(2, 1), (0, a1), (0, a2)] M (f_X11_sight M a1 a2) := by
  refine AM_of (by decide +kernel) (Nat.le_of_ble_eq_true rfl) (fun h => absurd h (Int.lt_irrefl n)) ?_
  show AW g true RX11 cX11_sight 3 (some .int) (1) n n nf 0 [(0, 2, 1), (1, 0, a1), (2, 0, a2)] [] n M (f_X11_sight M a1 a2)
  unfold f_X11_sight
  refine r_iload_n 1 dX11_sight_0 rfl rfl ?_
  refine r_iload_n 2 dX11_sight_1 rfl rfl ?_
  refine r_ins (a := 0) ⟨Nat.le_refl _, Nat.le_refl _⟩ dX11_sight_2 kM_X11_196 (by decide) (by decide) [(0, a1), (0, a2)] rfl (sk := []) rfl (Nat.le_of_ble_eq_true rfl) rfl rfl (m_X11_isSquare hu M a1 a2) (fun r1 M2 => ?_)
  refine r_if_eq (tgt := 24) dX11_sight_5 rfl (fun h3 => ?_) (fun h4 => ?_)
  · refine r_iconst dX11_sight_24 ⟨by decide, by decide⟩ ?_
    exact r_iret rfl rfl (Or.inl rfl) dX11_sight_25
  · refine r_aload_n 0 dX11_sight_8 rfl rfl ?_
    refine r_gx (kz := 3) rfl hu dX11_sight_9 kF_X11_35 kd_1 rfl rfl rfl fx_1_3 ?_
    refine r_gx (kz := 0) rfl hu dX11_sight_12 kF_X11_200 kd_13 rfl rfl rfl fx_13_0 ?_
    refine r_iload_n 1 dX11_sight_15 rfl rfl ?_
    refine r_iload_n 2 dX11_sight_16 rfl rfl ?_
    refine r_ins (a := 0) ⟨Nat.le_refl _, Nat.le_refl _⟩ dX11_sight_17 kM_X11_203 (by decide) (by decide) [(0, a1), (0, a2)] rfl (sk := [(2, 14)]) rfl (Nat.le_of_ble_eq_true rfl) rfl rfl (m_X11_squareAt hu M2 a1 a2) (fun r5 M6 => ?_)
    refine r_ok (fun h7 => ?_)
    refine r_iald hu dX11_sight_20 kd_14 rfl (Or.inl rfl) rfl ln_14 h7 ?_
    refine r_goto (tgt := 25) dX11_sight_21 rfl ?_
    exact r_iret rfl rfl (Or.inl rfl) dX11_sight_25
theorem dX11_piece_0 : decode cX11_piece 0 = .ok (.iload_n 1, 1) := by decide +kernel
theorem dX11_piece_1 : decode cX11_piece 1 = .ok (.iload_n 2, 1) := by decide +kernel
theorem dX11_piece_2 : decode cX11_piece 2 = .ok (.invokestatic 196, 3) := by decide +kernel
theorem dX11_piece_5 : decode cX11_piece 5 = .ok (.ifCond .eq 19, 3) := by decide +kernel
theorem dX11_piece_8 : decode cX11_piece 8 = .ok (.aload_n 0, 1) := by decide +kernel
theorem dX11_piece_9 : decode cX11_piece 9 = .ok (.getfield 35, 3) := by decide +kernel
theorem dX11_piece_12 : decode cX11_piece 12 = .ok (.getfield 206, 3) := by decide +kernel
theorem dX11_piece_15 : decode cX11_piece 15 = .ok (.iload_n 1, 1) := by decide +kernel
theorem dX11_piece_16 : decode cX11_piece 16 = .ok (.iload_n 2, 1) := by decide +kernel
theorem dX11_piece_17 : decode cX11_piece 17 = .ok (.invokestatic 203, 3) := by decide +kernel
theorem dX11_piece_20 : decode cX11_piece 20 = .ok (.iaload, 1) := by decide +kernel
theorem dX11_piece_21 : decode cX11_piece 21 = .ok (.goto 4, 3) := by decide +kernel
theorem dX11_piece_24 : decode cX11_piece 24 = .ok (.iconst (-1), 1) := by decide +kernel
theorem dX11_piece_25 : decode cX11_piece 25 = .ok (.ireturn, 1) := by decide +kernel
set_option maxRecDepth 100000 in
theorem m_X11_piece {g : GT} {n nf : Int} (hu : Up true nf n) (M : Mem) (a1 a2 : Int) : AM g true yX11_piece cX11_piece 3 (some .int) (1) n n nf [(2, 1), (0, a1), (0, a2)] M (f_X11_piece M a1 a2) := by
  refine AM_of (by decide +kernel) (Nat.le_of_ble_eq_true rfl) (fun h => absurd h (Int.lt_irrefl n)) ?_
  show AW g true RX11 cX11_piece 3 (some .int) (1) n n nf 0 [(0, 2, 1), (1, 0, a1), (2, 0, a2)] [] n M (f_X11_piece M a1 a2)
  unfold f_X11_piece
  refine r_iload_n 1 dX11_piece_0 rfl rfl ?_
  refine r_iload_n 2 dX11_piece_1 rfl rfl ?_
  refine r_ins (a := 0) ⟨Nat.le_refl _, Nat.le_refl _⟩ dX11_piece_2 kM_X11_196 (by decide) (by decide) [(0, a1), (0, a2)] rfl (sk := []) rfl (Nat.le_of_ble_eq_true rfl) rfl rfl (m_X11_isSquare hu M a1 a2) (fun r1 M2 => ?_)
  refine r_if_eq (tgt := 24) dX11_piece_5 rfl (fun h3 => ?_) (fun h4 => ?_)
  · refine r_iconst dX11_piece_24 ⟨by decide, by decide⟩ ?_
    exact r_iret rfl rfl (Or.inl rfl) dX11_piece_25
  · refine r_aload_n 0 dX11_piece_8 rfl rfl ?_
    refine r_gx (kz := 3) rfl hu dX11_piece_9 kF_X11_35 kd_1 rfl rfl rfl fx_1_3 ?_
    refine r_gx (kz := 1) rfl hu dX11_piece_12 kF_X11_206 kd_13 rfl rfl rfl fx_13_1 ?_
    refine r_iload_n 1 dX11_piece_15 rfl rfl ?_
    refine r_iload_n 2 dX11_piece_16 rfl rfl ?_
    refine r_ins (a := 0) ⟨Nat.le_refl _, Nat.le_refl _⟩ dX11_piece_17 kM_X11_203 (by decide) (by decide) [(0, a1), (0, a2)] rfl (sk := [(2, 15)]) rfl (Nat.le_of_ble_eq_true rfl) rfl rfl (m_X11_squareAt hu M2 a1 a2) (fun r5 M6 => ?_)
    refine r_ok (fun h7 => ?_)
    refine r_iald hu dX11_piece_20 kd_15 rfl (Or.inl rfl) rfl ln_15 h7 ?_
    refine r_goto (tgt := 25) dX11_piece_21 rfl ?_
    exact r_iret rfl rfl (Or.inl rfl) dX11_piece_25
theorem dX11_pieceHas_0 : decode cX11_pieceHas 0 = .ok (.iload_n 1, 1) := by decide +kernel
theorem dX11_pieceHas_1 : decode cX11_pieceHas 1 = .ok (.ifCond .lt 14, 3) := by decide +kernel
theorem dX11_pieceHas_4 : decode cX11_pieceHas 4 = .ok (.iload_n 1, 1) := by decide +kernel
theorem dX11_pieceHas_5 : decode cX11_pieceHas 5 = .ok (.aload_n 0, 1) := by decide +kernel
theorem dX11_pieceHas_6 : decode cX11_pieceHas 6 = .ok (.getfield 35, 3) := by decide +kernel
theorem dX11_pieceHas_9 : decode cX11_pieceHas 9 = .ok (.getfield 209, 3) := by decide +kernel
theorem dX11_pieceHas_12 : decode cX11_pieceHas 12 = .ok (.if_icmp .lt 5, 3) := by decide +kernel
theorem dX11_pieceHas_15 : decode cX11_pieceHas 15 = .ok (.iconst (-1), 1) := by decide +kernel
theorem dX11_pieceHas_16 : decode cX11_pieceHas 16 = .ok (.ireturn, 1) := by decide +kernel
theorem dX11_pieceHas_17 : decode cX11_pieceHas 17 = .ok (.iload_n 2, 1) := by decide +kernel
theorem dX11_pieceHas_18 : decode cX11_pieceHas 18 = .ok (.tableswitch 63 0 2 #[26, 36, 46], 26) := by decide +kernel
theorem dX11_pieceHas_44 : decode cX11_pieceHas 44 = .ok (.aload_n 0, 1) := by decide +kernel
theorem dX11_pieceHas_45 : decode cX11_pieceHas 45 = .ok (.getfield 35, 3) := by decide +kernel
theorem dX11_pieceHas_48 : decode cX11_pieceHas 48 = .ok (.getfield 212, 3) := by decide +kernel
theorem dX11_pieceHas_51 : decode cX11_pieceHas 51 = .ok (.iload_n 1, 1) := by decide +kernel
theorem dX11_pieceHas_52 : decode cX11_pieceHas 52 = .ok (.iaload, 1) := by decide +kernel
theorem dX11_pieceHas_53 : decode cX11_pieceHas 53 = .ok (.ireturn, 1) := by decide +kernel
theorem dX11_pieceHas_54 : decode cX11_pieceHas 54 = .ok (.aload_n 0, 1) := by decide +kernel
theorem dX11_pieceHas_55 : decode cX11_pieceHas 55 = .ok (.getfield 35, 3) := by decide +kernel
theorem dX11_pieceHas_58 : decode cX11_pieceHas 58 = .ok (.getfield 215, 3) := by decide +kernel
theorem dX11_pieceHas_61 : decode cX11_pieceHas 61 = .ok (.iload_n 1, 1) := by decide +kernel
theorem dX11_pieceHas_62 : decode cX11_pieceHas 62 = .ok (.iaload, 1) := by decide +kernel
theorem dX11_pieceHas_63 : decode cX11_pieceHas 63 = .ok (.ireturn, 1) := by decide +kernel
theorem dX11_pieceHas_64 : decode cX11_pieceHas 64 = .ok (.aload_n 0, 1) := by decide +kernel
theorem dX11_pieceHas_65 : decode cX11_pieceHas 65 = .ok (.getfield 35, 3) := by decide +kernel
theorem dX11_pieceHas_68 : decode cX11_pieceHas 68 = .ok (.iload_n 1, 1) := by decide +kernel
theorem dX11_pieceHas_69 : decode cX11_pieceHas 69 = .ok (.invokevirtual 218, 3) := by decide +kernel
theorem dX11_pieceHas_72 : decode cX11_pieceHas 72 = .ok (.ifCond .eq 7, 3) := by decide +kernel
theorem dX11_pieceHas_75 : decode cX11_pieceHas 75 = .ok (.iconst 1, 1) := by decide +kernel
theorem dX11_pieceHas_76 : decode cX11_pieceHas 76 = .ok (.goto 4, 3) := by decide +kernel
theorem dX11_pieceHas_79 : decode cX11_pieceHas 79 = .ok (.iconst 0, 1) := by decide +kernel
theorem dX11_pieceHas_80 : decode cX11_pieceHas 80 = .ok (.ireturn, 1) := by decide +kernel
theorem dX11_pieceHas_81 : decode cX11_pieceHas 81 = .ok (.iconst (-1), 1) := by decide +kernel
theorem dX11_pieceHas_82 : decode cX11_pieceHas 82 = .ok (.ireturn, 1) := by decide +kernel
set_option maxRecDepth 100000 in
theorem m_X11_pieceHas {g : GT} {n nf : Int} (hu : Up true nf n) (M : Mem) (a1 a2 : Int) : AM g true yX11_pieceHas cX11_pieceHas 3 (some .int) (1) n n nf [(2, 1), (0, a1), (0, a2)] M (f_X11_pieceHas M a1 a2) := by
  refine AM_of (by decide +kernel) (Nat.le_of_ble_eq_true rfl) (fun h => absurd h (Int.lt_irrefl n)) ?_
  show AW g true RX11 cX11_pieceHas 3 (some .int) (1) n n nf 0 [(0, 2, 1), (1, 0, a1), (2, 0, a2)] [] n M (f_X11_pieceHas M a1 a2)
  unfold f_X11_pieceHas
  refine r_iload_n 1 dX11_pieceHas_0 rfl rfl ?_
  refine r_if_lt (tgt := 15) dX11_pieceHas_1 rfl (fun h1 => ?_) (fun h2 => ?_)
  · refine r_iconst dX11_pieceHas_15 ⟨by decide, by decide⟩ ?_
    exact r_iret rfl rfl (Or.inl rfl) dX11_pieceHas_16
  · refine r_iload_n 1 dX11_pieceHas_4 rfl rfl ?_
    refine r_aload_n 0 dX11_pieceHas_5 rfl rfl ?_
    refine r_gx (kz := 3) rfl hu dX11_pieceHas_6 kF_X11_35 kd_1 rfl rfl rfl fx_1_3 ?_
    refine r_gf (t := 0) (kz := 8) rfl hu dX11_pieceHas_9 kF_X11_209 kd_13 rfl rfl rfl ?_
    refine r_icmp_lt (tgt := 17) dX11_pieceHas_12 rfl (fun h3 => ?_) (fun h4 => ?_)
    · refine r_iload_n 2 dX11_pieceHas_17 rfl rfl ?_
      refine r_tsw (tgt := 44) 0 dX11_pieceHas_18 ⟨by decide, by decide⟩ rfl rfl (fun h5 => ?_) (fun h6 => ?_)
      · refine r_aload_n 0 dX11_pieceHas_44 rfl rfl ?_
        refine r_gx (kz := 3) rfl hu dX11_pieceHas_45 kF_X11_35 kd_1 rfl rfl rfl fx_1_3 ?_
        refine r_gx (kz := 2) rfl hu dX11_pieceHas_48 kF_X11_212 kd_13 rfl rfl rfl fx_13_2 ?_
        refine r_iload_n 1 dX11_pieceHas_51 rfl rfl ?_
        refine r_ok (fun h7 => ?_)
        refine r_iald hu dX11_pieceHas_52 kd_16 rfl (Or.inl rfl) rfl ln_16 h7 ?_
        exact r_iret rfl rfl (Or.inl rfl) dX11_pieceHas_53
      · refine r_tsw (tgt := 54) 1 dX11_pieceHas_18 ⟨by decide, by decide⟩ rfl rfl (fun h8 => ?_) (fun h9 => ?_)
        · refine r_aload_n 0 dX11_pieceHas_54 rfl rfl ?_
          refine r_gx (kz := 3) rfl hu dX11_pieceHas_55 kF_X11_35 kd_1 rfl rfl rfl fx_1_3 ?_
          refine r_gx (kz := 3) rfl hu dX11_pieceHas_58 kF_X11_215 kd_13 rfl rfl rfl fx_13_3 ?_
          refine r_iload_n 1 dX11_pieceHas_61 rfl rfl ?_
          refine r_ok (fun h10 => ?_)
          refine r_iald hu dX11_pieceHas_62 kd_17 rfl (Or.inl rfl) rfl ln_17 h10 ?_
          exact r_iret rfl rfl (Or.inl rfl) dX11_pieceHas_63
        · refine r_tsw (tgt := 64) 2 dX11_pieceHas_18 ⟨by decide, by decide⟩ rfl rfl (fun h11 => ?_) (fun h12 => ?_)
          · refine r_aload_n 0 dX11_pieceHas_64 rfl rfl ?_
            refine r_gx (kz := 3) rfl hu dX11_pieceHas_65 kF_X11_35 kd_1 rfl rfl rfl fx_1_3 ?_
            refine r_iload_n 1 dX11_pieceHas_68 rfl rfl ?_
            refine r_inv (a := 13) hu ⟨Nat.le_refl _, Nat.le_refl _⟩ dX11_pieceHas_69 kM_X11_218 (ci := 3) rfl kd_13 rfl rfl (by decide) (by decide) [(0, a1)] rfl (sk := []) rfl (Nat.le_of_ble_eq_true rfl) rfl rfl (m_X3_isIsland hu M a1) (fun r13 M14 => ?_)
            refine r_if_eq (tgt := 79) dX11_pieceHas_72 rfl (fun h15 => ?_) (fun h16 => ?_)
            · refine r_iconst dX11_pieceHas_79 ⟨by decide, by decide⟩ ?_
              exact r_iret rfl rfl (Or.inl rfl) dX11_pieceHas_80
            · refine r_iconst dX11_pieceHas_75 ⟨by decide, by decide⟩ ?_
              refine r_goto (tgt := 80) dX11_pieceHas_76 rfl ?_
              exact r_iret rfl rfl (Or.inl rfl) dX11_pieceHas_80
          · refine r_tswd (tgt := 81) dX11_pieceHas_18 (by omega) rfl ?_
            refine r_iconst dX11_pieceHas_81 ⟨by decide, by decide⟩ ?_
            exact r_iret rfl rfl (Or.inl rfl) dX11_pieceHas_82
    · refine r_iconst dX11_pieceHas_15 ⟨by decide, by decide⟩ ?_
      exact r_iret rfl rfl (Or.inl rfl) dX11_pieceHas_16
theorem dX11_isBright_0 : decode cX11_isBright 0 = .ok (.iload_n 0, 1) := by decide +kernel
theorem dX11_isBright_1 : decode cX11_isBright 1 = .ok (.ifCond .lt 13, 3) := by decide +kernel
theorem dX11_isBright_4 : decode cX11_isBright 4 = .ok (.iload_n 0, 1) := by decide +kernel
theorem dX11_isBright_5 : decode cX11_isBright 5 = .ok (.bipush 99, 2) := by decide +kernel
theorem dX11_isBright_7 : decode cX11_isBright 7 = .ok (.if_icmp .gt 7, 3) := by decide +kernel
theorem dX11_isBright_10 : decode cX11_isBright 10 = .ok (.iconst 1, 1) := by decide +kernel
theorem dX11_isBright_11 : decode cX11_isBright 11 = .ok (.goto 4, 3) := by decide +kernel
theorem dX11_isBright_14 : decode cX11_isBright 14 = .ok (.iconst 0, 1) := by decide +kernel
theorem dX11_isBright_15 : decode cX11_isBright 15 = .ok (.ireturn, 1) := by decide +kernel
set_option maxRecDepth 100000 in
theorem m_X11_isBright {g : GT} {n nf : Int} (hu : Up true nf n) (M : Mem) (a0 : Int) : AM g true yX11_isBright cX11_isBright 1 (some .boolean) (0) n n nf [(0, a0)] M (f_X11_isBright M a0) := by
  refine AM_of (by decide +kernel) (Nat.le_of_ble_eq_true rfl) (fun h => absurd h (Int.lt_irrefl n)) ?_
  show AW g true RX11 cX11_isBright 1 (some .boolean) (0) n n nf 0 [(0, 0, a0)] [] n M (f_X11_isBright M a0)
  unfold f_X11_isBright
  refine r_iload_n 0 dX11_isBright_0 rfl rfl ?_
  refine r_if_lt (tgt := 14) dX11_isBright_1 rfl (fun h1 => ?_) (fun h2 => ?_)
  · refine r_iconst dX11_isBright_14 ⟨by decide, by decide⟩ ?_
    exact r_iret rfl rfl (Or.inr ⟨rfl, Or.inl rfl⟩) dX11_isBright_15
  · refine r_iload_n 0 dX11_isBright_4 rfl rfl ?_
    refine r_bipush dX11_isBright_5 (by decide) ⟨by decide, by decide⟩ ?_
    refine r_icmp_gt (tgt := 14) dX11_isBright_7 rfl (fun h3 => ?_) (fun h4 => ?_)
    · refine r_iconst dX11_isBright_14 ⟨by decide, by decide⟩ ?_
      exact r_iret rfl rfl (Or.inr ⟨rfl, Or.inl rfl⟩) dX11_isBright_15
    · refine r_iconst dX11_isBright_10 ⟨by decide, by decide⟩ ?_
      refine r_goto (tgt := 15) dX11_isBright_11 rfl ?_
      exact r_iret rfl rfl (Or.inr ⟨rfl, Or.inr rfl⟩) dX11_isBright_15
theorem dX11_light_0 : decode cX11_light 0 = .ok (.iload_n 1, 1) := by decide +kernel
theorem dX11_light_1 : decode cX11_light 1 = .ok (.iload_n 2, 1) := by decide +kernel
theorem dX11_light_2 : decode cX11_light 2 = .ok (.invokestatic 196, 3) := by decide +kernel
theorem dX11_light_5 : decode cX11_light 5 = .ok (.ifCond .eq 26, 3) := by decide +kernel
theorem dX11_light_8 : decode cX11_light 8 = .ok (.iload_n 3, 1) := by decide +kernel
theorem dX11_light_9 : decode cX11_light 9 = .ok (.invokestatic 221, 3) := by decide +kernel
theorem dX11_light_12 : decode cX11_light 12 = .ok (.ifCond .eq 19, 3) := by decide +kernel
theorem dX11_light_15 : decode cX11_light 15 = .ok (.aload_n 0, 1) := by decide +kernel
theorem dX11_light_16 : decode cX11_light 16 = .ok (.getfield 35, 3) := by decide +kernel
theorem dX11_light_19 : decode cX11_light 19 = .ok (.iload_n 1, 1) := by decide +kernel
theorem dX11_light_20 : decode cX11_light 20 = .ok (.iload_n 2, 1) := by decide +kernel
theorem dX11_light_21 : decode cX11_light 21 = .ok (.invokestatic 203, 3) := by decide +kernel
theorem dX11_light_24 : decode cX11_light 24 = .ok (.iload_n 3, 1) := by decide +kernel
theorem dX11_light_25 : decode cX11_light 25 = .ok (.invokevirtual 224, 3) := by decide +kernel
theorem dX11_light_28 : decode cX11_light 28 = .ok (.goto 4, 3) := by decide +kernel
theorem dX11_light_31 : decode cX11_light 31 = .ok (.iconst (-1), 1) := by decide +kernel
theorem dX11_light_32 : decode cX11_light 32 = .ok (.ireturn, 1) := by decide +kernel
set_option maxRecDepth 100000 in
theorem m_X11_light {g : GT} {n nf : Int} (hu : Up true nf n) (M : Mem) (a1 a2 a3 : Int) : AM g true yX11_light cX11_light 4 (some .int) (2) n n nf [(2, 1), (0, a1), (0, a2), (0, a3)] M (f_X11_light M a1 a2 a3) := by
  refine AM_of (by decide +kernel) (Nat.le_of_ble_eq_true rfl) (fun h => absurd h (Int.lt_irrefl n)) ?_
  show AW g true RX11 cX11_light 4 (some .int) (2) n n nf 0 [(0, 2, 1), (1, 0, a1), (2, 0, a2), (3, 0, a3)] [] n M (f_X11_light M a1 a2 a3)
  unfold f_X11_light
  refine r_iload_n 1 dX11_light_0 rfl rfl ?_
  refine r_iload_n 2 dX11_light_1 rfl rfl ?_
  refine r_ins (a := 0) ⟨Nat.le_refl _, Nat.le_refl _⟩ dX11_light_2 kM_X11_196 (by decide) (by decide) [(0, a1), (0, a2)] rfl (sk := []) rfl (Nat.le_of_ble_eq_true rfl) rfl rfl (m_X11_isSquare hu M a1 a2) (fun r1 M2 => ?_)
  refine r_if_eq (tgt := 31) dX11_light_5 rfl (fun h3 => ?_) (fun h4 => ?_)
  · refine r_iconst dX11_light_31 ⟨by decide, by decide⟩ ?_
    exact r_iret rfl rfl (Or.inl rfl) dX11_light_32
  · refine r_iload_n 3 dX11_light_8 rfl rfl ?_
    refine r_ins (a := 0) ⟨Nat.le_refl _, Nat.le_refl _⟩ dX11_light_9 kM_X11_221 (by decide) (by decide) [(0, a3)] rfl (sk := []) rfl (Nat.le_of_ble_eq_true rfl) rfl rfl (m_X11_isBright hu M2 a3) (fun r5 M6 => ?_)
    refine r_if_eq (tgt := 31) dX11_light_12 rfl (fun h7 => ?_) (fun h8 => ?_)
    · refine r_iconst dX11_light_31 ⟨by decide, by decide⟩ ?_
      exact r_iret rfl rfl (Or.inl rfl) dX11_light_32
    · refine r_aload_n 0 dX11_light_15 rfl rfl ?_
      refine r_gx (kz := 3) rfl hu dX11_light_16 kF_X11_35 kd_1 rfl rfl rfl fx_1_3 ?_
      refine r_iload_n 1 dX11_light_19 rfl rfl ?_
      refine r_iload_n 2 dX11_light_20 rfl rfl ?_
      refine r_ins (a := 0) ⟨Nat.le_refl _, Nat.le_refl _⟩ dX11_light_21 kM_X11_203 (by decide) (by decide) [(0, a1), (0, a2)] rfl (sk := [(2, 13)]) rfl (Nat.le_of_ble_eq_true rfl) rfl rfl (m_X11_squareAt hu M6 a1 a2) (fun r9 M10 => ?_)
      refine r_iload_n 3 dX11_light_24 rfl rfl ?_
      refine r_inv (a := 13) hu ⟨Nat.le_refl _, Nat.le_refl _⟩ dX11_light_25 kM_X11_224 (ci := 3) rfl kd_13 rfl rfl (by decide) (by decide) [(0, r9), (0, a3)] rfl (sk := []) rfl (Nat.le_of_ble_eq_true rfl) rfl rfl (m_X3_lightAt hu M10 r9 a3) (fun r11 M12 => ?_)
      refine r_goto (tgt := 32) dX11_light_28 rfl ?_
      exact r_iret rfl rfl (Or.inl rfl) dX11_light_32
theorem dX11_canShow_0 : decode cX11_canShow 0 = .ok (.iload_n 1, 1) := by decide +kernel
theorem dX11_canShow_1 : decode cX11_canShow 1 = .ok (.ifCond .lt 34, 3) := by decide +kernel
theorem dX11_canShow_4 : decode cX11_canShow 4 = .ok (.iload_n 1, 1) := by decide +kernel
theorem dX11_canShow_5 : decode cX11_canShow 5 = .ok (.aload_n 0, 1) := by decide +kernel
theorem dX11_canShow_6 : decode cX11_canShow 6 = .ok (.getfield 67, 3) := by decide +kernel
theorem dX11_canShow_9 : decode cX11_canShow 9 = .ok (.getfield 134, 3) := by decide +kernel
theorem dX11_canShow_12 : decode cX11_canShow 12 = .ok (.if_icmp .ge 23, 3) := by decide +kernel
theorem dX11_canShow_15 : decode cX11_canShow 15 = .ok (.iload_n 2, 1) := by decide +kernel
theorem dX11_canShow_16 : decode cX11_canShow 16 = .ok (.iload_n 3, 1) := by decide +kernel
theorem dX11_canShow_17 : decode cX11_canShow 17 = .ok (.invokestatic 196, 3) := by decide +kernel
theorem dX11_canShow_20 : decode cX11_canShow 20 = .ok (.ifCond .eq 15, 3) := by decide +kernel
theorem dX11_canShow_23 : decode cX11_canShow 23 = .ok (.iload 4, 2) := by decide +kernel
theorem dX11_canShow_25 : decode cX11_canShow 25 = .ok (.invokestatic 221, 3) := by decide +kernel
theorem dX11_canShow_28 : decode cX11_canShow 28 = .ok (.ifCond .eq 7, 3) := by decide +kernel
theorem dX11_canShow_31 : decode cX11_canShow 31 = .ok (.iconst 1, 1) := by decide +kernel
theorem dX11_canShow_32 : decode cX11_canShow 32 = .ok (.goto 4, 3) := by decide +kernel
theorem dX11_canShow_35 : decode cX11_canShow 35 = .ok (.iconst 0, 1) := by decide +kernel
theorem dX11_canShow_36 : decode cX11_canShow 36 = .ok (.ireturn, 1) := by decide +kernel
set_option maxRecDepth 100000 in
theorem m_X11_canShow {g : GT} {n nf : Int} (hu : Up true nf n) (M : Mem) (a1 a2 a3 a4 : Int) : AM g true yX11_canShow cX11_canShow 5 (some .boolean) (1) n n nf [(2, 1), (0, a1), (0, a2), (0, a3), (0, a4)] M (f_X11_canShow M a1 a2 a3 a4) := by
  refine AM_of (by decide +kernel) (Nat.le_of_ble_eq_true rfl) (fun h => absurd h (Int.lt_irrefl n)) ?_
  show AW g true RX11 cX11_canShow 5 (some .boolean) (1) n n nf 0 [(0, 2, 1), (1, 0, a1), (2, 0, a2), (3, 0, a3), (4, 0, a4)] [] n M (f_X11_canShow M a1 a2 a3 a4)
  unfold f_X11_canShow
  refine r_iload_n 1 dX11_canShow_0 rfl rfl ?_
  refine r_if_lt (tgt := 35) dX11_canShow_1 rfl (fun h1 => ?_) (fun h2 => ?_)
  · refine r_iconst dX11_canShow_35 ⟨by decide, by decide⟩ ?_
    exact r_iret rfl rfl (Or.inr ⟨rfl, Or.inl rfl⟩) dX11_canShow_36
  · refine r_iload_n 1 dX11_canShow_4 rfl rfl ?_
    refine r_aload_n 0 dX11_canShow_5 rfl rfl ?_
    refine r_gf (t := 2) (kz := 8) rfl hu dX11_canShow_6 kF_X11_67 kd_1 rfl rfl rfl ?_
    refine r_ok (fun h3 => ?_)
    refine r_gf (t := 0) (kz := 3) rfl hu dX11_canShow_9 kF_X11_134 h3 rfl rfl rfl ?_
    refine r_icmp_ge (tgt := 35) dX11_canShow_12 rfl (fun h4 => ?_) (fun h5 => ?_)
    · refine r_iconst dX11_canShow_35 ⟨by decide, by decide⟩ ?_
      exact r_iret rfl rfl (Or.inr ⟨rfl, Or.inl rfl⟩) dX11_canShow_36
    · refine r_iload_n 2 dX11_canShow_15 rfl rfl ?_
      refine r_iload_n 3 dX11_canShow_16 rfl rfl ?_
      refine r_ins (a := 0) ⟨Nat.le_refl _, Nat.le_refl _⟩ dX11_canShow_17 kM_X11_196 (by decide) (by decide) [(0, a2), (0, a3)] rfl (sk := []) rfl (Nat.le_of_ble_eq_true rfl) rfl rfl (m_X11_isSquare hu M a2 a3) (fun r6 M7 => ?_)
      refine r_if_eq (tgt := 35) dX11_canShow_20 rfl (fun h8 => ?_) (fun h9 => ?_)
      · refine r_iconst dX11_canShow_35 ⟨by decide, by decide⟩ ?_
        exact r_iret rfl rfl (Or.inr ⟨rfl, Or.inl rfl⟩) dX11_canShow_36
      · refine r_iload 4 dX11_canShow_23 rfl ?_
        refine r_ins (a := 0) ⟨Nat.le_refl _, Nat.le_refl _⟩ dX11_canShow_25 kM_X11_221 (by decide) (by decide) [(0, a4)] rfl (sk := []) rfl (Nat.le_of_ble_eq_true rfl) rfl rfl (m_X11_isBright hu M7 a4) (fun r10 M11 => ?_)
        refine r_if_eq (tgt := 35) dX11_canShow_28 rfl (fun h12 => ?_) (fun h13 => ?_)
        · refine r_iconst dX11_canShow_35 ⟨by decide, by decide⟩ ?_
          exact r_iret rfl rfl (Or.inr ⟨rfl, Or.inl rfl⟩) dX11_canShow_36
        · refine r_iconst dX11_canShow_31 ⟨by decide, by decide⟩ ?_
          refine r_goto (tgt := 36) dX11_canShow_32 rfl ?_
          exact r_iret rfl rfl (Or.inr ⟨rfl, Or.inr rfl⟩) dX11_canShow_36
theorem dX11_putShowing_0 : decode cX11_putShowing 0 = .ok (.aload_n 0, 1) := by decide +kernel
theorem dX11_putShowing_1 : decode cX11_putShowing 1 = .ok (.getfield 28, 3) := by decide +kernel
theorem dX11_putShowing_4 : decode cX11_putShowing 4 = .ok (.iload_n 2, 1) := by decide +kernel
theorem dX11_putShowing_5 : decode cX11_putShowing 5 = .ok (.invokevirtual 279, 3) := by decide +kernel
theorem dX11_putShowing_8 : decode cX11_putShowing 8 = .ok (.aload_n 0, 1) := by decide +kernel
theorem dX11_putShowing_9 : decode cX11_putShowing 9 = .ok (.getfield 28, 3) := by decide +kernel
theorem dX11_putShowing_12 : decode cX11_putShowing 12 = .ok (.getfield 282, 3) := by decide +kernel
theorem dX11_putShowing_15 : decode cX11_putShowing 15 = .ok (.iconst 0, 1) := by decide +kernel
theorem dX11_putShowing_16 : decode cX11_putShowing 16 = .ok (.aload_n 0, 1) := by decide +kernel
theorem dX11_putShowing_17 : decode cX11_putShowing 17 = .ok (.getfield 35, 3) := by decide +kernel
theorem dX11_putShowing_20 : decode cX11_putShowing 20 = .ok (.getfield 200, 3) := by decide +kernel
theorem dX11_putShowing_23 : decode cX11_putShowing 23 = .ok (.iload_n 2, 1) := by decide +kernel
theorem dX11_putShowing_24 : decode cX11_putShowing 24 = .ok (.iaload, 1) := by decide +kernel
theorem dX11_putShowing_25 : decode cX11_putShowing 25 = .ok (.iastore, 1) := by decide +kernel
theorem dX11_putShowing_26 : decode cX11_putShowing 26 = .ok (.aload_n 0, 1) := by decide +kernel
theorem dX11_putShowing_27 : decode cX11_putShowing 27 = .ok (.getfield 28, 3) := by decide +kernel
theorem dX11_putShowing_30 : decode cX11_putShowing 30 = .ok (.getfield 282, 3) := by decide +kernel
theorem dX11_putShowing_33 : decode cX11_putShowing 33 = .ok (.bipush 16, 2) := by decide +kernel
theorem dX11_putShowing_35 : decode cX11_putShowing 35 = .ok (.iload_n 3, 1) := by decide +kernel
theorem dX11_putShowing_36 : decode cX11_putShowing 36 = .ok (.iastore, 1) := by decide +kernel
theorem dX11_putShowing_37 : decode cX11_putShowing 37 = .ok (.aload_n 0, 1) := by decide +kernel
theorem dX11_putShowing_38 : decode cX11_putShowing 38 = .ok (.getfield 28, 3) := by decide +kernel
theorem dX11_putShowing_41 : decode cX11_putShowing 41 = .ok (.getfield 282, 3) := by decide +kernel
theorem dX11_putShowing_44 : decode cX11_putShowing 44 = .ok (.bipush 17, 2) := by decide +kernel
theorem dX11_putShowing_46 : decode cX11_putShowing 46 = .ok (.aload_n 0, 1) := by decide +kernel
theorem dX11_putShowing_47 : decode cX11_putShowing 47 = .ok (.getfield 35, 3) := by decide +kernel
theorem dX11_putShowing_50 : decode cX11_putShowing 50 = .ok (.iload_n 2, 1) := by decide +kernel
theorem dX11_putShowing_51 : decode cX11_putShowing 51 = .ok (.iload_n 3, 1) := by decide +kernel
theorem dX11_putShowing_52 : decode cX11_putShowing 52 = .ok (.invokevirtual 224, 3) := by decide +kernel
theorem dX11_putShowing_55 : decode cX11_putShowing 55 = .ok (.iastore, 1) := by decide +kernel
theorem dX11_putShowing_56 : decode cX11_putShowing 56 = .ok (.aload_n 0, 1) := by decide +kernel
theorem dX11_putShowing_57 : decode cX11_putShowing 57 = .ok (.getfield 28, 3) := by decide +kernel
theorem dX11_putShowing_60 : decode cX11_putShowing 60 = .ok (.getfield 282, 3) := by decide +kernel
theorem dX11_putShowing_63 : decode cX11_putShowing 63 = .ok (.bipush 18, 2) := by decide +kernel
theorem dX11_putShowing_65 : decode cX11_putShowing 65 = .ok (.iload_n 1, 1) := by decide +kernel
theorem dX11_putShowing_66 : decode cX11_putShowing 66 = .ok (.iastore, 1) := by decide +kernel
theorem dX11_putShowing_67 : decode cX11_putShowing 67 = .ok (.return_, 1) := by decide +kernel
set_option maxRecDepth 100000 in
theorem m_X11_putShowing {g : GT} {n nf : Int} (hu : Up true nf n) (M : Mem) (a1 a2 a3 : Int) : AM g true yX11_putShowing cX11_putShowing 4 none (2) n n nf [(2, 1), (0, a1), (0, a2), (0, a3)] M (f_X11_putShowing M a1 a2 a3) := by
  refine AM_of (by decide +kernel) (Nat.le_of_ble_eq_true rfl) (fun h => absurd h (Int.lt_irrefl n)) ?_
  show AW g true RX11 cX11_putShowing 4 none (2) n n nf 0 [(0, 2, 1), (1, 0, a1), (2, 0, a2), (3, 0, a3)] [] n M (f_X11_putShowing M a1 a2 a3)
  unfold f_X11_putShowing
  refine r_aload_n 0 dX11_putShowing_0 rfl rfl ?_
  refine r_gx (kz := 2) rfl hu dX11_putShowing_1 kF_X11_28 kd_1 rfl rfl rfl fx_1_2 ?_
  refine r_iload_n 2 dX11_putShowing_4 rfl rfl ?_
  refine r_invv (a := 10) hu ⟨Nat.le_refl _, Nat.le_refl _⟩ dX11_putShowing_5 kM_X11_279 (ci := 6) rfl kd_10 rfl rfl (by decide) (by decide) [(0, a2)] rfl (sk := []) rfl (Nat.le_of_ble_eq_true rfl) rfl (m_X6_putSquare hu M a2) (fun r1 M2 => ?_)
  refine r_aload_n 0 dX11_putShowing_8 rfl rfl ?_
  refine r_gx (kz := 2) rfl hu dX11_putShowing_9 kF_X11_28 kd_1 rfl rfl rfl fx_1_2 ?_
  refine r_gx (kz := 0) rfl hu dX11_putShowing_12 kF_X11_282 kd_10 rfl rfl rfl fx_10_0 ?_
  refine r_iconst dX11_putShowing_15 ⟨by decide, by decide⟩ ?_
  refine r_aload_n 0 dX11_putShowing_16 rfl rfl ?_
  refine r_gx (kz := 3) rfl hu dX11_putShowing_17 kF_X11_35 kd_1 rfl rfl rfl fx_1_3 ?_
  refine r_gx (kz := 0) rfl hu dX11_putShowing_20 kF_X11_200 kd_13 rfl rfl rfl fx_13_0 ?_
  refine r_iload_n 2 dX11_putShowing_23 rfl rfl ?_
  refine r_ok (fun h3 => ?_)
  refine r_iald hu dX11_putShowing_24 kd_14 rfl (Or.inl rfl) rfl ln_14 h3 ?_
  refine r_iast hu dX11_putShowing_25 kd_11 rfl (Or.inl rfl) rfl ln_11 ⟨by decide, by decide⟩ rfl (fun M4 eM4 => ?_)
  refine r_aload_n 0 dX11_putShowing_26 rfl rfl ?_
  refine r_gx (kz := 2) rfl hu dX11_putShowing_27 kF_X11_28 kd_1 rfl rfl rfl fx_1_2 ?_
  refine r_gx (kz := 0) rfl hu dX11_putShowing_30 kF_X11_282 kd_10 rfl rfl rfl fx_10_0 ?_
  refine r_bipush dX11_putShowing_33 (by decide) ⟨by decide, by decide⟩ ?_
  refine r_iload_n 3 dX11_putShowing_35 rfl rfl ?_
  refine r_iast hu dX11_putShowing_36 kd_11 rfl (Or.inl rfl) rfl ln_11 ⟨by decide, by decide⟩ rfl (fun M5 eM5 => ?_)
  refine r_aload_n 0 dX11_putShowing_37 rfl rfl ?_
  refine r_gx (kz := 2) rfl hu dX11_putShowing_38 kF_X11_28 kd_1 rfl rfl rfl fx_1_2 ?_
  refine r_gx (kz := 0) rfl hu dX11_putShowing_41 kF_X11_282 kd_10 rfl rfl rfl fx_10_0 ?_
  refine r_bipush dX11_putShowing_44 (by decide) ⟨by decide, by decide⟩ ?_
  refine r_aload_n 0 dX11_putShowing_46 rfl rfl ?_
  refine r_gx (kz := 3) rfl hu dX11_putShowing_47 kF_X11_35 kd_1 rfl rfl rfl fx_1_3 ?_
  refine r_iload_n 2 dX11_putShowing_50 rfl rfl ?_
  refine r_iload_n 3 dX11_putShowing_51 rfl rfl ?_
  refine r_inv (a := 13) hu ⟨Nat.le_refl _, Nat.le_refl _⟩ dX11_putShowing_52 kM_X11_224 (ci := 3) rfl kd_13 rfl rfl (by decide) (by decide) [(0, a2), (0, a3)] rfl (sk := [(0, 17), (2, 11)]) rfl (Nat.le_of_ble_eq_true rfl) rfl rfl (m_X3_lightAt hu M5 a2 a3) (fun r6 M7 => ?_)
  refine r_iast hu dX11_putShowing_55 kd_11 rfl (Or.inl rfl) rfl ln_11 ⟨by decide, by decide⟩ rfl (fun M8 eM8 => ?_)
  refine r_aload_n 0 dX11_putShowing_56 rfl rfl ?_
  refine r_gx (kz := 2) rfl hu dX11_putShowing_57 kF_X11_28 kd_1 rfl rfl rfl fx_1_2 ?_
  refine r_gx (kz := 0) rfl hu dX11_putShowing_60 kF_X11_282 kd_10 rfl rfl rfl fx_10_0 ?_
  refine r_bipush dX11_putShowing_63 (by decide) ⟨by decide, by decide⟩ ?_
  refine r_iload_n 1 dX11_putShowing_65 rfl rfl ?_
  refine r_iast hu dX11_putShowing_66 kd_11 rfl (Or.inl rfl) rfl ln_11 ⟨by decide, by decide⟩ rfl (fun M9 eM9 => ?_)
  exact r_vret rfl rfl dX11_putShowing_67
theorem dX11_showsTold_0 : decode cX11_showsTold 0 = .ok (.aload_n 0, 1) := by decide +kernel
theorem dX11_showsTold_1 : decode cX11_showsTold 1 = .ok (.iload_n 1, 1) := by decide +kernel
theorem dX11_showsTold_2 : decode cX11_showsTold 2 = .ok (.iload_n 2, 1) := by decide +kernel
theorem dX11_showsTold_3 : decode cX11_showsTold 3 = .ok (.iload_n 3, 1) := by decide +kernel
theorem dX11_showsTold_4 : decode cX11_showsTold 4 = .ok (.iload 4, 2) := by decide +kernel
theorem dX11_showsTold_6 : decode cX11_showsTold 6 = .ok (.invokevirtual 276, 3) := by decide +kernel
theorem dX11_showsTold_9 : decode cX11_showsTold 9 = .ok (.ifCond .ne 5, 3) := by decide +kernel
theorem dX11_showsTold_12 : decode cX11_showsTold 12 = .ok (.iconst 0, 1) := by decide +kernel
theorem dX11_showsTold_13 : decode cX11_showsTold 13 = .ok (.ireturn, 1) := by decide +kernel
theorem dX11_showsTold_14 : decode cX11_showsTold 14 = .ok (.aload_n 0, 1) := by decide +kernel
theorem dX11_showsTold_15 : decode cX11_showsTold 15 = .ok (.iload_n 1, 1) := by decide +kernel
theorem dX11_showsTold_16 : decode cX11_showsTold 16 = .ok (.iload_n 2, 1) := by decide +kernel
theorem dX11_showsTold_17 : decode cX11_showsTold 17 = .ok (.iload_n 3, 1) := by decide +kernel
theorem dX11_showsTold_18 : decode cX11_showsTold 18 = .ok (.invokestatic 203, 3) := by decide +kernel
theorem dX11_showsTold_21 : decode cX11_showsTold 21 = .ok (.iload 4, 2) := by decide +kernel
theorem dX11_showsTold_23 : decode cX11_showsTold 23 = .ok (.invokevirtual 251, 3) := by decide +kernel
theorem dX11_showsTold_26 : decode cX11_showsTold 26 = .ok (.iconst 1, 1) := by decide +kernel
theorem dX11_showsTold_27 : decode cX11_showsTold 27 = .ok (.ireturn, 1) := by decide +kernel
set_option maxRecDepth 100000 in
theorem m_X11_showsTold {g : GT} {n nf : Int} (hu : Up true nf n) (M : Mem) (a1 a2 a3 a4 : Int) : AM g true yX11_showsTold cX11_showsTold 5 (some .boolean) (3) n n nf [(2, 1), (0, a1), (0, a2), (0, a3), (0, a4)] M (f_X11_showsTold M a1 a2 a3 a4) := by
  refine AM_of (by decide +kernel) (Nat.le_of_ble_eq_true rfl) (fun h => absurd h (Int.lt_irrefl n)) ?_
  show AW g true RX11 cX11_showsTold 5 (some .boolean) (3) n n nf 0 [(0, 2, 1), (1, 0, a1), (2, 0, a2), (3, 0, a3), (4, 0, a4)] [] n M (f_X11_showsTold M a1 a2 a3 a4)
  unfold f_X11_showsTold
  refine r_aload_n 0 dX11_showsTold_0 rfl rfl ?_
  refine r_iload_n 1 dX11_showsTold_1 rfl rfl ?_
  refine r_iload_n 2 dX11_showsTold_2 rfl rfl ?_
  refine r_iload_n 3 dX11_showsTold_3 rfl rfl ?_
  refine r_iload 4 dX11_showsTold_4 rfl ?_
  refine r_inv (a := 1) hu ⟨Nat.le_refl _, Nat.le_refl _⟩ dX11_showsTold_6 kM_X11_276 (ci := 11) rfl kd_1 rfl rfl (by decide) (by decide) [(0, a1), (0, a2), (0, a3), (0, a4)] rfl (sk := []) rfl (Nat.le_of_ble_eq_true rfl) rfl rfl (m_X11_canShow hu M a1 a2 a3 a4) (fun r1 M2 => ?_)
  refine r_if_ne (tgt := 14) dX11_showsTold_9 rfl (fun h3 => ?_) (fun h4 => ?_)
  · refine r_iconst dX11_showsTold_12 ⟨by decide, by decide⟩ ?_
    exact r_iret rfl rfl (Or.inr ⟨rfl, Or.inl rfl⟩) dX11_showsTold_13
  · refine r_aload_n 0 dX11_showsTold_14 rfl rfl ?_
    refine r_iload_n 1 dX11_showsTold_15 rfl rfl ?_
    refine r_iload_n 2 dX11_showsTold_16 rfl rfl ?_
    refine r_iload_n 3 dX11_showsTold_17 rfl rfl ?_
    refine r_ins (a := 0) ⟨Nat.le_refl _, Nat.le_refl _⟩ dX11_showsTold_18 kM_X11_203 (by decide) (by decide) [(0, a2), (0, a3)] rfl (sk := [(0, a1), (2, 1)]) rfl (Nat.le_of_ble_eq_true rfl) rfl rfl (m_X11_squareAt hu M2 a2 a3) (fun r5 M6 => ?_)
    refine r_iload 4 dX11_showsTold_21 rfl ?_
    refine r_invv (a := 1) hu ⟨Nat.le_refl _, Nat.le_refl _⟩ dX11_showsTold_23 kM_X11_251 (ci := 11) rfl kd_1 rfl rfl (by decide) (by decide) [(0, a1), (0, r5), (0, a4)] rfl (sk := []) rfl (Nat.le_of_ble_eq_true rfl) rfl (m_X11_putShowing hu M6 a1 r5 a4) (fun r7 M8 => ?_)
    refine r_iconst dX11_showsTold_26 ⟨by decide, by decide⟩ ?_
    exact r_iret rfl rfl (Or.inr ⟨rfl, Or.inr rfl⟩) dX11_showsTold_27
theorem dX11_carries_0 : decode cX11_carries 0 = .ok (.aload_n 0, 1) := by decide +kernel
theorem dX11_carries_1 : decode cX11_carries 1 = .ok (.iload_n 1, 1) := by decide +kernel
theorem dX11_carries_2 : decode cX11_carries 2 = .ok (.invokevirtual 153, 3) := by decide +kernel
theorem dX11_carries_5 : decode cX11_carries 5 = .ok (.astore 7, 2) := by decide +kernel
theorem dX11_carries_7 : decode cX11_carries 7 = .ok (.aload 7, 2) := by decide +kernel
theorem dX11_carries_9 : decode cX11_carries 9 = .ok (.ifnull 17, 3) := by decide +kernel
theorem dX11_carries_12 : decode cX11_carries 12 = .ok (.aload_n 0, 1) := by decide +kernel
theorem dX11_carries_13 : decode cX11_carries 13 = .ok (.iload_n 3, 1) := by decide +kernel
theorem dX11_carries_14 : decode cX11_carries 14 = .ok (.iload 4, 2) := by decide +kernel
theorem dX11_carries_16 : decode cX11_carries 16 = .ok (.iload 5, 2) := by decide +kernel
theorem dX11_carries_18 : decode cX11_carries 18 = .ok (.iload 6, 2) := by decide +kernel
theorem dX11_carries_20 : decode cX11_carries 20 = .ok (.invokevirtual 227, 3) := by decide +kernel
theorem dX11_carries_23 : decode cX11_carries 23 = .ok (.ifCond .ne 5, 3) := by decide +kernel
theorem dX11_carries_26 : decode cX11_carries 26 = .ok (.iconst (-1), 1) := by decide +kernel
theorem dX11_carries_27 : decode cX11_carries 27 = .ok (.ireturn, 1) := by decide +kernel
theorem dX11_carries_28 : decode cX11_carries 28 = .ok (.iload_n 2, 1) := by decide +kernel
theorem dX11_carries_29 : decode cX11_carries 29 = .ok (.tableswitch 59 (-3) (-1) #[49, 38, 27], 27) := by decide +kernel
theorem dX11_carries_56 : decode cX11_carries 56 = .ok (.aload 7, 2) := by decide +kernel
theorem dX11_carries_58 : decode cX11_carries 58 = .ok (.aload_n 0, 1) := by decide +kernel
theorem dX11_carries_59 : decode cX11_carries 59 = .ok (.getfield 28, 3) := by decide +kernel
theorem dX11_carries_62 : decode cX11_carries 62 = .ok (.iconst 0, 1) := by decide +kernel
theorem dX11_carries_63 : decode cX11_carries 63 = .ok (.invokevirtual 231, 3) := by decide +kernel
theorem dX11_carries_66 : decode cX11_carries 66 = .ok (.ireturn, 1) := by decide +kernel
theorem dX11_carries_67 : decode cX11_carries 67 = .ok (.aload 7, 2) := by decide +kernel
theorem dX11_carries_69 : decode cX11_carries 69 = .ok (.aload_n 0, 1) := by decide +kernel
theorem dX11_carries_70 : decode cX11_carries 70 = .ok (.getfield 28, 3) := by decide +kernel
theorem dX11_carries_73 : decode cX11_carries 73 = .ok (.iconst 1, 1) := by decide +kernel
theorem dX11_carries_74 : decode cX11_carries 74 = .ok (.invokevirtual 231, 3) := by decide +kernel
theorem dX11_carries_77 : decode cX11_carries 77 = .ok (.ireturn, 1) := by decide +kernel
theorem dX11_carries_78 : decode cX11_carries 78 = .ok (.aload 7, 2) := by decide +kernel
theorem dX11_carries_80 : decode cX11_carries 80 = .ok (.aload_n 0, 1) := by decide +kernel
theorem dX11_carries_81 : decode cX11_carries 81 = .ok (.getfield 28, 3) := by decide +kernel
theorem dX11_carries_84 : decode cX11_carries 84 = .ok (.invokevirtual 235, 3) := by decide +kernel
theorem dX11_carries_87 : decode cX11_carries 87 = .ok (.ireturn, 1) := by decide +kernel
theorem dX11_carries_88 : decode cX11_carries 88 = .ok (.aload 7, 2) := by decide +kernel
theorem dX11_carries_90 : decode cX11_carries 90 = .ok (.aload 7, 2) := by decide +kernel
theorem dX11_carries_92 : decode cX11_carries 92 = .ok (.iload_n 2, 1) := by decide +kernel
theorem dX11_carries_93 : decode cX11_carries 93 = .ok (.invokevirtual 157, 3) := by decide +kernel
theorem dX11_carries_96 : decode cX11_carries 96 = .ok (.aload_n 0, 1) := by decide +kernel
theorem dX11_carries_97 : decode cX11_carries 97 = .ok (.getfield 28, 3) := by decide +kernel
theorem dX11_carries_100 : decode cX11_carries 100 = .ok (.invokevirtual 239, 3) := by decide +kernel
theorem dX11_carries_103 : decode cX11_carries 103 = .ok (.ireturn, 1) := by decide +kernel
set_option maxRecDepth 100000 in
theorem m_X11_carries {g : GT} {n nf : Int} (hu : Up true nf n) (M : Mem) (a1 a2 a3 a4 a5 a6 : Int) : AM g true yX11_carries cX11_carries 8 (some .int) (5) n n nf [(2, 1), (0, a1), (0, a2), (0, a3), (0, a4), (0, a5), (0, a6)] M (f_X11_carries M a1 a2 a3 a4 a5 a6) := by
  refine AM_of (by decide +kernel) (Nat.le_of_ble_eq_true rfl) (fun h => absurd h (Int.lt_irrefl n)) ?_
  show AW g true RX11 cX11_carries 8 (some .int) (5) n n nf 0 [(0, 2, 1), (1, 0, a1), (2, 0, a2), (3, 0, a3), (4, 0, a4), (5, 0, a5), (6, 0, a6)] [] n M (f_X11_carries M a1 a2 a3 a4 a5 a6)
  unfold f_X11_carries
  refine r_aload_n 0 dX11_carries_0 rfl rfl ?_
  refine r_iload_n 1 dX11_carries_1 rfl rfl ?_
  refine r_inv (a := 1) hu ⟨Nat.le_refl _, Nat.le_refl _⟩ dX11_carries_2 kM_X11_153 (ci := 11) rfl kd_1 rfl rfl (by decide) (by decide) [(0, a1)] rfl (sk := []) rfl (Nat.le_of_ble_eq_true rfl) rfl rfl (m_X11_lawAt hu M a1) (fun r1 M2 => ?_)
  refine r_astore dX11_carries_5 (by decide) (ls' := [(7, 2, r1), (0, 2, 1), (1, 0, a1), (2, 0, a2), (3, 0, a3), (4, 0, a4), (5, 0, a5), (6, 0, a6)]) rfl ?_
  refine r_aload 0 dX11_carries_7 rfl ?_
  refine r_ifnull (tgt := 26) dX11_carries_9 rfl (fun h3 => ?_) (fun h4 => ?_)
  · refine r_iconst dX11_carries_26 ⟨by decide, by decide⟩ ?_
    exact r_iret rfl rfl (Or.inl rfl) dX11_carries_27
  · refine r_aload_n 1 dX11_carries_12 rfl rfl ?_
    refine r_iload_n 4 dX11_carries_13 rfl rfl ?_
    refine r_iload 5 dX11_carries_14 rfl ?_
    refine r_iload 6 dX11_carries_16 rfl ?_
    refine r_iload 7 dX11_carries_18 rfl ?_
    refine r_inv (a := 1) hu ⟨Nat.le_refl _, Nat.le_refl _⟩ dX11_carries_20 kM_X11_227 (ci := 11) rfl kd_1 rfl rfl (by decide) (by decide) [(0, a3), (0, a4), (0, a5), (0, a6)] rfl (sk := []) rfl (Nat.le_of_ble_eq_true rfl) rfl rfl (m_X11_showsTold hu M2 a3 a4 a5 a6) (fun r5 M6 => ?_)
    refine r_if_ne (tgt := 28) dX11_carries_23 rfl (fun h7 => ?_) (fun h8 => ?_)
    · refine r_iconst dX11_carries_26 ⟨by decide, by decide⟩ ?_
      exact r_iret rfl rfl (Or.inl rfl) dX11_carries_27
    · refine r_iload_n 3 dX11_carries_28 rfl rfl ?_
      refine r_tsw (tgt := 78) (-3) dX11_carries_29 ⟨by decide, by decide⟩ rfl rfl (fun h9 => ?_) (fun h10 => ?_)
      · refine r_aload 0 dX11_carries_78 rfl ?_
        refine r_aload_n 1 dX11_carries_80 rfl rfl ?_
        refine r_gx (kz := 2) rfl hu dX11_carries_81 kF_X11_28 kd_1 rfl rfl rfl fx_1_2 ?_
        refine r_ok (fun h11 => ?_)
        refine r_inv (a := r1) hu ⟨Nat.le_refl _, Nat.le_refl _⟩ dX11_carries_84 kM_X11_235 (ci := 7) rfl h11 rfl rfl (by decide) (by decide) [(2, 10)] rfl (sk := []) rfl (Nat.le_of_ble_eq_true rfl) rfl rfl (m_X7_lineBy hu M6 r1 h11) (fun r12 M13 => ?_)
        exact r_iret rfl rfl (Or.inl rfl) dX11_carries_87
      · refine r_tsw (tgt := 67) (-2) dX11_carries_29 ⟨by decide, by decide⟩ rfl rfl (fun h14 => ?_) (fun h15 => ?_)
        · refine r_aload 0 dX11_carries_67 rfl ?_
          refine r_aload_n 1 dX11_carries_69 rfl rfl ?_
          refine r_gx (kz := 2) rfl hu dX11_carries_70 kF_X11_28 kd_1 rfl rfl rfl fx_1_2 ?_
          refine r_iconst dX11_carries_73 ⟨by decide, by decide⟩ ?_
          refine r_ok (fun h16 => ?_)
          refine r_inv (a := r1) hu ⟨Nat.le_refl _, Nat.le_refl _⟩ dX11_carries_74 kM_X11_231 (ci := 7) rfl h16 rfl rfl (by decide) (by decide) [(2, 10), (0, 1)] rfl (sk := []) rfl (Nat.le_of_ble_eq_true rfl) rfl rfl (m_X7_carriedMost hu M6 r1 1 h16) (fun r17 M18 => ?_)
          exact r_iret rfl rfl (Or.inl rfl) dX11_carries_77
        · refine r_tsw (tgt := 56) (-1) dX11_carries_29 ⟨by decide, by decide⟩ rfl rfl (fun h19 => ?_) (fun h20 => ?_)
          · refine r_aload 0 dX11_carries_56 rfl ?_
            refine r_aload_n 1 dX11_carries_58 rfl rfl ?_
            refine r_gx (kz := 2) rfl hu dX11_carries_59 kF_X11_28 kd_1 rfl rfl rfl fx_1_2 ?_
            refine r_iconst dX11_carries_62 ⟨by decide, by decide⟩ ?_
            refine r_ok (fun h21 => ?_)
            refine r_inv (a := r1) hu ⟨Nat.le_refl _, Nat.le_refl _⟩ dX11_carries_63 kM_X11_231 (ci := 7) rfl h21 rfl rfl (by decide) (by decide) [(2, 10), (0, 0)] rfl (sk := []) rfl (Nat.le_of_ble_eq_true rfl) rfl rfl (m_X7_carriedMost hu M6 r1 0 h21) (fun r22 M23 => ?_)
            exact r_iret rfl rfl (Or.inl rfl) dX11_carries_66
          · refine r_tswd (tgt := 88) dX11_carries_29 (by omega) rfl ?_
            refine r_aload 0 dX11_carries_88 rfl ?_
            refine r_aload 0 dX11_carries_90 rfl ?_
            refine r_iload_n 3 dX11_carries_92 rfl rfl ?_
            refine r_ok (fun h24 => ?_)
            refine r_inv (a := r1) hu ⟨Nat.le_refl _, Nat.le_refl _⟩ dX11_carries_93 kM_X11_157 (ci := 7) rfl h24 rfl rfl (by decide) (by decide) [(0, a2)] rfl (sk := [(2, r1)]) rfl (Nat.le_of_ble_eq_true rfl) rfl rfl (m_X7_namedAt hu M6 r1 a2 h24) (fun r25 M26 => ?_)
            refine r_aload_n 1 dX11_carries_96 rfl rfl ?_
            refine r_gx (kz := 2) rfl hu dX11_carries_97 kF_X11_28 kd_1 rfl rfl rfl fx_1_2 ?_
            refine r_inv (a := r1) hu ⟨Nat.le_refl _, Nat.le_refl _⟩ dX11_carries_100 kM_X11_239 (ci := 7) rfl h24 rfl rfl (by decide) (by decide) [(2, r25), (2, 10)] rfl (sk := []) rfl (Nat.le_of_ble_eq_true rfl) rfl rfl (m_X7_carriedBy hu M26 r1 r25 h24) (fun r27 M28 => ?_)
            exact r_iret rfl rfl (Or.inl rfl) dX11_carries_103
theorem dX11_says_0 : decode cX11_says 0 = .ok (.aload_n 0, 1) := by decide +kernel
theorem dX11_says_1 : decode cX11_says 1 = .ok (.iload_n 1, 1) := by decide +kernel
theorem dX11_says_2 : decode cX11_says 2 = .ok (.invokevirtual 153, 3) := by decide +kernel
theorem dX11_says_5 : decode cX11_says 5 = .ok (.astore 6, 2) := by decide +kernel
theorem dX11_says_7 : decode cX11_says 7 = .ok (.aload 6, 2) := by decide +kernel
theorem dX11_says_9 : decode cX11_says 9 = .ok (.ifnull 16, 3) := by decide +kernel
theorem dX11_says_12 : decode cX11_says 12 = .ok (.aload_n 0, 1) := by decide +kernel
theorem dX11_says_13 : decode cX11_says 13 = .ok (.iload_n 2, 1) := by decide +kernel
theorem dX11_says_14 : decode cX11_says 14 = .ok (.iload_n 3, 1) := by decide +kernel
theorem dX11_says_15 : decode cX11_says 15 = .ok (.iload 4, 2) := by decide +kernel
theorem dX11_says_17 : decode cX11_says 17 = .ok (.iload 5, 2) := by decide +kernel
theorem dX11_says_19 : decode cX11_says 19 = .ok (.invokevirtual 227, 3) := by decide +kernel
theorem dX11_says_22 : decode cX11_says 22 = .ok (.ifCond .ne 5, 3) := by decide +kernel
theorem dX11_says_25 : decode cX11_says 25 = .ok (.iconst (-1), 1) := by decide +kernel
theorem dX11_says_26 : decode cX11_says 26 = .ok (.ireturn, 1) := by decide +kernel
theorem dX11_says_27 : decode cX11_says 27 = .ok (.aload 6, 2) := by decide +kernel
theorem dX11_says_29 : decode cX11_says 29 = .ok (.aload_n 0, 1) := by decide +kernel
theorem dX11_says_30 : decode cX11_says 30 = .ok (.getfield 28, 3) := by decide +kernel
theorem dX11_says_33 : decode cX11_says 33 = .ok (.invokevirtual 243, 3) := by decide +kernel
theorem dX11_says_36 : decode cX11_says 36 = .ok (.ifCond .eq 7, 3) := by decide +kernel
theorem dX11_says_39 : decode cX11_says 39 = .ok (.iconst 1, 1) := by decide +kernel
theorem dX11_says_40 : decode cX11_says 40 = .ok (.goto 4, 3) := by decide +kernel
theorem dX11_says_43 : decode cX11_says 43 = .ok (.iconst 0, 1) := by decide +kernel
theorem dX11_says_44 : decode cX11_says 44 = .ok (.ireturn, 1) := by decide +kernel
set_option maxRecDepth 100000 in
theorem m_X11_says {g : GT} {n nf : Int} (hu : Up true nf n) (M : Mem) (a1 a2 a3 a4 a5 : Int) : AM g true yX11_says cX11_says 7 (some .int) (6) n n nf [(2, 1), (0, a1), (0, a2), (0, a3), (0, a4), (0, a5)] M (f_X11_says M a1 a2 a3 a4 a5) := by
  refine AM_of (by decide +kernel) (Nat.le_of_ble_eq_true rfl) (fun h => absurd h (Int.lt_irrefl n)) ?_
  show AW g true RX11 cX11_says 7 (some .int) (6) n n nf 0 [(0, 2, 1), (1, 0, a1), (2, 0, a2), (3, 0, a3), (4, 0, a4), (5, 0, a5)] [] n M (f_X11_says M a1 a2 a3 a4 a5)
  unfold f_X11_says
  refine r_aload_n 0 dX11_says_0 rfl rfl ?_
  refine r_iload_n 1 dX11_says_1 rfl rfl ?_
  refine r_inv (a := 1) hu ⟨Nat.le_refl _, Nat.le_refl _⟩ dX11_says_2 kM_X11_153 (ci := 11) rfl kd_1 rfl rfl (by decide) (by decide) [(0, a1)] rfl (sk := []) rfl (Nat.le_of_ble_eq_true rfl) rfl rfl (m_X11_lawAt hu M a1) (fun r1 M2 => ?_)
  refine r_astore dX11_says_5 (by decide) (ls' := [(6, 2, r1), (0, 2, 1), (1, 0, a1), (2, 0, a2), (3, 0, a3), (4, 0, a4), (5, 0, a5)]) rfl ?_
  refine r_aload 0 dX11_says_7 rfl ?_
  refine r_ifnull (tgt := 25) dX11_says_9 rfl (fun h3 => ?_) (fun h4 => ?_)
  · refine r_iconst dX11_says_25 ⟨by decide, by decide⟩ ?_
    exact r_iret rfl rfl (Or.inl rfl) dX11_says_26
  · refine r_aload_n 1 dX11_says_12 rfl rfl ?_
    refine r_iload_n 3 dX11_says_13 rfl rfl ?_
    refine r_iload_n 4 dX11_says_14 rfl rfl ?_
    refine r_iload 5 dX11_says_15 rfl ?_
    refine r_iload 6 dX11_says_17 rfl ?_
    refine r_inv (a := 1) hu ⟨Nat.le_refl _, Nat.le_refl _⟩ dX11_says_19 kM_X11_227 (ci := 11) rfl kd_1 rfl rfl (by decide) (by decide) [(0, a2), (0, a3), (0, a4), (0, a5)] rfl (sk := []) rfl (Nat.le_of_ble_eq_true rfl) rfl rfl (m_X11_showsTold hu M2 a2 a3 a4 a5) (fun r5 M6 => ?_)
    refine r_if_ne (tgt := 27) dX11_says_22 rfl (fun h7 => ?_) (fun h8 => ?_)
    · refine r_iconst dX11_says_25 ⟨by decide, by decide⟩ ?_
      exact r_iret rfl rfl (Or.inl rfl) dX11_says_26
    · refine r_aload 0 dX11_says_27 rfl ?_
      refine r_aload_n 1 dX11_says_29 rfl rfl ?_
      refine r_gx (kz := 2) rfl hu dX11_says_30 kF_X11_28 kd_1 rfl rfl rfl fx_1_2 ?_
      refine r_ok (fun h9 => ?_)
      refine r_inv (a := r1) hu ⟨Nat.le_refl _, Nat.le_refl _⟩ dX11_says_33 kM_X11_243 (ci := 7) rfl h9 rfl rfl (by decide) (by decide) [(2, 10)] rfl (sk := []) rfl (Nat.le_of_ble_eq_true rfl) rfl rfl (m_X7_saysBy hu M6 r1 h9) (fun r10 M11 => ?_)
      refine r_if_eq (tgt := 43) dX11_says_36 rfl (fun h12 => ?_) (fun h13 => ?_)
      · refine r_iconst dX11_says_43 ⟨by decide, by decide⟩ ?_
        exact r_iret rfl rfl (Or.inl rfl) dX11_says_44
      · refine r_iconst dX11_says_39 ⟨by decide, by decide⟩ ?_
        refine r_goto (tgt := 44) dX11_says_40 rfl ?_
        exact r_iret rfl rfl (Or.inl rfl) dX11_says_44
theorem dJ9_abs_0f7a4_0 : decode cJ9_abs_0f7a4 0 = .ok (.iload_n 0, 1) := by decide +kernel
theorem dJ9_abs_0f7a4_1 : decode cJ9_abs_0f7a4 1 = .ok (.ifCond .ge 8, 3) := by decide +kernel
theorem dJ9_abs_0f7a4_4 : decode cJ9_abs_0f7a4 4 = .ok (.iload_n 0, 1) := by decide +kernel
theorem dJ9_abs_0f7a4_5 : decode cJ9_abs_0f7a4 5 = .ok (.ineg, 1) := by decide +kernel
theorem dJ9_abs_0f7a4_6 : decode cJ9_abs_0f7a4 6 = .ok (.goto 4, 3) := by decide +kernel
theorem dJ9_abs_0f7a4_9 : decode cJ9_abs_0f7a4 9 = .ok (.iload_n 0, 1) := by decide +kernel
theorem dJ9_abs_0f7a4_10 : decode cJ9_abs_0f7a4 10 = .ok (.ireturn, 1) := by decide +kernel
set_option maxRecDepth 100000 in
theorem m_J9_abs_0f7a4 {g : GT} {n nf : Int} (hu : Up true nf n) (M : Mem) (a0 : Int) : AM g true yJ9_abs_0f7a4 cJ9_abs_0f7a4 1 (some .int) (0) n n nf [(0, a0)] M (f_J9_abs_0f7a4 M a0) := by
  refine AM_ofF (by decide +kernel) (Nat.le_of_ble_eq_true rfl) (fun h => absurd h (Int.lt_irrefl n)) ?_
  show AW g true RJ9 cJ9_abs_0f7a4 1 (some .int) (0) n n nf 0 [(0, 0, a0)] [] n M (f_J9_abs_0f7a4 M a0)
  unfold f_J9_abs_0f7a4
  refine r_iload_n 0 dJ9_abs_0f7a4_0 rfl rfl ?_
  refine r_if_ge (tgt := 9) dJ9_abs_0f7a4_1 rfl (fun h1 => ?_) (fun h2 => ?_)
  · refine r_iload_n 0 dJ9_abs_0f7a4_9 rfl rfl ?_
    exact r_iret rfl rfl (Or.inl rfl) dJ9_abs_0f7a4_10
  · refine r_iload_n 0 dJ9_abs_0f7a4_4 rfl rfl ?_
    refine r_ok (fun h3 => ?_)
    refine r_ineg dJ9_abs_0f7a4_5 h3 ?_
    refine r_goto (tgt := 10) dJ9_abs_0f7a4_6 rfl ?_
    exact r_iret rfl rfl (Or.inl rfl) dJ9_abs_0f7a4_10
theorem dX11_nearestBright_0 : decode cX11_nearestBright 0 = .ok (.iconst 1, 1) := by decide +kernel
theorem dX11_nearestBright_1 : decode cX11_nearestBright 1 = .ok (.istore 5, 2) := by decide +kernel
theorem dX11_nearestBright_3 : decode cX11_nearestBright 3 = .ok (.ldc_w 285, 3) := by decide +kernel
theorem dX11_nearestBright_6 : decode cX11_nearestBright 6 = .ok (.istore 6, 2) := by decide +kernel
theorem dX11_nearestBright_8 : decode cX11_nearestBright 8 = .ok (.iconst 1, 1) := by decide +kernel
theorem dX11_nearestBright_9 : decode cX11_nearestBright 9 = .ok (.istore 7, 2) := by decide +kernel
theorem dX11_nearestBright_11 : decode cX11_nearestBright 11 = .ok (.iload 7, 2) := by decide +kernel
theorem dX11_nearestBright_13 : decode cX11_nearestBright 13 = .ok (.bipush 99, 2) := by decide +kernel
theorem dX11_nearestBright_15 : decode cX11_nearestBright 15 = .ok (.if_icmp .gt 54, 3) := by decide +kernel
theorem dX11_nearestBright_18 : decode cX11_nearestBright 18 = .ok (.iload 6, 2) := by decide +kernel
theorem dX11_nearestBright_20 : decode cX11_nearestBright 20 = .ok (.ifCond .le 49, 3) := by decide +kernel
theorem dX11_nearestBright_23 : decode cX11_nearestBright 23 = .ok (.aload_n 0, 1) := by decide +kernel
theorem dX11_nearestBright_24 : decode cX11_nearestBright 24 = .ok (.iload_n 2, 1) := by decide +kernel
theorem dX11_nearestBright_25 : decode cX11_nearestBright 25 = .ok (.iload_n 3, 1) := by decide +kernel
theorem dX11_nearestBright_26 : decode cX11_nearestBright 26 = .ok (.iload 7, 2) := by decide +kernel
theorem dX11_nearestBright_28 : decode cX11_nearestBright 28 = .ok (.invokevirtual 251, 3) := by decide +kernel
theorem dX11_nearestBright_31 : decode cX11_nearestBright 31 = .ok (.aload_n 1, 1) := by decide +kernel
theorem dX11_nearestBright_32 : decode cX11_nearestBright 32 = .ok (.aload_n 0, 1) := by decide +kernel
theorem dX11_nearestBright_33 : decode cX11_nearestBright 33 = .ok (.getfield 28, 3) := by decide +kernel
theorem dX11_nearestBright_36 : decode cX11_nearestBright 36 = .ok (.iconst 0, 1) := by decide +kernel
theorem dX11_nearestBright_37 : decode cX11_nearestBright 37 = .ok (.invokevirtual 231, 3) := by decide +kernel
theorem dX11_nearestBright_40 : decode cX11_nearestBright 40 = .ok (.iload 4, 2) := by decide +kernel
theorem dX11_nearestBright_42 : decode cX11_nearestBright 42 = .ok (.isub, 1) := by decide +kernel
theorem dX11_nearestBright_43 : decode cX11_nearestBright 43 = .ok (.invokestatic 286, 3) := by decide +kernel
theorem dX11_nearestBright_46 : decode cX11_nearestBright 46 = .ok (.istore 8, 2) := by decide +kernel
theorem dX11_nearestBright_48 : decode cX11_nearestBright 48 = .ok (.iload 8, 2) := by decide +kernel
theorem dX11_nearestBright_50 : decode cX11_nearestBright 50 = .ok (.iload 6, 2) := by decide +kernel
theorem dX11_nearestBright_52 : decode cX11_nearestBright 52 = .ok (.if_icmp .ge 11, 3) := by decide +kernel
theorem dX11_nearestBright_55 : decode cX11_nearestBright 55 = .ok (.iload 8, 2) := by decide +kernel
theorem dX11_nearestBright_57 : decode cX11_nearestBright 57 = .ok (.istore 6, 2) := by decide +kernel
theorem dX11_nearestBright_59 : decode cX11_nearestBright 59 = .ok (.iload 7, 2) := by decide +kernel
theorem dX11_nearestBright_61 : decode cX11_nearestBright 61 = .ok (.istore 5, 2) := by decide +kernel
theorem dX11_nearestBright_63 : decode cX11_nearestBright 63 = .ok (.iinc 7 1, 3) := by decide +kernel
theorem dX11_nearestBright_66 : decode cX11_nearestBright 66 = .ok (.goto (-55), 3) := by decide +kernel
theorem dX11_nearestBright_69 : decode cX11_nearestBright 69 = .ok (.iload 5, 2) := by decide +kernel
theorem dX11_nearestBright_71 : decode cX11_nearestBright 71 = .ok (.ireturn, 1) := by decide +kernel
set_option maxRecDepth 100000 in
theorem tb_X11_nearestBright_11 {g : GT} {n nf : Int} (hu : Up true nf n) (a1 a2 a3 a4 : Int) (hk1 : kd a1 = 17) (w11 : Mem → Int → Int → Int → Res) (hw11 : ∀ (M : Mem) (x5 x6 x7 : Int), AW g true RX11 cX11_nearestBright 9 (some .int) (5) n n nf 11 [(0, 2, 1), (1, 2, a1), (2, 0, a2), (3, 0, a3), (4, 0, a4), (5, 0, x5), (6, 0, x6), (7, 0, x7)] [] n M (w11 M x5 x6 x7)) (M : Mem) (x5 x6 x7 : Int) : AW g true RX11 cX11_nearestBright 9 (some .int) (5) n n nf 11 [(0, 2, 1), (1, 2, a1), (2, 0, a2), (3, 0, a3), (4, 0, a4), (5, 0, x5), (6, 0, x6), (7, 0, x7)] [] n M (b_X11_nearestBright_11 a1 a2 a3 a4 w11 M x5 x6 x7) := by
  unfold b_X11_nearestBright_11
  refine r_iload 7 dX11_nearestBright_11 rfl ?_
  refine r_bipush dX11_nearestBright_13 (by decide) ⟨by decide, by decide⟩ ?_
  refine r_icmp_gt (tgt := 69) dX11_nearestBright_15 rfl (fun h1 => ?_) (fun h2 => ?_)
  · refine r_iload 5 dX11_nearestBright_69 rfl ?_
    exact r_iret rfl rfl (Or.inl rfl) dX11_nearestBright_71
  · refine r_iload 6 dX11_nearestBright_18 rfl ?_
    refine r_if_le (tgt := 69) dX11_nearestBright_20 rfl (fun h3 => ?_) (fun h4 => ?_)
    · refine r_iload 5 dX11_nearestBright_69 rfl ?_
      exact r_iret rfl rfl (Or.inl rfl) dX11_nearestBright_71
    · refine r_aload_n 0 dX11_nearestBright_23 rfl rfl ?_
      refine r_iload_n 2 dX11_nearestBright_24 rfl rfl ?_
      refine r_iload_n 3 dX11_nearestBright_25 rfl rfl ?_
      refine r_iload 7 dX11_nearestBright_26 rfl ?_
      refine r_invv (a := 1) hu ⟨Nat.le_refl _, Nat.le_refl _⟩ dX11_nearestBright_28 kM_X11_251 (ci := 11) rfl kd_1 rfl rfl (by decide) (by decide) [(0, a2), (0, a3), (0, x7)] rfl (sk := []) rfl (Nat.le_of_ble_eq_true rfl) rfl (m_X11_putShowing hu M a2 a3 x7) (fun r5 M6 => ?_)
      refine r_aload_n 1 dX11_nearestBright_31 rfl rfl ?_
      refine r_aload_n 0 dX11_nearestBright_32 rfl rfl ?_
      refine r_gx (kz := 2) rfl hu dX11_nearestBright_33 kF_X11_28 kd_1 rfl rfl rfl fx_1_2 ?_
      refine r_iconst dX11_nearestBright_36 ⟨by decide, by decide⟩ ?_
      refine r_inv (a := a1) hu ⟨Nat.le_refl _, Nat.le_refl _⟩ dX11_nearestBright_37 kM_X11_231 (ci := 7) rfl hk1 rfl rfl (by decide) (by decide) [(2, 10), (0, 0)] rfl (sk := []) rfl (Nat.le_of_ble_eq_true rfl) rfl rfl (m_X7_carriedMost hu M6 a1 0 hk1) (fun r7 M8 => ?_)
      refine r_iload 4 dX11_nearestBright_40 rfl ?_
      refine r_ok (fun h9 => ?_)
      refine r_isub dX11_nearestBright_42 h9 ?_
      refine r_ins (a := 0) ⟨Nat.le_refl _, Nat.le_refl _⟩ dX11_nearestBright_43 kM_X11_286 (by decide) (by decide) [(0, r7 - a4)] rfl (sk := []) rfl (Nat.le_of_ble_eq_true rfl) rfl rfl (m_J9_abs_0f7a4 hu M8 (r7 - a4)) (fun r10 M11 => ?_)
      refine r_istore dX11_nearestBright_46 (by decide) (ls' := [(8, 0, r10), (0, 2, 1), (1, 2, a1), (2, 0, a2), (3, 0, a3), (4, 0, a4), (5, 0, x5), (6, 0, x6), (7, 0, x7)]) rfl ?_
      refine r_iload 0 dX11_nearestBright_48 rfl ?_
      refine r_iload 7 dX11_nearestBright_50 rfl ?_
      refine r_icmp_ge (tgt := 63) dX11_nearestBright_52 rfl (fun h12 => ?_) (fun h13 => ?_)
      · refine r_ok (fun h14 => ?_)
        refine r_iincB 8 dX11_nearestBright_63 rfl h14 (by decide) (lf := fun y15 => [(7, 0, y15), (8, 0, r10), (0, 2, 1), (1, 2, a1), (2, 0, a2), (3, 0, a3), (4, 0, a4), (5, 0, x5), (6, 0, x6)]) (fun _ => rfl) (fun y15 ey15 => ?_)
        refine r_goto (tgt := 11) dX11_nearestBright_66 rfl ?_
        refine r_sub [2, 3, 4, 5, 6, 7, 8, 0] (ls' := [(0, 2, 1), (1, 2, a1), (2, 0, a2), (3, 0, a3), (4, 0, a4), (5, 0, x5), (6, 0, x6), (7, 0, y15)]) rfl ?_
        exact hw11 M11 x5 x6 y15
      · refine r_iload 0 dX11_nearestBright_55 rfl ?_
        refine r_istore dX11_nearestBright_57 (by decide) (ls' := [(6, 0, r10), (8, 0, r10), (0, 2, 1), (1, 2, a1), (2, 0, a2), (3, 0, a3), (4, 0, a4), (5, 0, x5), (7, 0, x7)]) rfl ?_
        refine r_iload 8 dX11_nearestBright_59 rfl ?_
        refine r_istore dX11_nearestBright_61 (by decide) (ls' := [(5, 0, x7), (6, 0, r10), (8, 0, r10), (0, 2, 1), (1, 2, a1), (2, 0, a2), (3, 0, a3), (4, 0, a4), (7, 0, x7)]) rfl ?_
        refine r_ok (fun h16 => ?_)
        refine r_iincB 8 dX11_nearestBright_63 rfl h16 (by decide) (lf := fun y17 => [(7, 0, y17), (5, 0, x7), (6, 0, r10), (8, 0, r10), (0, 2, 1), (1, 2, a1), (2, 0, a2), (3, 0, a3), (4, 0, a4)]) (fun _ => rfl) (fun y17 ey17 => ?_)
        refine r_goto (tgt := 11) dX11_nearestBright_66 rfl ?_
        refine r_sub [4, 5, 6, 7, 8, 1, 2, 0] (ls' := [(0, 2, 1), (1, 2, a1), (2, 0, a2), (3, 0, a3), (4, 0, a4), (5, 0, x7), (6, 0, r10), (7, 0, y17)]) rfl ?_
        exact hw11 M11 x7 r10 y17
set_option maxRecDepth 100000 in
theorem m_X11_nearestBright {g : GT} {n nf : Int} (hu : Up true nf n) (M : Mem) (a1 a2 a3 a4 : Int) (hk1 : kd a1 = 17) : AM g true yX11_nearestBright cX11_nearestBright 9 (some .int) (5) n n nf [(2, 1), (2, a1), (0, a2), (0, a3), (0, a4)] M (f_X11_nearestBright M a1 a2 a3 a4) := by
  refine AM_of (by decide +kernel) (Nat.le_of_ble_eq_true rfl) (fun h => absurd h (Int.lt_irrefl n)) ?_
  show AW g true RX11 cX11_nearestBright 9 (some .int) (5) n n nf 0 [(0, 2, 1), (1, 2, a1), (2, 0, a2), (3, 0, a3), (4, 0, a4)] [] n M (f_X11_nearestBright M a1 a2 a3 a4)
  unfold f_X11_nearestBright
  refine r_iconst dX11_nearestBright_0 ⟨by decide, by decide⟩ ?_
  refine r_istore dX11_nearestBright_1 (by decide) (ls' := [(5, 0, 1), (0, 2, 1), (1, 2, a1), (2, 0, a2), (3, 0, a3), (4, 0, a4)]) rfl ?_
  refine r_ldcw (v := 1000000) dX11_nearestBright_3 kC_X11_285 rfl ⟨by decide, by decide⟩ ?_
  refine r_istore dX11_nearestBright_6 (by decide) (ls' := [(6, 0, 1000000), (5, 0, 1), (0, 2, 1), (1, 2, a1), (2, 0, a2), (3, 0, a3), (4, 0, a4)]) rfl ?_
  refine r_iconst dX11_nearestBright_8 ⟨by decide, by decide⟩ ?_
  refine r_istore dX11_nearestBright_9 (by decide) (ls' := [(7, 0, 1), (6, 0, 1000000), (5, 0, 1), (0, 2, 1), (1, 2, a1), (2, 0, a2), (3, 0, a3), (4, 0, a4)]) rfl ?_
  refine r_sub [3, 4, 5, 6, 7, 2, 1, 0] (ls' := [(0, 2, 1), (1, 2, a1), (2, 0, a2), (3, 0, a3), (4, 0, a4), (5, 0, 1), (6, 0, 1000000), (7, 0, 1)]) rfl ?_
  exact wl3_aw (P := fun M x5 x6 x7 o => AW g true RX11 cX11_nearestBright 9 (some .int) (5) n n nf 11 [(0, 2, 1), (1, 2, a1), (2, 0, a2), (3, 0, a3), (4, 0, a4), (5, 0, x5), (6, 0, x6), (7, 0, x7)] [] n M (o)) (fun M x5 x6 x7 => aw_none) (fun w hw M x5 x6 x7 => tb_X11_nearestBright_11 hu a1 a2 a3 a4 hk1 w hw M x5 x6 x7) FU M 1 1000000 1
theorem dX11_whole_0 : decode cX11_whole 0 = .ok (.aload_n 0, 1) := by decide +kernel
theorem dX11_whole_1 : decode cX11_whole 1 = .ok (.iload_n 1, 1) := by decide +kernel
theorem dX11_whole_2 : decode cX11_whole 2 = .ok (.invokevirtual 153, 3) := by decide +kernel
theorem dX11_whole_5 : decode cX11_whole 5 = .ok (.astore 9, 2) := by decide +kernel
theorem dX11_whole_7 : decode cX11_whole 7 = .ok (.iload 8, 2) := by decide +kernel
theorem dX11_whole_9 : decode cX11_whole 9 = .ok (.ifCond .lt 23, 3) := by decide +kernel
theorem dX11_whole_12 : decode cX11_whole 12 = .ok (.iload 8, 2) := by decide +kernel
theorem dX11_whole_14 : decode cX11_whole 14 = .ok (.iconst 2, 1) := by decide +kernel
theorem dX11_whole_15 : decode cX11_whole 15 = .ok (.if_icmp .gt 17, 3) := by decide +kernel
theorem dX11_whole_18 : decode cX11_whole 18 = .ok (.iload 6, 2) := by decide +kernel
theorem dX11_whole_20 : decode cX11_whole 20 = .ok (.iload 7, 2) := by decide +kernel
theorem dX11_whole_22 : decode cX11_whole 22 = .ok (.invokestatic 196, 3) := by decide +kernel
theorem dX11_whole_25 : decode cX11_whole 25 = .ok (.ifCond .eq 7, 3) := by decide +kernel
theorem dX11_whole_28 : decode cX11_whole 28 = .ok (.iconst 1, 1) := by decide +kernel
theorem dX11_whole_29 : decode cX11_whole 29 = .ok (.goto 4, 3) := by decide +kernel
theorem dX11_whole_32 : decode cX11_whole 32 = .ok (.iconst 0, 1) := by decide +kernel
theorem dX11_whole_33 : decode cX11_whole 33 = .ok (.istore 10, 2) := by decide +kernel
theorem dX11_whole_35 : decode cX11_whole 35 = .ok (.iload 10, 2) := by decide +kernel
theorem dX11_whole_37 : decode cX11_whole 37 = .ok (.ifCond .eq 21, 3) := by decide +kernel
theorem dX11_whole_40 : decode cX11_whole 40 = .ok (.aload 9, 2) := by decide +kernel
theorem dX11_whole_42 : decode cX11_whole 42 = .ok (.ifnull 16, 3) := by decide +kernel
theorem dX11_whole_45 : decode cX11_whole 45 = .ok (.aload_n 0, 1) := by decide +kernel
theorem dX11_whole_46 : decode cX11_whole 46 = .ok (.iload_n 2, 1) := by decide +kernel
theorem dX11_whole_47 : decode cX11_whole 47 = .ok (.iload_n 3, 1) := by decide +kernel
theorem dX11_whole_48 : decode cX11_whole 48 = .ok (.iload 4, 2) := by decide +kernel
theorem dX11_whole_50 : decode cX11_whole 50 = .ok (.iload 5, 2) := by decide +kernel
theorem dX11_whole_52 : decode cX11_whole 52 = .ok (.invokevirtual 227, 3) := by decide +kernel
theorem dX11_whole_55 : decode cX11_whole 55 = .ok (.ifCond .ne 7, 3) := by decide +kernel
theorem dX11_whole_58 : decode cX11_whole 58 = .ok (.sipush (-1000), 3) := by decide +kernel
theorem dX11_whole_61 : decode cX11_whole 61 = .ok (.ireturn, 1) := by decide +kernel
theorem dX11_whole_62 : decode cX11_whole 62 = .ok (.aload 9, 2) := by decide +kernel
theorem dX11_whole_64 : decode cX11_whole 64 = .ok (.aload_n 0, 1) := by decide +kernel
theorem dX11_whole_65 : decode cX11_whole 65 = .ok (.getfield 28, 3) := by decide +kernel
theorem dX11_whole_68 : decode cX11_whole 68 = .ok (.iconst 0, 1) := by decide +kernel
theorem dX11_whole_69 : decode cX11_whole 69 = .ok (.invokevirtual 231, 3) := by decide +kernel
theorem dX11_whole_72 : decode cX11_whole 72 = .ok (.istore 11, 2) := by decide +kernel
theorem dX11_whole_74 : decode cX11_whole 74 = .ok (.aload 9, 2) := by decide +kernel
theorem dX11_whole_76 : decode cX11_whole 76 = .ok (.aload_n 0, 1) := by decide +kernel
theorem dX11_whole_77 : decode cX11_whole 77 = .ok (.getfield 28, 3) := by decide +kernel
theorem dX11_whole_80 : decode cX11_whole 80 = .ok (.iconst 1, 1) := by decide +kernel
theorem dX11_whole_81 : decode cX11_whole 81 = .ok (.invokevirtual 231, 3) := by decide +kernel
theorem dX11_whole_84 : decode cX11_whole 84 = .ok (.istore 12, 2) := by decide +kernel
theorem dX11_whole_86 : decode cX11_whole 86 = .ok (.iload 6, 2) := by decide +kernel
theorem dX11_whole_88 : decode cX11_whole 88 = .ok (.iload 7, 2) := by decide +kernel
theorem dX11_whole_90 : decode cX11_whole 90 = .ok (.invokestatic 203, 3) := by decide +kernel
theorem dX11_whole_93 : decode cX11_whole 93 = .ok (.istore 13, 2) := by decide +kernel
theorem dX11_whole_95 : decode cX11_whole 95 = .ok (.aload_n 0, 1) := by decide +kernel
theorem dX11_whole_96 : decode cX11_whole 96 = .ok (.aload 9, 2) := by decide +kernel
theorem dX11_whole_98 : decode cX11_whole 98 = .ok (.iload_n 2, 1) := by decide +kernel
theorem dX11_whole_99 : decode cX11_whole 99 = .ok (.iload 13, 2) := by decide +kernel
theorem dX11_whole_101 : decode cX11_whole 101 = .ok (.iload 11, 2) := by decide +kernel
theorem dX11_whole_103 : decode cX11_whole 103 = .ok (.invokevirtual 247, 3) := by decide +kernel
theorem dX11_whole_106 : decode cX11_whole 106 = .ok (.istore 14, 2) := by decide +kernel
theorem dX11_whole_108 : decode cX11_whole 108 = .ok (.iload 8, 2) := by decide +kernel
theorem dX11_whole_110 : decode cX11_whole 110 = .ok (.ifCond .ne 6, 3) := by decide +kernel
theorem dX11_whole_113 : decode cX11_whole 113 = .ok (.iload 14, 2) := by decide +kernel
theorem dX11_whole_115 : decode cX11_whole 115 = .ok (.ireturn, 1) := by decide +kernel
theorem dX11_whole_116 : decode cX11_whole 116 = .ok (.aload_n 0, 1) := by decide +kernel
theorem dX11_whole_117 : decode cX11_whole 117 = .ok (.iload_n 2, 1) := by decide +kernel
theorem dX11_whole_118 : decode cX11_whole 118 = .ok (.iload 13, 2) := by decide +kernel
theorem dX11_whole_120 : decode cX11_whole 120 = .ok (.iload 14, 2) := by decide +kernel
theorem dX11_whole_122 : decode cX11_whole 122 = .ok (.invokevirtual 251, 3) := by decide +kernel
theorem dX11_whole_125 : decode cX11_whole 125 = .ok (.iload 8, 2) := by decide +kernel
theorem dX11_whole_127 : decode cX11_whole 127 = .ok (.iconst 1, 1) := by decide +kernel
theorem dX11_whole_128 : decode cX11_whole 128 = .ok (.if_icmp .ne 16, 3) := by decide +kernel
theorem dX11_whole_131 : decode cX11_whole 131 = .ok (.aload 9, 2) := by decide +kernel
theorem dX11_whole_133 : decode cX11_whole 133 = .ok (.aload_n 0, 1) := by decide +kernel
theorem dX11_whole_134 : decode cX11_whole 134 = .ok (.getfield 28, 3) := by decide +kernel
theorem dX11_whole_137 : decode cX11_whole 137 = .ok (.iconst 0, 1) := by decide +kernel
theorem dX11_whole_138 : decode cX11_whole 138 = .ok (.invokevirtual 231, 3) := by decide +kernel
theorem dX11_whole_141 : decode cX11_whole 141 = .ok (.goto 16, 3) := by decide +kernel
theorem dX11_whole_144 : decode cX11_whole 144 = .ok (.aload 9, 2) := by decide +kernel
theorem dX11_whole_146 : decode cX11_whole 146 = .ok (.aload_n 0, 1) := by decide +kernel
theorem dX11_whole_147 : decode cX11_whole 147 = .ok (.getfield 28, 3) := by decide +kernel
theorem dX11_whole_150 : decode cX11_whole 150 = .ok (.iconst 1, 1) := by decide +kernel
theorem dX11_whole_151 : decode cX11_whole 151 = .ok (.invokevirtual 231, 3) := by decide +kernel
theorem dX11_whole_154 : decode cX11_whole 154 = .ok (.iload 12, 2) := by decide +kernel
theorem dX11_whole_156 : decode cX11_whole 156 = .ok (.isub, 1) := by decide +kernel
theorem dX11_whole_157 : decode cX11_whole 157 = .ok (.ireturn, 1) := by decide +kernel
set_option maxRecDepth 100000 in
theorem tj_X11_whole_33 {g : GT} {n nf : Int} (hu : Up true nf n) (a2 a3 a4 a5 a6 a7 a8 : Int) (M : Mem) (x9 s0 : Int) : AW g true RX11 cX11_whole 15 (some .int) (6) n n nf 33 [(0, 2, 1), (2, 0, a2), (3, 0, a3), (4, 0, a4), (5, 0, a5), (6, 0, a6), (7, 0, a7), (8, 0, a8), (9, 2, x9)] [(0, s0)] n M (j_X11_whole_33 a2 a3 a4 a5 a6 a7 a8 M x9 s0) := by
  unfold j_X11_whole_33
  refine r_istore dX11_whole_33 (by decide) (ls' := [(10, 0, s0), (0, 2, 1), (2, 0, a2), (3, 0, a3), (4, 0, a4), (5, 0, a5), (6, 0, a6), (7, 0, a7), (8, 0, a8), (9, 2, x9)]) rfl ?_
  refine r_iload 0 dX11_whole_35 rfl ?_
  refine r_if_eq (tgt := 58) dX11_whole_37 rfl (fun h5 => ?_) (fun h6 => ?_)
  · refine r_sipush dX11_whole_58 (by decide) ⟨by decide, by decide⟩ ?_
    exact r_iret rfl rfl (Or.inl rfl) dX11_whole_61
  · refine r_aload 9 dX11_whole_40 rfl ?_
    refine r_ifnull (tgt := 58) dX11_whole_42 rfl (fun h7 => ?_) (fun h8 => ?_)
    · refine r_sipush dX11_whole_58 (by decide) ⟨by decide, by decide⟩ ?_
      exact r_iret rfl rfl (Or.inl rfl) dX11_whole_61
    · refine r_aload_n 1 dX11_whole_45 rfl rfl ?_
      refine r_iload_n 2 dX11_whole_46 rfl rfl ?_
      refine r_iload_n 3 dX11_whole_47 rfl rfl ?_
      refine r_iload 4 dX11_whole_48 rfl ?_
      refine r_iload 5 dX11_whole_50 rfl ?_
      refine r_inv (a := 1) hu ⟨Nat.le_refl _, Nat.le_refl _⟩ dX11_whole_52 kM_X11_227 (ci := 11) rfl kd_1 rfl rfl (by decide) (by decide) [(0, a2), (0, a3), (0, a4), (0, a5)] rfl (sk := []) rfl (Nat.le_of_ble_eq_true rfl) rfl rfl (m_X11_showsTold hu M a2 a3 a4 a5) (fun r9 M10 => ?_)
      refine r_if_ne (tgt := 62) dX11_whole_55 rfl (fun h11 => ?_) (fun h12 => ?_)
      · refine r_sipush dX11_whole_58 (by decide) ⟨by decide, by decide⟩ ?_
        exact r_iret rfl rfl (Or.inl rfl) dX11_whole_61
      · refine r_aload 9 dX11_whole_62 rfl ?_
        refine r_aload_n 1 dX11_whole_64 rfl rfl ?_
        refine r_gx (kz := 2) rfl hu dX11_whole_65 kF_X11_28 kd_1 rfl rfl rfl fx_1_2 ?_
        refine r_iconst dX11_whole_68 ⟨by decide, by decide⟩ ?_
        refine r_ok (fun h13 => ?_)
        refine r_inv (a := x9) hu ⟨Nat.le_refl _, Nat.le_refl _⟩ dX11_whole_69 kM_X11_231 (ci := 7) rfl h13 rfl rfl (by decide) (by decide) [(2, 10), (0, 0)] rfl (sk := []) rfl (Nat.le_of_ble_eq_true rfl) rfl rfl (m_X7_carriedMost hu M10 x9 0 h13) (fun r14 M15 => ?_)
        refine r_istore dX11_whole_72 (by decide) (ls' := [(11, 0, r14), (10, 0, s0), (0, 2, 1), (2, 0, a2), (3, 0, a3), (4, 0, a4), (5, 0, a5), (6, 0, a6), (7, 0, a7), (8, 0, a8), (9, 2, x9)]) rfl ?_
        refine r_aload 10 dX11_whole_74 rfl ?_
        refine r_aload_n 2 dX11_whole_76 rfl rfl ?_
        refine r_gx (kz := 2) rfl hu dX11_whole_77 kF_X11_28 kd_1 rfl rfl rfl fx_1_2 ?_
        refine r_iconst dX11_whole_80 ⟨by decide, by decide⟩ ?_
        refine r_inv (a := x9) hu ⟨Nat.le_refl _, Nat.le_refl _⟩ dX11_whole_81 kM_X11_231 (ci := 7) rfl h13 rfl rfl (by decide) (by decide) [(2, 10), (0, 1)] rfl (sk := []) rfl (Nat.le_of_ble_eq_true rfl) rfl rfl (m_X7_carriedMost hu M15 x9 1 h13) (fun r16 M17 => ?_)
        refine r_istore dX11_whole_84 (by decide) (ls' := [(12, 0, r16), (11, 0, r14), (10, 0, s0), (0, 2, 1), (2, 0, a2), (3, 0, a3), (4, 0, a4), (5, 0, a5), (6, 0, a6), (7, 0, a7), (8, 0, a8), (9, 2, x9)]) rfl ?_
        refine r_iload 8 dX11_whole_86 rfl ?_
        refine r_iload 9 dX11_whole_88 rfl ?_
        refine r_ins (a := 0) ⟨Nat.le_refl _, Nat.le_refl _⟩ dX11_whole_90 kM_X11_203 (by decide) (by decide) [(0, a6), (0, a7)] rfl (sk := []) rfl (Nat.le_of_ble_eq_true rfl) rfl rfl (m_X11_squareAt hu M17 a6 a7) (fun r18 M19 => ?_)
        refine r_istore dX11_whole_93 (by decide) (ls' := [(13, 0, r18), (12, 0, r16), (11, 0, r14), (10, 0, s0), (0, 2, 1), (2, 0, a2), (3, 0, a3), (4, 0, a4), (5, 0, a5), (6, 0, a6), (7, 0, a7), (8, 0, a8), (9, 2, x9)]) rfl ?_
        refine r_aload_n 4 dX11_whole_95 rfl rfl ?_
        refine r_aload 12 dX11_whole_96 rfl ?_
        refine r_iload_n 5 dX11_whole_98 rfl rfl ?_
        refine r_iload 0 dX11_whole_99 rfl ?_
        refine r_iload 2 dX11_whole_101 rfl ?_
        refine r_inv (a := 1) hu ⟨Nat.le_refl _, Nat.le_refl _⟩ dX11_whole_103 kM_X11_247 (ci := 11) rfl kd_1 rfl rfl (by decide) (by decide) [(2, x9), (0, a2), (0, r18), (0, r14)] rfl (sk := []) rfl (Nat.le_of_ble_eq_true rfl) rfl rfl (m_X11_nearestBright hu M19 x9 a2 r18 r14 h13) (fun r20 M21 => ?_)
        refine r_istore dX11_whole_106 (by decide) (ls' := [(14, 0, r20), (13, 0, r18), (12, 0, r16), (11, 0, r14), (10, 0, s0), (0, 2, 1), (2, 0, a2), (3, 0, a3), (4, 0, a4), (5, 0, a5), (6, 0, a6), (7, 0, a7), (8, 0, a8), (9, 2, x9)]) rfl ?_
        refine r_iload 12 dX11_whole_108 rfl ?_
        refine r_if_ne (tgt := 116) dX11_whole_110 rfl (fun h22 => ?_) (fun h23 => ?_)
        · refine r_iload 0 dX11_whole_113 rfl ?_
          exact r_iret rfl rfl (Or.inl rfl) dX11_whole_115
        · refine r_aload_n 5 dX11_whole_116 rfl rfl ?_
          refine r_iload_n 6 dX11_whole_117 rfl rfl ?_
          refine r_iload 1 dX11_whole_118 rfl ?_
          refine r_iload 0 dX11_whole_120 rfl ?_
          refine r_invv (a := 1) hu ⟨Nat.le_refl _, Nat.le_refl _⟩ dX11_whole_122 kM_X11_251 (ci := 11) rfl kd_1 rfl rfl (by decide) (by decide) [(0, a2), (0, r18), (0, r20)] rfl (sk := []) rfl (Nat.le_of_ble_eq_true rfl) rfl (m_X11_putShowing hu M21 a2 r18 r20) (fun r24 M25 => ?_)
          refine r_iload 12 dX11_whole_125 rfl ?_
          refine r_iconst dX11_whole_127 ⟨by decide, by decide⟩ ?_
          refine r_icmp_ne (tgt := 144) dX11_whole_128 rfl (fun h26 => ?_) (fun h27 => ?_)
          · refine r_aload 13 dX11_whole_131 rfl ?_
            refine r_aload_n 5 dX11_whole_133 rfl rfl ?_
            refine r_gx (kz := 2) rfl hu dX11_whole_134 kF_X11_28 kd_1 rfl rfl rfl fx_1_2 ?_
            refine r_iconst dX11_whole_137 ⟨by decide, by decide⟩ ?_
            refine r_inv (a := x9) hu ⟨Nat.le_refl _, Nat.le_refl _⟩ dX11_whole_138 kM_X11_231 (ci := 7) rfl h13 rfl rfl (by decide) (by decide) [(2, 10), (0, 0)] rfl (sk := []) rfl (Nat.le_of_ble_eq_true rfl) rfl rfl (m_X7_carriedMost hu M25 x9 0 h13) (fun r28 M29 => ?_)
            refine r_goto (tgt := 157) dX11_whole_141 rfl ?_
            exact r_iret rfl rfl (Or.inl rfl) dX11_whole_157
          · refine r_aload 13 dX11_whole_144 rfl ?_
            refine r_aload_n 5 dX11_whole_146 rfl rfl ?_
            refine r_gx (kz := 2) rfl hu dX11_whole_147 kF_X11_28 kd_1 rfl rfl rfl fx_1_2 ?_
            refine r_iconst dX11_whole_150 ⟨by decide, by decide⟩ ?_
            refine r_inv (a := x9) hu ⟨Nat.le_refl _, Nat.le_refl _⟩ dX11_whole_151 kM_X11_231 (ci := 7) rfl h13 rfl rfl (by decide) (by decide) [(2, 10), (0, 1)] rfl (sk := []) rfl (Nat.le_of_ble_eq_true rfl) rfl rfl (m_X7_carriedMost hu M25 x9 1 h13) (fun r30 M31 => ?_)
            refine r_iload 2 dX11_whole_154 rfl ?_
            refine r_ok (fun h32 => ?_)
            refine r_isub dX11_whole_156 h32 ?_
            exact r_iret rfl rfl (Or.inl rfl) dX11_whole_157
set_option maxRecDepth 100000 in
theorem tj_X11_whole_32 {g : GT} {n nf : Int} (hu : Up true nf n) (a2 a3 a4 a5 a6 a7 a8 : Int) (M : Mem) (x9 : Int) : AW g true RX11 cX11_whole 15 (some .int) (6) n n nf 32 [(0, 2, 1), (2, 0, a2), (3, 0, a3), (4, 0, a4), (5, 0, a5), (6, 0, a6), (7, 0, a7), (8, 0, a8), (9, 2, x9)] [] n M (j_X11_whole_32 a2 a3 a4 a5 a6 a7 a8 M x9) := by
  unfold j_X11_whole_32
  refine r_iconst dX11_whole_32 ⟨by decide, by decide⟩ ?_
  exact tj_X11_whole_33 hu a2 a3 a4 a5 a6 a7 a8 M x9 0
set_option maxRecDepth 100000 in
theorem m_X11_whole {g : GT} {n nf : Int} (hu : Up true nf n) (M : Mem) (a1 a2 a3 a4 a5 a6 a7 a8 : Int) : AM g true yX11_whole cX11_whole 15 (some .int) (6) n n nf [(2, 1), (0, a1), (0, a2), (0, a3), (0, a4), (0, a5), (0, a6), (0, a7), (0, a8)] M (f_X11_whole M a1 a2 a3 a4 a5 a6 a7 a8) := by
  refine AM_of (by decide +kernel) (Nat.le_of_ble_eq_true rfl) (fun h => absurd h (Int.lt_irrefl n)) ?_
  show AW g true RX11 cX11_whole 15 (some .int) (6) n n nf 0 [(0, 2, 1), (1, 0, a1), (2, 0, a2), (3, 0, a3), (4, 0, a4), (5, 0, a5), (6, 0, a6), (7, 0, a7), (8, 0, a8)] [] n M (f_X11_whole M a1 a2 a3 a4 a5 a6 a7 a8)
  unfold f_X11_whole
  refine r_aload_n 0 dX11_whole_0 rfl rfl ?_
  refine r_iload_n 1 dX11_whole_1 rfl rfl ?_
  refine r_inv (a := 1) hu ⟨Nat.le_refl _, Nat.le_refl _⟩ dX11_whole_2 kM_X11_153 (ci := 11) rfl kd_1 rfl rfl (by decide) (by decide) [(0, a1)] rfl (sk := []) rfl (Nat.le_of_ble_eq_true rfl) rfl rfl (m_X11_lawAt hu M a1) (fun r1 M2 => ?_)
  refine r_astore dX11_whole_5 (by decide) (ls' := [(9, 2, r1), (0, 2, 1), (1, 0, a1), (2, 0, a2), (3, 0, a3), (4, 0, a4), (5, 0, a5), (6, 0, a6), (7, 0, a7), (8, 0, a8)]) rfl ?_
  refine r_iload 9 dX11_whole_7 rfl ?_
  refine r_if_lt (tgt := 32) dX11_whole_9 rfl (fun h3 => ?_) (fun h4 => ?_)
  · refine r_sub [1, 3, 4, 5, 6, 7, 8, 9, 0] (ls' := [(0, 2, 1), (2, 0, a2), (3, 0, a3), (4, 0, a4), (5, 0, a5), (6, 0, a6), (7, 0, a7), (8, 0, a8), (9, 2, r1)]) rfl ?_
    exact tj_X11_whole_32 hu a2 a3 a4 a5 a6 a7 a8 M2 r1
  · refine r_iload 9 dX11_whole_12 rfl ?_
    refine r_iconst dX11_whole_14 ⟨by decide, by decide⟩ ?_
    refine r_icmp_gt (tgt := 32) dX11_whole_15 rfl (fun h33 => ?_) (fun h34 => ?_)
    · refine r_sub [1, 3, 4, 5, 6, 7, 8, 9, 0] (ls' := [(0, 2, 1), (2, 0, a2), (3, 0, a3), (4, 0, a4), (5, 0, a5), (6, 0, a6), (7, 0, a7), (8, 0, a8), (9, 2, r1)]) rfl ?_
      exact tj_X11_whole_32 hu a2 a3 a4 a5 a6 a7 a8 M2 r1
    · refine r_iload 7 dX11_whole_18 rfl ?_
      refine r_iload 8 dX11_whole_20 rfl ?_
      refine r_ins (a := 0) ⟨Nat.le_refl _, Nat.le_refl _⟩ dX11_whole_22 kM_X11_196 (by decide) (by decide) [(0, a6), (0, a7)] rfl (sk := []) rfl (Nat.le_of_ble_eq_true rfl) rfl rfl (m_X11_isSquare hu M2 a6 a7) (fun r35 M36 => ?_)
      refine r_if_eq (tgt := 32) dX11_whole_25 rfl (fun h37 => ?_) (fun h38 => ?_)
      · refine r_sub [1, 3, 4, 5, 6, 7, 8, 9, 0] (ls' := [(0, 2, 1), (2, 0, a2), (3, 0, a3), (4, 0, a4), (5, 0, a5), (6, 0, a6), (7, 0, a7), (8, 0, a8), (9, 2, r1)]) rfl ?_
        exact tj_X11_whole_32 hu a2 a3 a4 a5 a6 a7 a8 M36 r1
      · refine r_iconst dX11_whole_28 ⟨by decide, by decide⟩ ?_
        refine r_goto (tgt := 33) dX11_whole_29 rfl ?_
        refine r_sub [1, 3, 4, 5, 6, 7, 8, 9, 0] (ls' := [(0, 2, 1), (2, 0, a2), (3, 0, a3), (4, 0, a4), (5, 0, a5), (6, 0, a6), (7, 0, a7), (8, 0, a8), (9, 2, r1)]) rfl ?_
        exact tj_X11_whole_33 hu a2 a3 a4 a5 a6 a7 a8 M36 r1 1
theorem dX11_sortsOf_0 : decode cX11_sortsOf 0 = .ok (.aload_n 0, 1) := by decide +kernel
theorem dX11_sortsOf_1 : decode cX11_sortsOf 1 = .ok (.getfield 67, 3) := by decide +kernel
theorem dX11_sortsOf_4 : decode cX11_sortsOf 4 = .ok (.iload_n 1, 1) := by decide +kernel
theorem dX11_sortsOf_5 : decode cX11_sortsOf 5 = .ok (.invokevirtual 157, 3) := by decide +kernel
theorem dX11_sortsOf_8 : decode cX11_sortsOf 8 = .ok (.astore_n 2, 1) := by decide +kernel
theorem dX11_sortsOf_9 : decode cX11_sortsOf 9 = .ok (.aload_n 2, 1) := by decide +kernel
theorem dX11_sortsOf_10 : decode cX11_sortsOf 10 = .ok (.ifnonnull 7, 3) := by decide +kernel
theorem dX11_sortsOf_13 : decode cX11_sortsOf 13 = .ok (.iconst 1, 1) := by decide +kernel
theorem dX11_sortsOf_14 : decode cX11_sortsOf 14 = .ok (.goto 11, 3) := by decide +kernel
theorem dX11_sortsOf_17 : decode cX11_sortsOf 17 = .ok (.iconst 1, 1) := by decide +kernel
theorem dX11_sortsOf_18 : decode cX11_sortsOf 18 = .ok (.aload_n 2, 1) := by decide +kernel
theorem dX11_sortsOf_19 : decode cX11_sortsOf 19 = .ok (.getfield 193, 3) := by decide +kernel
theorem dX11_sortsOf_22 : decode cX11_sortsOf 22 = .ok (.invokestatic 188, 3) := by decide +kernel
theorem dX11_sortsOf_25 : decode cX11_sortsOf 25 = .ok (.ireturn, 1) := by decide +kernel
set_option maxRecDepth 100000 in
theorem m_X11_sortsOf {g : GT} {n nf : Int} (hu : Up true nf n) (M : Mem) (a1 : Int) : AM g true yX11_sortsOf cX11_sortsOf 3 (some .int) (1) n n nf [(2, 1), (0, a1)] M (f_X11_sortsOf M a1) := by
  refine AM_of (by decide +kernel) (Nat.le_of_ble_eq_true rfl) (fun h => absurd h (Int.lt_irrefl n)) ?_
  show AW g true RX11 cX11_sortsOf 3 (some .int) (1) n n nf 0 [(0, 2, 1), (1, 0, a1)] [] n M (f_X11_sortsOf M a1)
  unfold f_X11_sortsOf
  refine r_aload_n 0 dX11_sortsOf_0 rfl rfl ?_
  refine r_gf (t := 2) (kz := 8) rfl hu dX11_sortsOf_1 kF_X11_67 kd_1 rfl rfl rfl ?_
  refine r_iload_n 1 dX11_sortsOf_4 rfl rfl ?_
  refine r_ok (fun h1 => ?_)
  refine r_inv (a := M 1 8) hu ⟨Nat.le_refl _, Nat.le_refl _⟩ dX11_sortsOf_5 kM_X11_157 (ci := 7) rfl h1 rfl rfl (by decide) (by decide) [(0, a1)] rfl (sk := []) rfl (Nat.le_of_ble_eq_true rfl) rfl rfl (m_X7_namedAt hu M (M 1 8) a1 h1) (fun r2 M3 => ?_)
  refine r_astore_n dX11_sortsOf_8 rfl (by decide) (ls' := [(2, 2, r2), (0, 2, 1), (1, 0, a1)]) rfl ?_
  refine r_aload_n 0 dX11_sortsOf_9 rfl rfl ?_
  refine r_ifnonnull (tgt := 17) dX11_sortsOf_10 rfl (fun h4 => ?_) (fun h5 => ?_)
  · refine r_iconst dX11_sortsOf_13 ⟨by decide, by decide⟩ ?_
    refine r_goto (tgt := 25) dX11_sortsOf_14 rfl ?_
    exact r_iret rfl rfl (Or.inl rfl) dX11_sortsOf_25
  · refine r_iconst dX11_sortsOf_17 ⟨by decide, by decide⟩ ?_
    refine r_aload_n 0 dX11_sortsOf_18 rfl rfl ?_
    refine r_ok (fun h6 => ?_)
    refine r_gf (t := 0) (kz := 2) rfl hu dX11_sortsOf_19 kF_X11_193 h6 rfl rfl rfl ?_
    refine r_ins (a := 0) ⟨Nat.le_refl _, Nat.le_refl _⟩ dX11_sortsOf_22 kM_X11_188 (by decide) (by decide) [(0, 1), (0, M3 r2 2)] rfl (sk := []) rfl (Nat.le_of_ble_eq_true rfl) rfl rfl (m_J9_max_7cf53 hu M3 1 (M3 r2 2)) (fun r7 M8 => ?_)
    exact r_iret rfl rfl (Or.inl rfl) dX11_sortsOf_25
theorem dX11_oddsOver_0 : decode cX11_oddsOver 0 = .ok (.iload_n 2, 1) := by decide +kernel
theorem dX11_oddsOver_1 : decode cX11_oddsOver 1 = .ok (.ifCond .eq 14, 3) := by decide +kernel
theorem dX11_oddsOver_4 : decode cX11_oddsOver 4 = .ok (.bipush 100, 2) := by decide +kernel
theorem dX11_oddsOver_6 : decode cX11_oddsOver 6 = .ok (.iload_n 0, 1) := by decide +kernel
theorem dX11_oddsOver_7 : decode cX11_oddsOver 7 = .ok (.iload_n 1, 1) := by decide +kernel
theorem dX11_oddsOver_8 : decode cX11_oddsOver 8 = .ok (.iconst 1, 1) := by decide +kernel
theorem dX11_oddsOver_9 : decode cX11_oddsOver 9 = .ok (.isub, 1) := by decide +kernel
theorem dX11_oddsOver_10 : decode cX11_oddsOver 10 = .ok (.imul, 1) := by decide +kernel
theorem dX11_oddsOver_11 : decode cX11_oddsOver 11 = .ok (.iadd, 1) := by decide +kernel
theorem dX11_oddsOver_12 : decode cX11_oddsOver 12 = .ok (.goto 7, 3) := by decide +kernel
theorem dX11_oddsOver_15 : decode cX11_oddsOver 15 = .ok (.bipush 100, 2) := by decide +kernel
theorem dX11_oddsOver_17 : decode cX11_oddsOver 17 = .ok (.iload_n 0, 1) := by decide +kernel
theorem dX11_oddsOver_18 : decode cX11_oddsOver 18 = .ok (.isub, 1) := by decide +kernel
theorem dX11_oddsOver_19 : decode cX11_oddsOver 19 = .ok (.ireturn, 1) := by decide +kernel
set_option maxRecDepth 100000 in
theorem m_X11_oddsOver {g : GT} {n nf : Int} (hu : Up true nf n) (M : Mem) (a0 a1 a2 : Int) : AM g true yX11_oddsOver cX11_oddsOver 3 (some .int) (0) n n nf [(0, a0), (0, a1), (0, a2)] M (f_X11_oddsOver M a0 a1 a2) := by
  refine AM_of (by decide +kernel) (Nat.le_of_ble_eq_true rfl) (fun h => absurd h (Int.lt_irrefl n)) ?_
  show AW g true RX11 cX11_oddsOver 3 (some .int) (0) n n nf 0 [(0, 0, a0), (1, 0, a1), (2, 0, a2)] [] n M (f_X11_oddsOver M a0 a1 a2)
  unfold f_X11_oddsOver
  refine r_iload_n 2 dX11_oddsOver_0 rfl rfl ?_
  refine r_if_eq (tgt := 15) dX11_oddsOver_1 rfl (fun h1 => ?_) (fun h2 => ?_)
  · refine r_bipush dX11_oddsOver_15 (by decide) ⟨by decide, by decide⟩ ?_
    refine r_iload_n 0 dX11_oddsOver_17 rfl rfl ?_
    refine r_ok (fun h3 => ?_)
    refine r_isub dX11_oddsOver_18 h3 ?_
    exact r_iret rfl rfl (Or.inl rfl) dX11_oddsOver_19
  · refine r_bipush dX11_oddsOver_4 (by decide) ⟨by decide, by decide⟩ ?_
    refine r_iload_n 0 dX11_oddsOver_6 rfl rfl ?_
    refine r_iload_n 1 dX11_oddsOver_7 rfl rfl ?_
    refine r_iconst dX11_oddsOver_8 ⟨by decide, by decide⟩ ?_
    refine r_ok (fun h4 => ?_)
    refine r_isub dX11_oddsOver_9 h4 ?_
    refine r_ok (fun h5 => ?_)
    refine r_imul dX11_oddsOver_10 h5 ?_
    refine r_ok (fun h6 => ?_)
    refine r_iadd dX11_oddsOver_11 h6 ?_
    refine r_goto (tgt := 19) dX11_oddsOver_12 rfl ?_
    exact r_iret rfl rfl (Or.inl rfl) dX11_oddsOver_19
theorem dX11_divisorOf_0 : decode cX11_divisorOf 0 = .ok (.lload_n 0, 1) := by decide +kernel
theorem dX11_divisorOf_1 : decode cX11_divisorOf 1 = .ok (.lstore 4, 2) := by decide +kernel
theorem dX11_divisorOf_3 : decode cX11_divisorOf 3 = .ok (.lload_n 2, 1) := by decide +kernel
theorem dX11_divisorOf_4 : decode cX11_divisorOf 4 = .ok (.lstore 6, 2) := by decide +kernel
theorem dX11_divisorOf_6 : decode cX11_divisorOf 6 = .ok (.iconst 0, 1) := by decide +kernel
theorem dX11_divisorOf_7 : decode cX11_divisorOf 7 = .ok (.istore 8, 2) := by decide +kernel
theorem dX11_divisorOf_9 : decode cX11_divisorOf 9 = .ok (.iload 8, 2) := by decide +kernel
theorem dX11_divisorOf_11 : decode cX11_divisorOf 11 = .ok (.bipush 100, 2) := by decide +kernel
theorem dX11_divisorOf_13 : decode cX11_divisorOf 13 = .ok (.if_icmp .ge 31, 3) := by decide +kernel
theorem dX11_divisorOf_16 : decode cX11_divisorOf 16 = .ok (.lload 6, 2) := by decide +kernel
theorem dX11_divisorOf_18 : decode cX11_divisorOf 18 = .ok (.lconst 0, 1) := by decide +kernel
theorem dX11_divisorOf_19 : decode cX11_divisorOf 19 = .ok (.lcmp, 1) := by decide +kernel
theorem dX11_divisorOf_20 : decode cX11_divisorOf 20 = .ok (.ifCond .eq 24, 3) := by decide +kernel
theorem dX11_divisorOf_23 : decode cX11_divisorOf 23 = .ok (.lload 4, 2) := by decide +kernel
theorem dX11_divisorOf_25 : decode cX11_divisorOf 25 = .ok (.lload 6, 2) := by decide +kernel
theorem dX11_divisorOf_27 : decode cX11_divisorOf 27 = .ok (.lrem, 1) := by decide +kernel
theorem dX11_divisorOf_28 : decode cX11_divisorOf 28 = .ok (.lstore 9, 2) := by decide +kernel
theorem dX11_divisorOf_30 : decode cX11_divisorOf 30 = .ok (.lload 6, 2) := by decide +kernel
theorem dX11_divisorOf_32 : decode cX11_divisorOf 32 = .ok (.lstore 4, 2) := by decide +kernel
theorem dX11_divisorOf_34 : decode cX11_divisorOf 34 = .ok (.lload 9, 2) := by decide +kernel
theorem dX11_divisorOf_36 : decode cX11_divisorOf 36 = .ok (.lstore 6, 2) := by decide +kernel
theorem dX11_divisorOf_38 : decode cX11_divisorOf 38 = .ok (.iinc 8 1, 3) := by decide +kernel
theorem dX11_divisorOf_41 : decode cX11_divisorOf 41 = .ok (.goto (-32), 3) := by decide +kernel
theorem dX11_divisorOf_44 : decode cX11_divisorOf 44 = .ok (.lload 4, 2) := by decide +kernel
theorem dX11_divisorOf_46 : decode cX11_divisorOf 46 = .ok (.lreturn, 1) := by decide +kernel
set_option maxRecDepth 100000 in
theorem tb_X11_divisorOf_9 {g : GT} {n nf : Int} (hu : Up true nf n) (w9 : Mem → Int → Int → Int → Res) (hw9 : ∀ (M : Mem) (x4 x6 x8 : Int), AW g true RX11 cX11_divisorOf 11 (some .long) (0) n n nf 9 [(4, 1, x4), (6, 1, x6), (8, 0, x8)] [] n M (w9 M x4 x6 x8)) (M : Mem) (x4 x6 x8 : Int) : AW g true RX11 cX11_divisorOf 11 (some .long) (0) n n nf 9 [(4, 1, x4), (6, 1, x6), (8, 0, x8)] [] n M (b_X11_divisorOf_9 w9 M x4 x6 x8) := by
  unfold b_X11_divisorOf_9
  refine r_iload 2 dX11_divisorOf_9 rfl ?_
  refine r_bipush dX11_divisorOf_11 (by decide) ⟨by decide, by decide⟩ ?_
  refine r_icmp_ge (tgt := 44) dX11_divisorOf_13 rfl (fun h1 => ?_) (fun h2 => ?_)
  · refine r_lload 0 dX11_divisorOf_44 rfl ?_
    exact r_lret rfl rfl dX11_divisorOf_46
  · refine r_lload 1 dX11_divisorOf_16 rfl ?_
    refine r_lconst (v := 0) dX11_divisorOf_18 (by decide) ⟨by decide, by decide⟩ ?_
    refine r_lif_eq (tgt := 44) dX11_divisorOf_19 dX11_divisorOf_20 rfl (fun h3 => ?_) (fun h4 => ?_)
    · refine r_lload 0 dX11_divisorOf_44 rfl ?_
      exact r_lret rfl rfl dX11_divisorOf_46
    · refine r_lload 0 dX11_divisorOf_23 rfl ?_
      refine r_lload 1 dX11_divisorOf_25 rfl ?_
      refine r_ok (fun h5 => ?_)
      refine r_lremP dX11_divisorOf_27 h5 ?_
      refine r_lstoreB dX11_divisorOf_28 (by decide) (lf := fun y6 => [(9, 1, y6), (4, 1, x4), (6, 1, x6), (8, 0, x8)]) (fun _ => rfl) (fun y6 ey6 => ?_)
      refine r_lload 2 dX11_divisorOf_30 rfl ?_
      refine r_lstore dX11_divisorOf_32 (by decide) (ls' := [(4, 1, x6), (9, 1, y6), (6, 1, x6), (8, 0, x8)]) rfl ?_
      refine r_lload 1 dX11_divisorOf_34 rfl ?_
      refine r_lstore dX11_divisorOf_36 (by decide) (ls' := [(6, 1, y6), (4, 1, x6), (9, 1, y6), (8, 0, x8)]) rfl ?_
      refine r_ok (fun h7 => ?_)
      refine r_iincB 3 dX11_divisorOf_38 rfl h7 (by decide) (lf := fun y8 => [(8, 0, y8), (6, 1, y6), (4, 1, x6), (9, 1, y6)]) (fun _ => rfl) (fun y8 ey8 => ?_)
      refine r_goto (tgt := 9) dX11_divisorOf_41 rfl ?_
      refine r_sub [2, 1, 0] (ls' := [(4, 1, x6), (6, 1, y6), (8, 0, y8)]) rfl ?_
      exact hw9 M x6 y6 y8
set_option maxRecDepth 100000 in
theorem m_X11_divisorOf {g : GT} {n nf : Int} (hu : Up true nf n) (M : Mem) (a0 a2 : Int) : AM g true yX11_divisorOf cX11_divisorOf 11 (some .long) (0) n n nf [(1, a0), (1, a2)] M (f_X11_divisorOf M a0 a2) := by
  refine AM_of (by decide +kernel) (Nat.le_of_ble_eq_true rfl) (fun h => absurd h (Int.lt_irrefl n)) ?_
  show AW g true RX11 cX11_divisorOf 11 (some .long) (0) n n nf 0 [(0, 1, a0), (2, 1, a2)] [] n M (f_X11_divisorOf M a0 a2)
  unfold f_X11_divisorOf
  refine r_lload_n 0 dX11_divisorOf_0 rfl rfl ?_
  refine r_lstore dX11_divisorOf_1 (by decide) (ls' := [(4, 1, a0), (0, 1, a0), (2, 1, a2)]) rfl ?_
  refine r_lload_n 2 dX11_divisorOf_3 rfl rfl ?_
  refine r_lstore dX11_divisorOf_4 (by decide) (ls' := [(6, 1, a2), (4, 1, a0), (0, 1, a0), (2, 1, a2)]) rfl ?_
  refine r_iconst dX11_divisorOf_6 ⟨by decide, by decide⟩ ?_
  refine r_istore dX11_divisorOf_7 (by decide) (ls' := [(8, 0, 0), (6, 1, a2), (4, 1, a0), (0, 1, a0), (2, 1, a2)]) rfl ?_
  refine r_sub [2, 1, 0] (ls' := [(4, 1, a0), (6, 1, a2), (8, 0, 0)]) rfl ?_
  exact wl3_aw (P := fun M x4 x6 x8 o => AW g true RX11 cX11_divisorOf 11 (some .long) (0) n n nf 9 [(4, 1, x4), (6, 1, x6), (8, 0, x8)] [] n M (o)) (fun M x4 x6 x8 => aw_none) (fun w hw M x4 x6 x8 => tb_X11_divisorOf_9 hu w hw M x4 x6 x8) FU M a0 a2 0
theorem dX11_odds_0 : decode cX11_odds 0 = .ok (.aload_n 0, 1) := by decide +kernel
theorem dX11_odds_1 : decode cX11_odds 1 = .ok (.iload_n 1, 1) := by decide +kernel
theorem dX11_odds_2 : decode cX11_odds 2 = .ok (.invokevirtual 153, 3) := by decide +kernel
theorem dX11_odds_5 : decode cX11_odds 5 = .ok (.astore 8, 2) := by decide +kernel
theorem dX11_odds_7 : decode cX11_odds 7 = .ok (.aload 8, 2) := by decide +kernel
theorem dX11_odds_9 : decode cX11_odds 9 = .ok (.ifnull 16, 3) := by decide +kernel
theorem dX11_odds_12 : decode cX11_odds 12 = .ok (.aload_n 0, 1) := by decide +kernel
theorem dX11_odds_13 : decode cX11_odds 13 = .ok (.iload_n 2, 1) := by decide +kernel
theorem dX11_odds_14 : decode cX11_odds 14 = .ok (.iload_n 3, 1) := by decide +kernel
theorem dX11_odds_15 : decode cX11_odds 15 = .ok (.iload 4, 2) := by decide +kernel
theorem dX11_odds_17 : decode cX11_odds 17 = .ok (.iload 5, 2) := by decide +kernel
theorem dX11_odds_19 : decode cX11_odds 19 = .ok (.invokevirtual 227, 3) := by decide +kernel
theorem dX11_odds_22 : decode cX11_odds 22 = .ok (.ifCond .ne 5, 3) := by decide +kernel
theorem dX11_odds_25 : decode cX11_odds 25 = .ok (.iconst (-1), 1) := by decide +kernel
theorem dX11_odds_26 : decode cX11_odds 26 = .ok (.ireturn, 1) := by decide +kernel
theorem dX11_odds_27 : decode cX11_odds 27 = .ok (.aload_n 0, 1) := by decide +kernel
theorem dX11_odds_28 : decode cX11_odds 28 = .ok (.iload_n 2, 1) := by decide +kernel
theorem dX11_odds_29 : decode cX11_odds 29 = .ok (.invokevirtual 254, 3) := by decide +kernel
theorem dX11_odds_32 : decode cX11_odds 32 = .ok (.istore 9, 2) := by decide +kernel
theorem dX11_odds_34 : decode cX11_odds 34 = .ok (.aload 8, 2) := by decide +kernel
theorem dX11_odds_36 : decode cX11_odds 36 = .ok (.aload_n 0, 1) := by decide +kernel
theorem dX11_odds_37 : decode cX11_odds 37 = .ok (.getfield 28, 3) := by decide +kernel
theorem dX11_odds_40 : decode cX11_odds 40 = .ok (.iconst 0, 1) := by decide +kernel
theorem dX11_odds_41 : decode cX11_odds 41 = .ok (.invokevirtual 231, 3) := by decide +kernel
theorem dX11_odds_44 : decode cX11_odds 44 = .ok (.iload 9, 2) := by decide +kernel
theorem dX11_odds_46 : decode cX11_odds 46 = .ok (.iload 6, 2) := by decide +kernel
theorem dX11_odds_48 : decode cX11_odds 48 = .ok (.invokestatic 257, 3) := by decide +kernel
theorem dX11_odds_51 : decode cX11_odds 51 = .ok (.istore 10, 2) := by decide +kernel
theorem dX11_odds_53 : decode cX11_odds 53 = .ok (.bipush 100, 2) := by decide +kernel
theorem dX11_odds_55 : decode cX11_odds 55 = .ok (.iload 9, 2) := by decide +kernel
theorem dX11_odds_57 : decode cX11_odds 57 = .ok (.imul, 1) := by decide +kernel
theorem dX11_odds_58 : decode cX11_odds 58 = .ok (.istore 11, 2) := by decide +kernel
theorem dX11_odds_60 : decode cX11_odds 60 = .ok (.iload 10, 2) := by decide +kernel
theorem dX11_odds_62 : decode cX11_odds 62 = .ok (.i2l, 1) := by decide +kernel
theorem dX11_odds_63 : decode cX11_odds 63 = .ok (.iload 11, 2) := by decide +kernel
theorem dX11_odds_65 : decode cX11_odds 65 = .ok (.i2l, 1) := by decide +kernel
theorem dX11_odds_66 : decode cX11_odds 66 = .ok (.invokestatic 261, 3) := by decide +kernel
theorem dX11_odds_69 : decode cX11_odds 69 = .ok (.l2i, 1) := by decide +kernel
theorem dX11_odds_70 : decode cX11_odds 70 = .ok (.istore 12, 2) := by decide +kernel
theorem dX11_odds_72 : decode cX11_odds 72 = .ok (.iload 7, 2) := by decide +kernel
theorem dX11_odds_74 : decode cX11_odds 74 = .ok (.ifCond .eq 8, 3) := by decide +kernel
theorem dX11_odds_77 : decode cX11_odds 77 = .ok (.iload 10, 2) := by decide +kernel
theorem dX11_odds_79 : decode cX11_odds 79 = .ok (.goto 5, 3) := by decide +kernel
theorem dX11_odds_82 : decode cX11_odds 82 = .ok (.iload 11, 2) := by decide +kernel
theorem dX11_odds_84 : decode cX11_odds 84 = .ok (.iconst 1, 1) := by decide +kernel
theorem dX11_odds_85 : decode cX11_odds 85 = .ok (.iload 12, 2) := by decide +kernel
theorem dX11_odds_87 : decode cX11_odds 87 = .ok (.invokestatic 188, 3) := by decide +kernel
theorem dX11_odds_90 : decode cX11_odds 90 = .ok (.idiv, 1) := by decide +kernel
theorem dX11_odds_91 : decode cX11_odds 91 = .ok (.ireturn, 1) := by decide +kernel
set_option maxRecDepth 100000 in
theorem tj_X11_odds_84 {g : GT} {n nf : Int} (hu : Up true nf n) (M : Mem) (x12 s0 : Int) : AW g true RX11 cX11_odds 13 (some .int) (5) n n nf 84 [(12, 0, x12)] [(0, s0)] n M (j_X11_odds_84 M x12 s0) := by
  unfold j_X11_odds_84
  refine r_iconst dX11_odds_84 ⟨by decide, by decide⟩ ?_
  refine r_iload 0 dX11_odds_85 rfl ?_
  refine r_ins (a := 0) ⟨Nat.le_refl _, Nat.le_refl _⟩ dX11_odds_87 kM_X11_188 (by decide) (by decide) [(0, 1), (0, x12)] rfl (sk := [(0, s0)]) rfl (Nat.le_of_ble_eq_true rfl) rfl rfl (m_J9_max_7cf53 hu M 1 x12) (fun r23 M24 => ?_)
  refine r_ok (fun h25 => ?_)
  refine r_idivP dX11_odds_90 h25 ?_
  exact r_iret rfl rfl (Or.inl rfl) dX11_odds_91
set_option maxRecDepth 100000 in
theorem m_X11_odds {g : GT} {n nf : Int} (hu : Up true nf n) (M : Mem) (a1 a2 a3 a4 a5 a6 a7 : Int) : AM g true yX11_odds cX11_odds 13 (some .int) (5) n n nf [(2, 1), (0, a1), (0, a2), (0, a3), (0, a4), (0, a5), (0, a6), (0, a7)] M (f_X11_odds M a1 a2 a3 a4 a5 a6 a7) := by
  refine AM_of (by decide +kernel) (Nat.le_of_ble_eq_true rfl) (fun h => absurd h (Int.lt_irrefl n)) ?_
  show AW g true RX11 cX11_odds 13 (some .int) (5) n n nf 0 [(0, 2, 1), (1, 0, a1), (2, 0, a2), (3, 0, a3), (4, 0, a4), (5, 0, a5), (6, 0, a6), (7, 0, a7)] [] n M (f_X11_odds M a1 a2 a3 a4 a5 a6 a7)
  unfold f_X11_odds
  refine r_aload_n 0 dX11_odds_0 rfl rfl ?_
  refine r_iload_n 1 dX11_odds_1 rfl rfl ?_
  refine r_inv (a := 1) hu ⟨Nat.le_refl _, Nat.le_refl _⟩ dX11_odds_2 kM_X11_153 (ci := 11) rfl kd_1 rfl rfl (by decide) (by decide) [(0, a1)] rfl (sk := []) rfl (Nat.le_of_ble_eq_true rfl) rfl rfl (m_X11_lawAt hu M a1) (fun r1 M2 => ?_)
  refine r_astore dX11_odds_5 (by decide) (ls' := [(8, 2, r1), (0, 2, 1), (1, 0, a1), (2, 0, a2), (3, 0, a3), (4, 0, a4), (5, 0, a5), (6, 0, a6), (7, 0, a7)]) rfl ?_
  refine r_aload 0 dX11_odds_7 rfl ?_
  refine r_ifnull (tgt := 25) dX11_odds_9 rfl (fun h3 => ?_) (fun h4 => ?_)
  · refine r_iconst dX11_odds_25 ⟨by decide, by decide⟩ ?_
    exact r_iret rfl rfl (Or.inl rfl) dX11_odds_26
  · refine r_aload_n 1 dX11_odds_12 rfl rfl ?_
    refine r_iload_n 3 dX11_odds_13 rfl rfl ?_
    refine r_iload_n 4 dX11_odds_14 rfl rfl ?_
    refine r_iload 5 dX11_odds_15 rfl ?_
    refine r_iload 6 dX11_odds_17 rfl ?_
    refine r_inv (a := 1) hu ⟨Nat.le_refl _, Nat.le_refl _⟩ dX11_odds_19 kM_X11_227 (ci := 11) rfl kd_1 rfl rfl (by decide) (by decide) [(0, a2), (0, a3), (0, a4), (0, a5)] rfl (sk := []) rfl (Nat.le_of_ble_eq_true rfl) rfl rfl (m_X11_showsTold hu M2 a2 a3 a4 a5) (fun r5 M6 => ?_)
    refine r_if_ne (tgt := 27) dX11_odds_22 rfl (fun h7 => ?_) (fun h8 => ?_)
    · refine r_iconst dX11_odds_25 ⟨by decide, by decide⟩ ?_
      exact r_iret rfl rfl (Or.inl rfl) dX11_odds_26
    · refine r_aload_n 1 dX11_odds_27 rfl rfl ?_
      refine r_iload_n 3 dX11_odds_28 rfl rfl ?_
      refine r_inv (a := 1) hu ⟨Nat.le_refl _, Nat.le_refl _⟩ dX11_odds_29 kM_X11_254 (ci := 11) rfl kd_1 rfl rfl (by decide) (by decide) [(0, a2)] rfl (sk := []) rfl (Nat.le_of_ble_eq_true rfl) rfl rfl (m_X11_sortsOf hu M6 a2) (fun r9 M10 => ?_)
      refine r_istore dX11_odds_32 (by decide) (ls' := [(9, 0, r9), (8, 2, r1), (0, 2, 1), (1, 0, a1), (2, 0, a2), (3, 0, a3), (4, 0, a4), (5, 0, a5), (6, 0, a6), (7, 0, a7)]) rfl ?_
      refine r_aload 1 dX11_odds_34 rfl ?_
      refine r_aload_n 2 dX11_odds_36 rfl rfl ?_
      refine r_gx (kz := 2) rfl hu dX11_odds_37 kF_X11_28 kd_1 rfl rfl rfl fx_1_2 ?_
      refine r_iconst dX11_odds_40 ⟨by decide, by decide⟩ ?_
      refine r_ok (fun h11 => ?_)
      refine r_inv (a := r1) hu ⟨Nat.le_refl _, Nat.le_refl _⟩ dX11_odds_41 kM_X11_231 (ci := 7) rfl h11 rfl rfl (by decide) (by decide) [(2, 10), (0, 0)] rfl (sk := []) rfl (Nat.le_of_ble_eq_true rfl) rfl rfl (m_X7_carriedMost hu M10 r1 0 h11) (fun r12 M13 => ?_)
      refine r_iload 0 dX11_odds_44 rfl ?_
      refine r_iload 8 dX11_odds_46 rfl ?_
      refine r_ins (a := 0) ⟨Nat.le_refl _, Nat.le_refl _⟩ dX11_odds_48 kM_X11_257 (by decide) (by decide) [(0, r12), (0, r9), (0, a6)] rfl (sk := []) rfl (Nat.le_of_ble_eq_true rfl) rfl rfl (m_X11_oddsOver hu M13 r12 r9 a6) (fun r14 M15 => ?_)
      refine r_istore dX11_odds_51 (by decide) (ls' := [(10, 0, r14), (9, 0, r9), (8, 2, r1), (0, 2, 1), (1, 0, a1), (2, 0, a2), (3, 0, a3), (4, 0, a4), (5, 0, a5), (6, 0, a6), (7, 0, a7)]) rfl ?_
      refine r_bipush dX11_odds_53 (by decide) ⟨by decide, by decide⟩ ?_
      refine r_iload 1 dX11_odds_55 rfl ?_
      refine r_ok (fun h16 => ?_)
      refine r_imul dX11_odds_57 h16 ?_
      refine r_istoreB dX11_odds_58 (by decide) (lf := fun y17 => [(11, 0, y17), (10, 0, r14), (9, 0, r9), (8, 2, r1), (0, 2, 1), (1, 0, a1), (2, 0, a2), (3, 0, a3), (4, 0, a4), (5, 0, a5), (6, 0, a6), (7, 0, a7)]) (fun _ => rfl) (fun y17 ey17 => ?_)
      refine r_iload 1 dX11_odds_60 rfl ?_
      refine r_i2l dX11_odds_62 ?_
      refine r_iload 0 dX11_odds_63 rfl ?_
      refine r_i2l dX11_odds_65 ?_
      refine r_ins (a := 0) ⟨Nat.le_refl _, Nat.le_refl _⟩ dX11_odds_66 kM_X11_261 (by decide) (by decide) [(1, r14), (1, y17)] rfl (sk := []) rfl (Nat.le_of_ble_eq_true rfl) rfl rfl (m_X11_divisorOf hu M15 r14 y17) (fun r18 M19 => ?_)
      refine r_ok (fun h20 => ?_)
      refine r_l2i dX11_odds_69 h20 ?_
      refine r_istore dX11_odds_70 (by decide) (ls' := [(12, 0, r18), (11, 0, y17), (10, 0, r14), (9, 0, r9), (8, 2, r1), (0, 2, 1), (1, 0, a1), (2, 0, a2), (3, 0, a3), (4, 0, a4), (5, 0, a5), (6, 0, a6), (7, 0, a7)]) rfl ?_
      refine r_iload 12 dX11_odds_72 rfl ?_
      refine r_if_eq (tgt := 82) dX11_odds_74 rfl (fun h21 => ?_) (fun h22 => ?_)
      · refine r_iload 1 dX11_odds_82 rfl ?_
        refine r_sub [0] (ls' := [(12, 0, r18)]) rfl ?_
        exact tj_X11_odds_84 hu M19 r18 y17
      · refine r_iload 2 dX11_odds_77 rfl ?_
        refine r_goto (tgt := 84) dX11_odds_79 rfl ?_
        refine r_sub [0] (ls' := [(12, 0, r18)]) rfl ?_
        exact tj_X11_odds_84 hu M19 r18 r14
theorem dX11_isSort_0 : decode cX11_isSort 0 = .ok (.iload_n 2, 1) := by decide +kernel
theorem dX11_isSort_1 : decode cX11_isSort 1 = .ok (.ifCond .lt 16, 3) := by decide +kernel
theorem dX11_isSort_4 : decode cX11_isSort 4 = .ok (.iload_n 2, 1) := by decide +kernel
theorem dX11_isSort_5 : decode cX11_isSort 5 = .ok (.aload_n 0, 1) := by decide +kernel
theorem dX11_isSort_6 : decode cX11_isSort 6 = .ok (.iload_n 1, 1) := by decide +kernel
theorem dX11_isSort_7 : decode cX11_isSort 7 = .ok (.invokevirtual 254, 3) := by decide +kernel
theorem dX11_isSort_10 : decode cX11_isSort 10 = .ok (.if_icmp .ge 7, 3) := by decide +kernel
theorem dX11_isSort_13 : decode cX11_isSort 13 = .ok (.iconst 1, 1) := by decide +kernel
theorem dX11_isSort_14 : decode cX11_isSort 14 = .ok (.goto 4, 3) := by decide +kernel
theorem dX11_isSort_17 : decode cX11_isSort 17 = .ok (.iconst 0, 1) := by decide +kernel
theorem dX11_isSort_18 : decode cX11_isSort 18 = .ok (.ireturn, 1) := by decide +kernel
set_option maxRecDepth 100000 in
theorem m_X11_isSort {g : GT} {n nf : Int} (hu : Up true nf n) (M : Mem) (a1 a2 : Int) : AM g true yX11_isSort cX11_isSort 3 (some .boolean) (2) n n nf [(2, 1), (0, a1), (0, a2)] M (f_X11_isSort M a1 a2) := by
  refine AM_of (by decide +kernel) (Nat.le_of_ble_eq_true rfl) (fun h => absurd h (Int.lt_irrefl n)) ?_
  show AW g true RX11 cX11_isSort 3 (some .boolean) (2) n n nf 0 [(0, 2, 1), (1, 0, a1), (2, 0, a2)] [] n M (f_X11_isSort M a1 a2)
  unfold f_X11_isSort
  refine r_iload_n 2 dX11_isSort_0 rfl rfl ?_
  refine r_if_lt (tgt := 17) dX11_isSort_1 rfl (fun h1 => ?_) (fun h2 => ?_)
  · refine r_iconst dX11_isSort_17 ⟨by decide, by decide⟩ ?_
    exact r_iret rfl rfl (Or.inr ⟨rfl, Or.inl rfl⟩) dX11_isSort_18
  · refine r_iload_n 2 dX11_isSort_4 rfl rfl ?_
    refine r_aload_n 0 dX11_isSort_5 rfl rfl ?_
    refine r_iload_n 1 dX11_isSort_6 rfl rfl ?_
    refine r_inv (a := 1) hu ⟨Nat.le_refl _, Nat.le_refl _⟩ dX11_isSort_7 kM_X11_254 (ci := 11) rfl kd_1 rfl rfl (by decide) (by decide) [(0, a1)] rfl (sk := [(0, a2)]) rfl (Nat.le_of_ble_eq_true rfl) rfl rfl (m_X11_sortsOf hu M a1) (fun r3 M4 => ?_)
    refine r_icmp_ge (tgt := 17) dX11_isSort_10 rfl (fun h5 => ?_) (fun h6 => ?_)
    · refine r_iconst dX11_isSort_17 ⟨by decide, by decide⟩ ?_
      exact r_iret rfl rfl (Or.inr ⟨rfl, Or.inl rfl⟩) dX11_isSort_18
    · refine r_iconst dX11_isSort_13 ⟨by decide, by decide⟩ ?_
      refine r_goto (tgt := 18) dX11_isSort_14 rfl ?_
      exact r_iret rfl rfl (Or.inr ⟨rfl, Or.inr rfl⟩) dX11_isSort_18
theorem dX11_draw_0 : decode cX11_draw 0 = .ok (.aload_n 0, 1) := by decide +kernel
theorem dX11_draw_1 : decode cX11_draw 1 = .ok (.iload_n 1, 1) := by decide +kernel
theorem dX11_draw_2 : decode cX11_draw 2 = .ok (.invokevirtual 153, 3) := by decide +kernel
theorem dX11_draw_5 : decode cX11_draw 5 = .ok (.astore 8, 2) := by decide +kernel
theorem dX11_draw_7 : decode cX11_draw 7 = .ok (.aload 8, 2) := by decide +kernel
theorem dX11_draw_9 : decode cX11_draw 9 = .ok (.ifnull 31, 3) := by decide +kernel
theorem dX11_draw_12 : decode cX11_draw 12 = .ok (.iload 7, 2) := by decide +kernel
theorem dX11_draw_14 : decode cX11_draw 14 = .ok (.ifCond .lt 26, 3) := by decide +kernel
theorem dX11_draw_17 : decode cX11_draw 17 = .ok (.aload_n 0, 1) := by decide +kernel
theorem dX11_draw_18 : decode cX11_draw 18 = .ok (.iload_n 2, 1) := by decide +kernel
theorem dX11_draw_19 : decode cX11_draw 19 = .ok (.iload_n 3, 1) := by decide +kernel
theorem dX11_draw_20 : decode cX11_draw 20 = .ok (.iload 4, 2) := by decide +kernel
theorem dX11_draw_22 : decode cX11_draw 22 = .ok (.iload 5, 2) := by decide +kernel
theorem dX11_draw_24 : decode cX11_draw 24 = .ok (.invokevirtual 227, 3) := by decide +kernel
theorem dX11_draw_27 : decode cX11_draw 27 = .ok (.ifCond .eq 13, 3) := by decide +kernel
theorem dX11_draw_30 : decode cX11_draw 30 = .ok (.aload_n 0, 1) := by decide +kernel
theorem dX11_draw_31 : decode cX11_draw 31 = .ok (.iload_n 2, 1) := by decide +kernel
theorem dX11_draw_32 : decode cX11_draw 32 = .ok (.iload 6, 2) := by decide +kernel
theorem dX11_draw_34 : decode cX11_draw 34 = .ok (.invokevirtual 265, 3) := by decide +kernel
theorem dX11_draw_37 : decode cX11_draw 37 = .ok (.ifCond .ne 5, 3) := by decide +kernel
theorem dX11_draw_40 : decode cX11_draw 40 = .ok (.iconst (-1), 1) := by decide +kernel
theorem dX11_draw_41 : decode cX11_draw 41 = .ok (.ireturn, 1) := by decide +kernel
theorem dX11_draw_42 : decode cX11_draw 42 = .ok (.aload_n 0, 1) := by decide +kernel
theorem dX11_draw_43 : decode cX11_draw 43 = .ok (.getfield 56, 3) := by decide +kernel
theorem dX11_draw_46 : decode cX11_draw 46 = .ok (.iload 7, 2) := by decide +kernel
theorem dX11_draw_48 : decode cX11_draw 48 = .ok (.i2l, 1) := by decide +kernel
theorem dX11_draw_49 : decode cX11_draw 49 = .ok (.putfield 268, 3) := by decide +kernel
theorem dX11_draw_52 : decode cX11_draw 52 = .ok (.aload_n 0, 1) := by decide +kernel
theorem dX11_draw_53 : decode cX11_draw 53 = .ok (.getfield 56, 3) := by decide +kernel
theorem dX11_draw_56 : decode cX11_draw 56 = .ok (.aload 8, 2) := by decide +kernel
theorem dX11_draw_58 : decode cX11_draw 58 = .ok (.aload_n 0, 1) := by decide +kernel
theorem dX11_draw_59 : decode cX11_draw 59 = .ok (.getfield 28, 3) := by decide +kernel
theorem dX11_draw_62 : decode cX11_draw 62 = .ok (.iconst 0, 1) := by decide +kernel
theorem dX11_draw_63 : decode cX11_draw 63 = .ok (.invokevirtual 231, 3) := by decide +kernel
theorem dX11_draw_66 : decode cX11_draw 66 = .ok (.iload 6, 2) := by decide +kernel
theorem dX11_draw_68 : decode cX11_draw 68 = .ok (.aload_n 0, 1) := by decide +kernel
theorem dX11_draw_69 : decode cX11_draw 69 = .ok (.iload_n 2, 1) := by decide +kernel
theorem dX11_draw_70 : decode cX11_draw 70 = .ok (.invokevirtual 254, 3) := by decide +kernel
theorem dX11_draw_73 : decode cX11_draw 73 = .ok (.invokevirtual 272, 3) := by decide +kernel
theorem dX11_draw_76 : decode cX11_draw 76 = .ok (.ireturn, 1) := by decide +kernel
set_option maxRecDepth 100000 in
theorem m_X11_draw {g : GT} {n nf : Int} (hu : Up true nf n) (M : Mem) (a1 a2 a3 a4 a5 a6 a7 : Int) : AM g true yX11_draw cX11_draw 9 (some .int) (5) n n nf [(2, 1), (0, a1), (0, a2), (0, a3), (0, a4), (0, a5), (0, a6), (0, a7)] M (f_X11_draw M a1 a2 a3 a4 a5 a6 a7) := by
  refine AM_of (by decide +kernel) (Nat.le_of_ble_eq_true rfl) (fun h => absurd h (Int.lt_irrefl n)) ?_
  show AW g true RX11 cX11_draw 9 (some .int) (5) n n nf 0 [(0, 2, 1), (1, 0, a1), (2, 0, a2), (3, 0, a3), (4, 0, a4), (5, 0, a5), (6, 0, a6), (7, 0, a7)] [] n M (f_X11_draw M a1 a2 a3 a4 a5 a6 a7)
  unfold f_X11_draw
  refine r_aload_n 0 dX11_draw_0 rfl rfl ?_
  refine r_iload_n 1 dX11_draw_1 rfl rfl ?_
  refine r_inv (a := 1) hu ⟨Nat.le_refl _, Nat.le_refl _⟩ dX11_draw_2 kM_X11_153 (ci := 11) rfl kd_1 rfl rfl (by decide) (by decide) [(0, a1)] rfl (sk := []) rfl (Nat.le_of_ble_eq_true rfl) rfl rfl (m_X11_lawAt hu M a1) (fun r1 M2 => ?_)
  refine r_astore dX11_draw_5 (by decide) (ls' := [(8, 2, r1), (0, 2, 1), (1, 0, a1), (2, 0, a2), (3, 0, a3), (4, 0, a4), (5, 0, a5), (6, 0, a6), (7, 0, a7)]) rfl ?_
  refine r_aload 0 dX11_draw_7 rfl ?_
  refine r_ifnull (tgt := 40) dX11_draw_9 rfl (fun h3 => ?_) (fun h4 => ?_)
  · refine r_iconst dX11_draw_40 ⟨by decide, by decide⟩ ?_
    exact r_iret rfl rfl (Or.inl rfl) dX11_draw_41
  · refine r_iload 8 dX11_draw_12 rfl ?_
    refine r_if_lt (tgt := 40) dX11_draw_14 rfl (fun h5 => ?_) (fun h6 => ?_)
    · refine r_iconst dX11_draw_40 ⟨by decide, by decide⟩ ?_
      exact r_iret rfl rfl (Or.inl rfl) dX11_draw_41
    · refine r_aload_n 1 dX11_draw_17 rfl rfl ?_
      refine r_iload_n 3 dX11_draw_18 rfl rfl ?_
      refine r_iload_n 4 dX11_draw_19 rfl rfl ?_
      refine r_iload 5 dX11_draw_20 rfl ?_
      refine r_iload 6 dX11_draw_22 rfl ?_
      refine r_inv (a := 1) hu ⟨Nat.le_refl _, Nat.le_refl _⟩ dX11_draw_24 kM_X11_227 (ci := 11) rfl kd_1 rfl rfl (by decide) (by decide) [(0, a2), (0, a3), (0, a4), (0, a5)] rfl (sk := []) rfl (Nat.le_of_ble_eq_true rfl) rfl rfl (m_X11_showsTold hu M2 a2 a3 a4 a5) (fun r7 M8 => ?_)
      refine r_if_eq (tgt := 40) dX11_draw_27 rfl (fun h9 => ?_) (fun h10 => ?_)
      · refine r_iconst dX11_draw_40 ⟨by decide, by decide⟩ ?_
        exact r_iret rfl rfl (Or.inl rfl) dX11_draw_41
      · refine r_aload_n 1 dX11_draw_30 rfl rfl ?_
        refine r_iload_n 3 dX11_draw_31 rfl rfl ?_
        refine r_iload 7 dX11_draw_32 rfl ?_
        refine r_inv (a := 1) hu ⟨Nat.le_refl _, Nat.le_refl _⟩ dX11_draw_34 kM_X11_265 (ci := 11) rfl kd_1 rfl rfl (by decide) (by decide) [(0, a2), (0, a6)] rfl (sk := []) rfl (Nat.le_of_ble_eq_true rfl) rfl rfl (m_X11_isSort hu M8 a2 a6) (fun r11 M12 => ?_)
        refine r_if_ne (tgt := 42) dX11_draw_37 rfl (fun h13 => ?_) (fun h14 => ?_)
        · refine r_iconst dX11_draw_40 ⟨by decide, by decide⟩ ?_
          exact r_iret rfl rfl (Or.inl rfl) dX11_draw_41
        · refine r_aload_n 1 dX11_draw_42 rfl rfl ?_
          refine r_gx (kz := 6) rfl hu dX11_draw_43 kF_X11_56 kd_1 rfl rfl rfl fx_1_6 ?_
          refine r_iload 8 dX11_draw_46 rfl ?_
          refine r_i2l dX11_draw_48 ?_
          refine r_pf (t := 1) (kz := 0) rfl hu dX11_draw_49 kF_X11_268 kd_67 rfl rfl rfl (fun h => absurd h (by decide)) rfl kX_2_0 (fun M15 eM15 => ?_)
          refine r_aload_n 1 dX11_draw_52 rfl rfl ?_
          refine r_gx (kz := 6) rfl hu dX11_draw_53 kF_X11_56 kd_1 rfl rfl rfl fx_1_6 ?_
          refine r_aload 0 dX11_draw_56 rfl ?_
          refine r_aload_n 1 dX11_draw_58 rfl rfl ?_
          refine r_gx (kz := 2) rfl hu dX11_draw_59 kF_X11_28 kd_1 rfl rfl rfl fx_1_2 ?_
          refine r_iconst dX11_draw_62 ⟨by decide, by decide⟩ ?_
          refine r_ok (fun h16 => ?_)
          refine r_inv (a := r1) hu ⟨Nat.le_refl _, Nat.le_refl _⟩ dX11_draw_63 kM_X11_231 (ci := 7) rfl h16 rfl rfl (by decide) (by decide) [(2, 10), (0, 0)] rfl (sk := [(2, 67)]) rfl (Nat.le_of_ble_eq_true rfl) rfl rfl (m_X7_carriedMost hu M15 r1 0 h16) (fun r17 M18 => ?_)
          refine r_iload 7 dX11_draw_66 rfl ?_
          refine r_aload_n 1 dX11_draw_68 rfl rfl ?_
          refine r_iload_n 3 dX11_draw_69 rfl rfl ?_
          refine r_inv (a := 1) hu ⟨Nat.le_refl _, Nat.le_refl _⟩ dX11_draw_70 kM_X11_254 (ci := 11) rfl kd_1 rfl rfl (by decide) (by decide) [(0, a2)] rfl (sk := [(0, a6), (0, r17), (2, 67)]) rfl (Nat.le_of_ble_eq_true rfl) rfl rfl (m_X11_sortsOf hu M18 a2) (fun r19 M20 => ?_)
          refine r_inv (a := 67) hu ⟨Nat.le_refl _, Nat.le_refl _⟩ dX11_draw_73 kM_X11_272 (ci := 2) rfl kd_67 rfl rfl (by decide) (by decide) [(0, r17), (0, a6), (0, r19)] rfl (sk := []) rfl (Nat.le_of_ble_eq_true rfl) rfl rfl (m_X2_guess hu M20 r17 a6 r19) (fun r21 M22 => ?_)
          exact r_iret rfl rfl (Or.inl rfl) dX11_draw_76
theorem dX11_trial_0 : decode cX11_trial 0 = .ok (.aload_n 0, 1) := by decide +kernel
theorem dX11_trial_1 : decode cX11_trial 1 = .ok (.getfield 42, 3) := by decide +kernel
theorem dX11_trial_4 : decode cX11_trial 4 = .ok (.invokevirtual 289, 3) := by decide +kernel
theorem dX11_trial_7 : decode cX11_trial 7 = .ok (.astore 9, 2) := by decide +kernel
theorem dX11_trial_9 : decode cX11_trial 9 = .ok (.aload 9, 2) := by decide +kernel
theorem dX11_trial_11 : decode cX11_trial 11 = .ok (.ifnull 19, 3) := by decide +kernel
theorem dX11_trial_14 : decode cX11_trial 14 = .ok (.aload_n 0, 1) := by decide +kernel
theorem dX11_trial_15 : decode cX11_trial 15 = .ok (.iload_n 1, 1) := by decide +kernel
theorem dX11_trial_16 : decode cX11_trial 16 = .ok (.iload_n 2, 1) := by decide +kernel
theorem dX11_trial_17 : decode cX11_trial 17 = .ok (.iload_n 3, 1) := by decide +kernel
theorem dX11_trial_18 : decode cX11_trial 18 = .ok (.iload 4, 2) := by decide +kernel
theorem dX11_trial_20 : decode cX11_trial 20 = .ok (.invokevirtual 276, 3) := by decide +kernel
theorem dX11_trial_23 : decode cX11_trial 23 = .ok (.ifCond .eq 7, 3) := by decide +kernel
theorem dX11_trial_26 : decode cX11_trial 26 = .ok (.iconst 1, 1) := by decide +kernel
theorem dX11_trial_27 : decode cX11_trial 27 = .ok (.goto 4, 3) := by decide +kernel
theorem dX11_trial_30 : decode cX11_trial 30 = .ok (.iconst 0, 1) := by decide +kernel
theorem dX11_trial_31 : decode cX11_trial 31 = .ok (.istore 10, 2) := by decide +kernel
theorem dX11_trial_33 : decode cX11_trial 33 = .ok (.iload 10, 2) := by decide +kernel
theorem dX11_trial_35 : decode cX11_trial 35 = .ok (.ifCond .eq 35, 3) := by decide +kernel
theorem dX11_trial_38 : decode cX11_trial 38 = .ok (.aload_n 0, 1) := by decide +kernel
theorem dX11_trial_39 : decode cX11_trial 39 = .ok (.iload_n 1, 1) := by decide +kernel
theorem dX11_trial_40 : decode cX11_trial 40 = .ok (.iload 5, 2) := by decide +kernel
theorem dX11_trial_42 : decode cX11_trial 42 = .ok (.invokevirtual 265, 3) := by decide +kernel
theorem dX11_trial_45 : decode cX11_trial 45 = .ok (.ifCond .eq 25, 3) := by decide +kernel
theorem dX11_trial_48 : decode cX11_trial 48 = .ok (.aload_n 0, 1) := by decide +kernel
theorem dX11_trial_49 : decode cX11_trial 49 = .ok (.iload_n 1, 1) := by decide +kernel
theorem dX11_trial_50 : decode cX11_trial 50 = .ok (.iload 6, 2) := by decide +kernel
theorem dX11_trial_52 : decode cX11_trial 52 = .ok (.invokevirtual 265, 3) := by decide +kernel
theorem dX11_trial_55 : decode cX11_trial 55 = .ok (.ifCond .eq 15, 3) := by decide +kernel
theorem dX11_trial_58 : decode cX11_trial 58 = .ok (.iload 8, 2) := by decide +kernel
theorem dX11_trial_60 : decode cX11_trial 60 = .ok (.ifCond .lt 10, 3) := by decide +kernel
theorem dX11_trial_63 : decode cX11_trial 63 = .ok (.iload 8, 2) := by decide +kernel
theorem dX11_trial_65 : decode cX11_trial 65 = .ok (.bipush 9, 2) := by decide +kernel
theorem dX11_trial_67 : decode cX11_trial 67 = .ok (.if_icmp .le 5, 3) := by decide +kernel
theorem dX11_trial_70 : decode cX11_trial 70 = .ok (.iconst (-1), 1) := by decide +kernel
theorem dX11_trial_71 : decode cX11_trial 71 = .ok (.ireturn, 1) := by decide +kernel
theorem dX11_trial_72 : decode cX11_trial 72 = .ok (.aload 9, 2) := by decide +kernel
theorem dX11_trial_74 : decode cX11_trial 74 = .ok (.iload_n 1, 1) := by decide +kernel
theorem dX11_trial_75 : decode cX11_trial 75 = .ok (.iload_n 2, 1) := by decide +kernel
theorem dX11_trial_76 : decode cX11_trial 76 = .ok (.iload_n 3, 1) := by decide +kernel
theorem dX11_trial_77 : decode cX11_trial 77 = .ok (.invokestatic 203, 3) := by decide +kernel
theorem dX11_trial_80 : decode cX11_trial 80 = .ok (.iload 4, 2) := by decide +kernel
theorem dX11_trial_82 : decode cX11_trial 82 = .ok (.iload 5, 2) := by decide +kernel
theorem dX11_trial_84 : decode cX11_trial 84 = .ok (.invokevirtual 293, 3) := by decide +kernel
theorem dX11_trial_87 : decode cX11_trial 87 = .ok (.aload 9, 2) := by decide +kernel
theorem dX11_trial_89 : decode cX11_trial 89 = .ok (.iload 6, 2) := by decide +kernel
theorem dX11_trial_91 : decode cX11_trial 91 = .ok (.iload 7, 2) := by decide +kernel
theorem dX11_trial_93 : decode cX11_trial 93 = .ok (.iload 8, 2) := by decide +kernel
theorem dX11_trial_95 : decode cX11_trial 95 = .ok (.invokevirtual 298, 3) := by decide +kernel
theorem dX11_trial_98 : decode cX11_trial 98 = .ok (.aload_n 0, 1) := by decide +kernel
theorem dX11_trial_99 : decode cX11_trial 99 = .ok (.getfield 42, 3) := by decide +kernel
theorem dX11_trial_102 : decode cX11_trial 102 = .ok (.dup, 1) := by decide +kernel
theorem dX11_trial_103 : decode cX11_trial 103 = .ok (.getfield 107, 3) := by decide +kernel
theorem dX11_trial_106 : decode cX11_trial 106 = .ok (.iconst 1, 1) := by decide +kernel
theorem dX11_trial_107 : decode cX11_trial 107 = .ok (.iadd, 1) := by decide +kernel
theorem dX11_trial_108 : decode cX11_trial 108 = .ok (.putfield 107, 3) := by decide +kernel
theorem dX11_trial_111 : decode cX11_trial 111 = .ok (.aload_n 0, 1) := by decide +kernel
theorem dX11_trial_112 : decode cX11_trial 112 = .ok (.getfield 42, 3) := by decide +kernel
theorem dX11_trial_115 : decode cX11_trial 115 = .ok (.getfield 107, 3) := by decide +kernel
theorem dX11_trial_118 : decode cX11_trial 118 = .ok (.ireturn, 1) := by decide +kernel
set_option maxRecDepth 100000 in
theorem tj_X11_trial_31 {g : GT} {n nf : Int} (hu : Up true nf n) (a1 a2 a3 a4 a5 a6 a7 a8 : Int) (M : Mem) (x9 s0 : Int) : AW g true RX11 cX11_trial 11 (some .int) (3) n n nf 31 [(0, 2, 1), (1, 0, a1), (2, 0, a2), (3, 0, a3), (4, 0, a4), (5, 0, a5), (6, 0, a6), (7, 0, a7), (8, 0, a8), (9, 2, x9)] [(0, s0)] n M (j_X11_trial_31 a1 a2 a3 a4 a5 a6 a7 a8 M x9 s0) := by
  unfold j_X11_trial_31
  refine r_istore dX11_trial_31 (by decide) (ls' := [(10, 0, s0), (0, 2, 1), (1, 0, a1), (2, 0, a2), (3, 0, a3), (4, 0, a4), (5, 0, a5), (6, 0, a6), (7, 0, a7), (8, 0, a8), (9, 2, x9)]) rfl ?_
  refine r_iload 0 dX11_trial_33 rfl ?_
  refine r_if_eq (tgt := 70) dX11_trial_35 rfl (fun h5 => ?_) (fun h6 => ?_)
  · refine r_iconst dX11_trial_70 ⟨by decide, by decide⟩ ?_
    exact r_iret rfl rfl (Or.inl rfl) dX11_trial_71
  · refine r_aload_n 1 dX11_trial_38 rfl rfl ?_
    refine r_iload_n 2 dX11_trial_39 rfl rfl ?_
    refine r_iload 6 dX11_trial_40 rfl ?_
    refine r_inv (a := 1) hu ⟨Nat.le_refl _, Nat.le_refl _⟩ dX11_trial_42 kM_X11_265 (ci := 11) rfl kd_1 rfl rfl (by decide) (by decide) [(0, a1), (0, a5)] rfl (sk := []) rfl (Nat.le_of_ble_eq_true rfl) rfl rfl (m_X11_isSort hu M a1 a5) (fun r7 M8 => ?_)
    refine r_if_eq (tgt := 70) dX11_trial_45 rfl (fun h9 => ?_) (fun h10 => ?_)
    · refine r_iconst dX11_trial_70 ⟨by decide, by decide⟩ ?_
      exact r_iret rfl rfl (Or.inl rfl) dX11_trial_71
    · refine r_aload_n 1 dX11_trial_48 rfl rfl ?_
      refine r_iload_n 2 dX11_trial_49 rfl rfl ?_
      refine r_iload 7 dX11_trial_50 rfl ?_
      refine r_inv (a := 1) hu ⟨Nat.le_refl _, Nat.le_refl _⟩ dX11_trial_52 kM_X11_265 (ci := 11) rfl kd_1 rfl rfl (by decide) (by decide) [(0, a1), (0, a6)] rfl (sk := []) rfl (Nat.le_of_ble_eq_true rfl) rfl rfl (m_X11_isSort hu M8 a1 a6) (fun r11 M12 => ?_)
      refine r_if_eq (tgt := 70) dX11_trial_55 rfl (fun h13 => ?_) (fun h14 => ?_)
      · refine r_iconst dX11_trial_70 ⟨by decide, by decide⟩ ?_
        exact r_iret rfl rfl (Or.inl rfl) dX11_trial_71
      · refine r_iload 9 dX11_trial_58 rfl ?_
        refine r_if_lt (tgt := 70) dX11_trial_60 rfl (fun h15 => ?_) (fun h16 => ?_)
        · refine r_iconst dX11_trial_70 ⟨by decide, by decide⟩ ?_
          exact r_iret rfl rfl (Or.inl rfl) dX11_trial_71
        · refine r_iload 9 dX11_trial_63 rfl ?_
          refine r_bipush dX11_trial_65 (by decide) ⟨by decide, by decide⟩ ?_
          refine r_icmp_le (tgt := 72) dX11_trial_67 rfl (fun h17 => ?_) (fun h18 => ?_)
          · refine r_aload 10 dX11_trial_72 rfl ?_
            refine r_iload_n 2 dX11_trial_74 rfl rfl ?_
            refine r_iload_n 3 dX11_trial_75 rfl rfl ?_
            refine r_iload_n 4 dX11_trial_76 rfl rfl ?_
            refine r_ins (a := 0) ⟨Nat.le_refl _, Nat.le_refl _⟩ dX11_trial_77 kM_X11_203 (by decide) (by decide) [(0, a2), (0, a3)] rfl (sk := [(0, a1), (2, x9)]) rfl (Nat.le_of_ble_eq_true rfl) rfl rfl (m_X11_squareAt hu M12 a2 a3) (fun r19 M20 => ?_)
            refine r_iload 5 dX11_trial_80 rfl ?_
            refine r_iload 6 dX11_trial_82 rfl ?_
            refine r_ok (fun h21 => ?_)
            refine r_invv (a := x9) hu ⟨Nat.le_refl _, Nat.le_refl _⟩ dX11_trial_84 kM_X11_293 (ci := 10) rfl h21 rfl rfl (by decide) (by decide) [(0, a1), (0, r19), (0, a4), (0, a5)] rfl (sk := []) rfl (Nat.le_of_ble_eq_true rfl) rfl (m_X10_putShowing hu M20 x9 a1 r19 a4 a5 h21) (fun r22 M23 => ?_)
            refine r_aload 10 dX11_trial_87 rfl ?_
            refine r_iload 7 dX11_trial_89 rfl ?_
            refine r_iload 8 dX11_trial_91 rfl ?_
            refine r_iload 9 dX11_trial_93 rfl ?_
            refine r_invv (a := x9) hu ⟨Nat.le_refl _, Nat.le_refl _⟩ dX11_trial_95 kM_X11_298 (ci := 10) rfl h21 rfl rfl (by decide) (by decide) [(0, a6), (0, a7), (0, a8)] rfl (sk := []) rfl (Nat.le_of_ble_eq_true rfl) rfl (m_X10_putAnswer hu M23 x9 a6 a7 a8 h21) (fun r24 M25 => ?_)
            refine r_aload_n 1 dX11_trial_98 rfl rfl ?_
            refine r_gx (kz := 4) rfl hu dX11_trial_99 kF_X11_42 kd_1 rfl rfl rfl fx_1_4 ?_
            refine r_dup dX11_trial_102 (nz2 _) ?_
            refine r_gf (t := 0) (kz := 1) rfl hu dX11_trial_103 kF_X11_107 kd_21 rfl rfl rfl ?_
            refine r_iconst dX11_trial_106 ⟨by decide, by decide⟩ ?_
            refine r_ok (fun h26 => ?_)
            refine r_iadd dX11_trial_107 h26 ?_
            refine r_pf (t := 0) (kz := 1) rfl hu dX11_trial_108 kF_X11_107 kd_21 rfl rfl rfl (fun h => absurd h (by decide)) rfl kX_0_1 (fun M27 eM27 => ?_)
            refine r_aload_n 1 dX11_trial_111 rfl rfl ?_
            refine r_gx (kz := 4) rfl hu dX11_trial_112 kF_X11_42 kd_1 rfl rfl rfl fx_1_4 ?_
            refine r_gf (t := 0) (kz := 1) rfl hu dX11_trial_115 kF_X11_107 kd_21 rfl rfl rfl ?_
            exact r_iret rfl rfl (Or.inl rfl) dX11_trial_118
          · refine r_iconst dX11_trial_70 ⟨by decide, by decide⟩ ?_
            exact r_iret rfl rfl (Or.inl rfl) dX11_trial_71
set_option maxRecDepth 100000 in
theorem tj_X11_trial_30 {g : GT} {n nf : Int} (hu : Up true nf n) (a1 a2 a3 a4 a5 a6 a7 a8 : Int) (M : Mem) (x9 : Int) : AW g true RX11 cX11_trial 11 (some .int) (3) n n nf 30 [(0, 2, 1), (1, 0, a1), (2, 0, a2), (3, 0, a3), (4, 0, a4), (5, 0, a5), (6, 0, a6), (7, 0, a7), (8, 0, a8), (9, 2, x9)] [] n M (j_X11_trial_30 a1 a2 a3 a4 a5 a6 a7 a8 M x9) := by
  unfold j_X11_trial_30
  refine r_iconst dX11_trial_30 ⟨by decide, by decide⟩ ?_
  exact tj_X11_trial_31 hu a1 a2 a3 a4 a5 a6 a7 a8 M x9 0
set_option maxRecDepth 100000 in
theorem m_X11_trial {g : GT} {n nf : Int} (hu : Up true nf n) (M : Mem) (a1 a2 a3 a4 a5 a6 a7 a8 : Int) : AM g true yX11_trial cX11_trial 11 (some .int) (3) n n nf [(2, 1), (0, a1), (0, a2), (0, a3), (0, a4), (0, a5), (0, a6), (0, a7), (0, a8)] M (f_X11_trial M a1 a2 a3 a4 a5 a6 a7 a8) := by
  refine AM_of (by decide +kernel) (Nat.le_of_ble_eq_true rfl) (fun h => absurd h (Int.lt_irrefl n)) ?_
  show AW g true RX11 cX11_trial 11 (some .int) (3) n n nf 0 [(0, 2, 1), (1, 0, a1), (2, 0, a2), (3, 0, a3), (4, 0, a4), (5, 0, a5), (6, 0, a6), (7, 0, a7), (8, 0, a8)] [] n M (f_X11_trial M a1 a2 a3 a4 a5 a6 a7 a8)
  unfold f_X11_trial
  refine r_aload_n 0 dX11_trial_0 rfl rfl ?_
  refine r_gx (kz := 4) rfl hu dX11_trial_1 kF_X11_42 kd_1 rfl rfl rfl fx_1_4 ?_
  refine r_inv (a := 21) hu ⟨Nat.le_refl _, Nat.le_refl _⟩ dX11_trial_4 kM_X11_289 (ci := 0) rfl kd_21 rfl rfl (by decide) (by decide) [] rfl (sk := []) rfl (Nat.le_of_ble_eq_true rfl) rfl rfl (m_X0_nextFree hu M) (fun r1 M2 => ?_)
  refine r_astore dX11_trial_7 (by decide) (ls' := [(9, 2, r1), (0, 2, 1), (1, 0, a1), (2, 0, a2), (3, 0, a3), (4, 0, a4), (5, 0, a5), (6, 0, a6), (7, 0, a7), (8, 0, a8)]) rfl ?_
  refine r_aload 0 dX11_trial_9 rfl ?_
  refine r_ifnull (tgt := 30) dX11_trial_11 rfl (fun h3 => ?_) (fun h4 => ?_)
  · refine r_sub [1, 2, 3, 4, 5, 6, 7, 8, 9, 0] (ls' := [(0, 2, 1), (1, 0, a1), (2, 0, a2), (3, 0, a3), (4, 0, a4), (5, 0, a5), (6, 0, a6), (7, 0, a7), (8, 0, a8), (9, 2, r1)]) rfl ?_
    exact tj_X11_trial_30 hu a1 a2 a3 a4 a5 a6 a7 a8 M2 r1
  · refine r_aload_n 1 dX11_trial_14 rfl rfl ?_
    refine r_iload_n 2 dX11_trial_15 rfl rfl ?_
    refine r_iload_n 3 dX11_trial_16 rfl rfl ?_
    refine r_iload_n 4 dX11_trial_17 rfl rfl ?_
    refine r_iload 5 dX11_trial_18 rfl ?_
    refine r_inv (a := 1) hu ⟨Nat.le_refl _, Nat.le_refl _⟩ dX11_trial_20 kM_X11_276 (ci := 11) rfl kd_1 rfl rfl (by decide) (by decide) [(0, a1), (0, a2), (0, a3), (0, a4)] rfl (sk := []) rfl (Nat.le_of_ble_eq_true rfl) rfl rfl (m_X11_canShow hu M2 a1 a2 a3 a4) (fun r28 M29 => ?_)
    refine r_if_eq (tgt := 30) dX11_trial_23 rfl (fun h30 => ?_) (fun h31 => ?_)
    · refine r_sub [1, 2, 3, 4, 5, 6, 7, 8, 9, 0] (ls' := [(0, 2, 1), (1, 0, a1), (2, 0, a2), (3, 0, a3), (4, 0, a4), (5, 0, a5), (6, 0, a6), (7, 0, a7), (8, 0, a8), (9, 2, r1)]) rfl ?_
      exact tj_X11_trial_30 hu a1 a2 a3 a4 a5 a6 a7 a8 M29 r1
    · refine r_iconst dX11_trial_26 ⟨by decide, by decide⟩ ?_
      refine r_goto (tgt := 31) dX11_trial_27 rfl ?_
      refine r_sub [1, 2, 3, 4, 5, 6, 7, 8, 9, 0] (ls' := [(0, 2, 1), (1, 0, a1), (2, 0, a2), (3, 0, a3), (4, 0, a4), (5, 0, a5), (6, 0, a6), (7, 0, a7), (8, 0, a8), (9, 2, r1)]) rfl ?_
      exact tj_X11_trial_31 hu a1 a2 a3 a4 a5 a6 a7 a8 M29 r1 1
theorem dX11_brightOf_0 : decode cX11_brightOf 0 = .ok (.aload_n 0, 1) := by decide +kernel
theorem dX11_brightOf_1 : decode cX11_brightOf 1 = .ok (.aload_n 1, 1) := by decide +kernel
theorem dX11_brightOf_2 : decode cX11_brightOf 2 = .ok (.getfield 193, 3) := by decide +kernel
theorem dX11_brightOf_5 : decode cX11_brightOf 5 = .ok (.iload_n 2, 1) := by decide +kernel
theorem dX11_brightOf_6 : decode cX11_brightOf 6 = .ok (.iconst 0, 1) := by decide +kernel
theorem dX11_brightOf_7 : decode cX11_brightOf 7 = .ok (.invokevirtual 251, 3) := by decide +kernel
theorem dX11_brightOf_10 : decode cX11_brightOf 10 = .ok (.aload_n 0, 1) := by decide +kernel
theorem dX11_brightOf_11 : decode cX11_brightOf 11 = .ok (.getfield 28, 3) := by decide +kernel
theorem dX11_brightOf_14 : decode cX11_brightOf 14 = .ok (.getfield 282, 3) := by decide +kernel
theorem dX11_brightOf_17 : decode cX11_brightOf 17 = .ok (.bipush 16, 2) := by decide +kernel
theorem dX11_brightOf_19 : decode cX11_brightOf 19 = .ok (.iload_n 3, 1) := by decide +kernel
theorem dX11_brightOf_20 : decode cX11_brightOf 20 = .ok (.iastore, 1) := by decide +kernel
theorem dX11_brightOf_21 : decode cX11_brightOf 21 = .ok (.aload_n 0, 1) := by decide +kernel
theorem dX11_brightOf_22 : decode cX11_brightOf 22 = .ok (.getfield 28, 3) := by decide +kernel
theorem dX11_brightOf_25 : decode cX11_brightOf 25 = .ok (.aload_n 0, 1) := by decide +kernel
theorem dX11_brightOf_26 : decode cX11_brightOf 26 = .ok (.getfield 71, 3) := by decide +kernel
theorem dX11_brightOf_29 : decode cX11_brightOf 29 = .ok (.getfield 418, 3) := by decide +kernel
theorem dX11_brightOf_32 : decode cX11_brightOf 32 = .ok (.aload_n 1, 1) := by decide +kernel
theorem dX11_brightOf_33 : decode cX11_brightOf 33 = .ok (.getfield 421, 3) := by decide +kernel
theorem dX11_brightOf_36 : decode cX11_brightOf 36 = .ok (.aload_n 1, 1) := by decide +kernel
theorem dX11_brightOf_37 : decode cX11_brightOf 37 = .ok (.getfield 424, 3) := by decide +kernel
theorem dX11_brightOf_40 : decode cX11_brightOf 40 = .ok (.invokevirtual 427, 3) := by decide +kernel
theorem dX11_brightOf_43 : decode cX11_brightOf 43 = .ok (.iconst 0, 1) := by decide +kernel
theorem dX11_brightOf_44 : decode cX11_brightOf 44 = .ok (.bipush 99, 2) := by decide +kernel
theorem dX11_brightOf_46 : decode cX11_brightOf 46 = .ok (.invokestatic 431, 3) := by decide +kernel
theorem dX11_brightOf_49 : decode cX11_brightOf 49 = .ok (.ireturn, 1) := by decide +kernel
set_option maxRecDepth 100000 in
theorem m_X11_brightOf {g : GT} {n nf : Int} (hu : Up true nf n) (M : Mem) (a1 a2 a3 : Int) (hk1 : kd a1 = 18) : AM g true yX11_brightOf cX11_brightOf 4 (some .int) (3) n n nf [(2, 1), (2, a1), (0, a2), (0, a3)] M (f_X11_brightOf M a1 a2 a3) := by
  refine AM_of (by decide +kernel) (Nat.le_of_ble_eq_true rfl) (fun h => absurd h (Int.lt_irrefl n)) ?_
  show AW g true RX11 cX11_brightOf 4 (some .int) (3) n n nf 0 [(0, 2, 1), (1, 2, a1), (2, 0, a2), (3, 0, a3)] [] n M (f_X11_brightOf M a1 a2 a3)
  unfold f_X11_brightOf
  refine r_aload_n 0 dX11_brightOf_0 rfl rfl ?_
  refine r_aload_n 1 dX11_brightOf_1 rfl rfl ?_
  refine r_gf (t := 0) (kz := 2) rfl hu dX11_brightOf_2 kF_X11_193 hk1 rfl rfl rfl ?_
  refine r_iload_n 2 dX11_brightOf_5 rfl rfl ?_
  refine r_iconst dX11_brightOf_6 ⟨by decide, by decide⟩ ?_
  refine r_invv (a := 1) hu ⟨Nat.le_refl _, Nat.le_refl _⟩ dX11_brightOf_7 kM_X11_251 (ci := 11) rfl kd_1 rfl rfl (by decide) (by decide) [(0, M a1 2), (0, a2), (0, 0)] rfl (sk := []) rfl (Nat.le_of_ble_eq_true rfl) rfl (m_X11_putShowing hu M (M a1 2) a2 0) (fun r1 M2 => ?_)
  refine r_aload_n 0 dX11_brightOf_10 rfl rfl ?_
  refine r_gx (kz := 2) rfl hu dX11_brightOf_11 kF_X11_28 kd_1 rfl rfl rfl fx_1_2 ?_
  refine r_gx (kz := 0) rfl hu dX11_brightOf_14 kF_X11_282 kd_10 rfl rfl rfl fx_10_0 ?_
  refine r_bipush dX11_brightOf_17 (by decide) ⟨by decide, by decide⟩ ?_
  refine r_iload_n 3 dX11_brightOf_19 rfl rfl ?_
  refine r_iast hu dX11_brightOf_20 kd_11 rfl (Or.inl rfl) rfl ln_11 ⟨by decide, by decide⟩ rfl (fun M3 eM3 => ?_)
  refine r_aload_n 0 dX11_brightOf_21 rfl rfl ?_
  refine r_gx (kz := 2) rfl hu dX11_brightOf_22 kF_X11_28 kd_1 rfl rfl rfl fx_1_2 ?_
  refine r_aload_n 0 dX11_brightOf_25 rfl rfl ?_
  refine r_gf (t := 2) (kz := 9) rfl hu dX11_brightOf_26 kF_X11_71 kd_1 rfl rfl rfl ?_
  refine r_ok (fun h4 => ?_)
  refine r_gx (kz := 4) rfl hu dX11_brightOf_29 kF_X11_418 h4 rfl rfl rfl (fxS4 _ h4) ?_
  refine r_aload_n 1 dX11_brightOf_32 rfl rfl ?_
  refine r_gf (t := 0) (kz := 6) rfl hu dX11_brightOf_33 kF_X11_421 hk1 rfl rfl rfl ?_
  refine r_aload_n 1 dX11_brightOf_36 rfl rfl ?_
  refine r_gf (t := 0) (kz := 7) rfl hu dX11_brightOf_37 kF_X11_424 hk1 rfl rfl rfl ?_
  refine r_inv (a := 10) hu ⟨Nat.le_refl _, Nat.le_refl _⟩ dX11_brightOf_40 kM_X11_427 (ci := 6) rfl kd_10 rfl rfl (by decide) (by decide) [(2, (M3 1 9) + 3), (0, M3 a1 6), (0, M3 a1 7)] rfl (sk := []) rfl (Nat.le_of_ble_eq_true rfl) rfl rfl (m_X6_reckon hu M3 ((M3 1 9) + 3) (M3 a1 6) (M3 a1 7) (kdS _ h4).2.2.2.2.1 (kdS _ h4).2.2.2.2.2) (fun r5 M6 => ?_)
  refine r_iconst dX11_brightOf_43 ⟨by decide, by decide⟩ ?_
  refine r_bipush dX11_brightOf_44 (by decide) ⟨by decide, by decide⟩ ?_
  refine r_ins (a := 0) ⟨Nat.le_refl _, Nat.le_refl _⟩ dX11_brightOf_46 kM_X11_431 (by decide) (by decide) [(0, r5), (0, 0), (0, 99)] rfl (sk := []) rfl (Nat.le_of_ble_eq_true rfl) rfl rfl (m_X11_clamped hu M6 r5 0 99) (fun r7 M8 => ?_)
  exact r_iret rfl rfl (Or.inl rfl) dX11_brightOf_49
theorem dX11_runShow_0 : decode cX11_runShow 0 = .ok (.aload_n 0, 1) := by decide +kernel
theorem dX11_runShow_1 : decode cX11_runShow 1 = .ok (.getfield 42, 3) := by decide +kernel
theorem dX11_runShow_4 : decode cX11_runShow 4 = .ok (.invokevirtual 289, 3) := by decide +kernel
theorem dX11_runShow_7 : decode cX11_runShow 7 = .ok (.astore 4, 2) := by decide +kernel
theorem dX11_runShow_9 : decode cX11_runShow 9 = .ok (.aload 4, 2) := by decide +kernel
theorem dX11_runShow_11 : decode cX11_runShow 11 = .ok (.ifnonnull 4, 3) := by decide +kernel
theorem dX11_runShow_14 : decode cX11_runShow 14 = .ok (.return_, 1) := by decide +kernel
theorem dX11_runShow_15 : decode cX11_runShow 15 = .ok (.aload_n 2, 1) := by decide +kernel
theorem dX11_runShow_16 : decode cX11_runShow 16 = .ok (.getfield 405, 3) := by decide +kernel
theorem dX11_runShow_19 : decode cX11_runShow 19 = .ok (.aload_n 2, 1) := by decide +kernel
theorem dX11_runShow_20 : decode cX11_runShow 20 = .ok (.getfield 408, 3) := by decide +kernel
theorem dX11_runShow_23 : decode cX11_runShow 23 = .ok (.invokestatic 203, 3) := by decide +kernel
theorem dX11_runShow_26 : decode cX11_runShow 26 = .ok (.istore 5, 2) := by decide +kernel
theorem dX11_runShow_28 : decode cX11_runShow 28 = .ok (.aload_n 0, 1) := by decide +kernel
theorem dX11_runShow_29 : decode cX11_runShow 29 = .ok (.aload_n 2, 1) := by decide +kernel
theorem dX11_runShow_30 : decode cX11_runShow 30 = .ok (.getfield 193, 3) := by decide +kernel
theorem dX11_runShow_33 : decode cX11_runShow 33 = .ok (.invokevirtual 254, 3) := by decide +kernel
theorem dX11_runShow_36 : decode cX11_runShow 36 = .ok (.istore 6, 2) := by decide +kernel
theorem dX11_runShow_38 : decode cX11_runShow 38 = .ok (.aload_n 0, 1) := by decide +kernel
theorem dX11_runShow_39 : decode cX11_runShow 39 = .ok (.getfield 56, 3) := by decide +kernel
theorem dX11_runShow_42 : decode cX11_runShow 42 = .ok (.iload 6, 2) := by decide +kernel
theorem dX11_runShow_44 : decode cX11_runShow 44 = .ok (.invokevirtual 411, 3) := by decide +kernel
theorem dX11_runShow_47 : decode cX11_runShow 47 = .ok (.istore 7, 2) := by decide +kernel
theorem dX11_runShow_49 : decode cX11_runShow 49 = .ok (.aload_n 0, 1) := by decide +kernel
theorem dX11_runShow_50 : decode cX11_runShow 50 = .ok (.aload_n 2, 1) := by decide +kernel
theorem dX11_runShow_51 : decode cX11_runShow 51 = .ok (.iload 5, 2) := by decide +kernel
theorem dX11_runShow_53 : decode cX11_runShow 53 = .ok (.iload_n 3, 1) := by decide +kernel
theorem dX11_runShow_54 : decode cX11_runShow 54 = .ok (.invokevirtual 414, 3) := by decide +kernel
theorem dX11_runShow_57 : decode cX11_runShow 57 = .ok (.istore 8, 2) := by decide +kernel
theorem dX11_runShow_59 : decode cX11_runShow 59 = .ok (.aload_n 0, 1) := by decide +kernel
theorem dX11_runShow_60 : decode cX11_runShow 60 = .ok (.aload_n 2, 1) := by decide +kernel
theorem dX11_runShow_61 : decode cX11_runShow 61 = .ok (.getfield 193, 3) := by decide +kernel
theorem dX11_runShow_64 : decode cX11_runShow 64 = .ok (.iload 5, 2) := by decide +kernel
theorem dX11_runShow_66 : decode cX11_runShow 66 = .ok (.iload 8, 2) := by decide +kernel
theorem dX11_runShow_68 : decode cX11_runShow 68 = .ok (.invokevirtual 251, 3) := by decide +kernel
theorem dX11_runShow_71 : decode cX11_runShow 71 = .ok (.aload_n 1, 1) := by decide +kernel
theorem dX11_runShow_72 : decode cX11_runShow 72 = .ok (.aload_n 0, 1) := by decide +kernel
theorem dX11_runShow_73 : decode cX11_runShow 73 = .ok (.getfield 28, 3) := by decide +kernel
theorem dX11_runShow_76 : decode cX11_runShow 76 = .ok (.iconst 0, 1) := by decide +kernel
theorem dX11_runShow_77 : decode cX11_runShow 77 = .ok (.invokevirtual 231, 3) := by decide +kernel
theorem dX11_runShow_80 : decode cX11_runShow 80 = .ok (.istore 9, 2) := by decide +kernel
theorem dX11_runShow_82 : decode cX11_runShow 82 = .ok (.aload 4, 2) := by decide +kernel
theorem dX11_runShow_84 : decode cX11_runShow 84 = .ok (.aload_n 2, 1) := by decide +kernel
theorem dX11_runShow_85 : decode cX11_runShow 85 = .ok (.getfield 193, 3) := by decide +kernel
theorem dX11_runShow_88 : decode cX11_runShow 88 = .ok (.iload 5, 2) := by decide +kernel
theorem dX11_runShow_90 : decode cX11_runShow 90 = .ok (.iload 8, 2) := by decide +kernel
theorem dX11_runShow_92 : decode cX11_runShow 92 = .ok (.iload 7, 2) := by decide +kernel
theorem dX11_runShow_94 : decode cX11_runShow 94 = .ok (.invokevirtual 293, 3) := by decide +kernel
theorem dX11_runShow_97 : decode cX11_runShow 97 = .ok (.aload 4, 2) := by decide +kernel
theorem dX11_runShow_99 : decode cX11_runShow 99 = .ok (.aload_n 0, 1) := by decide +kernel
theorem dX11_runShow_100 : decode cX11_runShow 100 = .ok (.getfield 56, 3) := by decide +kernel
theorem dX11_runShow_103 : decode cX11_runShow 103 = .ok (.iload 9, 2) := by decide +kernel
theorem dX11_runShow_105 : decode cX11_runShow 105 = .ok (.iload 7, 2) := by decide +kernel
theorem dX11_runShow_107 : decode cX11_runShow 107 = .ok (.iload 6, 2) := by decide +kernel
theorem dX11_runShow_109 : decode cX11_runShow 109 = .ok (.invokevirtual 272, 3) := by decide +kernel
theorem dX11_runShow_112 : decode cX11_runShow 112 = .ok (.aload_n 1, 1) := by decide +kernel
theorem dX11_runShow_113 : decode cX11_runShow 113 = .ok (.aload_n 0, 1) := by decide +kernel
theorem dX11_runShow_114 : decode cX11_runShow 114 = .ok (.getfield 28, 3) := by decide +kernel
theorem dX11_runShow_117 : decode cX11_runShow 117 = .ok (.invokevirtual 243, 3) := by decide +kernel
theorem dX11_runShow_120 : decode cX11_runShow 120 = .ok (.iload 9, 2) := by decide +kernel
theorem dX11_runShow_122 : decode cX11_runShow 122 = .ok (.bipush 11, 2) := by decide +kernel
theorem dX11_runShow_124 : decode cX11_runShow 124 = .ok (.idiv, 1) := by decide +kernel
theorem dX11_runShow_125 : decode cX11_runShow 125 = .ok (.invokevirtual 298, 3) := by decide +kernel
theorem dX11_runShow_128 : decode cX11_runShow 128 = .ok (.aload_n 0, 1) := by decide +kernel
theorem dX11_runShow_129 : decode cX11_runShow 129 = .ok (.getfield 42, 3) := by decide +kernel
theorem dX11_runShow_132 : decode cX11_runShow 132 = .ok (.dup, 1) := by decide +kernel
theorem dX11_runShow_133 : decode cX11_runShow 133 = .ok (.getfield 107, 3) := by decide +kernel
theorem dX11_runShow_136 : decode cX11_runShow 136 = .ok (.iconst 1, 1) := by decide +kernel
theorem dX11_runShow_137 : decode cX11_runShow 137 = .ok (.iadd, 1) := by decide +kernel
theorem dX11_runShow_138 : decode cX11_runShow 138 = .ok (.putfield 107, 3) := by decide +kernel
theorem dX11_runShow_141 : decode cX11_runShow 141 = .ok (.return_, 1) := by decide +kernel
set_option maxRecDepth 100000 in
theorem m_X11_runShow {g : GT} {n nf : Int} (hu : Up true nf n) (M : Mem) (a1 a2 a3 : Int) (hk1 : kd a1 = 17) (hk2 : kd a2 = 18) : AM g true yX11_runShow cX11_runShow 10 none (6) n n nf [(2, 1), (2, a1), (2, a2), (0, a3)] M (f_X11_runShow M a1 a2 a3) := by
  refine AM_of (by decide +kernel) (Nat.le_of_ble_eq_true rfl) (fun h => absurd h (Int.lt_irrefl n)) ?_
  show AW g true RX11 cX11_runShow 10 none (6) n n nf 0 [(0, 2, 1), (1, 2, a1), (2, 2, a2), (3, 0, a3)] [] n M (f_X11_runShow M a1 a2 a3)
  unfold f_X11_runShow
  refine r_aload_n 0 dX11_runShow_0 rfl rfl ?_
  refine r_gx (kz := 4) rfl hu dX11_runShow_1 kF_X11_42 kd_1 rfl rfl rfl fx_1_4 ?_
  refine r_inv (a := 21) hu ⟨Nat.le_refl _, Nat.le_refl _⟩ dX11_runShow_4 kM_X11_289 (ci := 0) rfl kd_21 rfl rfl (by decide) (by decide) [] rfl (sk := []) rfl (Nat.le_of_ble_eq_true rfl) rfl rfl (m_X0_nextFree hu M) (fun r1 M2 => ?_)
  refine r_astore dX11_runShow_7 (by decide) (ls' := [(4, 2, r1), (0, 2, 1), (1, 2, a1), (2, 2, a2), (3, 0, a3)]) rfl ?_
  refine r_aload 0 dX11_runShow_9 rfl ?_
  refine r_ifnonnull (tgt := 15) dX11_runShow_11 rfl (fun h3 => ?_) (fun h4 => ?_)
  · exact r_vret rfl rfl dX11_runShow_14
  · refine r_aload_n 3 dX11_runShow_15 rfl rfl ?_
    refine r_gf (t := 0) (kz := 3) rfl hu dX11_runShow_16 kF_X11_405 hk2 rfl rfl rfl ?_
    refine r_aload_n 3 dX11_runShow_19 rfl rfl ?_
    refine r_gf (t := 0) (kz := 4) rfl hu dX11_runShow_20 kF_X11_408 hk2 rfl rfl rfl ?_
    refine r_ins (a := 0) ⟨Nat.le_refl _, Nat.le_refl _⟩ dX11_runShow_23 kM_X11_203 (by decide) (by decide) [(0, M2 a2 3), (0, M2 a2 4)] rfl (sk := []) rfl (Nat.le_of_ble_eq_true rfl) rfl rfl (m_X11_squareAt hu M2 (M2 a2 3) (M2 a2 4)) (fun r5 M6 => ?_)
    refine r_istore dX11_runShow_26 (by decide) (ls' := [(5, 0, r5), (4, 2, r1), (0, 2, 1), (1, 2, a1), (2, 2, a2), (3, 0, a3)]) rfl ?_
    refine r_aload_n 2 dX11_runShow_28 rfl rfl ?_
    refine r_aload_n 4 dX11_runShow_29 rfl rfl ?_
    refine r_gf (t := 0) (kz := 2) rfl hu dX11_runShow_30 kF_X11_193 hk2 rfl rfl rfl ?_
    refine r_inv (a := 1) hu ⟨Nat.le_refl _, Nat.le_refl _⟩ dX11_runShow_33 kM_X11_254 (ci := 11) rfl kd_1 rfl rfl (by decide) (by decide) [(0, M6 a2 2)] rfl (sk := []) rfl (Nat.le_of_ble_eq_true rfl) rfl rfl (m_X11_sortsOf hu M6 (M6 a2 2)) (fun r7 M8 => ?_)
    refine r_istore dX11_runShow_36 (by decide) (ls' := [(6, 0, r7), (5, 0, r5), (4, 2, r1), (0, 2, 1), (1, 2, a1), (2, 2, a2), (3, 0, a3)]) rfl ?_
    refine r_aload_n 3 dX11_runShow_38 rfl rfl ?_
    refine r_gx (kz := 6) rfl hu dX11_runShow_39 kF_X11_56 kd_1 rfl rfl rfl fx_1_6 ?_
    refine r_iload 0 dX11_runShow_42 rfl ?_
    refine r_inv (a := 67) hu ⟨Nat.le_refl _, Nat.le_refl _⟩ dX11_runShow_44 kM_X11_411 (ci := 2) rfl kd_67 rfl rfl (by decide) (by decide) [(0, r7)] rfl (sk := []) rfl (Nat.le_of_ble_eq_true rfl) rfl rfl (m_X2_roll hu M8 r7) (fun r9 M10 => ?_)
    refine r_istore dX11_runShow_47 (by decide) (ls' := [(7, 0, r9), (6, 0, r7), (5, 0, r5), (4, 2, r1), (0, 2, 1), (1, 2, a1), (2, 2, a2), (3, 0, a3)]) rfl ?_
    refine r_aload_n 4 dX11_runShow_49 rfl rfl ?_
    refine r_aload_n 6 dX11_runShow_50 rfl rfl ?_
    refine r_iload 2 dX11_runShow_51 rfl ?_
    refine r_iload_n 7 dX11_runShow_53 rfl rfl ?_
    refine r_inv (a := 1) hu ⟨Nat.le_refl _, Nat.le_refl _⟩ dX11_runShow_54 kM_X11_414 (ci := 11) rfl kd_1 rfl rfl (by decide) (by decide) [(2, a2), (0, r5), (0, a3)] rfl (sk := []) rfl (Nat.le_of_ble_eq_true rfl) rfl rfl (m_X11_brightOf hu M10 a2 r5 a3 hk2) (fun r11 M12 => ?_)
    refine r_istore dX11_runShow_57 (by decide) (ls' := [(8, 0, r11), (7, 0, r9), (6, 0, r7), (5, 0, r5), (4, 2, r1), (0, 2, 1), (1, 2, a1), (2, 2, a2), (3, 0, a3)]) rfl ?_
    refine r_aload_n 5 dX11_runShow_59 rfl rfl ?_
    refine r_aload_n 7 dX11_runShow_60 rfl rfl ?_
    refine r_gf (t := 0) (kz := 2) rfl hu dX11_runShow_61 kF_X11_193 hk2 rfl rfl rfl ?_
    refine r_iload 3 dX11_runShow_64 rfl ?_
    refine r_iload 0 dX11_runShow_66 rfl ?_
    refine r_invv (a := 1) hu ⟨Nat.le_refl _, Nat.le_refl _⟩ dX11_runShow_68 kM_X11_251 (ci := 11) rfl kd_1 rfl rfl (by decide) (by decide) [(0, M12 a2 2), (0, r5), (0, r11)] rfl (sk := []) rfl (Nat.le_of_ble_eq_true rfl) rfl (m_X11_putShowing hu M12 (M12 a2 2) r5 r11) (fun r13 M14 => ?_)
    refine r_aload_n 6 dX11_runShow_71 rfl rfl ?_
    refine r_aload_n 5 dX11_runShow_72 rfl rfl ?_
    refine r_gx (kz := 2) rfl hu dX11_runShow_73 kF_X11_28 kd_1 rfl rfl rfl fx_1_2 ?_
    refine r_iconst dX11_runShow_76 ⟨by decide, by decide⟩ ?_
    refine r_inv (a := a1) hu ⟨Nat.le_refl _, Nat.le_refl _⟩ dX11_runShow_77 kM_X11_231 (ci := 7) rfl hk1 rfl rfl (by decide) (by decide) [(2, 10), (0, 0)] rfl (sk := []) rfl (Nat.le_of_ble_eq_true rfl) rfl rfl (m_X7_carriedMost hu M14 a1 0 hk1) (fun r15 M16 => ?_)
    refine r_istore dX11_runShow_80 (by decide) (ls' := [(9, 0, r15), (8, 0, r11), (7, 0, r9), (6, 0, r7), (5, 0, r5), (4, 2, r1), (0, 2, 1), (1, 2, a1), (2, 2, a2), (3, 0, a3)]) rfl ?_
    refine r_aload 5 dX11_runShow_82 rfl ?_
    refine r_aload_n 8 dX11_runShow_84 rfl rfl ?_
    refine r_gf (t := 0) (kz := 2) rfl hu dX11_runShow_85 kF_X11_193 hk2 rfl rfl rfl ?_
    refine r_iload 4 dX11_runShow_88 rfl ?_
    refine r_iload 1 dX11_runShow_90 rfl ?_
    refine r_iload 2 dX11_runShow_92 rfl ?_
    refine r_ok (fun h17 => ?_)
    refine r_invv (a := r1) hu ⟨Nat.le_refl _, Nat.le_refl _⟩ dX11_runShow_94 kM_X11_293 (ci := 10) rfl h17 rfl rfl (by decide) (by decide) [(0, M16 a2 2), (0, r5), (0, r11), (0, r9)] rfl (sk := []) rfl (Nat.le_of_ble_eq_true rfl) rfl (m_X10_putShowing hu M16 r1 (M16 a2 2) r5 r11 r9 h17) (fun r18 M19 => ?_)
    refine r_aload 5 dX11_runShow_97 rfl ?_
    refine r_aload_n 6 dX11_runShow_99 rfl rfl ?_
    refine r_gx (kz := 6) rfl hu dX11_runShow_100 kF_X11_56 kd_1 rfl rfl rfl fx_1_6 ?_
    refine r_iload 0 dX11_runShow_103 rfl ?_
    refine r_iload 2 dX11_runShow_105 rfl ?_
    refine r_iload 3 dX11_runShow_107 rfl ?_
    refine r_inv (a := 67) hu ⟨Nat.le_refl _, Nat.le_refl _⟩ dX11_runShow_109 kM_X11_272 (ci := 2) rfl kd_67 rfl rfl (by decide) (by decide) [(0, r15), (0, r9), (0, r7)] rfl (sk := [(2, r1)]) rfl (Nat.le_of_ble_eq_true rfl) rfl rfl (m_X2_guess hu M19 r15 r9 r7) (fun r20 M21 => ?_)
    refine r_aload_n 7 dX11_runShow_112 rfl rfl ?_
    refine r_aload_n 6 dX11_runShow_113 rfl rfl ?_
    refine r_gx (kz := 2) rfl hu dX11_runShow_114 kF_X11_28 kd_1 rfl rfl rfl fx_1_2 ?_
    refine r_inv (a := a1) hu ⟨Nat.le_refl _, Nat.le_refl _⟩ dX11_runShow_117 kM_X11_243 (ci := 7) rfl hk1 rfl rfl (by decide) (by decide) [(2, 10)] rfl (sk := [(0, r20), (2, r1)]) rfl (Nat.le_of_ble_eq_true rfl) rfl rfl (m_X7_saysBy hu M21 a1 hk1) (fun r22 M23 => ?_)
    refine r_iload 0 dX11_runShow_120 rfl ?_
    refine r_bipush dX11_runShow_122 (by decide) ⟨by decide, by decide⟩ ?_
    refine r_ok (fun h24 => ?_)
    refine r_idivP dX11_runShow_124 ⟨h24, by decide⟩ ?_
    refine r_invv (a := r1) hu ⟨Nat.le_refl _, Nat.le_refl _⟩ dX11_runShow_125 kM_X11_298 (ci := 10) rfl h17 rfl rfl (by decide) (by decide) [(0, r20), (0, r22), (0, r15 / 11)] rfl (sk := []) rfl (Nat.le_of_ble_eq_true rfl) rfl (m_X10_putAnswer hu M23 r1 r20 r22 (r15 / 11) h17) (fun r25 M26 => ?_)
    refine r_aload_n 6 dX11_runShow_128 rfl rfl ?_
    refine r_gx (kz := 4) rfl hu dX11_runShow_129 kF_X11_42 kd_1 rfl rfl rfl fx_1_4 ?_
    refine r_dup dX11_runShow_132 (nz2 _) ?_
    refine r_gf (t := 0) (kz := 1) rfl hu dX11_runShow_133 kF_X11_107 kd_21 rfl rfl rfl ?_
    refine r_iconst dX11_runShow_136 ⟨by decide, by decide⟩ ?_
    refine r_ok (fun h27 => ?_)
    refine r_iadd dX11_runShow_137 h27 ?_
    refine r_pf (t := 0) (kz := 1) rfl hu dX11_runShow_138 kF_X11_107 kd_21 rfl rfl rfl (fun h => absurd h (by decide)) rfl kX_0_1 (fun M28 eM28 => ?_)
    exact r_vret rfl rfl dX11_runShow_141
theorem dX11_run_0 : decode cX11_run 0 = .ok (.aload_n 0, 1) := by decide +kernel
theorem dX11_run_1 : decode cX11_run 1 = .ok (.iload_n 1, 1) := by decide +kernel
theorem dX11_run_2 : decode cX11_run 2 = .ok (.invokevirtual 153, 3) := by decide +kernel
theorem dX11_run_5 : decode cX11_run 5 = .ok (.astore_n 3, 1) := by decide +kernel
theorem dX11_run_6 : decode cX11_run 6 = .ok (.aload_n 3, 1) := by decide +kernel
theorem dX11_run_7 : decode cX11_run 7 = .ok (.ifnull 17, 3) := by decide +kernel
theorem dX11_run_10 : decode cX11_run 10 = .ok (.aload_n 0, 1) := by decide +kernel
theorem dX11_run_11 : decode cX11_run 11 = .ok (.getfield 71, 3) := by decide +kernel
theorem dX11_run_14 : decode cX11_run 14 = .ok (.getfield 110, 3) := by decide +kernel
theorem dX11_run_17 : decode cX11_run 17 = .ok (.ifCond .eq 7, 3) := by decide +kernel
theorem dX11_run_20 : decode cX11_run 20 = .ok (.iload_n 2, 1) := by decide +kernel
theorem dX11_run_21 : decode cX11_run 21 = .ok (.ifCond .ge 5, 3) := by decide +kernel
theorem dX11_run_24 : decode cX11_run 24 = .ok (.iconst (-1), 1) := by decide +kernel
theorem dX11_run_25 : decode cX11_run 25 = .ok (.ireturn, 1) := by decide +kernel
theorem dX11_run_26 : decode cX11_run 26 = .ok (.aload_n 0, 1) := by decide +kernel
theorem dX11_run_27 : decode cX11_run 27 = .ok (.getfield 56, 3) := by decide +kernel
theorem dX11_run_30 : decode cX11_run 30 = .ok (.iload_n 2, 1) := by decide +kernel
theorem dX11_run_31 : decode cX11_run 31 = .ok (.i2l, 1) := by decide +kernel
theorem dX11_run_32 : decode cX11_run 32 = .ok (.putfield 268, 3) := by decide +kernel
theorem dX11_run_35 : decode cX11_run 35 = .ok (.aload_n 0, 1) := by decide +kernel
theorem dX11_run_36 : decode cX11_run 36 = .ok (.getfield 42, 3) := by decide +kernel
theorem dX11_run_39 : decode cX11_run 39 = .ok (.getfield 107, 3) := by decide +kernel
theorem dX11_run_42 : decode cX11_run 42 = .ok (.istore 4, 2) := by decide +kernel
theorem dX11_run_44 : decode cX11_run 44 = .ok (.iconst 0, 1) := by decide +kernel
theorem dX11_run_45 : decode cX11_run 45 = .ok (.istore 5, 2) := by decide +kernel
theorem dX11_run_47 : decode cX11_run 47 = .ok (.iload 5, 2) := by decide +kernel
theorem dX11_run_49 : decode cX11_run 49 = .ok (.aload_n 0, 1) := by decide +kernel
theorem dX11_run_50 : decode cX11_run 50 = .ok (.getfield 115, 3) := by decide +kernel
theorem dX11_run_53 : decode cX11_run 53 = .ok (.if_icmp .ge 43, 3) := by decide +kernel
theorem dX11_run_56 : decode cX11_run 56 = .ok (.aload_n 0, 1) := by decide +kernel
theorem dX11_run_57 : decode cX11_run 57 = .ok (.getfield 42, 3) := by decide +kernel
theorem dX11_run_60 : decode cX11_run 60 = .ok (.getfield 107, 3) := by decide +kernel
theorem dX11_run_63 : decode cX11_run 63 = .ok (.bipush 40, 2) := by decide +kernel
theorem dX11_run_65 : decode cX11_run 65 = .ok (.if_icmp .ge 31, 3) := by decide +kernel
theorem dX11_run_68 : decode cX11_run 68 = .ok (.aload_n 0, 1) := by decide +kernel
theorem dX11_run_69 : decode cX11_run 69 = .ok (.aload_n 3, 1) := by decide +kernel
theorem dX11_run_70 : decode cX11_run 70 = .ok (.aload_n 0, 1) := by decide +kernel
theorem dX11_run_71 : decode cX11_run 71 = .ok (.getfield 71, 3) := by decide +kernel
theorem dX11_run_74 : decode cX11_run 74 = .ok (.getfield 170, 3) := by decide +kernel
theorem dX11_run_77 : decode cX11_run 77 = .ok (.aload_n 0, 1) := by decide +kernel
theorem dX11_run_78 : decode cX11_run 78 = .ok (.getfield 77, 3) := by decide +kernel
theorem dX11_run_81 : decode cX11_run 81 = .ok (.iload 5, 2) := by decide +kernel
theorem dX11_run_83 : decode cX11_run 83 = .ok (.iaload, 1) := by decide +kernel
theorem dX11_run_84 : decode cX11_run 84 = .ok (.aaload, 1) := by decide +kernel
theorem dX11_run_85 : decode cX11_run 85 = .ok (.iload 5, 2) := by decide +kernel
theorem dX11_run_87 : decode cX11_run 87 = .ok (.invokevirtual 302, 3) := by decide +kernel
theorem dX11_run_90 : decode cX11_run 90 = .ok (.iinc 5 1, 3) := by decide +kernel
theorem dX11_run_93 : decode cX11_run 93 = .ok (.goto (-46), 3) := by decide +kernel
theorem dX11_run_96 : decode cX11_run 96 = .ok (.aload_n 0, 1) := by decide +kernel
theorem dX11_run_97 : decode cX11_run 97 = .ok (.getfield 42, 3) := by decide +kernel
theorem dX11_run_100 : decode cX11_run 100 = .ok (.getfield 107, 3) := by decide +kernel
theorem dX11_run_103 : decode cX11_run 103 = .ok (.iload 4, 2) := by decide +kernel
theorem dX11_run_105 : decode cX11_run 105 = .ok (.isub, 1) := by decide +kernel
theorem dX11_run_106 : decode cX11_run 106 = .ok (.ireturn, 1) := by decide +kernel
set_option maxRecDepth 100000 in
theorem tb_X11_run_47 {g : GT} {n nf : Int} (hu : Up true nf n) (w47 : Mem → Int → Int → Int → Res) (hw47 : ∀ (M : Mem) (x3 x4 x5 : Int), AW g true RX11 cX11_run 6 (some .int) (7) n n nf 47 [(0, 2, 1), (3, 2, x3), (4, 0, x4), (5, 0, x5)] [] n M (w47 M x3 x4 x5)) (M : Mem) (x3 x4 x5 : Int) : AW g true RX11 cX11_run 6 (some .int) (7) n n nf 47 [(0, 2, 1), (3, 2, x3), (4, 0, x4), (5, 0, x5)] [] n M (b_X11_run_47 w47 M x3 x4 x5) := by
  unfold b_X11_run_47
  refine r_iload 3 dX11_run_47 rfl ?_
  refine r_aload_n 0 dX11_run_49 rfl rfl ?_
  refine r_gf (t := 0) (kz := 12) rfl hu dX11_run_50 kF_X11_115 kd_1 rfl rfl rfl ?_
  refine r_icmp_ge (tgt := 96) dX11_run_53 rfl (fun h12 => ?_) (fun h13 => ?_)
  · refine r_aload_n 0 dX11_run_96 rfl rfl ?_
    refine r_gx (kz := 4) rfl hu dX11_run_97 kF_X11_42 kd_1 rfl rfl rfl fx_1_4 ?_
    refine r_gf (t := 0) (kz := 1) rfl hu dX11_run_100 kF_X11_107 kd_21 rfl rfl rfl ?_
    refine r_iload 2 dX11_run_103 rfl ?_
    refine r_ok (fun h14 => ?_)
    refine r_isub dX11_run_105 h14 ?_
    exact r_iret rfl rfl (Or.inl rfl) dX11_run_106
  · refine r_aload_n 0 dX11_run_56 rfl rfl ?_
    refine r_gx (kz := 4) rfl hu dX11_run_57 kF_X11_42 kd_1 rfl rfl rfl fx_1_4 ?_
    refine r_gf (t := 0) (kz := 1) rfl hu dX11_run_60 kF_X11_107 kd_21 rfl rfl rfl ?_
    refine r_bipush dX11_run_63 (by decide) ⟨by decide, by decide⟩ ?_
    refine r_icmp_ge (tgt := 96) dX11_run_65 rfl (fun h15 => ?_) (fun h16 => ?_)
    · refine r_aload_n 0 dX11_run_96 rfl rfl ?_
      refine r_gx (kz := 4) rfl hu dX11_run_97 kF_X11_42 kd_1 rfl rfl rfl fx_1_4 ?_
      refine r_gf (t := 0) (kz := 1) rfl hu dX11_run_100 kF_X11_107 kd_21 rfl rfl rfl ?_
      refine r_iload 2 dX11_run_103 rfl ?_
      refine r_ok (fun h17 => ?_)
      refine r_isub dX11_run_105 h17 ?_
      exact r_iret rfl rfl (Or.inl rfl) dX11_run_106
    · refine r_aload_n 0 dX11_run_68 rfl rfl ?_
      refine r_aload_n 1 dX11_run_69 rfl rfl ?_
      refine r_aload_n 0 dX11_run_70 rfl rfl ?_
      refine r_gf (t := 2) (kz := 9) rfl hu dX11_run_71 kF_X11_71 kd_1 rfl rfl rfl ?_
      refine r_ok (fun h18 => ?_)
      refine r_gx (kz := 0) rfl hu dX11_run_74 kF_X11_170 h18 rfl rfl rfl (fxS0 _ h18) ?_
      refine r_aload_n 0 dX11_run_77 rfl rfl ?_
      refine r_gx (kz := 11) rfl hu dX11_run_78 kF_X11_77 kd_1 rfl rfl rfl fx_1_11 ?_
      refine r_iload 3 dX11_run_81 rfl ?_
      refine r_ok (fun h19 => ?_)
      refine r_iald hu dX11_run_83 kd_201 rfl (Or.inl rfl) rfl ln_201 h19 ?_
      refine r_ok (fun h20 => ?_)
      refine r_aalx hu dX11_run_84 (kdS _ h18).1 (Or.inr (Or.inl rfl)) rfl (kdS _ h18).2.1 h20 (fxSt _ h18 _ h20) ?_
      refine r_iload 3 dX11_run_85 rfl ?_
      refine r_ok (fun h21 => ?_)
      refine r_invv (a := 1) hu ⟨Nat.le_refl _, Nat.le_refl _⟩ dX11_run_87 kM_X11_302 (ci := 11) rfl kd_1 rfl rfl (by decide) (by decide) [(2, x3), (2, (M 1 9) + 4 + (M 201 x5)), (0, x5)] rfl (sk := []) rfl (Nat.le_of_ble_eq_true rfl) rfl (m_X11_runShow hu M x3 ((M 1 9) + 4 + (M 201 x5)) x5 h21 (kdSt _ h18 _ h20)) (fun r22 M23 => ?_)
      refine r_iincB 3 dX11_run_90 rfl ⟨by have := h19; omega, by have := h19; omega⟩ (by decide) (lf := fun y24 => [(5, 0, y24), (0, 2, 1), (3, 2, x3), (4, 0, x4)]) (fun _ => rfl) (fun y24 ey24 => ?_)
      refine r_goto (tgt := 47) dX11_run_93 rfl ?_
      refine r_sub [1, 2, 3, 0] (ls' := [(0, 2, 1), (3, 2, x3), (4, 0, x4), (5, 0, y24)]) rfl ?_
      exact hw47 M23 x3 x4 y24
set_option maxRecDepth 100000 in
theorem m_X11_run {g : GT} {n nf : Int} (hu : Up true nf n) (M : Mem) (a1 a2 : Int) : AM g true yX11_run cX11_run 6 (some .int) (7) n n nf [(2, 1), (0, a1), (0, a2)] M (f_X11_run M a1 a2) := by
  refine AM_of (by decide +kernel) (Nat.le_of_ble_eq_true rfl) (fun h => absurd h (Int.lt_irrefl n)) ?_
  show AW g true RX11 cX11_run 6 (some .int) (7) n n nf 0 [(0, 2, 1), (1, 0, a1), (2, 0, a2)] [] n M (f_X11_run M a1 a2)
  unfold f_X11_run
  refine r_aload_n 0 dX11_run_0 rfl rfl ?_
  refine r_iload_n 1 dX11_run_1 rfl rfl ?_
  refine r_inv (a := 1) hu ⟨Nat.le_refl _, Nat.le_refl _⟩ dX11_run_2 kM_X11_153 (ci := 11) rfl kd_1 rfl rfl (by decide) (by decide) [(0, a1)] rfl (sk := []) rfl (Nat.le_of_ble_eq_true rfl) rfl rfl (m_X11_lawAt hu M a1) (fun r1 M2 => ?_)
  refine r_astore_n dX11_run_5 rfl (by decide) (ls' := [(3, 2, r1), (0, 2, 1), (1, 0, a1), (2, 0, a2)]) rfl ?_
  refine r_aload_n 0 dX11_run_6 rfl rfl ?_
  refine r_ifnull (tgt := 24) dX11_run_7 rfl (fun h3 => ?_) (fun h4 => ?_)
  · refine r_iconst dX11_run_24 ⟨by decide, by decide⟩ ?_
    exact r_iret rfl rfl (Or.inl rfl) dX11_run_25
  · refine r_aload_n 1 dX11_run_10 rfl rfl ?_
    refine r_gf (t := 2) (kz := 9) rfl hu dX11_run_11 kF_X11_71 kd_1 rfl rfl rfl ?_
    refine r_ok (fun h5 => ?_)
    refine r_gf (t := 0) (kz := 6) rfl hu dX11_run_14 kF_X11_110 h5 rfl rfl rfl ?_
    refine r_if_eq (tgt := 24) dX11_run_17 rfl (fun h6 => ?_) (fun h7 => ?_)
    · refine r_iconst dX11_run_24 ⟨by decide, by decide⟩ ?_
      exact r_iret rfl rfl (Or.inl rfl) dX11_run_25
    · refine r_iload_n 3 dX11_run_20 rfl rfl ?_
      refine r_if_ge (tgt := 26) dX11_run_21 rfl (fun h8 => ?_) (fun h9 => ?_)
      · refine r_aload_n 1 dX11_run_26 rfl rfl ?_
        refine r_gx (kz := 6) rfl hu dX11_run_27 kF_X11_56 kd_1 rfl rfl rfl fx_1_6 ?_
        refine r_iload_n 3 dX11_run_30 rfl rfl ?_
        refine r_i2l dX11_run_31 ?_
        refine r_pf (t := 1) (kz := 0) rfl hu dX11_run_32 kF_X11_268 kd_67 rfl rfl rfl (fun h => absurd h (by decide)) rfl kX_2_0 (fun M10 eM10 => ?_)
        refine r_aload_n 1 dX11_run_35 rfl rfl ?_
        refine r_gx (kz := 4) rfl hu dX11_run_36 kF_X11_42 kd_1 rfl rfl rfl fx_1_4 ?_
        refine r_gf (t := 0) (kz := 1) rfl hu dX11_run_39 kF_X11_107 kd_21 rfl rfl rfl ?_
        refine r_istoreB dX11_run_42 (by decide) (lf := fun y11 => [(4, 0, y11), (3, 2, r1), (0, 2, 1), (1, 0, a1), (2, 0, a2)]) (fun _ => rfl) (fun y11 ey11 => ?_)
        refine r_iconst dX11_run_44 ⟨by decide, by decide⟩ ?_
        refine r_istore dX11_run_45 (by decide) (ls' := [(5, 0, 0), (4, 0, y11), (3, 2, r1), (0, 2, 1), (1, 0, a1), (2, 0, a2)]) rfl ?_
        refine r_sub [3, 2, 1, 0] (ls' := [(0, 2, 1), (3, 2, r1), (4, 0, y11), (5, 0, 0)]) rfl ?_
        exact wl3_aw (P := fun M x3 x4 x5 o => AW g true RX11 cX11_run 6 (some .int) (7) n n nf 47 [(0, 2, 1), (3, 2, x3), (4, 0, x4), (5, 0, x5)] [] n M (o)) (fun M x3 x4 x5 => aw_none) (fun w hw M x3 x4 x5 => tb_X11_run_47 hu w hw M x3 x4 x5) FU M10 r1 y11 0
      · refine r_iconst dX11_run_24 ⟨by decide, by decide⟩ ?_
        exact r_iret rfl rfl (Or.inl rfl) dX11_run_25
theorem dJ9_abs_067f4_0 : decode cJ9_abs_067f4 0 = .ok (.lload_n 0, 1) := by decide +kernel
theorem dJ9_abs_067f4_1 : decode cJ9_abs_067f4 1 = .ok (.lconst 0, 1) := by decide +kernel
theorem dJ9_abs_067f4_2 : decode cJ9_abs_067f4 2 = .ok (.lcmp, 1) := by decide +kernel
theorem dJ9_abs_067f4_3 : decode cJ9_abs_067f4 3 = .ok (.ifCond .ge 8, 3) := by decide +kernel
theorem dJ9_abs_067f4_6 : decode cJ9_abs_067f4 6 = .ok (.lload_n 0, 1) := by decide +kernel
theorem dJ9_abs_067f4_7 : decode cJ9_abs_067f4 7 = .ok (.lneg, 1) := by decide +kernel
theorem dJ9_abs_067f4_8 : decode cJ9_abs_067f4 8 = .ok (.goto 4, 3) := by decide +kernel
theorem dJ9_abs_067f4_11 : decode cJ9_abs_067f4 11 = .ok (.lload_n 0, 1) := by decide +kernel
theorem dJ9_abs_067f4_12 : decode cJ9_abs_067f4 12 = .ok (.lreturn, 1) := by decide +kernel
set_option maxRecDepth 100000 in
theorem m_J9_abs_067f4 {g : GT} {n nf : Int} (hu : Up true nf n) (M : Mem) (a0 : Int) : AM g true yJ9_abs_067f4 cJ9_abs_067f4 2 (some .long) (0) n n nf [(1, a0)] M (f_J9_abs_067f4 M a0) := by
  refine AM_ofF (by decide +kernel) (Nat.le_of_ble_eq_true rfl) (fun h => absurd h (Int.lt_irrefl n)) ?_
  show AW g true RJ9 cJ9_abs_067f4 2 (some .long) (0) n n nf 0 [(0, 1, a0)] [] n M (f_J9_abs_067f4 M a0)
  unfold f_J9_abs_067f4
  refine r_lload_n 0 dJ9_abs_067f4_0 rfl rfl ?_
  refine r_lconst (v := 0) dJ9_abs_067f4_1 (by decide) ⟨by decide, by decide⟩ ?_
  refine r_lif_ge (tgt := 11) dJ9_abs_067f4_2 dJ9_abs_067f4_3 rfl (fun h1 => ?_) (fun h2 => ?_)
  · refine r_lload_n 0 dJ9_abs_067f4_11 rfl rfl ?_
    exact r_lret rfl rfl dJ9_abs_067f4_12
  · refine r_lload_n 0 dJ9_abs_067f4_6 rfl rfl ?_
    refine r_ok (fun h3 => ?_)
    refine r_lneg dJ9_abs_067f4_7 h3 ?_
    refine r_goto (tgt := 12) dJ9_abs_067f4_8 rfl ?_
    exact r_lret rfl rfl dJ9_abs_067f4_12
theorem dX11_moved_0 : decode cX11_moved 0 = .ok (.aload_n 0, 1) := by decide +kernel
theorem dX11_moved_1 : decode cX11_moved 1 = .ok (.getfield 42, 3) := by decide +kernel
theorem dX11_moved_4 : decode cX11_moved 4 = .ok (.iload_n 1, 1) := by decide +kernel
theorem dX11_moved_5 : decode cX11_moved 5 = .ok (.invokevirtual 306, 3) := by decide +kernel
theorem dX11_moved_8 : decode cX11_moved 8 = .ok (.astore 4, 2) := by decide +kernel
theorem dX11_moved_10 : decode cX11_moved 10 = .ok (.aload 4, 2) := by decide +kernel
theorem dX11_moved_12 : decode cX11_moved 12 = .ok (.ifnull 19, 3) := by decide +kernel
theorem dX11_moved_15 : decode cX11_moved 15 = .ok (.aload 4, 2) := by decide +kernel
theorem dX11_moved_17 : decode cX11_moved 17 = .ok (.getfield 310, 3) := by decide +kernel
theorem dX11_moved_20 : decode cX11_moved 20 = .ok (.ifCond .ne 11, 3) := by decide +kernel
theorem dX11_moved_23 : decode cX11_moved 23 = .ok (.iload_n 2, 1) := by decide +kernel
theorem dX11_moved_24 : decode cX11_moved 24 = .ok (.ifCond .ne 9, 3) := by decide +kernel
theorem dX11_moved_27 : decode cX11_moved 27 = .ok (.iload_n 3, 1) := by decide +kernel
theorem dX11_moved_28 : decode cX11_moved 28 = .ok (.ifCond .ne 5, 3) := by decide +kernel
theorem dX11_moved_31 : decode cX11_moved 31 = .ok (.iconst 0, 1) := by decide +kernel
theorem dX11_moved_32 : decode cX11_moved 32 = .ok (.ireturn, 1) := by decide +kernel
theorem dX11_moved_33 : decode cX11_moved 33 = .ok (.iload_n 2, 1) := by decide +kernel
theorem dX11_moved_34 : decode cX11_moved 34 = .ok (.i2l, 1) := by decide +kernel
theorem dX11_moved_35 : decode cX11_moved 35 = .ok (.invokestatic 313, 3) := by decide +kernel
theorem dX11_moved_38 : decode cX11_moved 38 = .ok (.ldc2_w 316, 3) := by decide +kernel
theorem dX11_moved_41 : decode cX11_moved 41 = .ok (.lcmp, 1) := by decide +kernel
theorem dX11_moved_42 : decode cX11_moved 42 = .ok (.ifCond .ge 15, 3) := by decide +kernel
theorem dX11_moved_45 : decode cX11_moved 45 = .ok (.iload_n 3, 1) := by decide +kernel
theorem dX11_moved_46 : decode cX11_moved 46 = .ok (.i2l, 1) := by decide +kernel
theorem dX11_moved_47 : decode cX11_moved 47 = .ok (.invokestatic 313, 3) := by decide +kernel
theorem dX11_moved_50 : decode cX11_moved 50 = .ok (.ldc2_w 318, 3) := by decide +kernel
theorem dX11_moved_53 : decode cX11_moved 53 = .ok (.lcmp, 1) := by decide +kernel
theorem dX11_moved_54 : decode cX11_moved 54 = .ok (.ifCond .lt 5, 3) := by decide +kernel
theorem dX11_moved_57 : decode cX11_moved 57 = .ok (.iconst 0, 1) := by decide +kernel
theorem dX11_moved_58 : decode cX11_moved 58 = .ok (.ireturn, 1) := by decide +kernel
theorem dX11_moved_59 : decode cX11_moved 59 = .ok (.aload 4, 2) := by decide +kernel
theorem dX11_moved_61 : decode cX11_moved 61 = .ok (.getfield 320, 3) := by decide +kernel
theorem dX11_moved_64 : decode cX11_moved 64 = .ok (.bipush 12, 2) := by decide +kernel
theorem dX11_moved_66 : decode cX11_moved 66 = .ok (.irem, 1) := by decide +kernel
theorem dX11_moved_67 : decode cX11_moved 67 = .ok (.iload_n 2, 1) := by decide +kernel
theorem dX11_moved_68 : decode cX11_moved 68 = .ok (.iadd, 1) := by decide +kernel
theorem dX11_moved_69 : decode cX11_moved 69 = .ok (.istore 5, 2) := by decide +kernel
theorem dX11_moved_71 : decode cX11_moved 71 = .ok (.aload 4, 2) := by decide +kernel
theorem dX11_moved_73 : decode cX11_moved 73 = .ok (.getfield 320, 3) := by decide +kernel
theorem dX11_moved_76 : decode cX11_moved 76 = .ok (.bipush 12, 2) := by decide +kernel
theorem dX11_moved_78 : decode cX11_moved 78 = .ok (.idiv, 1) := by decide +kernel
theorem dX11_moved_79 : decode cX11_moved 79 = .ok (.iload_n 3, 1) := by decide +kernel
theorem dX11_moved_80 : decode cX11_moved 80 = .ok (.iadd, 1) := by decide +kernel
theorem dX11_moved_81 : decode cX11_moved 81 = .ok (.istore 6, 2) := by decide +kernel
theorem dX11_moved_83 : decode cX11_moved 83 = .ok (.iload 5, 2) := by decide +kernel
theorem dX11_moved_85 : decode cX11_moved 85 = .ok (.iload 6, 2) := by decide +kernel
theorem dX11_moved_87 : decode cX11_moved 87 = .ok (.invokestatic 196, 3) := by decide +kernel
theorem dX11_moved_90 : decode cX11_moved 90 = .ok (.ifCond .ne 5, 3) := by decide +kernel
theorem dX11_moved_93 : decode cX11_moved 93 = .ok (.iconst 0, 1) := by decide +kernel
theorem dX11_moved_94 : decode cX11_moved 94 = .ok (.ireturn, 1) := by decide +kernel
theorem dX11_moved_95 : decode cX11_moved 95 = .ok (.aload 4, 2) := by decide +kernel
theorem dX11_moved_97 : decode cX11_moved 97 = .ok (.iload 5, 2) := by decide +kernel
theorem dX11_moved_99 : decode cX11_moved 99 = .ok (.iload 6, 2) := by decide +kernel
theorem dX11_moved_101 : decode cX11_moved 101 = .ok (.invokestatic 203, 3) := by decide +kernel
theorem dX11_moved_104 : decode cX11_moved 104 = .ok (.putfield 320, 3) := by decide +kernel
theorem dX11_moved_107 : decode cX11_moved 107 = .ok (.aload 4, 2) := by decide +kernel
theorem dX11_moved_109 : decode cX11_moved 109 = .ok (.iconst 1, 1) := by decide +kernel
theorem dX11_moved_110 : decode cX11_moved 110 = .ok (.putfield 310, 3) := by decide +kernel
theorem dX11_moved_113 : decode cX11_moved 113 = .ok (.iconst 1, 1) := by decide +kernel
theorem dX11_moved_114 : decode cX11_moved 114 = .ok (.ireturn, 1) := by decide +kernel
set_option maxRecDepth 100000 in
theorem tj_X11_moved_33 {g : GT} {n nf : Int} (hu : Up true nf n) (a2 a3 : Int) (M : Mem) (x4 : Int) : AW g true RX11 cX11_moved 7 (some .boolean) (1) n n nf 33 [(2, 0, a2), (3, 0, a3), (4, 2, x4)] [] n M (j_X11_moved_33 a2 a3 M x4) := by
  unfold j_X11_moved_33
  refine r_iload_n 0 dX11_moved_33 rfl rfl ?_
  refine r_i2l dX11_moved_34 ?_
  refine r_ins (a := 0) ⟨Nat.le_refl _, Nat.le_refl _⟩ dX11_moved_35 kM_X11_313 (by decide) (by decide) [(1, a2)] rfl (sk := []) rfl (Nat.le_of_ble_eq_true rfl) rfl rfl (m_J9_abs_067f4 hu M a2) (fun r12 M13 => ?_)
  refine r_ldc2 (v := 12) dX11_moved_38 kC_X11_316 rfl ⟨by decide, by decide⟩ ?_
  refine r_lif_ge (tgt := 57) dX11_moved_41 dX11_moved_42 rfl (fun h14 => ?_) (fun h15 => ?_)
  · refine r_iconst dX11_moved_57 ⟨by decide, by decide⟩ ?_
    exact r_iret rfl rfl (Or.inr ⟨rfl, Or.inl rfl⟩) dX11_moved_58
  · refine r_iload_n 1 dX11_moved_45 rfl rfl ?_
    refine r_i2l dX11_moved_46 ?_
    refine r_ins (a := 0) ⟨Nat.le_refl _, Nat.le_refl _⟩ dX11_moved_47 kM_X11_313 (by decide) (by decide) [(1, a3)] rfl (sk := []) rfl (Nat.le_of_ble_eq_true rfl) rfl rfl (m_J9_abs_067f4 hu M13 a3) (fun r16 M17 => ?_)
    refine r_ldc2 (v := 8) dX11_moved_50 kC_X11_318 rfl ⟨by decide, by decide⟩ ?_
    refine r_lif_lt (tgt := 59) dX11_moved_53 dX11_moved_54 rfl (fun h18 => ?_) (fun h19 => ?_)
    · refine r_aload 2 dX11_moved_59 rfl ?_
      refine r_ok (fun h20 => ?_)
      refine r_gf (t := 0) (kz := 1) rfl hu dX11_moved_61 kF_X11_320 h20 rfl rfl rfl ?_
      refine r_bipush dX11_moved_64 (by decide) ⟨by decide, by decide⟩ ?_
      refine r_ok (fun h21 => ?_)
      refine r_iremP dX11_moved_66 ⟨h21, by decide⟩ ?_
      refine r_iload_n 0 dX11_moved_67 rfl rfl ?_
      refine r_ok (fun h22 => ?_)
      refine r_iadd dX11_moved_68 h22 ?_
      refine r_istoreB dX11_moved_69 (by decide) (lf := fun y23 => [(5, 0, y23), (2, 0, a2), (3, 0, a3), (4, 2, x4)]) (fun _ => rfl) (fun y23 ey23 => ?_)
      refine r_aload 3 dX11_moved_71 rfl ?_
      refine r_gf (t := 0) (kz := 1) rfl hu dX11_moved_73 kF_X11_320 h20 rfl rfl rfl ?_
      refine r_bipush dX11_moved_76 (by decide) ⟨by decide, by decide⟩ ?_
      refine r_idivP dX11_moved_78 ⟨h21, by decide⟩ ?_
      refine r_iload_n 2 dX11_moved_79 rfl rfl ?_
      refine r_ok (fun h24 => ?_)
      refine r_iadd dX11_moved_80 h24 ?_
      refine r_istoreB dX11_moved_81 (by decide) (lf := fun y25 => [(6, 0, y25), (5, 0, y23), (2, 0, a2), (3, 0, a3), (4, 2, x4)]) (fun _ => rfl) (fun y25 ey25 => ?_)
      refine r_iload 1 dX11_moved_83 rfl ?_
      refine r_iload 0 dX11_moved_85 rfl ?_
      refine r_ins (a := 0) ⟨Nat.le_refl _, Nat.le_refl _⟩ dX11_moved_87 kM_X11_196 (by decide) (by decide) [(0, y23), (0, y25)] rfl (sk := []) rfl (Nat.le_of_ble_eq_true rfl) rfl rfl (m_X11_isSquare hu M17 y23 y25) (fun r26 M27 => ?_)
      refine r_if_ne (tgt := 95) dX11_moved_90 rfl (fun h28 => ?_) (fun h29 => ?_)
      · refine r_iconst dX11_moved_93 ⟨by decide, by decide⟩ ?_
        exact r_iret rfl rfl (Or.inr ⟨rfl, Or.inl rfl⟩) dX11_moved_94
      · refine r_aload 4 dX11_moved_95 rfl ?_
        refine r_iload 1 dX11_moved_97 rfl ?_
        refine r_iload 0 dX11_moved_99 rfl ?_
        refine r_ins (a := 0) ⟨Nat.le_refl _, Nat.le_refl _⟩ dX11_moved_101 kM_X11_203 (by decide) (by decide) [(0, y23), (0, y25)] rfl (sk := [(2, x4)]) rfl (Nat.le_of_ble_eq_true rfl) rfl rfl (m_X11_squareAt hu M27 y23 y25) (fun r30 M31 => ?_)
        refine r_pf (t := 0) (kz := 1) rfl hu dX11_moved_104 kF_X11_320 h20 rfl rfl rfl (fun h => absurd h (by decide)) rfl kX_10_1 (fun M32 eM32 => ?_)
        refine r_aload 4 dX11_moved_107 rfl ?_
        refine r_iconst dX11_moved_109 ⟨by decide, by decide⟩ ?_
        refine r_pf (t := 0) (kz := 7) rfl hu dX11_moved_110 kF_X11_310 h20 rfl rfl rfl (fun _ => Or.inr rfl) rfl kX_10_7 (fun M33 eM33 => ?_)
        refine r_iconst dX11_moved_113 ⟨by decide, by decide⟩ ?_
        exact r_iret rfl rfl (Or.inr ⟨rfl, Or.inr rfl⟩) dX11_moved_114
    · refine r_iconst dX11_moved_57 ⟨by decide, by decide⟩ ?_
      exact r_iret rfl rfl (Or.inr ⟨rfl, Or.inl rfl⟩) dX11_moved_58
set_option maxRecDepth 100000 in
theorem m_X11_moved {g : GT} {n nf : Int} (hu : Up true nf n) (M : Mem) (a1 a2 a3 : Int) : AM g true yX11_moved cX11_moved 7 (some .boolean) (1) n n nf [(2, 1), (0, a1), (0, a2), (0, a3)] M (f_X11_moved M a1 a2 a3) := by
  refine AM_of (by decide +kernel) (Nat.le_of_ble_eq_true rfl) (fun h => absurd h (Int.lt_irrefl n)) ?_
  show AW g true RX11 cX11_moved 7 (some .boolean) (1) n n nf 0 [(0, 2, 1), (1, 0, a1), (2, 0, a2), (3, 0, a3)] [] n M (f_X11_moved M a1 a2 a3)
  unfold f_X11_moved
  refine r_aload_n 0 dX11_moved_0 rfl rfl ?_
  refine r_gx (kz := 4) rfl hu dX11_moved_1 kF_X11_42 kd_1 rfl rfl rfl fx_1_4 ?_
  refine r_iload_n 1 dX11_moved_4 rfl rfl ?_
  refine r_inv (a := 21) hu ⟨Nat.le_refl _, Nat.le_refl _⟩ dX11_moved_5 kM_X11_306 (ci := 0) rfl kd_21 rfl rfl (by decide) (by decide) [(0, a1)] rfl (sk := []) rfl (Nat.le_of_ble_eq_true rfl) rfl rfl (m_X0_trialAt hu M a1) (fun r1 M2 => ?_)
  refine r_astore dX11_moved_8 (by decide) (ls' := [(4, 2, r1), (0, 2, 1), (1, 0, a1), (2, 0, a2), (3, 0, a3)]) rfl ?_
  refine r_aload 0 dX11_moved_10 rfl ?_
  refine r_ifnull (tgt := 31) dX11_moved_12 rfl (fun h3 => ?_) (fun h4 => ?_)
  · refine r_iconst dX11_moved_31 ⟨by decide, by decide⟩ ?_
    exact r_iret rfl rfl (Or.inr ⟨rfl, Or.inl rfl⟩) dX11_moved_32
  · refine r_aload 0 dX11_moved_15 rfl ?_
    refine r_ok (fun h5 => ?_)
    refine r_gf (t := 0) (kz := 7) rfl hu dX11_moved_17 kF_X11_310 h5 rfl rfl rfl ?_
    refine r_if_ne (tgt := 31) dX11_moved_20 rfl (fun h6 => ?_) (fun h7 => ?_)
    · refine r_iload_n 3 dX11_moved_23 rfl rfl ?_
      refine r_if_ne (tgt := 33) dX11_moved_24 rfl (fun h8 => ?_) (fun h9 => ?_)
      · refine r_iload_n 4 dX11_moved_27 rfl rfl ?_
        refine r_if_ne (tgt := 33) dX11_moved_28 rfl (fun h10 => ?_) (fun h11 => ?_)
        · refine r_iconst dX11_moved_31 ⟨by decide, by decide⟩ ?_
          exact r_iret rfl rfl (Or.inr ⟨rfl, Or.inl rfl⟩) dX11_moved_32
        · refine r_sub [3, 4, 0] (ls' := [(2, 0, a2), (3, 0, a3), (4, 2, r1)]) rfl ?_
          exact tj_X11_moved_33 hu a2 a3 M2 r1
      · refine r_sub [3, 4, 0] (ls' := [(2, 0, a2), (3, 0, a3), (4, 2, r1)]) rfl ?_
        exact tj_X11_moved_33 hu a2 a3 M2 r1
    · refine r_iconst dX11_moved_31 ⟨by decide, by decide⟩ ?_
      exact r_iret rfl rfl (Or.inr ⟨rfl, Or.inl rfl⟩) dX11_moved_32
theorem dX11_voice_0 : decode cX11_voice 0 = .ok (.aload_n 0, 1) := by decide +kernel
theorem dX11_voice_1 : decode cX11_voice 1 = .ok (.getfield 42, 3) := by decide +kernel
theorem dX11_voice_4 : decode cX11_voice 4 = .ok (.iload_n 1, 1) := by decide +kernel
theorem dX11_voice_5 : decode cX11_voice 5 = .ok (.invokevirtual 306, 3) := by decide +kernel
theorem dX11_voice_8 : decode cX11_voice 8 = .ok (.astore_n 3, 1) := by decide +kernel
theorem dX11_voice_9 : decode cX11_voice 9 = .ok (.aload_n 3, 1) := by decide +kernel
theorem dX11_voice_10 : decode cX11_voice 10 = .ok (.ifnull 23, 3) := by decide +kernel
theorem dX11_voice_13 : decode cX11_voice 13 = .ok (.aload_n 3, 1) := by decide +kernel
theorem dX11_voice_14 : decode cX11_voice 14 = .ok (.getfield 323, 3) := by decide +kernel
theorem dX11_voice_17 : decode cX11_voice 17 = .ok (.iconst (-1), 1) := by decide +kernel
theorem dX11_voice_18 : decode cX11_voice 18 = .ok (.if_icmp .ne 15, 3) := by decide +kernel
theorem dX11_voice_21 : decode cX11_voice 21 = .ok (.aload_n 0, 1) := by decide +kernel
theorem dX11_voice_22 : decode cX11_voice 22 = .ok (.aload_n 3, 1) := by decide +kernel
theorem dX11_voice_23 : decode cX11_voice 23 = .ok (.getfield 326, 3) := by decide +kernel
theorem dX11_voice_26 : decode cX11_voice 26 = .ok (.iload_n 2, 1) := by decide +kernel
theorem dX11_voice_27 : decode cX11_voice 27 = .ok (.invokevirtual 265, 3) := by decide +kernel
theorem dX11_voice_30 : decode cX11_voice 30 = .ok (.ifCond .ne 5, 3) := by decide +kernel
theorem dX11_voice_33 : decode cX11_voice 33 = .ok (.iconst 0, 1) := by decide +kernel
theorem dX11_voice_34 : decode cX11_voice 34 = .ok (.ireturn, 1) := by decide +kernel
theorem dX11_voice_35 : decode cX11_voice 35 = .ok (.aload_n 3, 1) := by decide +kernel
theorem dX11_voice_36 : decode cX11_voice 36 = .ok (.iload_n 2, 1) := by decide +kernel
theorem dX11_voice_37 : decode cX11_voice 37 = .ok (.putfield 323, 3) := by decide +kernel
theorem dX11_voice_40 : decode cX11_voice 40 = .ok (.iconst 1, 1) := by decide +kernel
theorem dX11_voice_41 : decode cX11_voice 41 = .ok (.ireturn, 1) := by decide +kernel
set_option maxRecDepth 100000 in
theorem m_X11_voice {g : GT} {n nf : Int} (hu : Up true nf n) (M : Mem) (a1 a2 : Int) : AM g true yX11_voice cX11_voice 4 (some .boolean) (3) n n nf [(2, 1), (0, a1), (0, a2)] M (f_X11_voice M a1 a2) := by
  refine AM_of (by decide +kernel) (Nat.le_of_ble_eq_true rfl) (fun h => absurd h (Int.lt_irrefl n)) ?_
  show AW g true RX11 cX11_voice 4 (some .boolean) (3) n n nf 0 [(0, 2, 1), (1, 0, a1), (2, 0, a2)] [] n M (f_X11_voice M a1 a2)
  unfold f_X11_voice
  refine r_aload_n 0 dX11_voice_0 rfl rfl ?_
  refine r_gx (kz := 4) rfl hu dX11_voice_1 kF_X11_42 kd_1 rfl rfl rfl fx_1_4 ?_
  refine r_iload_n 1 dX11_voice_4 rfl rfl ?_
  refine r_inv (a := 21) hu ⟨Nat.le_refl _, Nat.le_refl _⟩ dX11_voice_5 kM_X11_306 (ci := 0) rfl kd_21 rfl rfl (by decide) (by decide) [(0, a1)] rfl (sk := []) rfl (Nat.le_of_ble_eq_true rfl) rfl rfl (m_X0_trialAt hu M a1) (fun r1 M2 => ?_)
  refine r_astore_n dX11_voice_8 rfl (by decide) (ls' := [(3, 2, r1), (0, 2, 1), (1, 0, a1), (2, 0, a2)]) rfl ?_
  refine r_aload_n 0 dX11_voice_9 rfl rfl ?_
  refine r_ifnull (tgt := 33) dX11_voice_10 rfl (fun h3 => ?_) (fun h4 => ?_)
  · refine r_iconst dX11_voice_33 ⟨by decide, by decide⟩ ?_
    exact r_iret rfl rfl (Or.inr ⟨rfl, Or.inl rfl⟩) dX11_voice_34
  · refine r_aload_n 0 dX11_voice_13 rfl rfl ?_
    refine r_ok (fun h5 => ?_)
    refine r_gf (t := 0) (kz := 8) rfl hu dX11_voice_14 kF_X11_323 h5 rfl rfl rfl ?_
    refine r_iconst dX11_voice_17 ⟨by decide, by decide⟩ ?_
    refine r_icmp_ne (tgt := 33) dX11_voice_18 rfl (fun h6 => ?_) (fun h7 => ?_)
    · refine r_aload_n 1 dX11_voice_21 rfl rfl ?_
      refine r_aload_n 0 dX11_voice_22 rfl rfl ?_
      refine r_gf (t := 0) (kz := 0) rfl hu dX11_voice_23 kF_X11_326 h5 rfl rfl rfl ?_
      refine r_iload_n 3 dX11_voice_26 rfl rfl ?_
      refine r_inv (a := 1) hu ⟨Nat.le_refl _, Nat.le_refl _⟩ dX11_voice_27 kM_X11_265 (ci := 11) rfl kd_1 rfl rfl (by decide) (by decide) [(0, M2 r1 0), (0, a2)] rfl (sk := []) rfl (Nat.le_of_ble_eq_true rfl) rfl rfl (m_X11_isSort hu M2 (M2 r1 0) a2) (fun r8 M9 => ?_)
      refine r_if_ne (tgt := 35) dX11_voice_30 rfl (fun h10 => ?_) (fun h11 => ?_)
      · refine r_iconst dX11_voice_33 ⟨by decide, by decide⟩ ?_
        exact r_iret rfl rfl (Or.inr ⟨rfl, Or.inl rfl⟩) dX11_voice_34
      · refine r_aload_n 0 dX11_voice_35 rfl rfl ?_
        refine r_iload_n 3 dX11_voice_36 rfl rfl ?_
        refine r_pf (t := 0) (kz := 8) rfl hu dX11_voice_37 kF_X11_323 h5 rfl rfl rfl (fun h => absurd h (by decide)) rfl kX_10_8 (fun M12 eM12 => ?_)
        refine r_iconst dX11_voice_40 ⟨by decide, by decide⟩ ?_
        exact r_iret rfl rfl (Or.inr ⟨rfl, Or.inr rfl⟩) dX11_voice_41
    · refine r_iconst dX11_voice_33 ⟨by decide, by decide⟩ ?_
      exact r_iret rfl rfl (Or.inr ⟨rfl, Or.inl rfl⟩) dX11_voice_34
theorem dX11_undo_0 : decode cX11_undo 0 = .ok (.aload_n 0, 1) := by decide +kernel
theorem dX11_undo_1 : decode cX11_undo 1 = .ok (.getfield 42, 3) := by decide +kernel
theorem dX11_undo_4 : decode cX11_undo 4 = .ok (.getfield 107, 3) := by decide +kernel
theorem dX11_undo_7 : decode cX11_undo 7 = .ok (.ifCond .ne 5, 3) := by decide +kernel
theorem dX11_undo_10 : decode cX11_undo 10 = .ok (.iconst (-1), 1) := by decide +kernel
theorem dX11_undo_11 : decode cX11_undo 11 = .ok (.ireturn, 1) := by decide +kernel
theorem dX11_undo_12 : decode cX11_undo 12 = .ok (.aload_n 0, 1) := by decide +kernel
theorem dX11_undo_13 : decode cX11_undo 13 = .ok (.getfield 42, 3) := by decide +kernel
theorem dX11_undo_16 : decode cX11_undo 16 = .ok (.dup, 1) := by decide +kernel
theorem dX11_undo_17 : decode cX11_undo 17 = .ok (.getfield 107, 3) := by decide +kernel
theorem dX11_undo_20 : decode cX11_undo 20 = .ok (.iconst 1, 1) := by decide +kernel
theorem dX11_undo_21 : decode cX11_undo 21 = .ok (.isub, 1) := by decide +kernel
theorem dX11_undo_22 : decode cX11_undo 22 = .ok (.putfield 107, 3) := by decide +kernel
theorem dX11_undo_25 : decode cX11_undo 25 = .ok (.aload_n 0, 1) := by decide +kernel
theorem dX11_undo_26 : decode cX11_undo 26 = .ok (.getfield 42, 3) := by decide +kernel
theorem dX11_undo_29 : decode cX11_undo 29 = .ok (.getfield 107, 3) := by decide +kernel
theorem dX11_undo_32 : decode cX11_undo 32 = .ok (.ireturn, 1) := by decide +kernel
set_option maxRecDepth 100000 in
theorem m_X11_undo {g : GT} {n nf : Int} (hu : Up true nf n) (M : Mem) : AM g true yX11_undo cX11_undo 1 (some .int) (0) n n nf [(2, 1)] M (f_X11_undo M) := by
  refine AM_of (by decide +kernel) (Nat.le_of_ble_eq_true rfl) (fun h => absurd h (Int.lt_irrefl n)) ?_
  show AW g true RX11 cX11_undo 1 (some .int) (0) n n nf 0 [(0, 2, 1)] [] n M (f_X11_undo M)
  unfold f_X11_undo
  refine r_aload_n 0 dX11_undo_0 rfl rfl ?_
  refine r_gx (kz := 4) rfl hu dX11_undo_1 kF_X11_42 kd_1 rfl rfl rfl fx_1_4 ?_
  refine r_gf (t := 0) (kz := 1) rfl hu dX11_undo_4 kF_X11_107 kd_21 rfl rfl rfl ?_
  refine r_if_ne (tgt := 12) dX11_undo_7 rfl (fun h1 => ?_) (fun h2 => ?_)
  · refine r_iconst dX11_undo_10 ⟨by decide, by decide⟩ ?_
    exact r_iret rfl rfl (Or.inl rfl) dX11_undo_11
  · refine r_aload_n 0 dX11_undo_12 rfl rfl ?_
    refine r_gx (kz := 4) rfl hu dX11_undo_13 kF_X11_42 kd_1 rfl rfl rfl fx_1_4 ?_
    refine r_dup dX11_undo_16 (nz2 _) ?_
    refine r_gf (t := 0) (kz := 1) rfl hu dX11_undo_17 kF_X11_107 kd_21 rfl rfl rfl ?_
    refine r_iconst dX11_undo_20 ⟨by decide, by decide⟩ ?_
    refine r_ok (fun h3 => ?_)
    refine r_isub dX11_undo_21 h3 ?_
    refine r_pf (t := 0) (kz := 1) rfl hu dX11_undo_22 kF_X11_107 kd_21 rfl rfl rfl (fun h => absurd h (by decide)) rfl kX_0_1 (fun M4 eM4 => ?_)
    refine r_aload_n 0 dX11_undo_25 rfl rfl ?_
    refine r_gx (kz := 4) rfl hu dX11_undo_26 kF_X11_42 kd_1 rfl rfl rfl fx_1_4 ?_
    refine r_gf (t := 0) (kz := 1) rfl hu dX11_undo_29 kF_X11_107 kd_21 rfl rfl rfl ?_
    exact r_iret rfl rfl (Or.inl rfl) dX11_undo_32
theorem dX11_tried_0 : decode cX11_tried 0 = .ok (.aload_n 0, 1) := by decide +kernel
theorem dX11_tried_1 : decode cX11_tried 1 = .ok (.getfield 42, 3) := by decide +kernel
theorem dX11_tried_4 : decode cX11_tried 4 = .ok (.iload_n 1, 1) := by decide +kernel
theorem dX11_tried_5 : decode cX11_tried 5 = .ok (.invokevirtual 306, 3) := by decide +kernel
theorem dX11_tried_8 : decode cX11_tried 8 = .ok (.astore_n 3, 1) := by decide +kernel
theorem dX11_tried_9 : decode cX11_tried 9 = .ok (.aload_n 3, 1) := by decide +kernel
theorem dX11_tried_10 : decode cX11_tried 10 = .ok (.ifnonnull 5, 3) := by decide +kernel
theorem dX11_tried_13 : decode cX11_tried 13 = .ok (.iconst (-1), 1) := by decide +kernel
theorem dX11_tried_14 : decode cX11_tried 14 = .ok (.ireturn, 1) := by decide +kernel
theorem dX11_tried_15 : decode cX11_tried 15 = .ok (.iload_n 2, 1) := by decide +kernel
theorem dX11_tried_16 : decode cX11_tried 16 = .ok (.tableswitch 165 0 11 #[64, 69, 77, 85, 90, 95, 100, 113, 118, 131, 147, 160], 64) := by decide +kernel
theorem dX11_tried_80 : decode cX11_tried 80 = .ok (.aload_n 3, 1) := by decide +kernel
theorem dX11_tried_81 : decode cX11_tried 81 = .ok (.getfield 326, 3) := by decide +kernel
theorem dX11_tried_84 : decode cX11_tried 84 = .ok (.ireturn, 1) := by decide +kernel
theorem dX11_tried_85 : decode cX11_tried 85 = .ok (.aload_n 3, 1) := by decide +kernel
theorem dX11_tried_86 : decode cX11_tried 86 = .ok (.getfield 320, 3) := by decide +kernel
theorem dX11_tried_89 : decode cX11_tried 89 = .ok (.bipush 12, 2) := by decide +kernel
theorem dX11_tried_91 : decode cX11_tried 91 = .ok (.irem, 1) := by decide +kernel
theorem dX11_tried_92 : decode cX11_tried 92 = .ok (.ireturn, 1) := by decide +kernel
theorem dX11_tried_93 : decode cX11_tried 93 = .ok (.aload_n 3, 1) := by decide +kernel
theorem dX11_tried_94 : decode cX11_tried 94 = .ok (.getfield 320, 3) := by decide +kernel
theorem dX11_tried_97 : decode cX11_tried 97 = .ok (.bipush 12, 2) := by decide +kernel
theorem dX11_tried_99 : decode cX11_tried 99 = .ok (.idiv, 1) := by decide +kernel
theorem dX11_tried_100 : decode cX11_tried 100 = .ok (.ireturn, 1) := by decide +kernel
theorem dX11_tried_101 : decode cX11_tried 101 = .ok (.aload_n 3, 1) := by decide +kernel
theorem dX11_tried_102 : decode cX11_tried 102 = .ok (.getfield 329, 3) := by decide +kernel
theorem dX11_tried_105 : decode cX11_tried 105 = .ok (.ireturn, 1) := by decide +kernel
theorem dX11_tried_106 : decode cX11_tried 106 = .ok (.aload_n 3, 1) := by decide +kernel
theorem dX11_tried_107 : decode cX11_tried 107 = .ok (.getfield 332, 3) := by decide +kernel
theorem dX11_tried_110 : decode cX11_tried 110 = .ok (.ireturn, 1) := by decide +kernel
theorem dX11_tried_111 : decode cX11_tried 111 = .ok (.aload_n 3, 1) := by decide +kernel
theorem dX11_tried_112 : decode cX11_tried 112 = .ok (.getfield 335, 3) := by decide +kernel
theorem dX11_tried_115 : decode cX11_tried 115 = .ok (.ireturn, 1) := by decide +kernel
theorem dX11_tried_116 : decode cX11_tried 116 = .ok (.aload_n 3, 1) := by decide +kernel
theorem dX11_tried_117 : decode cX11_tried 117 = .ok (.getfield 337, 3) := by decide +kernel
theorem dX11_tried_120 : decode cX11_tried 120 = .ok (.ifCond .eq 7, 3) := by decide +kernel
theorem dX11_tried_123 : decode cX11_tried 123 = .ok (.iconst 1, 1) := by decide +kernel
theorem dX11_tried_124 : decode cX11_tried 124 = .ok (.goto 4, 3) := by decide +kernel
theorem dX11_tried_127 : decode cX11_tried 127 = .ok (.iconst 0, 1) := by decide +kernel
theorem dX11_tried_128 : decode cX11_tried 128 = .ok (.ireturn, 1) := by decide +kernel
theorem dX11_tried_129 : decode cX11_tried 129 = .ok (.aload_n 3, 1) := by decide +kernel
theorem dX11_tried_130 : decode cX11_tried 130 = .ok (.getfield 340, 3) := by decide +kernel
theorem dX11_tried_133 : decode cX11_tried 133 = .ok (.ireturn, 1) := by decide +kernel
theorem dX11_tried_134 : decode cX11_tried 134 = .ok (.aload_n 3, 1) := by decide +kernel
theorem dX11_tried_135 : decode cX11_tried 135 = .ok (.invokevirtual 343, 3) := by decide +kernel
theorem dX11_tried_138 : decode cX11_tried 138 = .ok (.ifCond .eq 7, 3) := by decide +kernel
theorem dX11_tried_141 : decode cX11_tried 141 = .ok (.iconst 1, 1) := by decide +kernel
theorem dX11_tried_142 : decode cX11_tried 142 = .ok (.goto 4, 3) := by decide +kernel
theorem dX11_tried_145 : decode cX11_tried 145 = .ok (.iconst 0, 1) := by decide +kernel
theorem dX11_tried_146 : decode cX11_tried 146 = .ok (.ireturn, 1) := by decide +kernel
theorem dX11_tried_147 : decode cX11_tried 147 = .ok (.aload_n 0, 1) := by decide +kernel
theorem dX11_tried_148 : decode cX11_tried 148 = .ok (.getfield 35, 3) := by decide +kernel
theorem dX11_tried_151 : decode cX11_tried 151 = .ok (.aload_n 3, 1) := by decide +kernel
theorem dX11_tried_152 : decode cX11_tried 152 = .ok (.getfield 320, 3) := by decide +kernel
theorem dX11_tried_155 : decode cX11_tried 155 = .ok (.aload_n 3, 1) := by decide +kernel
theorem dX11_tried_156 : decode cX11_tried 156 = .ok (.getfield 329, 3) := by decide +kernel
theorem dX11_tried_159 : decode cX11_tried 159 = .ok (.invokevirtual 224, 3) := by decide +kernel
theorem dX11_tried_162 : decode cX11_tried 162 = .ok (.ireturn, 1) := by decide +kernel
theorem dX11_tried_163 : decode cX11_tried 163 = .ok (.aload_n 3, 1) := by decide +kernel
theorem dX11_tried_164 : decode cX11_tried 164 = .ok (.getfield 310, 3) := by decide +kernel
theorem dX11_tried_167 : decode cX11_tried 167 = .ok (.ifCond .eq 7, 3) := by decide +kernel
theorem dX11_tried_170 : decode cX11_tried 170 = .ok (.iconst 1, 1) := by decide +kernel
theorem dX11_tried_171 : decode cX11_tried 171 = .ok (.goto 4, 3) := by decide +kernel
theorem dX11_tried_174 : decode cX11_tried 174 = .ok (.iconst 0, 1) := by decide +kernel
theorem dX11_tried_175 : decode cX11_tried 175 = .ok (.ireturn, 1) := by decide +kernel
theorem dX11_tried_176 : decode cX11_tried 176 = .ok (.aload_n 3, 1) := by decide +kernel
theorem dX11_tried_177 : decode cX11_tried 177 = .ok (.getfield 323, 3) := by decide +kernel
theorem dX11_tried_180 : decode cX11_tried 180 = .ok (.ireturn, 1) := by decide +kernel
theorem dX11_tried_181 : decode cX11_tried 181 = .ok (.iconst (-1), 1) := by decide +kernel
theorem dX11_tried_182 : decode cX11_tried 182 = .ok (.ireturn, 1) := by decide +kernel
set_option maxRecDepth 100000 in
theorem m_X11_tried {g : GT} {n nf : Int} (hu : Up true nf n) (M : Mem) (a1 a2 : Int) : AM g true yX11_tried cX11_tried 4 (some .int) (2) n n nf [(2, 1), (0, a1), (0, a2)] M (f_X11_tried M a1 a2) := by
  refine AM_of (by decide +kernel) (Nat.le_of_ble_eq_true rfl) (fun h => absurd h (Int.lt_irrefl n)) ?_
  show AW g true RX11 cX11_tried 4 (some .int) (2) n n nf 0 [(0, 2, 1), (1, 0, a1), (2, 0, a2)] [] n M (f_X11_tried M a1 a2)
  unfold f_X11_tried
  refine r_aload_n 0 dX11_tried_0 rfl rfl ?_
  refine r_gx (kz := 4) rfl hu dX11_tried_1 kF_X11_42 kd_1 rfl rfl rfl fx_1_4 ?_
  refine r_iload_n 1 dX11_tried_4 rfl rfl ?_
  refine r_inv (a := 21) hu ⟨Nat.le_refl _, Nat.le_refl _⟩ dX11_tried_5 kM_X11_306 (ci := 0) rfl kd_21 rfl rfl (by decide) (by decide) [(0, a1)] rfl (sk := []) rfl (Nat.le_of_ble_eq_true rfl) rfl rfl (m_X0_trialAt hu M a1) (fun r1 M2 => ?_)
  refine r_astore_n dX11_tried_8 rfl (by decide) (ls' := [(3, 2, r1), (0, 2, 1), (1, 0, a1), (2, 0, a2)]) rfl ?_
  refine r_aload_n 0 dX11_tried_9 rfl rfl ?_
  refine r_ifnonnull (tgt := 15) dX11_tried_10 rfl (fun h3 => ?_) (fun h4 => ?_)
  · refine r_iconst dX11_tried_13 ⟨by decide, by decide⟩ ?_
    exact r_iret rfl rfl (Or.inl rfl) dX11_tried_14
  · refine r_iload_n 3 dX11_tried_15 rfl rfl ?_
    refine r_tsw (tgt := 80) 0 dX11_tried_16 ⟨by decide, by decide⟩ rfl rfl (fun h5 => ?_) (fun h6 => ?_)
    · refine r_aload_n 0 dX11_tried_80 rfl rfl ?_
      refine r_ok (fun h7 => ?_)
      refine r_gf (t := 0) (kz := 0) rfl hu dX11_tried_81 kF_X11_326 h7 rfl rfl rfl ?_
      exact r_iret rfl rfl (Or.inl rfl) dX11_tried_84
    · refine r_tsw (tgt := 85) 1 dX11_tried_16 ⟨by decide, by decide⟩ rfl rfl (fun h8 => ?_) (fun h9 => ?_)
      · refine r_aload_n 0 dX11_tried_85 rfl rfl ?_
        refine r_ok (fun h10 => ?_)
        refine r_gf (t := 0) (kz := 1) rfl hu dX11_tried_86 kF_X11_320 h10 rfl rfl rfl ?_
        refine r_bipush dX11_tried_89 (by decide) ⟨by decide, by decide⟩ ?_
        refine r_ok (fun h11 => ?_)
        refine r_iremP dX11_tried_91 ⟨h11, by decide⟩ ?_
        exact r_iret rfl rfl (Or.inl rfl) dX11_tried_92
      · refine r_tsw (tgt := 93) 2 dX11_tried_16 ⟨by decide, by decide⟩ rfl rfl (fun h12 => ?_) (fun h13 => ?_)
        · refine r_aload_n 0 dX11_tried_93 rfl rfl ?_
          refine r_ok (fun h14 => ?_)
          refine r_gf (t := 0) (kz := 1) rfl hu dX11_tried_94 kF_X11_320 h14 rfl rfl rfl ?_
          refine r_bipush dX11_tried_97 (by decide) ⟨by decide, by decide⟩ ?_
          refine r_ok (fun h15 => ?_)
          refine r_idivP dX11_tried_99 ⟨h15, by decide⟩ ?_
          exact r_iret rfl rfl (Or.inl rfl) dX11_tried_100
        · refine r_tsw (tgt := 101) 3 dX11_tried_16 ⟨by decide, by decide⟩ rfl rfl (fun h16 => ?_) (fun h17 => ?_)
          · refine r_aload_n 0 dX11_tried_101 rfl rfl ?_
            refine r_ok (fun h18 => ?_)
            refine r_gf (t := 0) (kz := 2) rfl hu dX11_tried_102 kF_X11_329 h18 rfl rfl rfl ?_
            exact r_iret rfl rfl (Or.inl rfl) dX11_tried_105
          · refine r_tsw (tgt := 106) 4 dX11_tried_16 ⟨by decide, by decide⟩ rfl rfl (fun h19 => ?_) (fun h20 => ?_)
            · refine r_aload_n 0 dX11_tried_106 rfl rfl ?_
              refine r_ok (fun h21 => ?_)
              refine r_gf (t := 0) (kz := 3) rfl hu dX11_tried_107 kF_X11_332 h21 rfl rfl rfl ?_
              exact r_iret rfl rfl (Or.inl rfl) dX11_tried_110
            · refine r_tsw (tgt := 111) 5 dX11_tried_16 ⟨by decide, by decide⟩ rfl rfl (fun h22 => ?_) (fun h23 => ?_)
              · refine r_aload_n 0 dX11_tried_111 rfl rfl ?_
                refine r_ok (fun h24 => ?_)
                refine r_gf (t := 0) (kz := 4) rfl hu dX11_tried_112 kF_X11_335 h24 rfl rfl rfl ?_
                exact r_iret rfl rfl (Or.inl rfl) dX11_tried_115
              · refine r_tsw (tgt := 116) 6 dX11_tried_16 ⟨by decide, by decide⟩ rfl rfl (fun h25 => ?_) (fun h26 => ?_)
                · refine r_aload_n 0 dX11_tried_116 rfl rfl ?_
                  refine r_ok (fun h27 => ?_)
                  refine r_gf (t := 0) (kz := 5) rfl hu dX11_tried_117 kF_X11_337 h27 rfl rfl rfl ?_
                  refine r_if_eq (tgt := 127) dX11_tried_120 rfl (fun h28 => ?_) (fun h29 => ?_)
                  · refine r_iconst dX11_tried_127 ⟨by decide, by decide⟩ ?_
                    exact r_iret rfl rfl (Or.inl rfl) dX11_tried_128
                  · refine r_iconst dX11_tried_123 ⟨by decide, by decide⟩ ?_
                    refine r_goto (tgt := 128) dX11_tried_124 rfl ?_
                    exact r_iret rfl rfl (Or.inl rfl) dX11_tried_128
                · refine r_tsw (tgt := 129) 7 dX11_tried_16 ⟨by decide, by decide⟩ rfl rfl (fun h30 => ?_) (fun h31 => ?_)
                  · refine r_aload_n 0 dX11_tried_129 rfl rfl ?_
                    refine r_ok (fun h32 => ?_)
                    refine r_gf (t := 0) (kz := 6) rfl hu dX11_tried_130 kF_X11_340 h32 rfl rfl rfl ?_
                    exact r_iret rfl rfl (Or.inl rfl) dX11_tried_133
                  · refine r_tsw (tgt := 134) 8 dX11_tried_16 ⟨by decide, by decide⟩ rfl rfl (fun h33 => ?_) (fun h34 => ?_)
                    · refine r_aload_n 0 dX11_tried_134 rfl rfl ?_
                      refine r_ok (fun h35 => ?_)
                      refine r_inv (a := r1) hu ⟨Nat.le_refl _, Nat.le_refl _⟩ dX11_tried_135 kM_X11_343 (ci := 10) rfl h35 rfl rfl (by decide) (by decide) [] rfl (sk := []) rfl (Nat.le_of_ble_eq_true rfl) rfl rfl (m_X10_isRight hu M2 r1 h35) (fun r36 M37 => ?_)
                      refine r_if_eq (tgt := 145) dX11_tried_138 rfl (fun h38 => ?_) (fun h39 => ?_)
                      · refine r_iconst dX11_tried_145 ⟨by decide, by decide⟩ ?_
                        exact r_iret rfl rfl (Or.inl rfl) dX11_tried_146
                      · refine r_iconst dX11_tried_141 ⟨by decide, by decide⟩ ?_
                        refine r_goto (tgt := 146) dX11_tried_142 rfl ?_
                        exact r_iret rfl rfl (Or.inl rfl) dX11_tried_146
                    · refine r_tsw (tgt := 147) 9 dX11_tried_16 ⟨by decide, by decide⟩ rfl rfl (fun h40 => ?_) (fun h41 => ?_)
                      · refine r_aload_n 1 dX11_tried_147 rfl rfl ?_
                        refine r_gx (kz := 3) rfl hu dX11_tried_148 kF_X11_35 kd_1 rfl rfl rfl fx_1_3 ?_
                        refine r_aload_n 0 dX11_tried_151 rfl rfl ?_
                        refine r_ok (fun h42 => ?_)
                        refine r_gf (t := 0) (kz := 1) rfl hu dX11_tried_152 kF_X11_320 h42 rfl rfl rfl ?_
                        refine r_aload_n 0 dX11_tried_155 rfl rfl ?_
                        refine r_gf (t := 0) (kz := 2) rfl hu dX11_tried_156 kF_X11_329 h42 rfl rfl rfl ?_
                        refine r_inv (a := 13) hu ⟨Nat.le_refl _, Nat.le_refl _⟩ dX11_tried_159 kM_X11_224 (ci := 3) rfl kd_13 rfl rfl (by decide) (by decide) [(0, M2 r1 1), (0, M2 r1 2)] rfl (sk := []) rfl (Nat.le_of_ble_eq_true rfl) rfl rfl (m_X3_lightAt hu M2 (M2 r1 1) (M2 r1 2)) (fun r43 M44 => ?_)
                        exact r_iret rfl rfl (Or.inl rfl) dX11_tried_162
                      · refine r_tsw (tgt := 163) 10 dX11_tried_16 ⟨by decide, by decide⟩ rfl rfl (fun h45 => ?_) (fun h46 => ?_)
                        · refine r_aload_n 0 dX11_tried_163 rfl rfl ?_
                          refine r_ok (fun h47 => ?_)
                          refine r_gf (t := 0) (kz := 7) rfl hu dX11_tried_164 kF_X11_310 h47 rfl rfl rfl ?_
                          refine r_if_eq (tgt := 174) dX11_tried_167 rfl (fun h48 => ?_) (fun h49 => ?_)
                          · refine r_iconst dX11_tried_174 ⟨by decide, by decide⟩ ?_
                            exact r_iret rfl rfl (Or.inl rfl) dX11_tried_175
                          · refine r_iconst dX11_tried_170 ⟨by decide, by decide⟩ ?_
                            refine r_goto (tgt := 175) dX11_tried_171 rfl ?_
                            exact r_iret rfl rfl (Or.inl rfl) dX11_tried_175
                        · refine r_tsw (tgt := 176) 11 dX11_tried_16 ⟨by decide, by decide⟩ rfl rfl (fun h50 => ?_) (fun h51 => ?_)
                          · refine r_aload_n 0 dX11_tried_176 rfl rfl ?_
                            refine r_ok (fun h52 => ?_)
                            refine r_gf (t := 0) (kz := 8) rfl hu dX11_tried_177 kF_X11_323 h52 rfl rfl rfl ?_
                            exact r_iret rfl rfl (Or.inl rfl) dX11_tried_180
                          · refine r_tswd (tgt := 181) dX11_tried_16 (by omega) rfl ?_
                            refine r_iconst dX11_tried_181 ⟨by decide, by decide⟩ ?_
                            exact r_iret rfl rfl (Or.inl rfl) dX11_tried_182
theorem dX11_isThingOrAll_0 : decode cX11_isThingOrAll 0 = .ok (.iload_n 1, 1) := by decide +kernel
theorem dX11_isThingOrAll_1 : decode cX11_isThingOrAll 1 = .ok (.iconst (-1), 1) := by decide +kernel
theorem dX11_isThingOrAll_2 : decode cX11_isThingOrAll 2 = .ok (.if_icmp .lt 18, 3) := by decide +kernel
theorem dX11_isThingOrAll_5 : decode cX11_isThingOrAll 5 = .ok (.iload_n 1, 1) := by decide +kernel
theorem dX11_isThingOrAll_6 : decode cX11_isThingOrAll 6 = .ok (.aload_n 0, 1) := by decide +kernel
theorem dX11_isThingOrAll_7 : decode cX11_isThingOrAll 7 = .ok (.getfield 67, 3) := by decide +kernel
theorem dX11_isThingOrAll_10 : decode cX11_isThingOrAll 10 = .ok (.getfield 134, 3) := by decide +kernel
theorem dX11_isThingOrAll_13 : decode cX11_isThingOrAll 13 = .ok (.if_icmp .ge 7, 3) := by decide +kernel
theorem dX11_isThingOrAll_16 : decode cX11_isThingOrAll 16 = .ok (.iconst 1, 1) := by decide +kernel
theorem dX11_isThingOrAll_17 : decode cX11_isThingOrAll 17 = .ok (.goto 4, 3) := by decide +kernel
theorem dX11_isThingOrAll_20 : decode cX11_isThingOrAll 20 = .ok (.iconst 0, 1) := by decide +kernel
theorem dX11_isThingOrAll_21 : decode cX11_isThingOrAll 21 = .ok (.ireturn, 1) := by decide +kernel
set_option maxRecDepth 100000 in
theorem m_X11_isThingOrAll {g : GT} {n nf : Int} (hu : Up true nf n) (M : Mem) (a1 : Int) : AM g true yX11_isThingOrAll cX11_isThingOrAll 2 (some .boolean) (0) n n nf [(2, 1), (0, a1)] M (f_X11_isThingOrAll M a1) := by
  refine AM_of (by decide +kernel) (Nat.le_of_ble_eq_true rfl) (fun h => absurd h (Int.lt_irrefl n)) ?_
  show AW g true RX11 cX11_isThingOrAll 2 (some .boolean) (0) n n nf 0 [(0, 2, 1), (1, 0, a1)] [] n M (f_X11_isThingOrAll M a1)
  unfold f_X11_isThingOrAll
  refine r_iload_n 1 dX11_isThingOrAll_0 rfl rfl ?_
  refine r_iconst dX11_isThingOrAll_1 ⟨by decide, by decide⟩ ?_
  refine r_icmp_lt (tgt := 20) dX11_isThingOrAll_2 rfl (fun h1 => ?_) (fun h2 => ?_)
  · refine r_iconst dX11_isThingOrAll_20 ⟨by decide, by decide⟩ ?_
    exact r_iret rfl rfl (Or.inr ⟨rfl, Or.inl rfl⟩) dX11_isThingOrAll_21
  · refine r_iload_n 1 dX11_isThingOrAll_5 rfl rfl ?_
    refine r_aload_n 0 dX11_isThingOrAll_6 rfl rfl ?_
    refine r_gf (t := 2) (kz := 8) rfl hu dX11_isThingOrAll_7 kF_X11_67 kd_1 rfl rfl rfl ?_
    refine r_ok (fun h3 => ?_)
    refine r_gf (t := 0) (kz := 3) rfl hu dX11_isThingOrAll_10 kF_X11_134 h3 rfl rfl rfl ?_
    refine r_icmp_ge (tgt := 20) dX11_isThingOrAll_13 rfl (fun h4 => ?_) (fun h5 => ?_)
    · refine r_iconst dX11_isThingOrAll_20 ⟨by decide, by decide⟩ ?_
      exact r_iret rfl rfl (Or.inr ⟨rfl, Or.inl rfl⟩) dX11_isThingOrAll_21
    · refine r_iconst dX11_isThingOrAll_16 ⟨by decide, by decide⟩ ?_
      refine r_goto (tgt := 21) dX11_isThingOrAll_17 rfl ?_
      exact r_iret rfl rfl (Or.inr ⟨rfl, Or.inr rfl⟩) dX11_isThingOrAll_21
theorem dX11_isWhere_0 : decode cX11_isWhere 0 = .ok (.iload_n 2, 1) := by decide +kernel
theorem dX11_isWhere_1 : decode cX11_isWhere 1 = .ok (.tableswitch 164 0 9 #[55, 57, 62, 75, 87, 107, 120, 140, 154, 159], 55) := by decide +kernel
theorem dX11_isWhere_56 : decode cX11_isWhere 56 = .ok (.iconst 1, 1) := by decide +kernel
theorem dX11_isWhere_57 : decode cX11_isWhere 57 = .ok (.ireturn, 1) := by decide +kernel
theorem dX11_isWhere_58 : decode cX11_isWhere 58 = .ok (.aload_n 1, 1) := by decide +kernel
theorem dX11_isWhere_59 : decode cX11_isWhere 59 = .ok (.getfield 337, 3) := by decide +kernel
theorem dX11_isWhere_62 : decode cX11_isWhere 62 = .ok (.ireturn, 1) := by decide +kernel
theorem dX11_isWhere_63 : decode cX11_isWhere 63 = .ok (.aload_n 1, 1) := by decide +kernel
theorem dX11_isWhere_64 : decode cX11_isWhere 64 = .ok (.getfield 337, 3) := by decide +kernel
theorem dX11_isWhere_67 : decode cX11_isWhere 67 = .ok (.ifCond .ne 7, 3) := by decide +kernel
theorem dX11_isWhere_70 : decode cX11_isWhere 70 = .ok (.iconst 1, 1) := by decide +kernel
theorem dX11_isWhere_71 : decode cX11_isWhere 71 = .ok (.goto 4, 3) := by decide +kernel
theorem dX11_isWhere_74 : decode cX11_isWhere 74 = .ok (.iconst 0, 1) := by decide +kernel
theorem dX11_isWhere_75 : decode cX11_isWhere 75 = .ok (.ireturn, 1) := by decide +kernel
theorem dX11_isWhere_76 : decode cX11_isWhere 76 = .ok (.aload_n 0, 1) := by decide +kernel
theorem dX11_isWhere_77 : decode cX11_isWhere 77 = .ok (.getfield 35, 3) := by decide +kernel
theorem dX11_isWhere_80 : decode cX11_isWhere 80 = .ok (.aload_n 1, 1) := by decide +kernel
theorem dX11_isWhere_81 : decode cX11_isWhere 81 = .ok (.getfield 320, 3) := by decide +kernel
theorem dX11_isWhere_84 : decode cX11_isWhere 84 = .ok (.invokevirtual 390, 3) := by decide +kernel
theorem dX11_isWhere_87 : decode cX11_isWhere 87 = .ok (.ireturn, 1) := by decide +kernel
theorem dX11_isWhere_88 : decode cX11_isWhere 88 = .ok (.aload_n 1, 1) := by decide +kernel
theorem dX11_isWhere_89 : decode cX11_isWhere 89 = .ok (.getfield 320, 3) := by decide +kernel
theorem dX11_isWhere_92 : decode cX11_isWhere 92 = .ok (.aload_n 0, 1) := by decide +kernel
theorem dX11_isWhere_93 : decode cX11_isWhere 93 = .ok (.getfield 35, 3) := by decide +kernel
theorem dX11_isWhere_96 : decode cX11_isWhere 96 = .ok (.getfield 146, 3) := by decide +kernel
theorem dX11_isWhere_99 : decode cX11_isWhere 99 = .ok (.if_icmp .ne 7, 3) := by decide +kernel
theorem dX11_isWhere_102 : decode cX11_isWhere 102 = .ok (.iconst 1, 1) := by decide +kernel
theorem dX11_isWhere_103 : decode cX11_isWhere 103 = .ok (.goto 4, 3) := by decide +kernel
theorem dX11_isWhere_106 : decode cX11_isWhere 106 = .ok (.iconst 0, 1) := by decide +kernel
theorem dX11_isWhere_107 : decode cX11_isWhere 107 = .ok (.ireturn, 1) := by decide +kernel
theorem dX11_isWhere_108 : decode cX11_isWhere 108 = .ok (.aload_n 1, 1) := by decide +kernel
theorem dX11_isWhere_109 : decode cX11_isWhere 109 = .ok (.getfield 329, 3) := by decide +kernel
theorem dX11_isWhere_112 : decode cX11_isWhere 112 = .ok (.ifCond .ne 7, 3) := by decide +kernel
theorem dX11_isWhere_115 : decode cX11_isWhere 115 = .ok (.iconst 1, 1) := by decide +kernel
theorem dX11_isWhere_116 : decode cX11_isWhere 116 = .ok (.goto 4, 3) := by decide +kernel
theorem dX11_isWhere_119 : decode cX11_isWhere 119 = .ok (.iconst 0, 1) := by decide +kernel
theorem dX11_isWhere_120 : decode cX11_isWhere 120 = .ok (.ireturn, 1) := by decide +kernel
theorem dX11_isWhere_121 : decode cX11_isWhere 121 = .ok (.aload_n 0, 1) := by decide +kernel
theorem dX11_isWhere_122 : decode cX11_isWhere 122 = .ok (.getfield 35, 3) := by decide +kernel
theorem dX11_isWhere_125 : decode cX11_isWhere 125 = .ok (.aload_n 0, 1) := by decide +kernel
theorem dX11_isWhere_126 : decode cX11_isWhere 126 = .ok (.getfield 35, 3) := by decide +kernel
theorem dX11_isWhere_129 : decode cX11_isWhere 129 = .ok (.getfield 206, 3) := by decide +kernel
theorem dX11_isWhere_132 : decode cX11_isWhere 132 = .ok (.aload_n 1, 1) := by decide +kernel
theorem dX11_isWhere_133 : decode cX11_isWhere 133 = .ok (.getfield 320, 3) := by decide +kernel
theorem dX11_isWhere_136 : decode cX11_isWhere 136 = .ok (.iaload, 1) := by decide +kernel
theorem dX11_isWhere_137 : decode cX11_isWhere 137 = .ok (.invokevirtual 218, 3) := by decide +kernel
theorem dX11_isWhere_140 : decode cX11_isWhere 140 = .ok (.ireturn, 1) := by decide +kernel
theorem dX11_isWhere_141 : decode cX11_isWhere 141 = .ok (.aload_n 1, 1) := by decide +kernel
theorem dX11_isWhere_142 : decode cX11_isWhere 142 = .ok (.getfield 340, 3) := by decide +kernel
theorem dX11_isWhere_145 : decode cX11_isWhere 145 = .ok (.iconst 5, 1) := by decide +kernel
theorem dX11_isWhere_146 : decode cX11_isWhere 146 = .ok (.if_icmp .lt 7, 3) := by decide +kernel
theorem dX11_isWhere_149 : decode cX11_isWhere 149 = .ok (.iconst 1, 1) := by decide +kernel
theorem dX11_isWhere_150 : decode cX11_isWhere 150 = .ok (.goto 4, 3) := by decide +kernel
theorem dX11_isWhere_153 : decode cX11_isWhere 153 = .ok (.iconst 0, 1) := by decide +kernel
theorem dX11_isWhere_154 : decode cX11_isWhere 154 = .ok (.ireturn, 1) := by decide +kernel
theorem dX11_isWhere_155 : decode cX11_isWhere 155 = .ok (.aload_n 1, 1) := by decide +kernel
theorem dX11_isWhere_156 : decode cX11_isWhere 156 = .ok (.getfield 310, 3) := by decide +kernel
theorem dX11_isWhere_159 : decode cX11_isWhere 159 = .ok (.ireturn, 1) := by decide +kernel
theorem dX11_isWhere_160 : decode cX11_isWhere 160 = .ok (.aload_n 1, 1) := by decide +kernel
theorem dX11_isWhere_161 : decode cX11_isWhere 161 = .ok (.invokevirtual 434, 3) := by decide +kernel
theorem dX11_isWhere_164 : decode cX11_isWhere 164 = .ok (.ireturn, 1) := by decide +kernel
theorem dX11_isWhere_165 : decode cX11_isWhere 165 = .ok (.iconst 0, 1) := by decide +kernel
theorem dX11_isWhere_166 : decode cX11_isWhere 166 = .ok (.ireturn, 1) := by decide +kernel
set_option maxRecDepth 100000 in
theorem m_X11_isWhere {g : GT} {n nf : Int} (hu : Up true nf n) (M : Mem) (a1 a2 : Int) (hk1 : kd a1 = 20) : AM g true yX11_isWhere cX11_isWhere 3 (some .boolean) (1) n n nf [(2, 1), (2, a1), (0, a2)] M (f_X11_isWhere M a1 a2) := by
  refine AM_of (by decide +kernel) (Nat.le_of_ble_eq_true rfl) (fun h => absurd h (Int.lt_irrefl n)) ?_
  show AW g true RX11 cX11_isWhere 3 (some .boolean) (1) n n nf 0 [(0, 2, 1), (1, 2, a1), (2, 0, a2)] [] n M (f_X11_isWhere M a1 a2)
  unfold f_X11_isWhere
  refine r_iload_n 2 dX11_isWhere_0 rfl rfl ?_
  refine r_tsw (tgt := 56) 0 dX11_isWhere_1 ⟨by decide, by decide⟩ rfl rfl (fun h1 => ?_) (fun h2 => ?_)
  · refine r_iconst dX11_isWhere_56 ⟨by decide, by decide⟩ ?_
    exact r_iret rfl rfl (Or.inr ⟨rfl, Or.inr rfl⟩) dX11_isWhere_57
  · refine r_tsw (tgt := 58) 1 dX11_isWhere_1 ⟨by decide, by decide⟩ rfl rfl (fun h3 => ?_) (fun h4 => ?_)
    · refine r_aload_n 1 dX11_isWhere_58 rfl rfl ?_
      refine r_gf (t := 0) (kz := 5) rfl hu dX11_isWhere_59 kF_X11_337 hk1 rfl rfl rfl ?_
      refine r_ok (fun h5 => ?_)
      exact r_iret rfl rfl (Or.inr ⟨rfl, h5⟩) dX11_isWhere_62
    · refine r_tsw (tgt := 63) 2 dX11_isWhere_1 ⟨by decide, by decide⟩ rfl rfl (fun h6 => ?_) (fun h7 => ?_)
      · refine r_aload_n 1 dX11_isWhere_63 rfl rfl ?_
        refine r_gf (t := 0) (kz := 5) rfl hu dX11_isWhere_64 kF_X11_337 hk1 rfl rfl rfl ?_
        refine r_if_ne (tgt := 74) dX11_isWhere_67 rfl (fun h8 => ?_) (fun h9 => ?_)
        · refine r_iconst dX11_isWhere_70 ⟨by decide, by decide⟩ ?_
          refine r_goto (tgt := 75) dX11_isWhere_71 rfl ?_
          exact r_iret rfl rfl (Or.inr ⟨rfl, Or.inr rfl⟩) dX11_isWhere_75
        · refine r_iconst dX11_isWhere_74 ⟨by decide, by decide⟩ ?_
          exact r_iret rfl rfl (Or.inr ⟨rfl, Or.inl rfl⟩) dX11_isWhere_75
      · refine r_tsw (tgt := 76) 3 dX11_isWhere_1 ⟨by decide, by decide⟩ rfl rfl (fun h10 => ?_) (fun h11 => ?_)
        · refine r_aload_n 0 dX11_isWhere_76 rfl rfl ?_
          refine r_gx (kz := 3) rfl hu dX11_isWhere_77 kF_X11_35 kd_1 rfl rfl rfl fx_1_3 ?_
          refine r_aload_n 1 dX11_isWhere_80 rfl rfl ?_
          refine r_gf (t := 0) (kz := 1) rfl hu dX11_isWhere_81 kF_X11_320 hk1 rfl rfl rfl ?_
          refine r_inv (a := 13) hu ⟨Nat.le_refl _, Nat.le_refl _⟩ dX11_isWhere_84 kM_X11_390 (ci := 3) rfl kd_13 rfl rfl (by decide) (by decide) [(0, M a1 1)] rfl (sk := []) rfl (Nat.le_of_ble_eq_true rfl) rfl rfl (m_X3_isGone hu M (M a1 1)) (fun r12 M13 => ?_)
          refine r_ok (fun h14 => ?_)
          exact r_iret rfl rfl (Or.inr ⟨rfl, h14⟩) dX11_isWhere_87
        · refine r_tsw (tgt := 88) 4 dX11_isWhere_1 ⟨by decide, by decide⟩ rfl rfl (fun h15 => ?_) (fun h16 => ?_)
          · refine r_aload_n 1 dX11_isWhere_88 rfl rfl ?_
            refine r_gf (t := 0) (kz := 1) rfl hu dX11_isWhere_89 kF_X11_320 hk1 rfl rfl rfl ?_
            refine r_aload_n 0 dX11_isWhere_92 rfl rfl ?_
            refine r_gx (kz := 3) rfl hu dX11_isWhere_93 kF_X11_35 kd_1 rfl rfl rfl fx_1_3 ?_
            refine r_gf (t := 0) (kz := 11) rfl hu dX11_isWhere_96 kF_X11_146 kd_13 rfl rfl rfl ?_
            refine r_icmp_ne (tgt := 106) dX11_isWhere_99 rfl (fun h17 => ?_) (fun h18 => ?_)
            · refine r_iconst dX11_isWhere_102 ⟨by decide, by decide⟩ ?_
              refine r_goto (tgt := 107) dX11_isWhere_103 rfl ?_
              exact r_iret rfl rfl (Or.inr ⟨rfl, Or.inr rfl⟩) dX11_isWhere_107
            · refine r_iconst dX11_isWhere_106 ⟨by decide, by decide⟩ ?_
              exact r_iret rfl rfl (Or.inr ⟨rfl, Or.inl rfl⟩) dX11_isWhere_107
          · refine r_tsw (tgt := 108) 5 dX11_isWhere_1 ⟨by decide, by decide⟩ rfl rfl (fun h19 => ?_) (fun h20 => ?_)
            · refine r_aload_n 1 dX11_isWhere_108 rfl rfl ?_
              refine r_gf (t := 0) (kz := 2) rfl hu dX11_isWhere_109 kF_X11_329 hk1 rfl rfl rfl ?_
              refine r_if_ne (tgt := 119) dX11_isWhere_112 rfl (fun h21 => ?_) (fun h22 => ?_)
              · refine r_iconst dX11_isWhere_115 ⟨by decide, by decide⟩ ?_
                refine r_goto (tgt := 120) dX11_isWhere_116 rfl ?_
                exact r_iret rfl rfl (Or.inr ⟨rfl, Or.inr rfl⟩) dX11_isWhere_120
              · refine r_iconst dX11_isWhere_119 ⟨by decide, by decide⟩ ?_
                exact r_iret rfl rfl (Or.inr ⟨rfl, Or.inl rfl⟩) dX11_isWhere_120
            · refine r_tsw (tgt := 121) 6 dX11_isWhere_1 ⟨by decide, by decide⟩ rfl rfl (fun h23 => ?_) (fun h24 => ?_)
              · refine r_aload_n 0 dX11_isWhere_121 rfl rfl ?_
                refine r_gx (kz := 3) rfl hu dX11_isWhere_122 kF_X11_35 kd_1 rfl rfl rfl fx_1_3 ?_
                refine r_aload_n 0 dX11_isWhere_125 rfl rfl ?_
                refine r_gx (kz := 3) rfl hu dX11_isWhere_126 kF_X11_35 kd_1 rfl rfl rfl fx_1_3 ?_
                refine r_gx (kz := 1) rfl hu dX11_isWhere_129 kF_X11_206 kd_13 rfl rfl rfl fx_13_1 ?_
                refine r_aload_n 1 dX11_isWhere_132 rfl rfl ?_
                refine r_gf (t := 0) (kz := 1) rfl hu dX11_isWhere_133 kF_X11_320 hk1 rfl rfl rfl ?_
                refine r_ok (fun h25 => ?_)
                refine r_iald hu dX11_isWhere_136 kd_15 rfl (Or.inl rfl) rfl ln_15 h25 ?_
                refine r_inv (a := 13) hu ⟨Nat.le_refl _, Nat.le_refl _⟩ dX11_isWhere_137 kM_X11_218 (ci := 3) rfl kd_13 rfl rfl (by decide) (by decide) [(0, M 15 (M a1 1))] rfl (sk := []) rfl (Nat.le_of_ble_eq_true rfl) rfl rfl (m_X3_isIsland hu M (M 15 (M a1 1))) (fun r26 M27 => ?_)
                refine r_ok (fun h28 => ?_)
                exact r_iret rfl rfl (Or.inr ⟨rfl, h28⟩) dX11_isWhere_140
              · refine r_tsw (tgt := 141) 7 dX11_isWhere_1 ⟨by decide, by decide⟩ rfl rfl (fun h29 => ?_) (fun h30 => ?_)
                · refine r_aload_n 1 dX11_isWhere_141 rfl rfl ?_
                  refine r_gf (t := 0) (kz := 6) rfl hu dX11_isWhere_142 kF_X11_340 hk1 rfl rfl rfl ?_
                  refine r_iconst dX11_isWhere_145 ⟨by decide, by decide⟩ ?_
                  refine r_icmp_lt (tgt := 153) dX11_isWhere_146 rfl (fun h31 => ?_) (fun h32 => ?_)
                  · refine r_iconst dX11_isWhere_153 ⟨by decide, by decide⟩ ?_
                    exact r_iret rfl rfl (Or.inr ⟨rfl, Or.inl rfl⟩) dX11_isWhere_154
                  · refine r_iconst dX11_isWhere_149 ⟨by decide, by decide⟩ ?_
                    refine r_goto (tgt := 154) dX11_isWhere_150 rfl ?_
                    exact r_iret rfl rfl (Or.inr ⟨rfl, Or.inr rfl⟩) dX11_isWhere_154
                · refine r_tsw (tgt := 155) 8 dX11_isWhere_1 ⟨by decide, by decide⟩ rfl rfl (fun h33 => ?_) (fun h34 => ?_)
                  · refine r_aload_n 1 dX11_isWhere_155 rfl rfl ?_
                    refine r_gf (t := 0) (kz := 7) rfl hu dX11_isWhere_156 kF_X11_310 hk1 rfl rfl rfl ?_
                    refine r_ok (fun h35 => ?_)
                    exact r_iret rfl rfl (Or.inr ⟨rfl, h35⟩) dX11_isWhere_159
                  · refine r_tsw (tgt := 160) 9 dX11_isWhere_1 ⟨by decide, by decide⟩ rfl rfl (fun h36 => ?_) (fun h37 => ?_)
                    · refine r_aload_n 1 dX11_isWhere_160 rfl rfl ?_
                      refine r_inv (a := a1) hu ⟨Nat.le_refl _, Nat.le_refl _⟩ dX11_isWhere_161 kM_X11_434 (ci := 10) rfl hk1 rfl rfl (by decide) (by decide) [] rfl (sk := []) rfl (Nat.le_of_ble_eq_true rfl) rfl rfl (m_X10_isLed hu M a1 hk1) (fun r38 M39 => ?_)
                      refine r_ok (fun h40 => ?_)
                      exact r_iret rfl rfl (Or.inr ⟨rfl, h40⟩) dX11_isWhere_164
                    · refine r_tswd (tgt := 165) dX11_isWhere_1 (by omega) rfl ?_
                      refine r_iconst dX11_isWhere_165 ⟨by decide, by decide⟩ ?_
                      exact r_iret rfl rfl (Or.inr ⟨rfl, Or.inl rfl⟩) dX11_isWhere_166
theorem dX11_count_0 : decode cX11_count 0 = .ok (.aload_n 0, 1) := by decide +kernel
theorem dX11_count_1 : decode cX11_count 1 = .ok (.iload_n 1, 1) := by decide +kernel
theorem dX11_count_2 : decode cX11_count 2 = .ok (.invokevirtual 347, 3) := by decide +kernel
theorem dX11_count_5 : decode cX11_count 5 = .ok (.ifCond .eq 13, 3) := by decide +kernel
theorem dX11_count_8 : decode cX11_count 8 = .ok (.iload_n 2, 1) := by decide +kernel
theorem dX11_count_9 : decode cX11_count 9 = .ok (.ifCond .lt 9, 3) := by decide +kernel
theorem dX11_count_12 : decode cX11_count 12 = .ok (.iload_n 2, 1) := by decide +kernel
theorem dX11_count_13 : decode cX11_count 13 = .ok (.bipush 10, 2) := by decide +kernel
theorem dX11_count_15 : decode cX11_count 15 = .ok (.if_icmp .lt 5, 3) := by decide +kernel
theorem dX11_count_18 : decode cX11_count 18 = .ok (.iconst (-1), 1) := by decide +kernel
theorem dX11_count_19 : decode cX11_count 19 = .ok (.ireturn, 1) := by decide +kernel
theorem dX11_count_20 : decode cX11_count 20 = .ok (.iconst 0, 1) := by decide +kernel
theorem dX11_count_21 : decode cX11_count 21 = .ok (.istore 4, 2) := by decide +kernel
theorem dX11_count_23 : decode cX11_count 23 = .ok (.iconst 0, 1) := by decide +kernel
theorem dX11_count_24 : decode cX11_count 24 = .ok (.istore 5, 2) := by decide +kernel
theorem dX11_count_26 : decode cX11_count 26 = .ok (.iload 5, 2) := by decide +kernel
theorem dX11_count_28 : decode cX11_count 28 = .ok (.aload_n 0, 1) := by decide +kernel
theorem dX11_count_29 : decode cX11_count 29 = .ok (.getfield 42, 3) := by decide +kernel
theorem dX11_count_32 : decode cX11_count 32 = .ok (.getfield 107, 3) := by decide +kernel
theorem dX11_count_35 : decode cX11_count 35 = .ok (.if_icmp .ge 55, 3) := by decide +kernel
theorem dX11_count_38 : decode cX11_count 38 = .ok (.aload_n 0, 1) := by decide +kernel
theorem dX11_count_39 : decode cX11_count 39 = .ok (.getfield 42, 3) := by decide +kernel
theorem dX11_count_42 : decode cX11_count 42 = .ok (.getfield 350, 3) := by decide +kernel
theorem dX11_count_45 : decode cX11_count 45 = .ok (.iload 5, 2) := by decide +kernel
theorem dX11_count_47 : decode cX11_count 47 = .ok (.aaload, 1) := by decide +kernel
theorem dX11_count_48 : decode cX11_count 48 = .ok (.astore 6, 2) := by decide +kernel
theorem dX11_count_50 : decode cX11_count 50 = .ok (.aload 6, 2) := by decide +kernel
theorem dX11_count_52 : decode cX11_count 52 = .ok (.iload_n 1, 1) := by decide +kernel
theorem dX11_count_53 : decode cX11_count 53 = .ok (.invokevirtual 354, 3) := by decide +kernel
theorem dX11_count_56 : decode cX11_count 56 = .ok (.ifCond .eq 28, 3) := by decide +kernel
theorem dX11_count_59 : decode cX11_count 59 = .ok (.iload_n 3, 1) := by decide +kernel
theorem dX11_count_60 : decode cX11_count 60 = .ok (.ifCond .eq 11, 3) := by decide +kernel
theorem dX11_count_63 : decode cX11_count 63 = .ok (.aload 6, 2) := by decide +kernel
theorem dX11_count_65 : decode cX11_count 65 = .ok (.invokevirtual 343, 3) := by decide +kernel
theorem dX11_count_68 : decode cX11_count 68 = .ok (.ifCond .eq 16, 3) := by decide +kernel
theorem dX11_count_71 : decode cX11_count 71 = .ok (.aload_n 0, 1) := by decide +kernel
theorem dX11_count_72 : decode cX11_count 72 = .ok (.aload 6, 2) := by decide +kernel
theorem dX11_count_74 : decode cX11_count 74 = .ok (.iload_n 2, 1) := by decide +kernel
theorem dX11_count_75 : decode cX11_count 75 = .ok (.invokevirtual 357, 3) := by decide +kernel
theorem dX11_count_78 : decode cX11_count 78 = .ok (.ifCond .eq 6, 3) := by decide +kernel
theorem dX11_count_81 : decode cX11_count 81 = .ok (.iinc 4 1, 3) := by decide +kernel
theorem dX11_count_84 : decode cX11_count 84 = .ok (.iinc 5 1, 3) := by decide +kernel
theorem dX11_count_87 : decode cX11_count 87 = .ok (.goto (-61), 3) := by decide +kernel
theorem dX11_count_90 : decode cX11_count 90 = .ok (.iload 4, 2) := by decide +kernel
theorem dX11_count_92 : decode cX11_count 92 = .ok (.ireturn, 1) := by decide +kernel
set_option maxRecDepth 100000 in
theorem tj_X11_count_71 {g : GT} {n nf : Int} (hu : Up true nf n) (a1 a2 a3 : Int) (w26 : Mem → Int → Int → Res) (hw26 : ∀ (M : Mem) (x4 x5 : Int), AW g true RX11 cX11_count 7 (some .int) (2) n n nf 26 [(0, 2, 1), (1, 0, a1), (2, 0, a2), (3, 0, a3), (4, 0, x4), (5, 0, x5)] [] n M (w26 M x4 x5)) (M : Mem) (x4 x5 x6 : Int) : AW g true RX11 cX11_count 7 (some .int) (2) n n nf 71 [(0, 2, 1), (1, 0, a1), (2, 0, a2), (3, 0, a3), (4, 0, x4), (5, 0, x5), (6, 2, x6)] [] n M (j_X11_count_71 a1 a2 a3 w26 M x4 x5 x6) := by
  unfold j_X11_count_71
  refine r_aload_n 0 dX11_count_71 rfl rfl ?_
  refine r_aload 6 dX11_count_72 rfl ?_
  refine r_iload_n 2 dX11_count_74 rfl rfl ?_
  refine r_ok (fun h19 => ?_)
  refine r_inv (a := 1) hu ⟨Nat.le_refl _, Nat.le_refl _⟩ dX11_count_75 kM_X11_357 (ci := 11) rfl kd_1 rfl rfl (by decide) (by decide) [(2, x6), (0, a2)] rfl (sk := []) rfl (Nat.le_of_ble_eq_true rfl) rfl rfl (m_X11_isWhere hu M x6 a2 h19) (fun r20 M21 => ?_)
  refine r_if_eq (tgt := 84) dX11_count_78 rfl (fun h22 => ?_) (fun h23 => ?_)
  · refine r_ok (fun h24 => ?_)
    refine r_iincB 5 dX11_count_84 rfl h24 (by decide) (lf := fun y25 => [(5, 0, y25), (0, 2, 1), (1, 0, a1), (2, 0, a2), (3, 0, a3), (4, 0, x4), (6, 2, x6)]) (fun _ => rfl) (fun y25 ey25 => ?_)
    refine r_goto (tgt := 26) dX11_count_87 rfl ?_
    refine r_sub [1, 2, 3, 4, 5, 0] (ls' := [(0, 2, 1), (1, 0, a1), (2, 0, a2), (3, 0, a3), (4, 0, x4), (5, 0, y25)]) rfl ?_
    exact hw26 M21 x4 y25
  · refine r_ok (fun h26 => ?_)
    refine r_iincB 4 dX11_count_81 rfl h26 (by decide) (lf := fun y27 => [(4, 0, y27), (0, 2, 1), (1, 0, a1), (2, 0, a2), (3, 0, a3), (5, 0, x5), (6, 2, x6)]) (fun _ => rfl) (fun y27 ey27 => ?_)
    refine r_ok (fun h28 => ?_)
    refine r_iincB 5 dX11_count_84 rfl h28 (by decide) (lf := fun y29 => [(5, 0, y29), (4, 0, y27), (0, 2, 1), (1, 0, a1), (2, 0, a2), (3, 0, a3), (6, 2, x6)]) (fun _ => rfl) (fun y29 ey29 => ?_)
    refine r_goto (tgt := 26) dX11_count_87 rfl ?_
    refine r_sub [2, 3, 4, 5, 1, 0] (ls' := [(0, 2, 1), (1, 0, a1), (2, 0, a2), (3, 0, a3), (4, 0, y27), (5, 0, y29)]) rfl ?_
    exact hw26 M21 y27 y29
set_option maxRecDepth 100000 in
theorem tb_X11_count_26 {g : GT} {n nf : Int} (hu : Up true nf n) (a1 a2 a3 : Int) (w26 : Mem → Int → Int → Res) (hw26 : ∀ (M : Mem) (x4 x5 : Int), AW g true RX11 cX11_count 7 (some .int) (2) n n nf 26 [(0, 2, 1), (1, 0, a1), (2, 0, a2), (3, 0, a3), (4, 0, x4), (5, 0, x5)] [] n M (w26 M x4 x5)) (M : Mem) (x4 x5 : Int) : AW g true RX11 cX11_count 7 (some .int) (2) n n nf 26 [(0, 2, 1), (1, 0, a1), (2, 0, a2), (3, 0, a3), (4, 0, x4), (5, 0, x5)] [] n M (b_X11_count_26 a1 a2 a3 w26 M x4 x5) := by
  unfold b_X11_count_26
  refine r_iload 5 dX11_count_26 rfl ?_
  refine r_aload_n 0 dX11_count_28 rfl rfl ?_
  refine r_gx (kz := 4) rfl hu dX11_count_29 kF_X11_42 kd_1 rfl rfl rfl fx_1_4 ?_
  refine r_gf (t := 0) (kz := 1) rfl hu dX11_count_32 kF_X11_107 kd_21 rfl rfl rfl ?_
  refine r_icmp_ge (tgt := 90) dX11_count_35 rfl (fun h9 => ?_) (fun h10 => ?_)
  · refine r_iload 4 dX11_count_90 rfl ?_
    exact r_iret rfl rfl (Or.inl rfl) dX11_count_92
  · refine r_aload_n 0 dX11_count_38 rfl rfl ?_
    refine r_gx (kz := 4) rfl hu dX11_count_39 kF_X11_42 kd_1 rfl rfl rfl fx_1_4 ?_
    refine r_gx (kz := 0) rfl hu dX11_count_42 kF_X11_350 kd_21 rfl rfl rfl fx_21_0 ?_
    refine r_iload 5 dX11_count_45 rfl ?_
    refine r_ok (fun h11 => ?_)
    refine r_aalx hu dX11_count_47 kd_22 (Or.inr (Or.inr rfl)) rfl ln_22 h11 (fxTr _ h11) ?_
    refine r_astore dX11_count_48 (by decide) (ls' := [(6, 2, 23 + x5), (0, 2, 1), (1, 0, a1), (2, 0, a2), (3, 0, a3), (4, 0, x4), (5, 0, x5)]) rfl ?_
    refine r_aload 0 dX11_count_50 rfl ?_
    refine r_iload_n 2 dX11_count_52 rfl rfl ?_
    refine r_inv (a := 23 + x5) hu ⟨Nat.le_refl _, Nat.le_refl _⟩ dX11_count_53 kM_X11_354 (ci := 10) rfl (kdTr _ h11) rfl rfl (by decide) (by decide) [(0, a1)] rfl (sk := []) rfl (Nat.le_of_ble_eq_true rfl) rfl rfl (m_X10_isOf hu M (23 + x5) a1 (kdTr _ h11)) (fun r12 M13 => ?_)
    refine r_if_eq (tgt := 84) dX11_count_56 rfl (fun h14 => ?_) (fun h15 => ?_)
    · refine r_iincB 6 dX11_count_84 rfl ⟨by have := h11; omega, by have := h11; omega⟩ (by decide) (lf := fun y16 => [(5, 0, y16), (6, 2, 23 + x5), (0, 2, 1), (1, 0, a1), (2, 0, a2), (3, 0, a3), (4, 0, x4)]) (fun _ => rfl) (fun y16 ey16 => ?_)
      refine r_goto (tgt := 26) dX11_count_87 rfl ?_
      refine r_sub [2, 3, 4, 5, 6, 0] (ls' := [(0, 2, 1), (1, 0, a1), (2, 0, a2), (3, 0, a3), (4, 0, x4), (5, 0, y16)]) rfl ?_
      exact hw26 M13 x4 y16
    · refine r_iload_n 4 dX11_count_59 rfl rfl ?_
      refine r_if_eq (tgt := 71) dX11_count_60 rfl (fun h17 => ?_) (fun h18 => ?_)
      · refine r_sub [1, 2, 3, 4, 5, 6, 0] (ls' := [(0, 2, 1), (1, 0, a1), (2, 0, a2), (3, 0, a3), (4, 0, x4), (5, 0, x5), (6, 2, 23 + x5)]) rfl ?_
        exact tj_X11_count_71 hu a1 a2 a3 w26 hw26 M13 x4 x5 (23 + x5)
      · refine r_aload 0 dX11_count_63 rfl ?_
        refine r_inv (a := 23 + x5) hu ⟨Nat.le_refl _, Nat.le_refl _⟩ dX11_count_65 kM_X11_343 (ci := 10) rfl (kdTr _ h11) rfl rfl (by decide) (by decide) [] rfl (sk := []) rfl (Nat.le_of_ble_eq_true rfl) rfl rfl (m_X10_isRight hu M13 (23 + x5) (kdTr _ h11)) (fun r30 M31 => ?_)
        refine r_if_eq (tgt := 84) dX11_count_68 rfl (fun h32 => ?_) (fun h33 => ?_)
        · refine r_iincB 6 dX11_count_84 rfl ⟨by have := h11; omega, by have := h11; omega⟩ (by decide) (lf := fun y34 => [(5, 0, y34), (6, 2, 23 + x5), (0, 2, 1), (1, 0, a1), (2, 0, a2), (3, 0, a3), (4, 0, x4)]) (fun _ => rfl) (fun y34 ey34 => ?_)
          refine r_goto (tgt := 26) dX11_count_87 rfl ?_
          refine r_sub [2, 3, 4, 5, 6, 0] (ls' := [(0, 2, 1), (1, 0, a1), (2, 0, a2), (3, 0, a3), (4, 0, x4), (5, 0, y34)]) rfl ?_
          exact hw26 M31 x4 y34
        · refine r_sub [1, 2, 3, 4, 5, 6, 0] (ls' := [(0, 2, 1), (1, 0, a1), (2, 0, a2), (3, 0, a3), (4, 0, x4), (5, 0, x5), (6, 2, 23 + x5)]) rfl ?_
          exact tj_X11_count_71 hu a1 a2 a3 w26 hw26 M31 x4 x5 (23 + x5)
set_option maxRecDepth 100000 in
theorem m_X11_count {g : GT} {n nf : Int} (hu : Up true nf n) (M : Mem) (a1 a2 a3 : Int) : AM g true yX11_count cX11_count 7 (some .int) (2) n n nf [(2, 1), (0, a1), (0, a2), (0, a3)] M (f_X11_count M a1 a2 a3) := by
  refine AM_of (by decide +kernel) (Nat.le_of_ble_eq_true rfl) (fun h => absurd h (Int.lt_irrefl n)) ?_
  show AW g true RX11 cX11_count 7 (some .int) (2) n n nf 0 [(0, 2, 1), (1, 0, a1), (2, 0, a2), (3, 0, a3)] [] n M (f_X11_count M a1 a2 a3)
  unfold f_X11_count
  refine r_aload_n 0 dX11_count_0 rfl rfl ?_
  refine r_iload_n 1 dX11_count_1 rfl rfl ?_
  refine r_inv (a := 1) hu ⟨Nat.le_refl _, Nat.le_refl _⟩ dX11_count_2 kM_X11_347 (ci := 11) rfl kd_1 rfl rfl (by decide) (by decide) [(0, a1)] rfl (sk := []) rfl (Nat.le_of_ble_eq_true rfl) rfl rfl (m_X11_isThingOrAll hu M a1) (fun r1 M2 => ?_)
  refine r_if_eq (tgt := 18) dX11_count_5 rfl (fun h3 => ?_) (fun h4 => ?_)
  · refine r_iconst dX11_count_18 ⟨by decide, by decide⟩ ?_
    exact r_iret rfl rfl (Or.inl rfl) dX11_count_19
  · refine r_iload_n 2 dX11_count_8 rfl rfl ?_
    refine r_if_lt (tgt := 18) dX11_count_9 rfl (fun h5 => ?_) (fun h6 => ?_)
    · refine r_iconst dX11_count_18 ⟨by decide, by decide⟩ ?_
      exact r_iret rfl rfl (Or.inl rfl) dX11_count_19
    · refine r_iload_n 2 dX11_count_12 rfl rfl ?_
      refine r_bipush dX11_count_13 (by decide) ⟨by decide, by decide⟩ ?_
      refine r_icmp_lt (tgt := 20) dX11_count_15 rfl (fun h7 => ?_) (fun h8 => ?_)
      · refine r_iconst dX11_count_20 ⟨by decide, by decide⟩ ?_
        refine r_istore dX11_count_21 (by decide) (ls' := [(4, 0, 0), (0, 2, 1), (1, 0, a1), (2, 0, a2), (3, 0, a3)]) rfl ?_
        refine r_iconst dX11_count_23 ⟨by decide, by decide⟩ ?_
        refine r_istore dX11_count_24 (by decide) (ls' := [(5, 0, 0), (4, 0, 0), (0, 2, 1), (1, 0, a1), (2, 0, a2), (3, 0, a3)]) rfl ?_
        refine r_sub [2, 3, 4, 5, 1, 0] (ls' := [(0, 2, 1), (1, 0, a1), (2, 0, a2), (3, 0, a3), (4, 0, 0), (5, 0, 0)]) rfl ?_
        exact wl2_aw (P := fun M x4 x5 o => AW g true RX11 cX11_count 7 (some .int) (2) n n nf 26 [(0, 2, 1), (1, 0, a1), (2, 0, a2), (3, 0, a3), (4, 0, x4), (5, 0, x5)] [] n M (o)) (fun M x4 x5 => aw_none) (fun w hw M x4 x5 => tb_X11_count_26 hu a1 a2 a3 w hw M x4 x5) FU M2 0 0
      · refine r_iconst dX11_count_18 ⟨by decide, by decide⟩ ?_
        exact r_iret rfl rfl (Or.inl rfl) dX11_count_19
