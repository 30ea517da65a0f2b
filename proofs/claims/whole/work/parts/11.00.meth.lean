theorem dX0_trialAt_0 : decode cX0_trialAt 0 = .ok (.iload_n 1, 1) := by decide +kernel
theorem dX0_trialAt_1 : decode cX0_trialAt 1 = .ok (.ifCond .lt 20, 3) := by decide +kernel
theorem dX0_trialAt_4 : decode cX0_trialAt 4 = .ok (.iload_n 1, 1) := by decide +kernel
theorem dX0_trialAt_5 : decode cX0_trialAt 5 = .ok (.aload_n 0, 1) := by decide +kernel
theorem dX0_trialAt_6 : decode cX0_trialAt 6 = .ok (.getfield 18, 3) := by decide +kernel
theorem dX0_trialAt_9 : decode cX0_trialAt 9 = .ok (.if_icmp .ge 12, 3) := by decide +kernel
theorem dX0_trialAt_12 : decode cX0_trialAt 12 = .ok (.aload_n 0, 1) := by decide +kernel
theorem dX0_trialAt_13 : decode cX0_trialAt 13 = .ok (.getfield 11, 3) := by decide +kernel
theorem dX0_trialAt_16 : decode cX0_trialAt 16 = .ok (.iload_n 1, 1) := by decide +kernel
theorem dX0_trialAt_17 : decode cX0_trialAt 17 = .ok (.aaload, 1) := by decide +kernel
theorem dX0_trialAt_18 : decode cX0_trialAt 18 = .ok (.goto 4, 3) := by decide +kernel
theorem dX0_trialAt_21 : decode cX0_trialAt 21 = .ok (.aconst_null, 1) := by decide +kernel
theorem dX0_trialAt_22 : decode cX0_trialAt 22 = .ok (.areturn, 1) := by decide +kernel
set_option maxRecDepth 100000 in
theorem m_X0_trialAt {g : GT} {n nf : Int} (hu : Up true nf n) (M : Mem) (a1 : Int) : AM g true yX0_trialAt cX0_trialAt 2 (some (.object "BlindSide$Trial")) (0) n n nf [(2, 21), (0, a1)] M (f_X0_trialAt M a1) := by
  refine AM_of (by decide +kernel) (Nat.le_of_ble_eq_true rfl) (fun h => absurd h (Int.lt_irrefl n)) ?_
  show AW g true RX0 cX0_trialAt 2 (some (.object "BlindSide$Trial")) (0) n n nf 0 [(0, 2, 21), (1, 0, a1)] [] n M (f_X0_trialAt M a1)
  unfold f_X0_trialAt
  refine r_iload_n 1 dX0_trialAt_0 rfl rfl ?_
  refine r_if_lt (tgt := 21) dX0_trialAt_1 rfl (fun h1 => ?_) (fun h2 => ?_)
  · refine r_null dX0_trialAt_21 ?_
    exact r_aret rfl rfl dX0_trialAt_22
  · refine r_iload_n 1 dX0_trialAt_4 rfl rfl ?_
    refine r_aload_n 0 dX0_trialAt_5 rfl rfl ?_
    refine r_gf (t := 0) (kz := 1) rfl hu dX0_trialAt_6 kF_X0_18 kd_21 rfl rfl rfl ?_
    refine r_icmp_ge (tgt := 21) dX0_trialAt_9 rfl (fun h3 => ?_) (fun h4 => ?_)
    · refine r_null dX0_trialAt_21 ?_
      exact r_aret rfl rfl dX0_trialAt_22
    · refine r_aload_n 0 dX0_trialAt_12 rfl rfl ?_
      refine r_gx (kz := 0) rfl hu dX0_trialAt_13 kF_X0_11 kd_21 rfl rfl rfl fx_21_0 ?_
      refine r_iload_n 1 dX0_trialAt_16 rfl rfl ?_
      refine r_ok (fun h5 => ?_)
      refine r_aalx hu dX0_trialAt_17 kd_22 (Or.inr (Or.inr rfl)) rfl ln_22 h5 (fxTr _ h5) ?_
      refine r_goto (tgt := 22) dX0_trialAt_18 rfl ?_
      exact r_aret rfl rfl dX0_trialAt_22
theorem dX0_nextFree_0 : decode cX0_nextFree 0 = .ok (.aload_n 0, 1) := by decide +kernel
theorem dX0_nextFree_1 : decode cX0_nextFree 1 = .ok (.getfield 18, 3) := by decide +kernel
theorem dX0_nextFree_4 : decode cX0_nextFree 4 = .ok (.bipush 40, 2) := by decide +kernel
theorem dX0_nextFree_6 : decode cX0_nextFree 6 = .ok (.if_icmp .ge 15, 3) := by decide +kernel
theorem dX0_nextFree_9 : decode cX0_nextFree 9 = .ok (.aload_n 0, 1) := by decide +kernel
theorem dX0_nextFree_10 : decode cX0_nextFree 10 = .ok (.getfield 11, 3) := by decide +kernel
theorem dX0_nextFree_13 : decode cX0_nextFree 13 = .ok (.aload_n 0, 1) := by decide +kernel
theorem dX0_nextFree_14 : decode cX0_nextFree 14 = .ok (.getfield 18, 3) := by decide +kernel
theorem dX0_nextFree_17 : decode cX0_nextFree 17 = .ok (.aaload, 1) := by decide +kernel
theorem dX0_nextFree_18 : decode cX0_nextFree 18 = .ok (.goto 4, 3) := by decide +kernel
theorem dX0_nextFree_21 : decode cX0_nextFree 21 = .ok (.aconst_null, 1) := by decide +kernel
theorem dX0_nextFree_22 : decode cX0_nextFree 22 = .ok (.areturn, 1) := by decide +kernel
set_option maxRecDepth 100000 in
theorem m_X0_nextFree {g : GT} {n nf : Int} (hu : Up true nf n) (M : Mem) : AM g true yX0_nextFree cX0_nextFree 1 (some (.object "BlindSide$Trial")) (0) n n nf [(2, 21)] M (f_X0_nextFree M) := by
  refine AM_of (by decide +kernel) (Nat.le_of_ble_eq_true rfl) (fun h => absurd h (Int.lt_irrefl n)) ?_
  show AW g true RX0 cX0_nextFree 1 (some (.object "BlindSide$Trial")) (0) n n nf 0 [(0, 2, 21)] [] n M (f_X0_nextFree M)
  unfold f_X0_nextFree
  refine r_aload_n 0 dX0_nextFree_0 rfl rfl ?_
  refine r_gf (t := 0) (kz := 1) rfl hu dX0_nextFree_1 kF_X0_18 kd_21 rfl rfl rfl ?_
  refine r_bipush dX0_nextFree_4 (by decide) ⟨by decide, by decide⟩ ?_
  refine r_icmp_ge (tgt := 21) dX0_nextFree_6 rfl (fun h1 => ?_) (fun h2 => ?_)
  · refine r_null dX0_nextFree_21 ?_
    exact r_aret rfl rfl dX0_nextFree_22
  · refine r_aload_n 0 dX0_nextFree_9 rfl rfl ?_
    refine r_gx (kz := 0) rfl hu dX0_nextFree_10 kF_X0_11 kd_21 rfl rfl rfl fx_21_0 ?_
    refine r_aload_n 0 dX0_nextFree_13 rfl rfl ?_
    refine r_gf (t := 0) (kz := 1) rfl hu dX0_nextFree_14 kF_X0_18 kd_21 rfl rfl rfl ?_
    refine r_ok (fun h3 => ?_)
    refine r_aalx hu dX0_nextFree_17 kd_22 (Or.inr (Or.inr rfl)) rfl ln_22 h3 (fxTr _ h3) ?_
    refine r_goto (tgt := 22) dX0_nextFree_18 rfl ?_
    exact r_aret rfl rfl dX0_nextFree_22
theorem dX1_putChair_0 : decode cX1_putChair 0 = .ok (.aload_n 0, 1) := by decide +kernel
theorem dX1_putChair_1 : decode cX1_putChair 1 = .ok (.getfield 9, 3) := by decide +kernel
theorem dX1_putChair_4 : decode cX1_putChair 4 = .ok (.iload_n 1, 1) := by decide +kernel
theorem dX1_putChair_5 : decode cX1_putChair 5 = .ok (.baload, 1) := by decide +kernel
theorem dX1_putChair_6 : decode cX1_putChair 6 = .ok (.iload_n 2, 1) := by decide +kernel
theorem dX1_putChair_7 : decode cX1_putChair 7 = .ok (.if_icmp .ne 5, 3) := by decide +kernel
theorem dX1_putChair_10 : decode cX1_putChair 10 = .ok (.iconst 0, 1) := by decide +kernel
theorem dX1_putChair_11 : decode cX1_putChair 11 = .ok (.ireturn, 1) := by decide +kernel
theorem dX1_putChair_12 : decode cX1_putChair 12 = .ok (.aload_n 0, 1) := by decide +kernel
theorem dX1_putChair_13 : decode cX1_putChair 13 = .ok (.getfield 9, 3) := by decide +kernel
theorem dX1_putChair_16 : decode cX1_putChair 16 = .ok (.iload_n 1, 1) := by decide +kernel
theorem dX1_putChair_17 : decode cX1_putChair 17 = .ok (.iload_n 2, 1) := by decide +kernel
theorem dX1_putChair_18 : decode cX1_putChair 18 = .ok (.bastore, 1) := by decide +kernel
theorem dX1_putChair_19 : decode cX1_putChair 19 = .ok (.aload_n 0, 1) := by decide +kernel
theorem dX1_putChair_20 : decode cX1_putChair 20 = .ok (.dup, 1) := by decide +kernel
theorem dX1_putChair_21 : decode cX1_putChair 21 = .ok (.getfield 22, 3) := by decide +kernel
theorem dX1_putChair_24 : decode cX1_putChair 24 = .ok (.iload_n 2, 1) := by decide +kernel
theorem dX1_putChair_25 : decode cX1_putChair 25 = .ok (.ifCond .eq 7, 3) := by decide +kernel
theorem dX1_putChair_28 : decode cX1_putChair 28 = .ok (.iconst 1, 1) := by decide +kernel
theorem dX1_putChair_29 : decode cX1_putChair 29 = .ok (.goto 4, 3) := by decide +kernel
theorem dX1_putChair_32 : decode cX1_putChair 32 = .ok (.iconst (-1), 1) := by decide +kernel
theorem dX1_putChair_33 : decode cX1_putChair 33 = .ok (.iadd, 1) := by decide +kernel
theorem dX1_putChair_34 : decode cX1_putChair 34 = .ok (.putfield 22, 3) := by decide +kernel
theorem dX1_putChair_37 : decode cX1_putChair 37 = .ok (.iconst 1, 1) := by decide +kernel
theorem dX1_putChair_38 : decode cX1_putChair 38 = .ok (.ireturn, 1) := by decide +kernel
set_option maxRecDepth 100000 in
theorem m_X1_putChair {g : GT} {n nf : Int} (hu : Up true nf n) (M : Mem) (a1 a2 : Int) : AM g true yX1_putChair cX1_putChair 3 (some .boolean) (0) n n nf [(2, 63), (0, a1), (0, a2)] M (f_X1_putChair M a1 a2) := by
  refine AM_of (by decide +kernel) (Nat.le_of_ble_eq_true rfl) (fun h => absurd h (Int.lt_irrefl n)) ?_
  show AW g true RX1 cX1_putChair 3 (some .boolean) (0) n n nf 0 [(0, 2, 63), (1, 0, a1), (2, 0, a2)] [] n M (f_X1_putChair M a1 a2)
  unfold f_X1_putChair
  refine r_aload_n 0 dX1_putChair_0 rfl rfl ?_
  refine r_gx (kz := 0) rfl hu dX1_putChair_1 kF_X1_9 kd_63 rfl rfl rfl fx_63_0 ?_
  refine r_iload_n 1 dX1_putChair_4 rfl rfl ?_
  refine r_ok (fun h1 => ?_)
  refine r_zald hu dX1_putChair_5 kd_64 rfl rfl rfl ln_64 h1 ?_
  refine r_iload_n 2 dX1_putChair_6 rfl rfl ?_
  refine r_icmp_ne (tgt := 12) dX1_putChair_7 rfl (fun h2 => ?_) (fun h3 => ?_)
  · refine r_iconst dX1_putChair_10 ⟨by decide, by decide⟩ ?_
    exact r_iret rfl rfl (Or.inr ⟨rfl, Or.inl rfl⟩) dX1_putChair_11
  · refine r_aload_n 0 dX1_putChair_12 rfl rfl ?_
    refine r_gx (kz := 0) rfl hu dX1_putChair_13 kF_X1_9 kd_63 rfl rfl rfl fx_63_0 ?_
    refine r_iload_n 1 dX1_putChair_16 rfl rfl ?_
    refine r_iload_n 2 dX1_putChair_17 rfl rfl ?_
    refine r_ok (fun h4 => ?_)
    refine r_zast hu dX1_putChair_18 kd_64 rfl rfl rfl ln_64 h1 h4 rfl (fun M5 eM5 => ?_)
    refine r_aload_n 0 dX1_putChair_19 rfl rfl ?_
    refine r_dup dX1_putChair_20 (nz2 _) ?_
    refine r_gf (t := 0) (kz := 3) rfl hu dX1_putChair_21 kF_X1_22 kd_63 rfl rfl rfl ?_
    refine r_iload_n 2 dX1_putChair_24 rfl rfl ?_
    refine r_if_eq (tgt := 32) dX1_putChair_25 rfl (fun h6 => ?_) (fun h7 => ?_)
    · refine r_iconst dX1_putChair_32 ⟨by decide, by decide⟩ ?_
      refine r_ok (fun h8 => ?_)
      refine r_iadd dX1_putChair_33 h8 ?_
      refine r_pf (t := 0) (kz := 3) rfl hu dX1_putChair_34 kF_X1_22 kd_63 rfl rfl rfl (fun h => absurd h (by decide)) rfl kX_1_3 (fun M9 eM9 => ?_)
      refine r_iconst dX1_putChair_37 ⟨by decide, by decide⟩ ?_
      exact r_iret rfl rfl (Or.inr ⟨rfl, Or.inr rfl⟩) dX1_putChair_38
    · refine r_iconst dX1_putChair_28 ⟨by decide, by decide⟩ ?_
      refine r_goto (tgt := 33) dX1_putChair_29 rfl ?_
      refine r_ok (fun h10 => ?_)
      refine r_iadd dX1_putChair_33 h10 ?_
      refine r_pf (t := 0) (kz := 3) rfl hu dX1_putChair_34 kF_X1_22 kd_63 rfl rfl rfl (fun h => absurd h (by decide)) rfl kX_1_3 (fun M11 eM11 => ?_)
      refine r_iconst dX1_putChair_37 ⟨by decide, by decide⟩ ?_
      exact r_iret rfl rfl (Or.inr ⟨rfl, Or.inr rfl⟩) dX1_putChair_38
theorem dX11_squareAt_0 : decode cX11_squareAt 0 = .ok (.bipush 12, 2) := by decide +kernel
theorem dX11_squareAt_2 : decode cX11_squareAt 2 = .ok (.iload_n 1, 1) := by decide +kernel
theorem dX11_squareAt_3 : decode cX11_squareAt 3 = .ok (.imul, 1) := by decide +kernel
theorem dX11_squareAt_4 : decode cX11_squareAt 4 = .ok (.iload_n 0, 1) := by decide +kernel
theorem dX11_squareAt_5 : decode cX11_squareAt 5 = .ok (.iadd, 1) := by decide +kernel
theorem dX11_squareAt_6 : decode cX11_squareAt 6 = .ok (.ireturn, 1) := by decide +kernel
set_option maxRecDepth 100000 in
theorem m_X11_squareAt {g : GT} {n nf : Int} (hu : Up true nf n) (M : Mem) (a0 a1 : Int) : AM g true yX11_squareAt cX11_squareAt 2 (some .int) (0) n n nf [(0, a0), (0, a1)] M (f_X11_squareAt M a0 a1) := by
  refine AM_of (by decide +kernel) (Nat.le_of_ble_eq_true rfl) (fun h => absurd h (Int.lt_irrefl n)) ?_
  show AW g true RX11 cX11_squareAt 2 (some .int) (0) n n nf 0 [(0, 0, a0), (1, 0, a1)] [] n M (f_X11_squareAt M a0 a1)
  unfold f_X11_squareAt
  refine r_bipush dX11_squareAt_0 (by decide) ⟨by decide, by decide⟩ ?_
  refine r_iload_n 1 dX11_squareAt_2 rfl rfl ?_
  refine r_ok (fun h1 => ?_)
  refine r_imul dX11_squareAt_3 h1 ?_
  refine r_iload_n 0 dX11_squareAt_4 rfl rfl ?_
  refine r_ok (fun h2 => ?_)
  refine r_iadd dX11_squareAt_5 h2 ?_
  exact r_iret rfl rfl (Or.inl rfl) dX11_squareAt_6
theorem dX1_cameFrom_0 : decode cX1_cameFrom 0 = .ok (.iload_n 1, 1) := by decide +kernel
theorem dX1_cameFrom_1 : decode cX1_cameFrom 1 = .ok (.ifCond .lt 9, 3) := by decide +kernel
theorem dX1_cameFrom_4 : decode cX1_cameFrom 4 = .ok (.iload_n 1, 1) := by decide +kernel
theorem dX1_cameFrom_5 : decode cX1_cameFrom 5 = .ok (.bipush 8, 2) := by decide +kernel
theorem dX1_cameFrom_7 : decode cX1_cameFrom 7 = .ok (.if_icmp .lt 5, 3) := by decide +kernel
theorem dX1_cameFrom_10 : decode cX1_cameFrom 10 = .ok (.lconst 0, 1) := by decide +kernel
theorem dX1_cameFrom_11 : decode cX1_cameFrom 11 = .ok (.lreturn, 1) := by decide +kernel
theorem dX1_cameFrom_12 : decode cX1_cameFrom 12 = .ok (.iload_n 1, 1) := by decide +kernel
theorem dX1_cameFrom_13 : decode cX1_cameFrom 13 = .ok (.ifCond .eq 9, 3) := by decide +kernel
theorem dX1_cameFrom_16 : decode cX1_cameFrom 16 = .ok (.iload_n 1, 1) := by decide +kernel
theorem dX1_cameFrom_17 : decode cX1_cameFrom 17 = .ok (.bipush 7, 2) := by decide +kernel
theorem dX1_cameFrom_19 : decode cX1_cameFrom 19 = .ok (.if_icmp .ne 7, 3) := by decide +kernel
theorem dX1_cameFrom_22 : decode cX1_cameFrom 22 = .ok (.iconst 3, 1) := by decide +kernel
theorem dX1_cameFrom_23 : decode cX1_cameFrom 23 = .ok (.goto 4, 3) := by decide +kernel
theorem dX1_cameFrom_26 : decode cX1_cameFrom 26 = .ok (.iconst 2, 1) := by decide +kernel
theorem dX1_cameFrom_27 : decode cX1_cameFrom 27 = .ok (.istore_n 3, 1) := by decide +kernel
theorem dX1_cameFrom_28 : decode cX1_cameFrom 28 = .ok (.iload_n 2, 1) := by decide +kernel
theorem dX1_cameFrom_29 : decode cX1_cameFrom 29 = .ok (.ifCond .eq 15, 3) := by decide +kernel
theorem dX1_cameFrom_32 : decode cX1_cameFrom 32 = .ok (.iload_n 3, 1) := by decide +kernel
theorem dX1_cameFrom_33 : decode cX1_cameFrom 33 = .ok (.i2l, 1) := by decide +kernel
theorem dX1_cameFrom_34 : decode cX1_cameFrom 34 = .ok (.aload_n 0, 1) := by decide +kernel
theorem dX1_cameFrom_35 : decode cX1_cameFrom 35 = .ok (.getfield 15, 3) := by decide +kernel
theorem dX1_cameFrom_38 : decode cX1_cameFrom 38 = .ok (.iload_n 1, 1) := by decide +kernel
theorem dX1_cameFrom_39 : decode cX1_cameFrom 39 = .ok (.laload, 1) := by decide +kernel
theorem dX1_cameFrom_40 : decode cX1_cameFrom 40 = .ok (.lmul, 1) := by decide +kernel
theorem dX1_cameFrom_41 : decode cX1_cameFrom 41 = .ok (.goto 9, 3) := by decide +kernel
theorem dX1_cameFrom_44 : decode cX1_cameFrom 44 = .ok (.aload_n 0, 1) := by decide +kernel
theorem dX1_cameFrom_45 : decode cX1_cameFrom 45 = .ok (.getfield 15, 3) := by decide +kernel
theorem dX1_cameFrom_48 : decode cX1_cameFrom 48 = .ok (.iload_n 1, 1) := by decide +kernel
theorem dX1_cameFrom_49 : decode cX1_cameFrom 49 = .ok (.laload, 1) := by decide +kernel
theorem dX1_cameFrom_50 : decode cX1_cameFrom 50 = .ok (.lreturn, 1) := by decide +kernel
set_option maxRecDepth 100000 in
theorem tj_X1_cameFrom_27 {g : GT} {n nf : Int} (hu : Up true nf n) (a1 a2 : Int) (M : Mem) (s0 : Int) : AW g true RX1 cX1_cameFrom 4 (some .long) (0) n n nf 27 [(0, 2, 63), (1, 0, a1), (2, 0, a2)] [(0, s0)] n M (j_X1_cameFrom_27 a1 a2 M s0) := by
  unfold j_X1_cameFrom_27
  refine r_istore_n dX1_cameFrom_27 rfl (by decide) (ls' := [(3, 0, s0), (0, 2, 63), (1, 0, a1), (2, 0, a2)]) rfl ?_
  refine r_iload_n 3 dX1_cameFrom_28 rfl rfl ?_
  refine r_if_eq (tgt := 44) dX1_cameFrom_29 rfl (fun h7 => ?_) (fun h8 => ?_)
  · refine r_aload_n 1 dX1_cameFrom_44 rfl rfl ?_
    refine r_gx (kz := 1) rfl hu dX1_cameFrom_45 kF_X1_15 kd_63 rfl rfl rfl fx_63_1 ?_
    refine r_iload_n 2 dX1_cameFrom_48 rfl rfl ?_
    refine r_ok (fun h9 => ?_)
    refine r_lald hu dX1_cameFrom_49 kd_65 rfl rfl rfl ln_65 h9 ?_
    exact r_lret rfl rfl dX1_cameFrom_50
  · refine r_iload_n 0 dX1_cameFrom_32 rfl rfl ?_
    refine r_i2l dX1_cameFrom_33 ?_
    refine r_aload_n 1 dX1_cameFrom_34 rfl rfl ?_
    refine r_gx (kz := 1) rfl hu dX1_cameFrom_35 kF_X1_15 kd_63 rfl rfl rfl fx_63_1 ?_
    refine r_iload_n 2 dX1_cameFrom_38 rfl rfl ?_
    refine r_ok (fun h10 => ?_)
    refine r_lald hu dX1_cameFrom_39 kd_65 rfl rfl rfl ln_65 h10 ?_
    refine r_ok (fun h11 => ?_)
    refine r_lmul dX1_cameFrom_40 h11 ?_
    refine r_goto (tgt := 50) dX1_cameFrom_41 rfl ?_
    exact r_lret rfl rfl dX1_cameFrom_50
set_option maxRecDepth 100000 in
theorem tj_X1_cameFrom_22 {g : GT} {n nf : Int} (hu : Up true nf n) (a1 a2 : Int) (M : Mem) : AW g true RX1 cX1_cameFrom 4 (some .long) (0) n n nf 22 [(0, 2, 63), (1, 0, a1), (2, 0, a2)] [] n M (j_X1_cameFrom_22 a1 a2 M) := by
  unfold j_X1_cameFrom_22
  refine r_iconst dX1_cameFrom_22 ⟨by decide, by decide⟩ ?_
  refine r_goto (tgt := 27) dX1_cameFrom_23 rfl ?_
  exact tj_X1_cameFrom_27 hu a1 a2 M 3
set_option maxRecDepth 100000 in
theorem m_X1_cameFrom {g : GT} {n nf : Int} (hu : Up true nf n) (M : Mem) (a1 a2 : Int) : AM g true yX1_cameFrom cX1_cameFrom 4 (some .long) (0) n n nf [(2, 63), (0, a1), (0, a2)] M (f_X1_cameFrom M a1 a2) := by
  refine AM_of (by decide +kernel) (Nat.le_of_ble_eq_true rfl) (fun h => absurd h (Int.lt_irrefl n)) ?_
  show AW g true RX1 cX1_cameFrom 4 (some .long) (0) n n nf 0 [(0, 2, 63), (1, 0, a1), (2, 0, a2)] [] n M (f_X1_cameFrom M a1 a2)
  unfold f_X1_cameFrom
  refine r_iload_n 1 dX1_cameFrom_0 rfl rfl ?_
  refine r_if_lt (tgt := 10) dX1_cameFrom_1 rfl (fun h1 => ?_) (fun h2 => ?_)
  · refine r_lconst (v := 0) dX1_cameFrom_10 (by decide) ⟨by decide, by decide⟩ ?_
    exact r_lret rfl rfl dX1_cameFrom_11
  · refine r_iload_n 1 dX1_cameFrom_4 rfl rfl ?_
    refine r_bipush dX1_cameFrom_5 (by decide) ⟨by decide, by decide⟩ ?_
    refine r_icmp_lt (tgt := 12) dX1_cameFrom_7 rfl (fun h3 => ?_) (fun h4 => ?_)
    · refine r_iload_n 1 dX1_cameFrom_12 rfl rfl ?_
      refine r_if_eq (tgt := 22) dX1_cameFrom_13 rfl (fun h5 => ?_) (fun h6 => ?_)
      · exact tj_X1_cameFrom_22 hu a1 a2 M
      · refine r_iload_n 1 dX1_cameFrom_16 rfl rfl ?_
        refine r_bipush dX1_cameFrom_17 (by decide) ⟨by decide, by decide⟩ ?_
        refine r_icmp_ne (tgt := 26) dX1_cameFrom_19 rfl (fun h12 => ?_) (fun h13 => ?_)
        · exact tj_X1_cameFrom_22 hu a1 a2 M
        · refine r_iconst dX1_cameFrom_26 ⟨by decide, by decide⟩ ?_
          exact tj_X1_cameFrom_27 hu a1 a2 M 2
    · refine r_lconst (v := 0) dX1_cameFrom_10 (by decide) ⟨by decide, by decide⟩ ?_
      exact r_lret rfl rfl dX1_cameFrom_11
theorem dX1_stepTo_0 : decode cX1_stepTo 0 = .ok (.iconst 0, 1) := by decide +kernel
theorem dX1_stepTo_1 : decode cX1_stepTo 1 = .ok (.istore_n 3, 1) := by decide +kernel
theorem dX1_stepTo_2 : decode cX1_stepTo 2 = .ok (.iload_n 3, 1) := by decide +kernel
theorem dX1_stepTo_3 : decode cX1_stepTo 3 = .ok (.bipush 8, 2) := by decide +kernel
theorem dX1_stepTo_5 : decode cX1_stepTo 5 = .ok (.if_icmp .ge 60, 3) := by decide +kernel
theorem dX1_stepTo_8 : decode cX1_stepTo 8 = .ok (.aload_n 0, 1) := by decide +kernel
theorem dX1_stepTo_9 : decode cX1_stepTo 9 = .ok (.iload_n 3, 1) := by decide +kernel
theorem dX1_stepTo_10 : decode cX1_stepTo 10 = .ok (.iconst 1, 1) := by decide +kernel
theorem dX1_stepTo_11 : decode cX1_stepTo 11 = .ok (.isub, 1) := by decide +kernel
theorem dX1_stepTo_12 : decode cX1_stepTo 12 = .ok (.iload_n 2, 1) := by decide +kernel
theorem dX1_stepTo_13 : decode cX1_stepTo 13 = .ok (.invokevirtual 34, 3) := by decide +kernel
theorem dX1_stepTo_16 : decode cX1_stepTo 16 = .ok (.aload_n 0, 1) := by decide +kernel
theorem dX1_stepTo_17 : decode cX1_stepTo 17 = .ok (.iload_n 3, 1) := by decide +kernel
theorem dX1_stepTo_18 : decode cX1_stepTo 18 = .ok (.iload_n 2, 1) := by decide +kernel
theorem dX1_stepTo_19 : decode cX1_stepTo 19 = .ok (.invokevirtual 34, 3) := by decide +kernel
theorem dX1_stepTo_22 : decode cX1_stepTo 22 = .ok (.ladd, 1) := by decide +kernel
theorem dX1_stepTo_23 : decode cX1_stepTo 23 = .ok (.aload_n 0, 1) := by decide +kernel
theorem dX1_stepTo_24 : decode cX1_stepTo 24 = .ok (.iload_n 3, 1) := by decide +kernel
theorem dX1_stepTo_25 : decode cX1_stepTo 25 = .ok (.iconst 1, 1) := by decide +kernel
theorem dX1_stepTo_26 : decode cX1_stepTo 26 = .ok (.iadd, 1) := by decide +kernel
theorem dX1_stepTo_27 : decode cX1_stepTo 27 = .ok (.iload_n 2, 1) := by decide +kernel
theorem dX1_stepTo_28 : decode cX1_stepTo 28 = .ok (.invokevirtual 34, 3) := by decide +kernel
theorem dX1_stepTo_31 : decode cX1_stepTo 31 = .ok (.ladd, 1) := by decide +kernel
theorem dX1_stepTo_32 : decode cX1_stepTo 32 = .ok (.lstore 4, 2) := by decide +kernel
theorem dX1_stepTo_34 : decode cX1_stepTo 34 = .ok (.aload_n 0, 1) := by decide +kernel
theorem dX1_stepTo_35 : decode cX1_stepTo 35 = .ok (.getfield 19, 3) := by decide +kernel
theorem dX1_stepTo_38 : decode cX1_stepTo 38 = .ok (.iload_n 3, 1) := by decide +kernel
theorem dX1_stepTo_39 : decode cX1_stepTo 39 = .ok (.aload_n 0, 1) := by decide +kernel
theorem dX1_stepTo_40 : decode cX1_stepTo 40 = .ok (.getfield 9, 3) := by decide +kernel
theorem dX1_stepTo_43 : decode cX1_stepTo 43 = .ok (.iload_n 1, 1) := by decide +kernel
theorem dX1_stepTo_44 : decode cX1_stepTo 44 = .ok (.iload_n 3, 1) := by decide +kernel
theorem dX1_stepTo_45 : decode cX1_stepTo 45 = .ok (.invokestatic 26, 3) := by decide +kernel
theorem dX1_stepTo_48 : decode cX1_stepTo 48 = .ok (.baload, 1) := by decide +kernel
theorem dX1_stepTo_49 : decode cX1_stepTo 49 = .ok (.ifCond .eq 7, 3) := by decide +kernel
theorem dX1_stepTo_52 : decode cX1_stepTo 52 = .ok (.lconst 0, 1) := by decide +kernel
theorem dX1_stepTo_53 : decode cX1_stepTo 53 = .ok (.goto 5, 3) := by decide +kernel
theorem dX1_stepTo_56 : decode cX1_stepTo 56 = .ok (.lload 4, 2) := by decide +kernel
theorem dX1_stepTo_58 : decode cX1_stepTo 58 = .ok (.lastore, 1) := by decide +kernel
theorem dX1_stepTo_59 : decode cX1_stepTo 59 = .ok (.iinc 3 1, 3) := by decide +kernel
theorem dX1_stepTo_62 : decode cX1_stepTo 62 = .ok (.goto (-60), 3) := by decide +kernel
theorem dX1_stepTo_65 : decode cX1_stepTo 65 = .ok (.iconst 0, 1) := by decide +kernel
theorem dX1_stepTo_66 : decode cX1_stepTo 66 = .ok (.istore_n 3, 1) := by decide +kernel
theorem dX1_stepTo_67 : decode cX1_stepTo 67 = .ok (.iload_n 3, 1) := by decide +kernel
theorem dX1_stepTo_68 : decode cX1_stepTo 68 = .ok (.bipush 8, 2) := by decide +kernel
theorem dX1_stepTo_70 : decode cX1_stepTo 70 = .ok (.if_icmp .ge 21, 3) := by decide +kernel
theorem dX1_stepTo_73 : decode cX1_stepTo 73 = .ok (.aload_n 0, 1) := by decide +kernel
theorem dX1_stepTo_74 : decode cX1_stepTo 74 = .ok (.getfield 15, 3) := by decide +kernel
theorem dX1_stepTo_77 : decode cX1_stepTo 77 = .ok (.iload_n 3, 1) := by decide +kernel
theorem dX1_stepTo_78 : decode cX1_stepTo 78 = .ok (.aload_n 0, 1) := by decide +kernel
theorem dX1_stepTo_79 : decode cX1_stepTo 79 = .ok (.getfield 19, 3) := by decide +kernel
theorem dX1_stepTo_82 : decode cX1_stepTo 82 = .ok (.iload_n 3, 1) := by decide +kernel
theorem dX1_stepTo_83 : decode cX1_stepTo 83 = .ok (.laload, 1) := by decide +kernel
theorem dX1_stepTo_84 : decode cX1_stepTo 84 = .ok (.lastore, 1) := by decide +kernel
theorem dX1_stepTo_85 : decode cX1_stepTo 85 = .ok (.iinc 3 1, 3) := by decide +kernel
theorem dX1_stepTo_88 : decode cX1_stepTo 88 = .ok (.goto (-21), 3) := by decide +kernel
theorem dX1_stepTo_91 : decode cX1_stepTo 91 = .ok (.return_, 1) := by decide +kernel
set_option maxRecDepth 100000 in
theorem tb_X1_stepTo_67 {g : GT} {n nf : Int} (hu : Up true nf n) (w67 : Mem → Int → Res) (hw67 : ∀ (M : Mem) (x3 : Int), AW g true RX1 cX1_stepTo 6 none (1) n n nf 67 [(0, 2, 63), (3, 0, x3)] [] n M (w67 M x3)) (M : Mem) (x3 : Int) : AW g true RX1 cX1_stepTo 6 none (1) n n nf 67 [(0, 2, 63), (3, 0, x3)] [] n M (b_X1_stepTo_67 w67 M x3) := by
  unfold b_X1_stepTo_67
  refine r_iload_n 1 dX1_stepTo_67 rfl rfl ?_
  refine r_bipush dX1_stepTo_68 (by decide) ⟨by decide, by decide⟩ ?_
  refine r_icmp_ge (tgt := 91) dX1_stepTo_70 rfl (fun h3 => ?_) (fun h4 => ?_)
  · exact r_vret rfl rfl dX1_stepTo_91
  · refine r_aload_n 0 dX1_stepTo_73 rfl rfl ?_
    refine r_gx (kz := 1) rfl hu dX1_stepTo_74 kF_X1_15 kd_63 rfl rfl rfl fx_63_1 ?_
    refine r_iload_n 1 dX1_stepTo_77 rfl rfl ?_
    refine r_aload_n 0 dX1_stepTo_78 rfl rfl ?_
    refine r_gx (kz := 2) rfl hu dX1_stepTo_79 kF_X1_19 kd_63 rfl rfl rfl fx_63_2 ?_
    refine r_iload_n 1 dX1_stepTo_82 rfl rfl ?_
    refine r_ok (fun h5 => ?_)
    refine r_lald hu dX1_stepTo_83 kd_66 rfl rfl rfl ln_66 h5 ?_
    refine r_last hu dX1_stepTo_84 kd_65 rfl rfl rfl ln_65 h5 rfl (fun M6 eM6 => ?_)
    refine r_iincB 1 dX1_stepTo_85 rfl ⟨by have := h5; omega, by have := h5; omega⟩ (by decide) (lf := fun y7 => [(3, 0, y7), (0, 2, 63)]) (fun _ => rfl) (fun y7 ey7 => ?_)
    refine r_goto (tgt := 67) dX1_stepTo_88 rfl ?_
    refine r_sub [1, 0] (ls' := [(0, 2, 63), (3, 0, y7)]) rfl ?_
    exact hw67 M6 y7
set_option maxRecDepth 100000 in
theorem tb_X1_stepTo_2 {g : GT} {n nf : Int} (hu : Up true nf n) (a1 a2 : Int) (w2 : Mem → Int → Res) (hw2 : ∀ (M : Mem) (x3 : Int), AW g true RX1 cX1_stepTo 6 none (1) n n nf 2 [(0, 2, 63), (1, 0, a1), (2, 0, a2), (3, 0, x3)] [] n M (w2 M x3)) (M : Mem) (x3 : Int) : AW g true RX1 cX1_stepTo 6 none (1) n n nf 2 [(0, 2, 63), (1, 0, a1), (2, 0, a2), (3, 0, x3)] [] n M (b_X1_stepTo_2 a1 a2 w2 M x3) := by
  unfold b_X1_stepTo_2
  refine r_iload_n 3 dX1_stepTo_2 rfl rfl ?_
  refine r_bipush dX1_stepTo_3 (by decide) ⟨by decide, by decide⟩ ?_
  refine r_icmp_ge (tgt := 65) dX1_stepTo_5 rfl (fun h1 => ?_) (fun h2 => ?_)
  · refine r_iconst dX1_stepTo_65 ⟨by decide, by decide⟩ ?_
    refine r_istore_n dX1_stepTo_66 rfl (by decide) (ls' := [(3, 0, 0), (0, 2, 63), (1, 0, a1), (2, 0, a2)]) rfl ?_
    refine r_sub [1, 0] (ls' := [(0, 2, 63), (3, 0, 0)]) rfl ?_
    exact wl1_aw (P := fun M x3 o => AW g true RX1 cX1_stepTo 6 none (1) n n nf 67 [(0, 2, 63), (3, 0, x3)] [] n M (o)) (fun M x3 => aw_none) (fun w hw M x3 => tb_X1_stepTo_67 hu w hw M x3) FU M 0
  · refine r_aload_n 0 dX1_stepTo_8 rfl rfl ?_
    refine r_iload_n 3 dX1_stepTo_9 rfl rfl ?_
    refine r_iconst dX1_stepTo_10 ⟨by decide, by decide⟩ ?_
    refine r_ok (fun h8 => ?_)
    refine r_isub dX1_stepTo_11 h8 ?_
    refine r_iload_n 2 dX1_stepTo_12 rfl rfl ?_
    refine r_inv (a := 63) hu ⟨Nat.le_refl _, Nat.le_refl _⟩ dX1_stepTo_13 kM_X1_34 (ci := 1) rfl kd_63 rfl rfl (by decide) (by decide) [(0, x3 - 1), (0, a2)] rfl (sk := []) rfl (Nat.le_of_ble_eq_true rfl) rfl rfl (m_X1_cameFrom hu M (x3 - 1) a2) (fun r9 M10 => ?_)
    refine r_aload_n 0 dX1_stepTo_16 rfl rfl ?_
    refine r_iload_n 3 dX1_stepTo_17 rfl rfl ?_
    refine r_iload_n 2 dX1_stepTo_18 rfl rfl ?_
    refine r_inv (a := 63) hu ⟨Nat.le_refl _, Nat.le_refl _⟩ dX1_stepTo_19 kM_X1_34 (ci := 1) rfl kd_63 rfl rfl (by decide) (by decide) [(0, x3), (0, a2)] rfl (sk := [(1, r9)]) rfl (Nat.le_of_ble_eq_true rfl) rfl rfl (m_X1_cameFrom hu M10 x3 a2) (fun r11 M12 => ?_)
    refine r_ok (fun h13 => ?_)
    refine r_ladd dX1_stepTo_22 h13 ?_
    refine r_aload_n 0 dX1_stepTo_23 rfl rfl ?_
    refine r_iload_n 3 dX1_stepTo_24 rfl rfl ?_
    refine r_iconst dX1_stepTo_25 ⟨by decide, by decide⟩ ?_
    refine r_ok (fun h14 => ?_)
    refine r_iadd dX1_stepTo_26 h14 ?_
    refine r_iload_n 2 dX1_stepTo_27 rfl rfl ?_
    refine r_inv (a := 63) hu ⟨Nat.le_refl _, Nat.le_refl _⟩ dX1_stepTo_28 kM_X1_34 (ci := 1) rfl kd_63 rfl rfl (by decide) (by decide) [(0, x3 + 1), (0, a2)] rfl (sk := [(1, r9 + r11)]) rfl (Nat.le_of_ble_eq_true rfl) rfl rfl (m_X1_cameFrom hu M12 (x3 + 1) a2) (fun r15 M16 => ?_)
    refine r_ok (fun h17 => ?_)
    refine r_ladd dX1_stepTo_31 h17 ?_
    refine r_lstoreB dX1_stepTo_32 (by decide) (lf := fun y18 => [(4, 1, y18), (0, 2, 63), (1, 0, a1), (2, 0, a2), (3, 0, x3)]) (fun _ => rfl) (fun y18 ey18 => ?_)
    refine r_aload_n 1 dX1_stepTo_34 rfl rfl ?_
    refine r_gx (kz := 2) rfl hu dX1_stepTo_35 kF_X1_19 kd_63 rfl rfl rfl fx_63_2 ?_
    refine r_iload_n 4 dX1_stepTo_38 rfl rfl ?_
    refine r_aload_n 1 dX1_stepTo_39 rfl rfl ?_
    refine r_gx (kz := 0) rfl hu dX1_stepTo_40 kF_X1_9 kd_63 rfl rfl rfl fx_63_0 ?_
    refine r_iload_n 2 dX1_stepTo_43 rfl rfl ?_
    refine r_iload_n 4 dX1_stepTo_44 rfl rfl ?_
    refine r_ins (a := 0) ⟨Nat.le_refl _, Nat.le_refl _⟩ dX1_stepTo_45 kM_X1_26 (by decide) (by decide) [(0, a1), (0, x3)] rfl (sk := [(2, 64), (0, x3), (2, 66)]) rfl (Nat.le_of_ble_eq_true rfl) rfl rfl (m_X11_squareAt hu M16 a1 x3) (fun r19 M20 => ?_)
    refine r_ok (fun h21 => ?_)
    refine r_zald hu dX1_stepTo_48 kd_64 rfl rfl rfl ln_64 h21 ?_
    refine r_if_eq (tgt := 56) dX1_stepTo_49 rfl (fun h22 => ?_) (fun h23 => ?_)
    · refine r_lload 0 dX1_stepTo_56 rfl ?_
      refine r_ok (fun h24 => ?_)
      refine r_last hu dX1_stepTo_58 kd_66 rfl rfl rfl ln_66 h24 rfl (fun M25 eM25 => ?_)
      refine r_iincB 4 dX1_stepTo_59 rfl h14 (by decide) (lf := fun y26 => [(3, 0, y26), (4, 1, y18), (0, 2, 63), (1, 0, a1), (2, 0, a2)]) (fun _ => rfl) (fun y26 ey26 => ?_)
      refine r_goto (tgt := 2) dX1_stepTo_62 rfl ?_
      refine r_sub [2, 3, 4, 0] (ls' := [(0, 2, 63), (1, 0, a1), (2, 0, a2), (3, 0, y26)]) rfl ?_
      exact hw2 M25 y26
    · refine r_lconst (v := 0) dX1_stepTo_52 (by decide) ⟨by decide, by decide⟩ ?_
      refine r_goto (tgt := 58) dX1_stepTo_53 rfl ?_
      refine r_ok (fun h27 => ?_)
      refine r_last hu dX1_stepTo_58 kd_66 rfl rfl rfl ln_66 h27 rfl (fun M28 eM28 => ?_)
      refine r_iincB 4 dX1_stepTo_59 rfl h14 (by decide) (lf := fun y29 => [(3, 0, y29), (4, 1, y18), (0, 2, 63), (1, 0, a1), (2, 0, a2)]) (fun _ => rfl) (fun y29 ey29 => ?_)
      refine r_goto (tgt := 2) dX1_stepTo_62 rfl ?_
      refine r_sub [2, 3, 4, 0] (ls' := [(0, 2, 63), (1, 0, a1), (2, 0, a2), (3, 0, y29)]) rfl ?_
      exact hw2 M28 y29
set_option maxRecDepth 100000 in
theorem m_X1_stepTo {g : GT} {n nf : Int} (hu : Up true nf n) (M : Mem) (a1 a2 : Int) : AM g true yX1_stepTo cX1_stepTo 6 none (1) n n nf [(2, 63), (0, a1), (0, a2)] M (f_X1_stepTo M a1 a2) := by
  refine AM_of (by decide +kernel) (Nat.le_of_ble_eq_true rfl) (fun h => absurd h (Int.lt_irrefl n)) ?_
  show AW g true RX1 cX1_stepTo 6 none (1) n n nf 0 [(0, 2, 63), (1, 0, a1), (2, 0, a2)] [] n M (f_X1_stepTo M a1 a2)
  unfold f_X1_stepTo
  refine r_iconst dX1_stepTo_0 ⟨by decide, by decide⟩ ?_
  refine r_istore_n dX1_stepTo_1 rfl (by decide) (ls' := [(3, 0, 0), (0, 2, 63), (1, 0, a1), (2, 0, a2)]) rfl ?_
  refine r_sub [1, 2, 3, 0] (ls' := [(0, 2, 63), (1, 0, a1), (2, 0, a2), (3, 0, 0)]) rfl ?_
  exact wl1_aw (P := fun M x3 o => AW g true RX1 cX1_stepTo 6 none (1) n n nf 2 [(0, 2, 63), (1, 0, a1), (2, 0, a2), (3, 0, x3)] [] n M (o)) (fun M x3 => aw_none) (fun w hw M x3 => tb_X1_stepTo_2 hu a1 a2 w hw M x3) FU M 0
theorem dX1_passed_0 : decode cX1_passed 0 = .ok (.iconst 0, 1) := by decide +kernel
theorem dX1_passed_1 : decode cX1_passed 1 = .ok (.istore_n 3, 1) := by decide +kernel
theorem dX1_passed_2 : decode cX1_passed 2 = .ok (.iload_n 3, 1) := by decide +kernel
theorem dX1_passed_3 : decode cX1_passed 3 = .ok (.bipush 8, 2) := by decide +kernel
theorem dX1_passed_5 : decode cX1_passed 5 = .ok (.if_icmp .ge 38, 3) := by decide +kernel
theorem dX1_passed_8 : decode cX1_passed 8 = .ok (.aload_n 0, 1) := by decide +kernel
theorem dX1_passed_9 : decode cX1_passed 9 = .ok (.getfield 15, 3) := by decide +kernel
theorem dX1_passed_12 : decode cX1_passed 12 = .ok (.iload_n 3, 1) := by decide +kernel
theorem dX1_passed_13 : decode cX1_passed 13 = .ok (.iload_n 3, 1) := by decide +kernel
theorem dX1_passed_14 : decode cX1_passed 14 = .ok (.iload_n 1, 1) := by decide +kernel
theorem dX1_passed_15 : decode cX1_passed 15 = .ok (.if_icmp .ne 20, 3) := by decide +kernel
theorem dX1_passed_18 : decode cX1_passed 18 = .ok (.aload_n 0, 1) := by decide +kernel
theorem dX1_passed_19 : decode cX1_passed 19 = .ok (.getfield 9, 3) := by decide +kernel
theorem dX1_passed_22 : decode cX1_passed 22 = .ok (.iconst 0, 1) := by decide +kernel
theorem dX1_passed_23 : decode cX1_passed 23 = .ok (.iload_n 3, 1) := by decide +kernel
theorem dX1_passed_24 : decode cX1_passed 24 = .ok (.invokestatic 26, 3) := by decide +kernel
theorem dX1_passed_27 : decode cX1_passed 27 = .ok (.baload, 1) := by decide +kernel
theorem dX1_passed_28 : decode cX1_passed 28 = .ok (.ifCond .ne 7, 3) := by decide +kernel
theorem dX1_passed_31 : decode cX1_passed 31 = .ok (.lconst 1, 1) := by decide +kernel
theorem dX1_passed_32 : decode cX1_passed 32 = .ok (.goto 4, 3) := by decide +kernel
theorem dX1_passed_35 : decode cX1_passed 35 = .ok (.lconst 0, 1) := by decide +kernel
theorem dX1_passed_36 : decode cX1_passed 36 = .ok (.lastore, 1) := by decide +kernel
theorem dX1_passed_37 : decode cX1_passed 37 = .ok (.iinc 3 1, 3) := by decide +kernel
theorem dX1_passed_40 : decode cX1_passed 40 = .ok (.goto (-38), 3) := by decide +kernel
theorem dX1_passed_43 : decode cX1_passed 43 = .ok (.iconst 1, 1) := by decide +kernel
theorem dX1_passed_44 : decode cX1_passed 44 = .ok (.istore_n 3, 1) := by decide +kernel
theorem dX1_passed_45 : decode cX1_passed 45 = .ok (.iload_n 3, 1) := by decide +kernel
theorem dX1_passed_46 : decode cX1_passed 46 = .ok (.bipush 12, 2) := by decide +kernel
theorem dX1_passed_48 : decode cX1_passed 48 = .ok (.if_icmp .ge 15, 3) := by decide +kernel
theorem dX1_passed_51 : decode cX1_passed 51 = .ok (.aload_n 0, 1) := by decide +kernel
theorem dX1_passed_52 : decode cX1_passed 52 = .ok (.iload_n 3, 1) := by decide +kernel
theorem dX1_passed_53 : decode cX1_passed 53 = .ok (.iload_n 2, 1) := by decide +kernel
theorem dX1_passed_54 : decode cX1_passed 54 = .ok (.invokevirtual 30, 3) := by decide +kernel
theorem dX1_passed_57 : decode cX1_passed 57 = .ok (.iinc 3 1, 3) := by decide +kernel
theorem dX1_passed_60 : decode cX1_passed 60 = .ok (.goto (-15), 3) := by decide +kernel
theorem dX1_passed_63 : decode cX1_passed 63 = .ok (.lconst 0, 1) := by decide +kernel
theorem dX1_passed_64 : decode cX1_passed 64 = .ok (.lstore_n 3, 1) := by decide +kernel
theorem dX1_passed_65 : decode cX1_passed 65 = .ok (.iconst 0, 1) := by decide +kernel
theorem dX1_passed_66 : decode cX1_passed 66 = .ok (.istore 5, 2) := by decide +kernel
theorem dX1_passed_68 : decode cX1_passed 68 = .ok (.iload 5, 2) := by decide +kernel
theorem dX1_passed_70 : decode cX1_passed 70 = .ok (.bipush 8, 2) := by decide +kernel
theorem dX1_passed_72 : decode cX1_passed 72 = .ok (.if_icmp .ge 19, 3) := by decide +kernel
theorem dX1_passed_75 : decode cX1_passed 75 = .ok (.lload_n 3, 1) := by decide +kernel
theorem dX1_passed_76 : decode cX1_passed 76 = .ok (.aload_n 0, 1) := by decide +kernel
theorem dX1_passed_77 : decode cX1_passed 77 = .ok (.getfield 15, 3) := by decide +kernel
theorem dX1_passed_80 : decode cX1_passed 80 = .ok (.iload 5, 2) := by decide +kernel
theorem dX1_passed_82 : decode cX1_passed 82 = .ok (.laload, 1) := by decide +kernel
theorem dX1_passed_83 : decode cX1_passed 83 = .ok (.ladd, 1) := by decide +kernel
theorem dX1_passed_84 : decode cX1_passed 84 = .ok (.lstore_n 3, 1) := by decide +kernel
theorem dX1_passed_85 : decode cX1_passed 85 = .ok (.iinc 5 1, 3) := by decide +kernel
theorem dX1_passed_88 : decode cX1_passed 88 = .ok (.goto (-20), 3) := by decide +kernel
theorem dX1_passed_91 : decode cX1_passed 91 = .ok (.lload_n 3, 1) := by decide +kernel
theorem dX1_passed_92 : decode cX1_passed 92 = .ok (.lreturn, 1) := by decide +kernel
set_option maxRecDepth 100000 in
theorem tb_X1_passed_68 {g : GT} {n nf : Int} (hu : Up true nf n) (w68 : Mem → Int → Int → Res) (hw68 : ∀ (M : Mem) (x3 x5 : Int), AW g true RX1 cX1_passed 6 (some .long) (2) n n nf 68 [(0, 2, 63), (3, 1, x3), (5, 0, x5)] [] n M (w68 M x3 x5)) (M : Mem) (x3 x5 : Int) : AW g true RX1 cX1_passed 6 (some .long) (2) n n nf 68 [(0, 2, 63), (3, 1, x3), (5, 0, x5)] [] n M (b_X1_passed_68 w68 M x3 x5) := by
  unfold b_X1_passed_68
  refine r_iload 2 dX1_passed_68 rfl ?_
  refine r_bipush dX1_passed_70 (by decide) ⟨by decide, by decide⟩ ?_
  refine r_icmp_ge (tgt := 91) dX1_passed_72 rfl (fun h5 => ?_) (fun h6 => ?_)
  · refine r_lload_n 1 dX1_passed_91 rfl rfl ?_
    exact r_lret rfl rfl dX1_passed_92
  · refine r_lload_n 1 dX1_passed_75 rfl rfl ?_
    refine r_aload_n 0 dX1_passed_76 rfl rfl ?_
    refine r_gx (kz := 1) rfl hu dX1_passed_77 kF_X1_15 kd_63 rfl rfl rfl fx_63_1 ?_
    refine r_iload 2 dX1_passed_80 rfl ?_
    refine r_ok (fun h7 => ?_)
    refine r_lald hu dX1_passed_82 kd_65 rfl rfl rfl ln_65 h7 ?_
    refine r_ok (fun h8 => ?_)
    refine r_ladd dX1_passed_83 h8 ?_
    refine r_lstore_nB dX1_passed_84 rfl (by decide) (lf := fun y9 => [(3, 1, y9), (0, 2, 63), (5, 0, x5)]) (fun _ => rfl) (fun y9 ey9 => ?_)
    refine r_iincB 2 dX1_passed_85 rfl ⟨by have := h7; omega, by have := h7; omega⟩ (by decide) (lf := fun y10 => [(5, 0, y10), (3, 1, y9), (0, 2, 63)]) (fun _ => rfl) (fun y10 ey10 => ?_)
    refine r_goto (tgt := 68) dX1_passed_88 rfl ?_
    refine r_sub [2, 1, 0] (ls' := [(0, 2, 63), (3, 1, y9), (5, 0, y10)]) rfl ?_
    exact hw68 M y9 y10
set_option maxRecDepth 100000 in
theorem tb_X1_passed_45 {g : GT} {n nf : Int} (hu : Up true nf n) (a2 : Int) (w45 : Mem → Int → Res) (hw45 : ∀ (M : Mem) (x3 : Int), AW g true RX1 cX1_passed 6 (some .long) (2) n n nf 45 [(0, 2, 63), (2, 0, a2), (3, 0, x3)] [] n M (w45 M x3)) (M : Mem) (x3 : Int) : AW g true RX1 cX1_passed 6 (some .long) (2) n n nf 45 [(0, 2, 63), (2, 0, a2), (3, 0, x3)] [] n M (b_X1_passed_45 a2 w45 M x3) := by
  unfold b_X1_passed_45
  refine r_iload_n 2 dX1_passed_45 rfl rfl ?_
  refine r_bipush dX1_passed_46 (by decide) ⟨by decide, by decide⟩ ?_
  refine r_icmp_ge (tgt := 63) dX1_passed_48 rfl (fun h3 => ?_) (fun h4 => ?_)
  · refine r_lconst (v := 0) dX1_passed_63 (by decide) ⟨by decide, by decide⟩ ?_
    refine r_lstore_n dX1_passed_64 rfl (by decide) (ls' := [(3, 1, 0), (0, 2, 63), (2, 0, a2)]) rfl ?_
    refine r_iconst dX1_passed_65 ⟨by decide, by decide⟩ ?_
    refine r_istore dX1_passed_66 (by decide) (ls' := [(5, 0, 0), (3, 1, 0), (0, 2, 63), (2, 0, a2)]) rfl ?_
    refine r_sub [2, 1, 0] (ls' := [(0, 2, 63), (3, 1, 0), (5, 0, 0)]) rfl ?_
    exact wl2_aw (P := fun M x3 x5 o => AW g true RX1 cX1_passed 6 (some .long) (2) n n nf 68 [(0, 2, 63), (3, 1, x3), (5, 0, x5)] [] n M (o)) (fun M x3 x5 => aw_none) (fun w hw M x3 x5 => tb_X1_passed_68 hu w hw M x3 x5) FU M 0 0
  · refine r_aload_n 0 dX1_passed_51 rfl rfl ?_
    refine r_iload_n 2 dX1_passed_52 rfl rfl ?_
    refine r_iload_n 1 dX1_passed_53 rfl rfl ?_
    refine r_invv (a := 63) hu ⟨Nat.le_refl _, Nat.le_refl _⟩ dX1_passed_54 kM_X1_30 (ci := 1) rfl kd_63 rfl rfl (by decide) (by decide) [(0, x3), (0, a2)] rfl (sk := []) rfl (Nat.le_of_ble_eq_true rfl) rfl (m_X1_stepTo hu M x3 a2) (fun r11 M12 => ?_)
    refine r_ok (fun h13 => ?_)
    refine r_iincB 2 dX1_passed_57 rfl h13 (by decide) (lf := fun y14 => [(3, 0, y14), (0, 2, 63), (2, 0, a2)]) (fun _ => rfl) (fun y14 ey14 => ?_)
    refine r_goto (tgt := 45) dX1_passed_60 rfl ?_
    refine r_sub [1, 2, 0] (ls' := [(0, 2, 63), (2, 0, a2), (3, 0, y14)]) rfl ?_
    exact hw45 M12 y14
set_option maxRecDepth 100000 in
theorem tb_X1_passed_2 {g : GT} {n nf : Int} (hu : Up true nf n) (a1 a2 : Int) (w2 : Mem → Int → Res) (hw2 : ∀ (M : Mem) (x3 : Int), AW g true RX1 cX1_passed 6 (some .long) (2) n n nf 2 [(0, 2, 63), (1, 0, a1), (2, 0, a2), (3, 0, x3)] [] n M (w2 M x3)) (M : Mem) (x3 : Int) : AW g true RX1 cX1_passed 6 (some .long) (2) n n nf 2 [(0, 2, 63), (1, 0, a1), (2, 0, a2), (3, 0, x3)] [] n M (b_X1_passed_2 a1 a2 w2 M x3) := by
  unfold b_X1_passed_2
  refine r_iload_n 3 dX1_passed_2 rfl rfl ?_
  refine r_bipush dX1_passed_3 (by decide) ⟨by decide, by decide⟩ ?_
  refine r_icmp_ge (tgt := 43) dX1_passed_5 rfl (fun h1 => ?_) (fun h2 => ?_)
  · refine r_iconst dX1_passed_43 ⟨by decide, by decide⟩ ?_
    refine r_istore_n dX1_passed_44 rfl (by decide) (ls' := [(3, 0, 1), (0, 2, 63), (1, 0, a1), (2, 0, a2)]) rfl ?_
    refine r_sub [1, 3, 0] (ls' := [(0, 2, 63), (2, 0, a2), (3, 0, 1)]) rfl ?_
    exact wl1_aw (P := fun M x3 o => AW g true RX1 cX1_passed 6 (some .long) (2) n n nf 45 [(0, 2, 63), (2, 0, a2), (3, 0, x3)] [] n M (o)) (fun M x3 => aw_none) (fun w hw M x3 => tb_X1_passed_45 hu a2 w hw M x3) FU M 1
  · refine r_aload_n 0 dX1_passed_8 rfl rfl ?_
    refine r_gx (kz := 1) rfl hu dX1_passed_9 kF_X1_15 kd_63 rfl rfl rfl fx_63_1 ?_
    refine r_iload_n 3 dX1_passed_12 rfl rfl ?_
    refine r_iload_n 3 dX1_passed_13 rfl rfl ?_
    refine r_iload_n 1 dX1_passed_14 rfl rfl ?_
    refine r_icmp_ne (tgt := 35) dX1_passed_15 rfl (fun h15 => ?_) (fun h16 => ?_)
    · refine r_aload_n 0 dX1_passed_18 rfl rfl ?_
      refine r_gx (kz := 0) rfl hu dX1_passed_19 kF_X1_9 kd_63 rfl rfl rfl fx_63_0 ?_
      refine r_iconst dX1_passed_22 ⟨by decide, by decide⟩ ?_
      refine r_iload_n 3 dX1_passed_23 rfl rfl ?_
      refine r_ins (a := 0) ⟨Nat.le_refl _, Nat.le_refl _⟩ dX1_passed_24 kM_X1_26 (by decide) (by decide) [(0, 0), (0, x3)] rfl (sk := [(2, 64), (0, x3), (2, 65)]) rfl (Nat.le_of_ble_eq_true rfl) rfl rfl (m_X11_squareAt hu M 0 x3) (fun r17 M18 => ?_)
      refine r_ok (fun h19 => ?_)
      refine r_zald hu dX1_passed_27 kd_64 rfl rfl rfl ln_64 h19 ?_
      refine r_if_ne (tgt := 35) dX1_passed_28 rfl (fun h20 => ?_) (fun h21 => ?_)
      · refine r_lconst (v := 1) dX1_passed_31 (by decide) ⟨by decide, by decide⟩ ?_
        refine r_goto (tgt := 36) dX1_passed_32 rfl ?_
        refine r_ok (fun h22 => ?_)
        refine r_last hu dX1_passed_36 kd_65 rfl rfl rfl ln_65 h22 rfl (fun M23 eM23 => ?_)
        refine r_iincB 3 dX1_passed_37 rfl ⟨by have := h22; omega, by have := h22; omega⟩ (by decide) (lf := fun y24 => [(3, 0, y24), (0, 2, 63), (1, 0, a1), (2, 0, a2)]) (fun _ => rfl) (fun y24 ey24 => ?_)
        refine r_goto (tgt := 2) dX1_passed_40 rfl ?_
        refine r_sub [1, 2, 3, 0] (ls' := [(0, 2, 63), (1, 0, a1), (2, 0, a2), (3, 0, y24)]) rfl ?_
        exact hw2 M23 y24
      · refine r_lconst (v := 0) dX1_passed_35 (by decide) ⟨by decide, by decide⟩ ?_
        refine r_ok (fun h25 => ?_)
        refine r_last hu dX1_passed_36 kd_65 rfl rfl rfl ln_65 h25 rfl (fun M26 eM26 => ?_)
        refine r_iincB 3 dX1_passed_37 rfl ⟨by have := h25; omega, by have := h25; omega⟩ (by decide) (lf := fun y27 => [(3, 0, y27), (0, 2, 63), (1, 0, a1), (2, 0, a2)]) (fun _ => rfl) (fun y27 ey27 => ?_)
        refine r_goto (tgt := 2) dX1_passed_40 rfl ?_
        refine r_sub [1, 2, 3, 0] (ls' := [(0, 2, 63), (1, 0, a1), (2, 0, a2), (3, 0, y27)]) rfl ?_
        exact hw2 M26 y27
    · refine r_lconst (v := 0) dX1_passed_35 (by decide) ⟨by decide, by decide⟩ ?_
      refine r_ok (fun h28 => ?_)
      refine r_last hu dX1_passed_36 kd_65 rfl rfl rfl ln_65 h28 rfl (fun M29 eM29 => ?_)
      refine r_iincB 3 dX1_passed_37 rfl ⟨by have := h28; omega, by have := h28; omega⟩ (by decide) (lf := fun y30 => [(3, 0, y30), (0, 2, 63), (1, 0, a1), (2, 0, a2)]) (fun _ => rfl) (fun y30 ey30 => ?_)
      refine r_goto (tgt := 2) dX1_passed_40 rfl ?_
      refine r_sub [1, 2, 3, 0] (ls' := [(0, 2, 63), (1, 0, a1), (2, 0, a2), (3, 0, y30)]) rfl ?_
      exact hw2 M29 y30
set_option maxRecDepth 100000 in
theorem m_X1_passed {g : GT} {n nf : Int} (hu : Up true nf n) (M : Mem) (a1 a2 : Int) : AM g true yX1_passed cX1_passed 6 (some .long) (2) n n nf [(2, 63), (0, a1), (0, a2)] M (f_X1_passed M a1 a2) := by
  refine AM_of (by decide +kernel) (Nat.le_of_ble_eq_true rfl) (fun h => absurd h (Int.lt_irrefl n)) ?_
  show AW g true RX1 cX1_passed 6 (some .long) (2) n n nf 0 [(0, 2, 63), (1, 0, a1), (2, 0, a2)] [] n M (f_X1_passed M a1 a2)
  unfold f_X1_passed
  refine r_iconst dX1_passed_0 ⟨by decide, by decide⟩ ?_
  refine r_istore_n dX1_passed_1 rfl (by decide) (ls' := [(3, 0, 0), (0, 2, 63), (1, 0, a1), (2, 0, a2)]) rfl ?_
  refine r_sub [1, 2, 3, 0] (ls' := [(0, 2, 63), (1, 0, a1), (2, 0, a2), (3, 0, 0)]) rfl ?_
  exact wl1_aw (P := fun M x3 o => AW g true RX1 cX1_passed 6 (some .long) (2) n n nf 2 [(0, 2, 63), (1, 0, a1), (2, 0, a2), (3, 0, x3)] [] n M (o)) (fun M x3 => aw_none) (fun w hw M x3 => tb_X1_passed_2 hu a1 a2 w hw M x3) FU M 0
theorem dJ9_max_7cf53_0 : decode cJ9_max_7cf53 0 = .ok (.iload_n 0, 1) := by decide +kernel
theorem dJ9_max_7cf53_1 : decode cJ9_max_7cf53 1 = .ok (.iload_n 1, 1) := by decide +kernel
theorem dJ9_max_7cf53_2 : decode cJ9_max_7cf53 2 = .ok (.if_icmp .lt 7, 3) := by decide +kernel
theorem dJ9_max_7cf53_5 : decode cJ9_max_7cf53 5 = .ok (.iload_n 0, 1) := by decide +kernel
theorem dJ9_max_7cf53_6 : decode cJ9_max_7cf53 6 = .ok (.goto 4, 3) := by decide +kernel
theorem dJ9_max_7cf53_9 : decode cJ9_max_7cf53 9 = .ok (.iload_n 1, 1) := by decide +kernel
theorem dJ9_max_7cf53_10 : decode cJ9_max_7cf53 10 = .ok (.ireturn, 1) := by decide +kernel
set_option maxRecDepth 100000 in
theorem m_J9_max_7cf53 {g : GT} {n nf : Int} (hu : Up true nf n) (M : Mem) (a0 a1 : Int) : AM g true yJ9_max_7cf53 cJ9_max_7cf53 2 (some .int) (0) n n nf [(0, a0), (0, a1)] M (f_J9_max_7cf53 M a0 a1) := by
  refine AM_ofF (by decide +kernel) (Nat.le_of_ble_eq_true rfl) (fun h => absurd h (Int.lt_irrefl n)) ?_
  show AW g true RJ9 cJ9_max_7cf53 2 (some .int) (0) n n nf 0 [(0, 0, a0), (1, 0, a1)] [] n M (f_J9_max_7cf53 M a0 a1)
  unfold f_J9_max_7cf53
  refine r_iload_n 0 dJ9_max_7cf53_0 rfl rfl ?_
  refine r_iload_n 1 dJ9_max_7cf53_1 rfl rfl ?_
  refine r_icmp_lt (tgt := 9) dJ9_max_7cf53_2 rfl (fun h1 => ?_) (fun h2 => ?_)
  · refine r_iload_n 1 dJ9_max_7cf53_9 rfl rfl ?_
    exact r_iret rfl rfl (Or.inl rfl) dJ9_max_7cf53_10
  · refine r_iload_n 0 dJ9_max_7cf53_5 rfl rfl ?_
    refine r_goto (tgt := 10) dJ9_max_7cf53_6 rfl ?_
    exact r_iret rfl rfl (Or.inl rfl) dJ9_max_7cf53_10
theorem dX2_roll_0 : decode cX2_roll 0 = .ok (.aload_n 0, 1) := by decide +kernel
theorem dX2_roll_1 : decode cX2_roll 1 = .ok (.ldc2_w 7, 3) := by decide +kernel
theorem dX2_roll_4 : decode cX2_roll 4 = .ok (.aload_n 0, 1) := by decide +kernel
theorem dX2_roll_5 : decode cX2_roll 5 = .ok (.getfield 9, 3) := by decide +kernel
theorem dX2_roll_8 : decode cX2_roll 8 = .ok (.lmul, 1) := by decide +kernel
theorem dX2_roll_9 : decode cX2_roll 9 = .ok (.ldc2_w 15, 3) := by decide +kernel
theorem dX2_roll_12 : decode cX2_roll 12 = .ok (.ladd, 1) := by decide +kernel
theorem dX2_roll_13 : decode cX2_roll 13 = .ok (.ldc2_w 17, 3) := by decide +kernel
theorem dX2_roll_16 : decode cX2_roll 16 = .ok (.lrem, 1) := by decide +kernel
theorem dX2_roll_17 : decode cX2_roll 17 = .ok (.putfield 9, 3) := by decide +kernel
theorem dX2_roll_20 : decode cX2_roll 20 = .ok (.aload_n 0, 1) := by decide +kernel
theorem dX2_roll_21 : decode cX2_roll 21 = .ok (.getfield 9, 3) := by decide +kernel
theorem dX2_roll_24 : decode cX2_roll 24 = .ok (.ldc2_w 19, 3) := by decide +kernel
theorem dX2_roll_27 : decode cX2_roll 27 = .ok (.ldiv, 1) := by decide +kernel
theorem dX2_roll_28 : decode cX2_roll 28 = .ok (.iconst 1, 1) := by decide +kernel
theorem dX2_roll_29 : decode cX2_roll 29 = .ok (.iload_n 1, 1) := by decide +kernel
theorem dX2_roll_30 : decode cX2_roll 30 = .ok (.invokestatic 21, 3) := by decide +kernel
theorem dX2_roll_33 : decode cX2_roll 33 = .ok (.i2l, 1) := by decide +kernel
theorem dX2_roll_34 : decode cX2_roll 34 = .ok (.lrem, 1) := by decide +kernel
theorem dX2_roll_35 : decode cX2_roll 35 = .ok (.l2i, 1) := by decide +kernel
theorem dX2_roll_36 : decode cX2_roll 36 = .ok (.ireturn, 1) := by decide +kernel
set_option maxRecDepth 100000 in
theorem m_X2_roll {g : GT} {n nf : Int} (hu : Up true nf n) (M : Mem) (a1 : Int) : AM g true yX2_roll cX2_roll 2 (some .int) (1) n n nf [(2, 67), (0, a1)] M (f_X2_roll M a1) := by
  refine AM_of (by decide +kernel) (Nat.le_of_ble_eq_true rfl) (fun h => absurd h (Int.lt_irrefl n)) ?_
  show AW g true RX2 cX2_roll 2 (some .int) (1) n n nf 0 [(0, 2, 67), (1, 0, a1)] [] n M (f_X2_roll M a1)
  unfold f_X2_roll
  refine r_aload_n 0 dX2_roll_0 rfl rfl ?_
  refine r_ldc2 (v := 1103515245) dX2_roll_1 kC_X2_7 rfl ⟨by decide, by decide⟩ ?_
  refine r_aload_n 0 dX2_roll_4 rfl rfl ?_
  refine r_gf (t := 1) (kz := 0) rfl hu dX2_roll_5 kF_X2_9 kd_67 rfl rfl rfl ?_
  refine r_ok (fun h1 => ?_)
  refine r_lmul dX2_roll_8 h1 ?_
  refine r_ldc2 (v := 12345) dX2_roll_9 kC_X2_15 rfl ⟨by decide, by decide⟩ ?_
  refine r_ok (fun h2 => ?_)
  refine r_ladd dX2_roll_12 h2 ?_
  refine r_ldc2 (v := 2147483648) dX2_roll_13 kC_X2_17 rfl ⟨by decide, by decide⟩ ?_
  refine r_ok (fun h3 => ?_)
  refine r_lremP dX2_roll_16 ⟨h3, by decide⟩ ?_
  refine r_pf (t := 1) (kz := 0) rfl hu dX2_roll_17 kF_X2_9 kd_67 rfl rfl rfl (fun h => absurd h (by decide)) rfl kX_2_0 (fun M4 eM4 => ?_)
  refine r_aload_n 0 dX2_roll_20 rfl rfl ?_
  refine r_gf (t := 1) (kz := 0) rfl hu dX2_roll_21 kF_X2_9 kd_67 rfl rfl rfl ?_
  refine r_ldc2 (v := 256) dX2_roll_24 kC_X2_19 rfl ⟨by decide, by decide⟩ ?_
  refine r_ok (fun h5 => ?_)
  refine r_ldivP dX2_roll_27 ⟨h5, by decide⟩ ?_
  refine r_iconst dX2_roll_28 ⟨by decide, by decide⟩ ?_
  refine r_iload_n 1 dX2_roll_29 rfl rfl ?_
  refine r_ins (a := 0) ⟨Nat.le_refl _, Nat.le_refl _⟩ dX2_roll_30 kM_X2_21 (by decide) (by decide) [(0, 1), (0, a1)] rfl (sk := [(1, (M4 67 0) / 256)]) rfl (Nat.le_of_ble_eq_true rfl) rfl rfl (m_J9_max_7cf53 hu M4 1 a1) (fun r6 M7 => ?_)
  refine r_i2l dX2_roll_33 ?_
  refine r_ok (fun h8 => ?_)
  refine r_lremP dX2_roll_34 h8 ?_
  refine r_ok (fun h9 => ?_)
  refine r_l2i dX2_roll_35 h9 ?_
  exact r_iret rfl rfl (Or.inl rfl) dX2_roll_36
theorem dX2_guess_0 : decode cX2_guess 0 = .ok (.aload_n 0, 1) := by decide +kernel
theorem dX2_guess_1 : decode cX2_guess 1 = .ok (.bipush 100, 2) := by decide +kernel
theorem dX2_guess_3 : decode cX2_guess 3 = .ok (.invokevirtual 27, 3) := by decide +kernel
theorem dX2_guess_6 : decode cX2_guess 6 = .ok (.iload_n 1, 1) := by decide +kernel
theorem dX2_guess_7 : decode cX2_guess 7 = .ok (.if_icmp .ge 7, 3) := by decide +kernel
theorem dX2_guess_10 : decode cX2_guess 10 = .ok (.iload_n 2, 1) := by decide +kernel
theorem dX2_guess_11 : decode cX2_guess 11 = .ok (.goto 8, 3) := by decide +kernel
theorem dX2_guess_14 : decode cX2_guess 14 = .ok (.aload_n 0, 1) := by decide +kernel
theorem dX2_guess_15 : decode cX2_guess 15 = .ok (.iload_n 3, 1) := by decide +kernel
theorem dX2_guess_16 : decode cX2_guess 16 = .ok (.invokevirtual 27, 3) := by decide +kernel
theorem dX2_guess_19 : decode cX2_guess 19 = .ok (.ireturn, 1) := by decide +kernel
set_option maxRecDepth 100000 in
theorem m_X2_guess {g : GT} {n nf : Int} (hu : Up true nf n) (M : Mem) (a1 a2 a3 : Int) : AM g true yX2_guess cX2_guess 4 (some .int) (2) n n nf [(2, 67), (0, a1), (0, a2), (0, a3)] M (f_X2_guess M a1 a2 a3) := by
  refine AM_of (by decide +kernel) (Nat.le_of_ble_eq_true rfl) (fun h => absurd h (Int.lt_irrefl n)) ?_
  show AW g true RX2 cX2_guess 4 (some .int) (2) n n nf 0 [(0, 2, 67), (1, 0, a1), (2, 0, a2), (3, 0, a3)] [] n M (f_X2_guess M a1 a2 a3)
  unfold f_X2_guess
  refine r_aload_n 0 dX2_guess_0 rfl rfl ?_
  refine r_bipush dX2_guess_1 (by decide) ⟨by decide, by decide⟩ ?_
  refine r_inv (a := 67) hu ⟨Nat.le_refl _, Nat.le_refl _⟩ dX2_guess_3 kM_X2_27 (ci := 2) rfl kd_67 rfl rfl (by decide) (by decide) [(0, 100)] rfl (sk := []) rfl (Nat.le_of_ble_eq_true rfl) rfl rfl (m_X2_roll hu M 100) (fun r1 M2 => ?_)
  refine r_iload_n 1 dX2_guess_6 rfl rfl ?_
  refine r_icmp_ge (tgt := 14) dX2_guess_7 rfl (fun h3 => ?_) (fun h4 => ?_)
  · refine r_aload_n 0 dX2_guess_14 rfl rfl ?_
    refine r_iload_n 3 dX2_guess_15 rfl rfl ?_
    refine r_inv (a := 67) hu ⟨Nat.le_refl _, Nat.le_refl _⟩ dX2_guess_16 kM_X2_27 (ci := 2) rfl kd_67 rfl rfl (by decide) (by decide) [(0, a3)] rfl (sk := []) rfl (Nat.le_of_ble_eq_true rfl) rfl rfl (m_X2_roll hu M2 a3) (fun r5 M6 => ?_)
    exact r_iret rfl rfl (Or.inl rfl) dX2_guess_19
  · refine r_iload_n 2 dX2_guess_10 rfl rfl ?_
    refine r_goto (tgt := 19) dX2_guess_11 rfl ?_
    exact r_iret rfl rfl (Or.inl rfl) dX2_guess_19
theorem dX3_discOf_0 : decode cX3_discOf 0 = .ok (.bipush 95, 2) := by decide +kernel
theorem dX3_discOf_2 : decode cX3_discOf 2 = .ok (.istore_n 1, 1) := by decide +kernel
theorem dX3_discOf_3 : decode cX3_discOf 3 = .ok (.iconst 0, 1) := by decide +kernel
theorem dX3_discOf_4 : decode cX3_discOf 4 = .ok (.istore_n 2, 1) := by decide +kernel
theorem dX3_discOf_5 : decode cX3_discOf 5 = .ok (.iload_n 2, 1) := by decide +kernel
theorem dX3_discOf_6 : decode cX3_discOf 6 = .ok (.aload_n 0, 1) := by decide +kernel
theorem dX3_discOf_7 : decode cX3_discOf 7 = .ok (.getfield 66, 3) := by decide +kernel
theorem dX3_discOf_10 : decode cX3_discOf 10 = .ok (.if_icmp .ge 36, 3) := by decide +kernel
theorem dX3_discOf_13 : decode cX3_discOf 13 = .ok (.aload_n 0, 1) := by decide +kernel
theorem dX3_discOf_14 : decode cX3_discOf 14 = .ok (.getfield 69, 3) := by decide +kernel
theorem dX3_discOf_17 : decode cX3_discOf 17 = .ok (.iload_n 2, 1) := by decide +kernel
theorem dX3_discOf_18 : decode cX3_discOf 18 = .ok (.aaload, 1) := by decide +kernel
theorem dX3_discOf_19 : decode cX3_discOf 19 = .ok (.astore_n 3, 1) := by decide +kernel
theorem dX3_discOf_20 : decode cX3_discOf 20 = .ok (.aload_n 3, 1) := by decide +kernel
theorem dX3_discOf_21 : decode cX3_discOf 21 = .ok (.getfield 73, 3) := by decide +kernel
theorem dX3_discOf_24 : decode cX3_discOf 24 = .ok (.iconst 1, 1) := by decide +kernel
theorem dX3_discOf_25 : decode cX3_discOf 25 = .ok (.if_icmp .ne 15, 3) := by decide +kernel
theorem dX3_discOf_28 : decode cX3_discOf 28 = .ok (.aload_n 3, 1) := by decide +kernel
theorem dX3_discOf_29 : decode cX3_discOf 29 = .ok (.getfield 78, 3) := by decide +kernel
theorem dX3_discOf_32 : decode cX3_discOf 32 = .ok (.aload_n 3, 1) := by decide +kernel
theorem dX3_discOf_33 : decode cX3_discOf 33 = .ok (.getfield 81, 3) := by decide +kernel
theorem dX3_discOf_36 : decode cX3_discOf 36 = .ok (.invokestatic 84, 3) := by decide +kernel
theorem dX3_discOf_39 : decode cX3_discOf 39 = .ok (.istore_n 1, 1) := by decide +kernel
theorem dX3_discOf_40 : decode cX3_discOf 40 = .ok (.iinc 2 1, 3) := by decide +kernel
theorem dX3_discOf_43 : decode cX3_discOf 43 = .ok (.goto (-38), 3) := by decide +kernel
theorem dX3_discOf_46 : decode cX3_discOf 46 = .ok (.iload_n 1, 1) := by decide +kernel
theorem dX3_discOf_47 : decode cX3_discOf 47 = .ok (.ireturn, 1) := by decide +kernel
set_option maxRecDepth 100000 in
theorem tb_X3_discOf_5 {g : GT} {n nf : Int} (hu : Up true nf n) (a0 : Int) (hk0 : kd a0 = 17) (w5 : Mem → Int → Int → Res) (hw5 : ∀ (M : Mem) (x1 x2 : Int), AW g true RX3 cX3_discOf 4 (some .int) (1) n n nf 5 [(0, 2, a0), (1, 0, x1), (2, 0, x2)] [] n M (w5 M x1 x2)) (M : Mem) (x1 x2 : Int) : AW g true RX3 cX3_discOf 4 (some .int) (1) n n nf 5 [(0, 2, a0), (1, 0, x1), (2, 0, x2)] [] n M (b_X3_discOf_5 a0 w5 M x1 x2) := by
  unfold b_X3_discOf_5
  refine r_iload_n 2 dX3_discOf_5 rfl rfl ?_
  refine r_aload_n 0 dX3_discOf_6 rfl rfl ?_
  refine r_gf (t := 0) (kz := 1) rfl hu dX3_discOf_7 kF_X3_66 hk0 rfl rfl rfl ?_
  refine r_icmp_ge (tgt := 46) dX3_discOf_10 rfl (fun h1 => ?_) (fun h2 => ?_)
  · refine r_iload_n 1 dX3_discOf_46 rfl rfl ?_
    exact r_iret rfl rfl (Or.inl rfl) dX3_discOf_47
  · refine r_aload_n 0 dX3_discOf_13 rfl rfl ?_
    refine r_gx (kz := 0) rfl hu dX3_discOf_14 kF_X3_69 hk0 rfl rfl rfl (fxS0 _ hk0) ?_
    refine r_iload_n 2 dX3_discOf_17 rfl rfl ?_
    refine r_ok (fun h3 => ?_)
    refine r_aalx hu dX3_discOf_18 (kdS _ hk0).1 (Or.inr (Or.inl rfl)) rfl (kdS _ hk0).2.1 h3 (fxSt _ hk0 _ h3) ?_
    refine r_astore_n dX3_discOf_19 rfl (by decide) (ls' := [(3, 2, a0 + 4 + x2), (0, 2, a0), (1, 0, x1), (2, 0, x2)]) rfl ?_
    refine r_aload_n 0 dX3_discOf_20 rfl rfl ?_
    refine r_gf (t := 0) (kz := 0) rfl hu dX3_discOf_21 kF_X3_73 (kdSt _ hk0 _ h3) rfl rfl rfl ?_
    refine r_iconst dX3_discOf_24 ⟨by decide, by decide⟩ ?_
    refine r_icmp_ne (tgt := 40) dX3_discOf_25 rfl (fun h4 => ?_) (fun h5 => ?_)
    · refine r_aload_n 0 dX3_discOf_28 rfl rfl ?_
      refine r_gf (t := 0) (kz := 3) rfl hu dX3_discOf_29 kF_X3_78 (kdSt _ hk0 _ h3) rfl rfl rfl ?_
      refine r_aload_n 0 dX3_discOf_32 rfl rfl ?_
      refine r_gf (t := 0) (kz := 4) rfl hu dX3_discOf_33 kF_X3_81 (kdSt _ hk0 _ h3) rfl rfl rfl ?_
      refine r_ins (a := 0) ⟨Nat.le_refl _, Nat.le_refl _⟩ dX3_discOf_36 kM_X3_84 (by decide) (by decide) [(0, M (a0 + 4 + x2) 3), (0, M (a0 + 4 + x2) 4)] rfl (sk := []) rfl (Nat.le_of_ble_eq_true rfl) rfl rfl (m_X11_squareAt hu M (M (a0 + 4 + x2) 3) (M (a0 + 4 + x2) 4)) (fun r6 M7 => ?_)
      refine r_istore_n dX3_discOf_39 rfl (by decide) (ls' := [(1, 0, r6), (3, 2, a0 + 4 + x2), (0, 2, a0), (2, 0, x2)]) rfl ?_
      refine r_iincB 3 dX3_discOf_40 rfl ⟨by have := h3; omega, by have := h3; omega⟩ (by decide) (lf := fun y8 => [(2, 0, y8), (1, 0, r6), (3, 2, a0 + 4 + x2), (0, 2, a0)]) (fun _ => rfl) (fun y8 ey8 => ?_)
      refine r_goto (tgt := 5) dX3_discOf_43 rfl ?_
      refine r_sub [3, 1, 0] (ls' := [(0, 2, a0), (1, 0, r6), (2, 0, y8)]) rfl ?_
      exact hw5 M7 r6 y8
    · refine r_iincB 3 dX3_discOf_40 rfl ⟨by have := h3; omega, by have := h3; omega⟩ (by decide) (lf := fun y9 => [(2, 0, y9), (3, 2, a0 + 4 + x2), (0, 2, a0), (1, 0, x1)]) (fun _ => rfl) (fun y9 ey9 => ?_)
      refine r_goto (tgt := 5) dX3_discOf_43 rfl ?_
      refine r_sub [2, 3, 0] (ls' := [(0, 2, a0), (1, 0, x1), (2, 0, y9)]) rfl ?_
      exact hw5 M x1 y9
set_option maxRecDepth 100000 in
theorem m_X3_discOf {g : GT} {n nf : Int} (hu : Up true nf n) (M : Mem) (a0 : Int) (hk0 : kd a0 = 17) : AM g true yX3_discOf cX3_discOf 4 (some .int) (1) n n nf [(2, a0)] M (f_X3_discOf M a0) := by
  refine AM_of (by decide +kernel) (Nat.le_of_ble_eq_true rfl) (fun h => absurd h (Int.lt_irrefl n)) ?_
  show AW g true RX3 cX3_discOf 4 (some .int) (1) n n nf 0 [(0, 2, a0)] [] n M (f_X3_discOf M a0)
  unfold f_X3_discOf
  refine r_bipush dX3_discOf_0 (by decide) ⟨by decide, by decide⟩ ?_
  refine r_istore_n dX3_discOf_2 rfl (by decide) (ls' := [(1, 0, 95), (0, 2, a0)]) rfl ?_
  refine r_iconst dX3_discOf_3 ⟨by decide, by decide⟩ ?_
  refine r_istore_n dX3_discOf_4 rfl (by decide) (ls' := [(2, 0, 0), (1, 0, 95), (0, 2, a0)]) rfl ?_
  refine r_sub [2, 1, 0] (ls' := [(0, 2, a0), (1, 0, 95), (2, 0, 0)]) rfl ?_
  exact wl2_aw (P := fun M x1 x2 o => AW g true RX3 cX3_discOf 4 (some .int) (1) n n nf 5 [(0, 2, a0), (1, 0, x1), (2, 0, x2)] [] n M (o)) (fun M x1 x2 => aw_none) (fun w hw M x1 x2 => tb_X3_discOf_5 hu a0 hk0 w hw M x1 x2) FU M 95 0
theorem dX6_putNothing_0 : decode cX6_putNothing 0 = .ok (.iconst 0, 1) := by decide +kernel
theorem dX6_putNothing_1 : decode cX6_putNothing 1 = .ok (.istore_n 1, 1) := by decide +kernel
theorem dX6_putNothing_2 : decode cX6_putNothing 2 = .ok (.iload_n 1, 1) := by decide +kernel
theorem dX6_putNothing_3 : decode cX6_putNothing 3 = .ok (.bipush 21, 2) := by decide +kernel
theorem dX6_putNothing_5 : decode cX6_putNothing 5 = .ok (.if_icmp .ge 16, 3) := by decide +kernel
theorem dX6_putNothing_8 : decode cX6_putNothing 8 = .ok (.aload_n 0, 1) := by decide +kernel
theorem dX6_putNothing_9 : decode cX6_putNothing 9 = .ok (.getfield 9, 3) := by decide +kernel
theorem dX6_putNothing_12 : decode cX6_putNothing 12 = .ok (.iload_n 1, 1) := by decide +kernel
theorem dX6_putNothing_13 : decode cX6_putNothing 13 = .ok (.iconst 0, 1) := by decide +kernel
theorem dX6_putNothing_14 : decode cX6_putNothing 14 = .ok (.iastore, 1) := by decide +kernel
theorem dX6_putNothing_15 : decode cX6_putNothing 15 = .ok (.iinc 1 1, 3) := by decide +kernel
theorem dX6_putNothing_18 : decode cX6_putNothing 18 = .ok (.goto (-16), 3) := by decide +kernel
theorem dX6_putNothing_21 : decode cX6_putNothing 21 = .ok (.return_, 1) := by decide +kernel
set_option maxRecDepth 100000 in
theorem tb_X6_putNothing_2 {g : GT} {n nf : Int} (hu : Up true nf n) (w2 : Mem → Int → Res) (hw2 : ∀ (M : Mem) (x1 : Int), AW g true RX6 cX6_putNothing 2 none (0) n n nf 2 [(0, 2, 10), (1, 0, x1)] [] n M (w2 M x1)) (M : Mem) (x1 : Int) : AW g true RX6 cX6_putNothing 2 none (0) n n nf 2 [(0, 2, 10), (1, 0, x1)] [] n M (b_X6_putNothing_2 w2 M x1) := by
  unfold b_X6_putNothing_2
  refine r_iload_n 1 dX6_putNothing_2 rfl rfl ?_
  refine r_bipush dX6_putNothing_3 (by decide) ⟨by decide, by decide⟩ ?_
  refine r_icmp_ge (tgt := 21) dX6_putNothing_5 rfl (fun h1 => ?_) (fun h2 => ?_)
  · exact r_vret rfl rfl dX6_putNothing_21
  · refine r_aload_n 0 dX6_putNothing_8 rfl rfl ?_
    refine r_gx (kz := 0) rfl hu dX6_putNothing_9 kF_X6_9 kd_10 rfl rfl rfl fx_10_0 ?_
    refine r_iload_n 1 dX6_putNothing_12 rfl rfl ?_
    refine r_iconst dX6_putNothing_13 ⟨by decide, by decide⟩ ?_
    refine r_ok (fun h3 => ?_)
    refine r_iast hu dX6_putNothing_14 kd_11 rfl (Or.inl rfl) rfl ln_11 h3 rfl (fun M4 eM4 => ?_)
    refine r_iincB 1 dX6_putNothing_15 rfl ⟨by have := h3; omega, by have := h3; omega⟩ (by decide) (lf := fun y5 => [(1, 0, y5), (0, 2, 10)]) (fun _ => rfl) (fun y5 ey5 => ?_)
    refine r_goto (tgt := 2) dX6_putNothing_18 rfl ?_
    refine r_sub [1, 0] (ls' := [(0, 2, 10), (1, 0, y5)]) rfl ?_
    exact hw2 M4 y5
set_option maxRecDepth 100000 in
theorem m_X6_putNothing {g : GT} {n nf : Int} (hu : Up true nf n) (M : Mem) : AM g true yX6_putNothing cX6_putNothing 2 none (0) n n nf [(2, 10)] M (f_X6_putNothing M) := by
  refine AM_of (by decide +kernel) (Nat.le_of_ble_eq_true rfl) (fun h => absurd h (Int.lt_irrefl n)) ?_
  show AW g true RX6 cX6_putNothing 2 none (0) n n nf 0 [(0, 2, 10)] [] n M (f_X6_putNothing M)
  unfold f_X6_putNothing
  refine r_iconst dX6_putNothing_0 ⟨by decide, by decide⟩ ?_
  refine r_istore_n dX6_putNothing_1 rfl (by decide) (ls' := [(1, 0, 0), (0, 2, 10)]) rfl ?_
  refine r_sub [1, 0] (ls' := [(0, 2, 10), (1, 0, 0)]) rfl ?_
  exact wl1_aw (P := fun M x1 o => AW g true RX6 cX6_putNothing 2 none (0) n n nf 2 [(0, 2, 10), (1, 0, x1)] [] n M (o)) (fun M x1 => aw_none) (fun w hw M x1 => tb_X6_putNothing_2 hu w hw M x1) FU M 0
theorem dX6_putSquare_0 : decode cX6_putSquare 0 = .ok (.aload_n 0, 1) := by decide +kernel
theorem dX6_putSquare_1 : decode cX6_putSquare 1 = .ok (.getfield 9, 3) := by decide +kernel
theorem dX6_putSquare_4 : decode cX6_putSquare 4 = .ok (.bipush 14, 2) := by decide +kernel
theorem dX6_putSquare_6 : decode cX6_putSquare 6 = .ok (.iload_n 1, 1) := by decide +kernel
theorem dX6_putSquare_7 : decode cX6_putSquare 7 = .ok (.bipush 12, 2) := by decide +kernel
theorem dX6_putSquare_9 : decode cX6_putSquare 9 = .ok (.irem, 1) := by decide +kernel
theorem dX6_putSquare_10 : decode cX6_putSquare 10 = .ok (.iastore, 1) := by decide +kernel
theorem dX6_putSquare_11 : decode cX6_putSquare 11 = .ok (.aload_n 0, 1) := by decide +kernel
theorem dX6_putSquare_12 : decode cX6_putSquare 12 = .ok (.getfield 9, 3) := by decide +kernel
theorem dX6_putSquare_15 : decode cX6_putSquare 15 = .ok (.bipush 15, 2) := by decide +kernel
theorem dX6_putSquare_17 : decode cX6_putSquare 17 = .ok (.iload_n 1, 1) := by decide +kernel
theorem dX6_putSquare_18 : decode cX6_putSquare 18 = .ok (.bipush 12, 2) := by decide +kernel
theorem dX6_putSquare_20 : decode cX6_putSquare 20 = .ok (.idiv, 1) := by decide +kernel
theorem dX6_putSquare_21 : decode cX6_putSquare 21 = .ok (.iastore, 1) := by decide +kernel
theorem dX6_putSquare_22 : decode cX6_putSquare 22 = .ok (.return_, 1) := by decide +kernel
set_option maxRecDepth 100000 in
theorem m_X6_putSquare {g : GT} {n nf : Int} (hu : Up true nf n) (M : Mem) (a1 : Int) : AM g true yX6_putSquare cX6_putSquare 2 none (0) n n nf [(2, 10), (0, a1)] M (f_X6_putSquare M a1) := by
  refine AM_of (by decide +kernel) (Nat.le_of_ble_eq_true rfl) (fun h => absurd h (Int.lt_irrefl n)) ?_
  show AW g true RX6 cX6_putSquare 2 none (0) n n nf 0 [(0, 2, 10), (1, 0, a1)] [] n M (f_X6_putSquare M a1)
  unfold f_X6_putSquare
  refine r_aload_n 0 dX6_putSquare_0 rfl rfl ?_
  refine r_gx (kz := 0) rfl hu dX6_putSquare_1 kF_X6_9 kd_10 rfl rfl rfl fx_10_0 ?_
  refine r_bipush dX6_putSquare_4 (by decide) ⟨by decide, by decide⟩ ?_
  refine r_iload_n 1 dX6_putSquare_6 rfl rfl ?_
  refine r_bipush dX6_putSquare_7 (by decide) ⟨by decide, by decide⟩ ?_
  refine r_ok (fun h1 => ?_)
  refine r_iremP dX6_putSquare_9 ⟨h1, by decide⟩ ?_
  refine r_iast hu dX6_putSquare_10 kd_11 rfl (Or.inl rfl) rfl ln_11 ⟨by decide, by decide⟩ rfl (fun M2 eM2 => ?_)
  refine r_aload_n 0 dX6_putSquare_11 rfl rfl ?_
  refine r_gx (kz := 0) rfl hu dX6_putSquare_12 kF_X6_9 kd_10 rfl rfl rfl fx_10_0 ?_
  refine r_bipush dX6_putSquare_15 (by decide) ⟨by decide, by decide⟩ ?_
  refine r_iload_n 1 dX6_putSquare_17 rfl rfl ?_
  refine r_bipush dX6_putSquare_18 (by decide) ⟨by decide, by decide⟩ ?_
  refine r_idivP dX6_putSquare_20 ⟨h1, by decide⟩ ?_
  refine r_iast hu dX6_putSquare_21 kd_11 rfl (Or.inl rfl) rfl ln_11 ⟨by decide, by decide⟩ rfl (fun M3 eM3 => ?_)
  exact r_vret rfl rfl dX6_putSquare_22
theorem dX6_isPart_0 : decode cX6_isPart 0 = .ok (.iload_n 0, 1) := by decide +kernel
theorem dX6_isPart_1 : decode cX6_isPart 1 = .ok (.ifCond .eq 15, 3) := by decide +kernel
theorem dX6_isPart_4 : decode cX6_isPart 4 = .ok (.iload_n 0, 1) := by decide +kernel
theorem dX6_isPart_5 : decode cX6_isPart 5 = .ok (.bipush 14, 2) := by decide +kernel
theorem dX6_isPart_7 : decode cX6_isPart 7 = .ok (.if_icmp .lt 13, 3) := by decide +kernel
theorem dX6_isPart_10 : decode cX6_isPart 10 = .ok (.iload_n 0, 1) := by decide +kernel
theorem dX6_isPart_11 : decode cX6_isPart 11 = .ok (.bipush 18, 2) := by decide +kernel
theorem dX6_isPart_13 : decode cX6_isPart 13 = .ok (.if_icmp .gt 7, 3) := by decide +kernel
theorem dX6_isPart_16 : decode cX6_isPart 16 = .ok (.iconst 1, 1) := by decide +kernel
theorem dX6_isPart_17 : decode cX6_isPart 17 = .ok (.goto 4, 3) := by decide +kernel
theorem dX6_isPart_20 : decode cX6_isPart 20 = .ok (.iconst 0, 1) := by decide +kernel
theorem dX6_isPart_21 : decode cX6_isPart 21 = .ok (.ireturn, 1) := by decide +kernel
set_option maxRecDepth 100000 in
theorem m_X6_isPart {g : GT} {n nf : Int} (hu : Up true nf n) (M : Mem) (a0 : Int) : AM g true yX6_isPart cX6_isPart 1 (some .boolean) (0) n n nf [(0, a0)] M (f_X6_isPart M a0) := by
  refine AM_of (by decide +kernel) (Nat.le_of_ble_eq_true rfl) (fun h => absurd h (Int.lt_irrefl n)) ?_
  show AW g true RX6 cX6_isPart 1 (some .boolean) (0) n n nf 0 [(0, 0, a0)] [] n M (f_X6_isPart M a0)
  unfold f_X6_isPart
  refine r_iload_n 0 dX6_isPart_0 rfl rfl ?_
  refine r_if_eq (tgt := 16) dX6_isPart_1 rfl (fun h1 => ?_) (fun h2 => ?_)
  · refine r_iconst dX6_isPart_16 ⟨by decide, by decide⟩ ?_
    refine r_goto (tgt := 21) dX6_isPart_17 rfl ?_
    exact r_iret rfl rfl (Or.inr ⟨rfl, Or.inr rfl⟩) dX6_isPart_21
  · refine r_iload_n 0 dX6_isPart_4 rfl rfl ?_
    refine r_bipush dX6_isPart_5 (by decide) ⟨by decide, by decide⟩ ?_
    refine r_icmp_lt (tgt := 20) dX6_isPart_7 rfl (fun h3 => ?_) (fun h4 => ?_)
    · refine r_iconst dX6_isPart_20 ⟨by decide, by decide⟩ ?_
      exact r_iret rfl rfl (Or.inr ⟨rfl, Or.inl rfl⟩) dX6_isPart_21
    · refine r_iload_n 0 dX6_isPart_10 rfl rfl ?_
      refine r_bipush dX6_isPart_11 (by decide) ⟨by decide, by decide⟩ ?_
      refine r_icmp_gt (tgt := 20) dX6_isPart_13 rfl (fun h5 => ?_) (fun h6 => ?_)
      · refine r_iconst dX6_isPart_20 ⟨by decide, by decide⟩ ?_
        exact r_iret rfl rfl (Or.inr ⟨rfl, Or.inl rfl⟩) dX6_isPart_21
      · refine r_iconst dX6_isPart_16 ⟨by decide, by decide⟩ ?_
        refine r_goto (tgt := 21) dX6_isPart_17 rfl ?_
        exact r_iret rfl rfl (Or.inr ⟨rfl, Or.inr rfl⟩) dX6_isPart_21
theorem dX11_clamped_0 : decode cX11_clamped 0 = .ok (.iload_n 0, 1) := by decide +kernel
theorem dX11_clamped_1 : decode cX11_clamped 1 = .ok (.iload_n 1, 1) := by decide +kernel
theorem dX11_clamped_2 : decode cX11_clamped 2 = .ok (.if_icmp .ge 5, 3) := by decide +kernel
theorem dX11_clamped_5 : decode cX11_clamped 5 = .ok (.iload_n 1, 1) := by decide +kernel
theorem dX11_clamped_6 : decode cX11_clamped 6 = .ok (.ireturn, 1) := by decide +kernel
theorem dX11_clamped_7 : decode cX11_clamped 7 = .ok (.iload_n 0, 1) := by decide +kernel
theorem dX11_clamped_8 : decode cX11_clamped 8 = .ok (.iload_n 2, 1) := by decide +kernel
theorem dX11_clamped_9 : decode cX11_clamped 9 = .ok (.if_icmp .le 7, 3) := by decide +kernel
theorem dX11_clamped_12 : decode cX11_clamped 12 = .ok (.iload_n 2, 1) := by decide +kernel
theorem dX11_clamped_13 : decode cX11_clamped 13 = .ok (.goto 4, 3) := by decide +kernel
theorem dX11_clamped_16 : decode cX11_clamped 16 = .ok (.iload_n 0, 1) := by decide +kernel
theorem dX11_clamped_17 : decode cX11_clamped 17 = .ok (.ireturn, 1) := by decide +kernel
set_option maxRecDepth 100000 in
theorem m_X11_clamped {g : GT} {n nf : Int} (hu : Up true nf n) (M : Mem) (a0 a1 a2 : Int) : AM g true yX11_clamped cX11_clamped 3 (some .int) (0) n n nf [(0, a0), (0, a1), (0, a2)] M (f_X11_clamped M a0 a1 a2) := by
  refine AM_of (by decide +kernel) (Nat.le_of_ble_eq_true rfl) (fun h => absurd h (Int.lt_irrefl n)) ?_
  show AW g true RX11 cX11_clamped 3 (some .int) (0) n n nf 0 [(0, 0, a0), (1, 0, a1), (2, 0, a2)] [] n M (f_X11_clamped M a0 a1 a2)
  unfold f_X11_clamped
  refine r_iload_n 0 dX11_clamped_0 rfl rfl ?_
  refine r_iload_n 1 dX11_clamped_1 rfl rfl ?_
  refine r_icmp_ge (tgt := 7) dX11_clamped_2 rfl (fun h1 => ?_) (fun h2 => ?_)
  · refine r_iload_n 0 dX11_clamped_7 rfl rfl ?_
    refine r_iload_n 2 dX11_clamped_8 rfl rfl ?_
    refine r_icmp_le (tgt := 16) dX11_clamped_9 rfl (fun h3 => ?_) (fun h4 => ?_)
    · refine r_iload_n 0 dX11_clamped_16 rfl rfl ?_
      exact r_iret rfl rfl (Or.inl rfl) dX11_clamped_17
    · refine r_iload_n 2 dX11_clamped_12 rfl rfl ?_
      refine r_goto (tgt := 17) dX11_clamped_13 rfl ?_
      exact r_iret rfl rfl (Or.inl rfl) dX11_clamped_17
  · refine r_iload_n 1 dX11_clamped_5 rfl rfl ?_
    exact r_iret rfl rfl (Or.inl rfl) dX11_clamped_6
theorem dX6_product_0 : decode cX6_product 0 = .ok (.iload_n 0, 1) := by decide +kernel
theorem dX6_product_1 : decode cX6_product 1 = .ok (.i2l, 1) := by decide +kernel
theorem dX6_product_2 : decode cX6_product 2 = .ok (.iload_n 1, 1) := by decide +kernel
theorem dX6_product_3 : decode cX6_product 3 = .ok (.i2l, 1) := by decide +kernel
theorem dX6_product_4 : decode cX6_product 4 = .ok (.lmul, 1) := by decide +kernel
theorem dX6_product_5 : decode cX6_product 5 = .ok (.lstore_n 2, 1) := by decide +kernel
theorem dX6_product_6 : decode cX6_product 6 = .ok (.lload_n 2, 1) := by decide +kernel
theorem dX6_product_7 : decode cX6_product 7 = .ok (.ldc2_w 32, 3) := by decide +kernel
theorem dX6_product_10 : decode cX6_product 10 = .ok (.lcmp, 1) := by decide +kernel
theorem dX6_product_11 : decode cX6_product 11 = .ok (.ifCond .le 6, 3) := by decide +kernel
theorem dX6_product_14 : decode cX6_product 14 = .ok (.ldc 34, 2) := by decide +kernel
theorem dX6_product_16 : decode cX6_product 16 = .ok (.ireturn, 1) := by decide +kernel
theorem dX6_product_17 : decode cX6_product 17 = .ok (.lload_n 2, 1) := by decide +kernel
theorem dX6_product_18 : decode cX6_product 18 = .ok (.ldc2_w 35, 3) := by decide +kernel
theorem dX6_product_21 : decode cX6_product 21 = .ok (.lcmp, 1) := by decide +kernel
theorem dX6_product_22 : decode cX6_product 22 = .ok (.ifCond .ge 8, 3) := by decide +kernel
theorem dX6_product_25 : decode cX6_product 25 = .ok (.ldc 37, 2) := by decide +kernel
theorem dX6_product_27 : decode cX6_product 27 = .ok (.goto 5, 3) := by decide +kernel
theorem dX6_product_30 : decode cX6_product 30 = .ok (.lload_n 2, 1) := by decide +kernel
theorem dX6_product_31 : decode cX6_product 31 = .ok (.l2i, 1) := by decide +kernel
theorem dX6_product_32 : decode cX6_product 32 = .ok (.ireturn, 1) := by decide +kernel
set_option maxRecDepth 100000 in
theorem m_X6_product {g : GT} {n nf : Int} (hu : Up true nf n) (M : Mem) (a0 a1 : Int) : AM g true yX6_product cX6_product 4 (some .int) (0) n n nf [(0, a0), (0, a1)] M (f_X6_product M a0 a1) := by
  refine AM_of (by decide +kernel) (Nat.le_of_ble_eq_true rfl) (fun h => absurd h (Int.lt_irrefl n)) ?_
  show AW g true RX6 cX6_product 4 (some .int) (0) n n nf 0 [(0, 0, a0), (1, 0, a1)] [] n M (f_X6_product M a0 a1)
  unfold f_X6_product
  refine r_iload_n 0 dX6_product_0 rfl rfl ?_
  refine r_i2l dX6_product_1 ?_
  refine r_iload_n 1 dX6_product_2 rfl rfl ?_
  refine r_i2l dX6_product_3 ?_
  refine r_ok (fun h1 => ?_)
  refine r_lmul dX6_product_4 h1 ?_
  refine r_lstore_nB dX6_product_5 rfl (by decide) (lf := fun y2 => [(2, 1, y2), (0, 0, a0), (1, 0, a1)]) (fun _ => rfl) (fun y2 ey2 => ?_)
  refine r_lload_n 0 dX6_product_6 rfl rfl ?_
  refine r_ldc2 (v := 1000000) dX6_product_7 kC_X6_32 rfl ⟨by decide, by decide⟩ ?_
  refine r_lif_le (tgt := 17) dX6_product_10 dX6_product_11 rfl (fun h3 => ?_) (fun h4 => ?_)
  · refine r_lload_n 0 dX6_product_17 rfl rfl ?_
    refine r_ldc2 (v := (-1000000)) dX6_product_18 kC_X6_35 rfl ⟨by decide, by decide⟩ ?_
    refine r_lif_ge (tgt := 30) dX6_product_21 dX6_product_22 rfl (fun h5 => ?_) (fun h6 => ?_)
    · refine r_lload_n 0 dX6_product_30 rfl rfl ?_
      refine r_ok (fun h7 => ?_)
      refine r_l2i dX6_product_31 h7 ?_
      exact r_iret rfl rfl (Or.inl rfl) dX6_product_32
    · refine r_ldc (v := (-1000000)) dX6_product_25 kC_X6_37 rfl ⟨by decide, by decide⟩ ?_
      refine r_goto (tgt := 32) dX6_product_27 rfl ?_
      exact r_iret rfl rfl (Or.inl rfl) dX6_product_32
  · refine r_ldc (v := 1000000) dX6_product_14 kC_X6_34 rfl ⟨by decide, by decide⟩ ?_
    exact r_iret rfl rfl (Or.inl rfl) dX6_product_16
theorem dJ9_floorDiv_7cf53_0 : decode cJ9_floorDiv_7cf53 0 = .ok (.iload_n 0, 1) := by decide +kernel
theorem dJ9_floorDiv_7cf53_1 : decode cJ9_floorDiv_7cf53 1 = .ok (.iload_n 1, 1) := by decide +kernel
theorem dJ9_floorDiv_7cf53_2 : decode cJ9_floorDiv_7cf53 2 = .ok (.idiv, 1) := by decide +kernel
theorem dJ9_floorDiv_7cf53_3 : decode cJ9_floorDiv_7cf53 3 = .ok (.istore_n 2, 1) := by decide +kernel
theorem dJ9_floorDiv_7cf53_4 : decode cJ9_floorDiv_7cf53 4 = .ok (.iload_n 0, 1) := by decide +kernel
theorem dJ9_floorDiv_7cf53_5 : decode cJ9_floorDiv_7cf53 5 = .ok (.iload_n 1, 1) := by decide +kernel
theorem dJ9_floorDiv_7cf53_6 : decode cJ9_floorDiv_7cf53 6 = .ok (.ixor, 1) := by decide +kernel
theorem dJ9_floorDiv_7cf53_7 : decode cJ9_floorDiv_7cf53 7 = .ok (.ifCond .ge 14, 3) := by decide +kernel
theorem dJ9_floorDiv_7cf53_10 : decode cJ9_floorDiv_7cf53 10 = .ok (.iload_n 2, 1) := by decide +kernel
theorem dJ9_floorDiv_7cf53_11 : decode cJ9_floorDiv_7cf53 11 = .ok (.iload_n 1, 1) := by decide +kernel
theorem dJ9_floorDiv_7cf53_12 : decode cJ9_floorDiv_7cf53 12 = .ok (.imul, 1) := by decide +kernel
theorem dJ9_floorDiv_7cf53_13 : decode cJ9_floorDiv_7cf53 13 = .ok (.iload_n 0, 1) := by decide +kernel
theorem dJ9_floorDiv_7cf53_14 : decode cJ9_floorDiv_7cf53 14 = .ok (.if_icmp .eq 7, 3) := by decide +kernel
theorem dJ9_floorDiv_7cf53_17 : decode cJ9_floorDiv_7cf53 17 = .ok (.iload_n 2, 1) := by decide +kernel
theorem dJ9_floorDiv_7cf53_18 : decode cJ9_floorDiv_7cf53 18 = .ok (.iconst 1, 1) := by decide +kernel
theorem dJ9_floorDiv_7cf53_19 : decode cJ9_floorDiv_7cf53 19 = .ok (.isub, 1) := by decide +kernel
theorem dJ9_floorDiv_7cf53_20 : decode cJ9_floorDiv_7cf53 20 = .ok (.ireturn, 1) := by decide +kernel
theorem dJ9_floorDiv_7cf53_21 : decode cJ9_floorDiv_7cf53 21 = .ok (.iload_n 2, 1) := by decide +kernel
theorem dJ9_floorDiv_7cf53_22 : decode cJ9_floorDiv_7cf53 22 = .ok (.ireturn, 1) := by decide +kernel
set_option maxRecDepth 100000 in
theorem m_J9_floorDiv_7cf53 {g : GT} {n nf : Int} (hu : Up true nf n) (M : Mem) (a0 a1 : Int) : AM g true yJ9_floorDiv_7cf53 cJ9_floorDiv_7cf53 3 (some .int) (0) n n nf [(0, a0), (0, a1)] M (f_J9_floorDiv_7cf53 M a0 a1) := by
  refine AM_ofF (by decide +kernel) (Nat.le_of_ble_eq_true rfl) (fun h => absurd h (Int.lt_irrefl n)) ?_
  show AW g true RJ9 cJ9_floorDiv_7cf53 3 (some .int) (0) n n nf 0 [(0, 0, a0), (1, 0, a1)] [] n M (f_J9_floorDiv_7cf53 M a0 a1)
  unfold f_J9_floorDiv_7cf53
  refine r_iload_n 0 dJ9_floorDiv_7cf53_0 rfl rfl ?_
  refine r_iload_n 1 dJ9_floorDiv_7cf53_1 rfl rfl ?_
  refine r_ok (fun h1 => ?_)
  refine r_ok (fun h2 => ?_)
  refine r_idiv dJ9_floorDiv_7cf53_2 h1 h2 ?_
  refine r_istore_nB dJ9_floorDiv_7cf53_3 rfl (by decide) (lf := fun y3 => [(2, 0, y3), (0, 0, a0), (1, 0, a1)]) (fun _ => rfl) (fun y3 ey3 => ?_)
  refine r_iload_n 1 dJ9_floorDiv_7cf53_4 rfl rfl ?_
  refine r_iload_n 2 dJ9_floorDiv_7cf53_5 rfl rfl ?_
  refine r_ixor dJ9_floorDiv_7cf53_6 ?_
  refine r_if_ge (tgt := 21) dJ9_floorDiv_7cf53_7 rfl (fun h4 => ?_) (fun h5 => ?_)
  · refine r_iload_n 0 dJ9_floorDiv_7cf53_21 rfl rfl ?_
    exact r_iret rfl rfl (Or.inl rfl) dJ9_floorDiv_7cf53_22
  · refine r_iload_n 0 dJ9_floorDiv_7cf53_10 rfl rfl ?_
    refine r_iload_n 2 dJ9_floorDiv_7cf53_11 rfl rfl ?_
    refine r_ok (fun h6 => ?_)
    refine r_imul dJ9_floorDiv_7cf53_12 h6 ?_
    refine r_iload_n 1 dJ9_floorDiv_7cf53_13 rfl rfl ?_
    refine r_icmp_eq (tgt := 21) dJ9_floorDiv_7cf53_14 rfl (fun h7 => ?_) (fun h8 => ?_)
    · refine r_iload_n 0 dJ9_floorDiv_7cf53_21 rfl rfl ?_
      exact r_iret rfl rfl (Or.inl rfl) dJ9_floorDiv_7cf53_22
    · refine r_iload_n 0 dJ9_floorDiv_7cf53_17 rfl rfl ?_
      refine r_iconst dJ9_floorDiv_7cf53_18 ⟨by decide, by decide⟩ ?_
      refine r_ok (fun h9 => ?_)
      refine r_isub dJ9_floorDiv_7cf53_19 h9 ?_
      exact r_iret rfl rfl (Or.inl rfl) dJ9_floorDiv_7cf53_20
theorem dJ9_min_7cf53_0 : decode cJ9_min_7cf53 0 = .ok (.iload_n 0, 1) := by decide +kernel
theorem dJ9_min_7cf53_1 : decode cJ9_min_7cf53 1 = .ok (.iload_n 1, 1) := by decide +kernel
theorem dJ9_min_7cf53_2 : decode cJ9_min_7cf53 2 = .ok (.if_icmp .gt 7, 3) := by decide +kernel
theorem dJ9_min_7cf53_5 : decode cJ9_min_7cf53 5 = .ok (.iload_n 0, 1) := by decide +kernel
theorem dJ9_min_7cf53_6 : decode cJ9_min_7cf53 6 = .ok (.goto 4, 3) := by decide +kernel
theorem dJ9_min_7cf53_9 : decode cJ9_min_7cf53 9 = .ok (.iload_n 1, 1) := by decide +kernel
theorem dJ9_min_7cf53_10 : decode cJ9_min_7cf53 10 = .ok (.ireturn, 1) := by decide +kernel
set_option maxRecDepth 100000 in
theorem m_J9_min_7cf53 {g : GT} {n nf : Int} (hu : Up true nf n) (M : Mem) (a0 a1 : Int) : AM g true yJ9_min_7cf53 cJ9_min_7cf53 2 (some .int) (0) n n nf [(0, a0), (0, a1)] M (f_J9_min_7cf53 M a0 a1) := by
  refine AM_ofF (by decide +kernel) (Nat.le_of_ble_eq_true rfl) (fun h => absurd h (Int.lt_irrefl n)) ?_
  show AW g true RJ9 cJ9_min_7cf53 2 (some .int) (0) n n nf 0 [(0, 0, a0), (1, 0, a1)] [] n M (f_J9_min_7cf53 M a0 a1)
  unfold f_J9_min_7cf53
  refine r_iload_n 0 dJ9_min_7cf53_0 rfl rfl ?_
  refine r_iload_n 1 dJ9_min_7cf53_1 rfl rfl ?_
  refine r_icmp_gt (tgt := 9) dJ9_min_7cf53_2 rfl (fun h1 => ?_) (fun h2 => ?_)
  · refine r_iload_n 1 dJ9_min_7cf53_9 rfl rfl ?_
    exact r_iret rfl rfl (Or.inl rfl) dJ9_min_7cf53_10
  · refine r_iload_n 0 dJ9_min_7cf53_5 rfl rfl ?_
    refine r_goto (tgt := 10) dJ9_min_7cf53_6 rfl ?_
    exact r_iret rfl rfl (Or.inl rfl) dJ9_min_7cf53_10
theorem dX6_joined_0 : decode cX6_joined 0 = .ok (.iload_n 0, 1) := by decide +kernel
theorem dX6_joined_1 : decode cX6_joined 1 = .ok (.lookupswitch 194 #[(10, 190), (11, 186), (19, 174), (20, 180), (42, 121), (43, 99), (45, 110), (47, 127), (60, 141), (61, 163), (62, 152)], 99) := by decide +kernel
theorem dX6_joined_100 : decode cX6_joined 100 = .ok (.iload_n 1, 1) := by decide +kernel
theorem dX6_joined_101 : decode cX6_joined 101 = .ok (.iload_n 2, 1) := by decide +kernel
theorem dX6_joined_102 : decode cX6_joined 102 = .ok (.iadd, 1) := by decide +kernel
theorem dX6_joined_103 : decode cX6_joined 103 = .ok (.ldc 37, 2) := by decide +kernel
theorem dX6_joined_105 : decode cX6_joined 105 = .ok (.ldc 34, 2) := by decide +kernel
theorem dX6_joined_107 : decode cX6_joined 107 = .ok (.invokestatic 38, 3) := by decide +kernel
theorem dX6_joined_110 : decode cX6_joined 110 = .ok (.ireturn, 1) := by decide +kernel
theorem dX6_joined_111 : decode cX6_joined 111 = .ok (.iload_n 1, 1) := by decide +kernel
theorem dX6_joined_112 : decode cX6_joined 112 = .ok (.iload_n 2, 1) := by decide +kernel
theorem dX6_joined_113 : decode cX6_joined 113 = .ok (.isub, 1) := by decide +kernel
theorem dX6_joined_114 : decode cX6_joined 114 = .ok (.ldc 37, 2) := by decide +kernel
theorem dX6_joined_116 : decode cX6_joined 116 = .ok (.ldc 34, 2) := by decide +kernel
theorem dX6_joined_118 : decode cX6_joined 118 = .ok (.invokestatic 38, 3) := by decide +kernel
theorem dX6_joined_121 : decode cX6_joined 121 = .ok (.ireturn, 1) := by decide +kernel
theorem dX6_joined_122 : decode cX6_joined 122 = .ok (.iload_n 1, 1) := by decide +kernel
theorem dX6_joined_123 : decode cX6_joined 123 = .ok (.iload_n 2, 1) := by decide +kernel
theorem dX6_joined_124 : decode cX6_joined 124 = .ok (.invokestatic 41, 3) := by decide +kernel
theorem dX6_joined_127 : decode cX6_joined 127 = .ok (.ireturn, 1) := by decide +kernel
theorem dX6_joined_128 : decode cX6_joined 128 = .ok (.iload_n 2, 1) := by decide +kernel
theorem dX6_joined_129 : decode cX6_joined 129 = .ok (.ifCond .ne 7, 3) := by decide +kernel
theorem dX6_joined_132 : decode cX6_joined 132 = .ok (.iconst 0, 1) := by decide +kernel
theorem dX6_joined_133 : decode cX6_joined 133 = .ok (.goto 8, 3) := by decide +kernel
theorem dX6_joined_136 : decode cX6_joined 136 = .ok (.iload_n 1, 1) := by decide +kernel
theorem dX6_joined_137 : decode cX6_joined 137 = .ok (.iload_n 2, 1) := by decide +kernel
theorem dX6_joined_138 : decode cX6_joined 138 = .ok (.invokestatic 44, 3) := by decide +kernel
theorem dX6_joined_141 : decode cX6_joined 141 = .ok (.ireturn, 1) := by decide +kernel
theorem dX6_joined_142 : decode cX6_joined 142 = .ok (.iload_n 1, 1) := by decide +kernel
theorem dX6_joined_143 : decode cX6_joined 143 = .ok (.iload_n 2, 1) := by decide +kernel
theorem dX6_joined_144 : decode cX6_joined 144 = .ok (.if_icmp .ge 7, 3) := by decide +kernel
theorem dX6_joined_147 : decode cX6_joined 147 = .ok (.iconst 1, 1) := by decide +kernel
theorem dX6_joined_148 : decode cX6_joined 148 = .ok (.goto 4, 3) := by decide +kernel
theorem dX6_joined_151 : decode cX6_joined 151 = .ok (.iconst 0, 1) := by decide +kernel
theorem dX6_joined_152 : decode cX6_joined 152 = .ok (.ireturn, 1) := by decide +kernel
theorem dX6_joined_153 : decode cX6_joined 153 = .ok (.iload_n 1, 1) := by decide +kernel
theorem dX6_joined_154 : decode cX6_joined 154 = .ok (.iload_n 2, 1) := by decide +kernel
theorem dX6_joined_155 : decode cX6_joined 155 = .ok (.if_icmp .le 7, 3) := by decide +kernel
theorem dX6_joined_158 : decode cX6_joined 158 = .ok (.iconst 1, 1) := by decide +kernel
theorem dX6_joined_159 : decode cX6_joined 159 = .ok (.goto 4, 3) := by decide +kernel
theorem dX6_joined_162 : decode cX6_joined 162 = .ok (.iconst 0, 1) := by decide +kernel
theorem dX6_joined_163 : decode cX6_joined 163 = .ok (.ireturn, 1) := by decide +kernel
theorem dX6_joined_164 : decode cX6_joined 164 = .ok (.iload_n 1, 1) := by decide +kernel
theorem dX6_joined_165 : decode cX6_joined 165 = .ok (.iload_n 2, 1) := by decide +kernel
theorem dX6_joined_166 : decode cX6_joined 166 = .ok (.if_icmp .ne 7, 3) := by decide +kernel
theorem dX6_joined_169 : decode cX6_joined 169 = .ok (.iconst 1, 1) := by decide +kernel
theorem dX6_joined_170 : decode cX6_joined 170 = .ok (.goto 4, 3) := by decide +kernel
theorem dX6_joined_173 : decode cX6_joined 173 = .ok (.iconst 0, 1) := by decide +kernel
theorem dX6_joined_174 : decode cX6_joined 174 = .ok (.ireturn, 1) := by decide +kernel
theorem dX6_joined_175 : decode cX6_joined 175 = .ok (.iload_n 1, 1) := by decide +kernel
theorem dX6_joined_176 : decode cX6_joined 176 = .ok (.iload_n 2, 1) := by decide +kernel
theorem dX6_joined_177 : decode cX6_joined 177 = .ok (.invokestatic 47, 3) := by decide +kernel
theorem dX6_joined_180 : decode cX6_joined 180 = .ok (.ireturn, 1) := by decide +kernel
theorem dX6_joined_181 : decode cX6_joined 181 = .ok (.iload_n 1, 1) := by decide +kernel
theorem dX6_joined_182 : decode cX6_joined 182 = .ok (.iload_n 2, 1) := by decide +kernel
theorem dX6_joined_183 : decode cX6_joined 183 = .ok (.invokestatic 18, 3) := by decide +kernel
theorem dX6_joined_186 : decode cX6_joined 186 = .ok (.ireturn, 1) := by decide +kernel
theorem dX6_joined_187 : decode cX6_joined 187 = .ok (.iload_n 1, 1) := by decide +kernel
theorem dX6_joined_188 : decode cX6_joined 188 = .ok (.iload_n 2, 1) := by decide +kernel
theorem dX6_joined_189 : decode cX6_joined 189 = .ok (.iand, 1) := by decide +kernel
theorem dX6_joined_190 : decode cX6_joined 190 = .ok (.ireturn, 1) := by decide +kernel
theorem dX6_joined_191 : decode cX6_joined 191 = .ok (.iload_n 1, 1) := by decide +kernel
theorem dX6_joined_192 : decode cX6_joined 192 = .ok (.iload_n 2, 1) := by decide +kernel
theorem dX6_joined_193 : decode cX6_joined 193 = .ok (.ior, 1) := by decide +kernel
theorem dX6_joined_194 : decode cX6_joined 194 = .ok (.ireturn, 1) := by decide +kernel
theorem dX6_joined_195 : decode cX6_joined 195 = .ok (.iconst 0, 1) := by decide +kernel
theorem dX6_joined_196 : decode cX6_joined 196 = .ok (.ireturn, 1) := by decide +kernel
set_option maxRecDepth 100000 in
theorem m_X6_joined {g : GT} {n nf : Int} (hu : Up true nf n) (M : Mem) (a0 a1 a2 : Int) : AM g true yX6_joined cX6_joined 3 (some .int) (1) n n nf [(0, a0), (0, a1), (0, a2)] M (f_X6_joined M a0 a1 a2) := by
  refine AM_of (by decide +kernel) (Nat.le_of_ble_eq_true rfl) (fun h => absurd h (Int.lt_irrefl n)) ?_
  show AW g true RX6 cX6_joined 3 (some .int) (1) n n nf 0 [(0, 0, a0), (1, 0, a1), (2, 0, a2)] [] n M (f_X6_joined M a0 a1 a2)
  unfold f_X6_joined
  refine r_iload_n 0 dX6_joined_0 rfl rfl ?_
  refine r_lsw (tgt := 191) (off := 190) 10 dX6_joined_1 (by decide) (by decide) rfl (fun h1 => ?_) (fun h2 => ?_)
  · refine r_iload_n 1 dX6_joined_191 rfl rfl ?_
    refine r_iload_n 2 dX6_joined_192 rfl rfl ?_
    refine r_ior dX6_joined_193 ?_
    exact r_iret rfl rfl (Or.inl rfl) dX6_joined_194
  · refine r_lsw (tgt := 187) (off := 186) 11 dX6_joined_1 (by decide) (by decide) rfl (fun h3 => ?_) (fun h4 => ?_)
    · refine r_iload_n 1 dX6_joined_187 rfl rfl ?_
      refine r_iload_n 2 dX6_joined_188 rfl rfl ?_
      refine r_iand dX6_joined_189 ?_
      exact r_iret rfl rfl (Or.inl rfl) dX6_joined_190
    · refine r_lsw (tgt := 175) (off := 174) 19 dX6_joined_1 (by decide) (by decide) rfl (fun h5 => ?_) (fun h6 => ?_)
      · refine r_iload_n 1 dX6_joined_175 rfl rfl ?_
        refine r_iload_n 2 dX6_joined_176 rfl rfl ?_
        refine r_ins (a := 0) ⟨Nat.le_refl _, Nat.le_refl _⟩ dX6_joined_177 kM_X6_47 (by decide) (by decide) [(0, a1), (0, a2)] rfl (sk := []) rfl (Nat.le_of_ble_eq_true rfl) rfl rfl (m_J9_min_7cf53 hu M a1 a2) (fun r7 M8 => ?_)
        exact r_iret rfl rfl (Or.inl rfl) dX6_joined_180
      · refine r_lsw (tgt := 181) (off := 180) 20 dX6_joined_1 (by decide) (by decide) rfl (fun h9 => ?_) (fun h10 => ?_)
        · refine r_iload_n 1 dX6_joined_181 rfl rfl ?_
          refine r_iload_n 2 dX6_joined_182 rfl rfl ?_
          refine r_ins (a := 0) ⟨Nat.le_refl _, Nat.le_refl _⟩ dX6_joined_183 kM_X6_18 (by decide) (by decide) [(0, a1), (0, a2)] rfl (sk := []) rfl (Nat.le_of_ble_eq_true rfl) rfl rfl (m_J9_max_7cf53 hu M a1 a2) (fun r11 M12 => ?_)
          exact r_iret rfl rfl (Or.inl rfl) dX6_joined_186
        · refine r_lsw (tgt := 122) (off := 121) 42 dX6_joined_1 (by decide) (by decide) rfl (fun h13 => ?_) (fun h14 => ?_)
          · refine r_iload_n 1 dX6_joined_122 rfl rfl ?_
            refine r_iload_n 2 dX6_joined_123 rfl rfl ?_
            refine r_ins (a := 0) ⟨Nat.le_refl _, Nat.le_refl _⟩ dX6_joined_124 kM_X6_41 (by decide) (by decide) [(0, a1), (0, a2)] rfl (sk := []) rfl (Nat.le_of_ble_eq_true rfl) rfl rfl (m_X6_product hu M a1 a2) (fun r15 M16 => ?_)
            exact r_iret rfl rfl (Or.inl rfl) dX6_joined_127
          · refine r_lsw (tgt := 100) (off := 99) 43 dX6_joined_1 (by decide) (by decide) rfl (fun h17 => ?_) (fun h18 => ?_)
            · refine r_iload_n 1 dX6_joined_100 rfl rfl ?_
              refine r_iload_n 2 dX6_joined_101 rfl rfl ?_
              refine r_ok (fun h19 => ?_)
              refine r_iadd dX6_joined_102 h19 ?_
              refine r_ldc (v := (-1000000)) dX6_joined_103 kC_X6_37 rfl ⟨by decide, by decide⟩ ?_
              refine r_ldc (v := 1000000) dX6_joined_105 kC_X6_34 rfl ⟨by decide, by decide⟩ ?_
              refine r_ins (a := 0) ⟨Nat.le_refl _, Nat.le_refl _⟩ dX6_joined_107 kM_X6_38 (by decide) (by decide) [(0, a1 + a2), (0, (-1000000)), (0, 1000000)] rfl (sk := []) rfl (Nat.le_of_ble_eq_true rfl) rfl rfl (m_X11_clamped hu M (a1 + a2) (-1000000) 1000000) (fun r20 M21 => ?_)
              exact r_iret rfl rfl (Or.inl rfl) dX6_joined_110
            · refine r_lsw (tgt := 111) (off := 110) 45 dX6_joined_1 (by decide) (by decide) rfl (fun h22 => ?_) (fun h23 => ?_)
              · refine r_iload_n 1 dX6_joined_111 rfl rfl ?_
                refine r_iload_n 2 dX6_joined_112 rfl rfl ?_
                refine r_ok (fun h24 => ?_)
                refine r_isub dX6_joined_113 h24 ?_
                refine r_ldc (v := (-1000000)) dX6_joined_114 kC_X6_37 rfl ⟨by decide, by decide⟩ ?_
                refine r_ldc (v := 1000000) dX6_joined_116 kC_X6_34 rfl ⟨by decide, by decide⟩ ?_
                refine r_ins (a := 0) ⟨Nat.le_refl _, Nat.le_refl _⟩ dX6_joined_118 kM_X6_38 (by decide) (by decide) [(0, a1 - a2), (0, (-1000000)), (0, 1000000)] rfl (sk := []) rfl (Nat.le_of_ble_eq_true rfl) rfl rfl (m_X11_clamped hu M (a1 - a2) (-1000000) 1000000) (fun r25 M26 => ?_)
                exact r_iret rfl rfl (Or.inl rfl) dX6_joined_121
              · refine r_lsw (tgt := 128) (off := 127) 47 dX6_joined_1 (by decide) (by decide) rfl (fun h27 => ?_) (fun h28 => ?_)
                · refine r_iload_n 2 dX6_joined_128 rfl rfl ?_
                  refine r_if_ne (tgt := 136) dX6_joined_129 rfl (fun h29 => ?_) (fun h30 => ?_)
                  · refine r_iconst dX6_joined_132 ⟨by decide, by decide⟩ ?_
                    refine r_goto (tgt := 141) dX6_joined_133 rfl ?_
                    exact r_iret rfl rfl (Or.inl rfl) dX6_joined_141
                  · refine r_iload_n 1 dX6_joined_136 rfl rfl ?_
                    refine r_iload_n 2 dX6_joined_137 rfl rfl ?_
                    refine r_ins (a := 0) ⟨Nat.le_refl _, Nat.le_refl _⟩ dX6_joined_138 kM_X6_44 (by decide) (by decide) [(0, a1), (0, a2)] rfl (sk := []) rfl (Nat.le_of_ble_eq_true rfl) rfl rfl (m_J9_floorDiv_7cf53 hu M a1 a2) (fun r31 M32 => ?_)
                    exact r_iret rfl rfl (Or.inl rfl) dX6_joined_141
                · refine r_lsw (tgt := 142) (off := 141) 60 dX6_joined_1 (by decide) (by decide) rfl (fun h33 => ?_) (fun h34 => ?_)
                  · refine r_iload_n 1 dX6_joined_142 rfl rfl ?_
                    refine r_iload_n 2 dX6_joined_143 rfl rfl ?_
                    refine r_icmp_ge (tgt := 151) dX6_joined_144 rfl (fun h35 => ?_) (fun h36 => ?_)
                    · refine r_iconst dX6_joined_151 ⟨by decide, by decide⟩ ?_
                      exact r_iret rfl rfl (Or.inl rfl) dX6_joined_152
                    · refine r_iconst dX6_joined_147 ⟨by decide, by decide⟩ ?_
                      refine r_goto (tgt := 152) dX6_joined_148 rfl ?_
                      exact r_iret rfl rfl (Or.inl rfl) dX6_joined_152
                  · refine r_lsw (tgt := 164) (off := 163) 61 dX6_joined_1 (by decide) (by decide) rfl (fun h37 => ?_) (fun h38 => ?_)
                    · refine r_iload_n 1 dX6_joined_164 rfl rfl ?_
                      refine r_iload_n 2 dX6_joined_165 rfl rfl ?_
                      refine r_icmp_ne (tgt := 173) dX6_joined_166 rfl (fun h39 => ?_) (fun h40 => ?_)
                      · refine r_iconst dX6_joined_169 ⟨by decide, by decide⟩ ?_
                        refine r_goto (tgt := 174) dX6_joined_170 rfl ?_
                        exact r_iret rfl rfl (Or.inl rfl) dX6_joined_174
                      · refine r_iconst dX6_joined_173 ⟨by decide, by decide⟩ ?_
                        exact r_iret rfl rfl (Or.inl rfl) dX6_joined_174
                    · refine r_lsw (tgt := 153) (off := 152) 62 dX6_joined_1 (by decide) (by decide) rfl (fun h41 => ?_) (fun h42 => ?_)
                      · refine r_iload_n 1 dX6_joined_153 rfl rfl ?_
                        refine r_iload_n 2 dX6_joined_154 rfl rfl ?_
                        refine r_icmp_le (tgt := 162) dX6_joined_155 rfl (fun h43 => ?_) (fun h44 => ?_)
                        · refine r_iconst dX6_joined_162 ⟨by decide, by decide⟩ ?_
                          exact r_iret rfl rfl (Or.inl rfl) dX6_joined_163
                        · refine r_iconst dX6_joined_158 ⟨by decide, by decide⟩ ?_
                          refine r_goto (tgt := 163) dX6_joined_159 rfl ?_
                          exact r_iret rfl rfl (Or.inl rfl) dX6_joined_163
                      · refine r_lswd (tgt := 195) dX6_joined_1 (by decide) (off := 194) (by simp [Op.lookupswitch.offset, h2, h4, h6, h10, h14, h18, h23, h28, h34, h38, h42, Ne.symm h2, Ne.symm h4, Ne.symm h6, Ne.symm h10, Ne.symm h14, Ne.symm h18, Ne.symm h23, Ne.symm h28, Ne.symm h34, Ne.symm h38, Ne.symm h42]) rfl ?_
                        refine r_iconst dX6_joined_195 ⟨by decide, by decide⟩ ?_
                        exact r_iret rfl rfl (Or.inl rfl) dX6_joined_196
theorem dX6_reckon_0 : decode cX6_reckon 0 = .ok (.iconst 0, 1) := by decide +kernel
theorem dX6_reckon_1 : decode cX6_reckon 1 = .ok (.istore 4, 2) := by decide +kernel
theorem dX6_reckon_3 : decode cX6_reckon 3 = .ok (.iconst 0, 1) := by decide +kernel
theorem dX6_reckon_4 : decode cX6_reckon 4 = .ok (.iload_n 2, 1) := by decide +kernel
theorem dX6_reckon_5 : decode cX6_reckon 5 = .ok (.invokestatic 18, 3) := by decide +kernel
theorem dX6_reckon_8 : decode cX6_reckon 8 = .ok (.istore 5, 2) := by decide +kernel
theorem dX6_reckon_10 : decode cX6_reckon 10 = .ok (.iload 5, 2) := by decide +kernel
theorem dX6_reckon_12 : decode cX6_reckon 12 = .ok (.iload_n 3, 1) := by decide +kernel
theorem dX6_reckon_13 : decode cX6_reckon 13 = .ok (.if_icmp .ge 164, 3) := by decide +kernel
theorem dX6_reckon_16 : decode cX6_reckon 16 = .ok (.iload 5, 2) := by decide +kernel
theorem dX6_reckon_18 : decode cX6_reckon 18 = .ok (.aload_n 1, 1) := by decide +kernel
theorem dX6_reckon_19 : decode cX6_reckon 19 = .ok (.arraylength, 1) := by decide +kernel
theorem dX6_reckon_20 : decode cX6_reckon 20 = .ok (.if_icmp .ge 157, 3) := by decide +kernel
theorem dX6_reckon_23 : decode cX6_reckon 23 = .ok (.aload_n 1, 1) := by decide +kernel
theorem dX6_reckon_24 : decode cX6_reckon 24 = .ok (.iload 5, 2) := by decide +kernel
theorem dX6_reckon_26 : decode cX6_reckon 26 = .ok (.iaload, 1) := by decide +kernel
theorem dX6_reckon_27 : decode cX6_reckon 27 = .ok (.istore 6, 2) := by decide +kernel
theorem dX6_reckon_29 : decode cX6_reckon 29 = .ok (.iload 6, 2) := by decide +kernel
theorem dX6_reckon_31 : decode cX6_reckon 31 = .ok (.iconst (-1), 1) := by decide +kernel
theorem dX6_reckon_32 : decode cX6_reckon 32 = .ok (.ixor, 1) := by decide +kernel
theorem dX6_reckon_33 : decode cX6_reckon 33 = .ok (.istore 7, 2) := by decide +kernel
theorem dX6_reckon_35 : decode cX6_reckon 35 = .ok (.iload 6, 2) := by decide +kernel
theorem dX6_reckon_37 : decode cX6_reckon 37 = .ok (.ifCond .ge 11, 3) := by decide +kernel
theorem dX6_reckon_40 : decode cX6_reckon 40 = .ok (.iload 7, 2) := by decide +kernel
theorem dX6_reckon_42 : decode cX6_reckon 42 = .ok (.invokestatic 24, 3) := by decide +kernel
theorem dX6_reckon_45 : decode cX6_reckon 45 = .ok (.ifCond .eq 7, 3) := by decide +kernel
theorem dX6_reckon_48 : decode cX6_reckon 48 = .ok (.iconst 1, 1) := by decide +kernel
theorem dX6_reckon_49 : decode cX6_reckon 49 = .ok (.goto 4, 3) := by decide +kernel
theorem dX6_reckon_52 : decode cX6_reckon 52 = .ok (.iconst 0, 1) := by decide +kernel
theorem dX6_reckon_53 : decode cX6_reckon 53 = .ok (.istore 8, 2) := by decide +kernel
theorem dX6_reckon_55 : decode cX6_reckon 55 = .ok (.iload 8, 2) := by decide +kernel
theorem dX6_reckon_57 : decode cX6_reckon 57 = .ok (.ifCond .eq 40, 3) := by decide +kernel
theorem dX6_reckon_60 : decode cX6_reckon 60 = .ok (.iload 4, 2) := by decide +kernel
theorem dX6_reckon_62 : decode cX6_reckon 62 = .ok (.bipush 64, 2) := by decide +kernel
theorem dX6_reckon_64 : decode cX6_reckon 64 = .ok (.if_icmp .ge 33, 3) := by decide +kernel
theorem dX6_reckon_67 : decode cX6_reckon 67 = .ok (.aload_n 0, 1) := by decide +kernel
theorem dX6_reckon_68 : decode cX6_reckon 68 = .ok (.getfield 15, 3) := by decide +kernel
theorem dX6_reckon_71 : decode cX6_reckon 71 = .ok (.iload 4, 2) := by decide +kernel
theorem dX6_reckon_73 : decode cX6_reckon 73 = .ok (.iload 6, 2) := by decide +kernel
theorem dX6_reckon_75 : decode cX6_reckon 75 = .ok (.ifCond .lt 8, 3) := by decide +kernel
theorem dX6_reckon_78 : decode cX6_reckon 78 = .ok (.iload 6, 2) := by decide +kernel
theorem dX6_reckon_80 : decode cX6_reckon 80 = .ok (.goto 10, 3) := by decide +kernel
theorem dX6_reckon_83 : decode cX6_reckon 83 = .ok (.aload_n 0, 1) := by decide +kernel
theorem dX6_reckon_84 : decode cX6_reckon 84 = .ok (.getfield 9, 3) := by decide +kernel
theorem dX6_reckon_87 : decode cX6_reckon 87 = .ok (.iload 7, 2) := by decide +kernel
theorem dX6_reckon_89 : decode cX6_reckon 89 = .ok (.iaload, 1) := by decide +kernel
theorem dX6_reckon_90 : decode cX6_reckon 90 = .ok (.iastore, 1) := by decide +kernel
theorem dX6_reckon_91 : decode cX6_reckon 91 = .ok (.iinc 4 1, 3) := by decide +kernel
theorem dX6_reckon_94 : decode cX6_reckon 94 = .ok (.goto 77, 3) := by decide +kernel
theorem dX6_reckon_97 : decode cX6_reckon 97 = .ok (.iload 7, 2) := by decide +kernel
theorem dX6_reckon_99 : decode cX6_reckon 99 = .ok (.bipush 12, 2) := by decide +kernel
theorem dX6_reckon_101 : decode cX6_reckon 101 = .ok (.if_icmp .ne 31, 3) := by decide +kernel
theorem dX6_reckon_104 : decode cX6_reckon 104 = .ok (.iload 4, 2) := by decide +kernel
theorem dX6_reckon_106 : decode cX6_reckon 106 = .ok (.ifCond .le 26, 3) := by decide +kernel
theorem dX6_reckon_109 : decode cX6_reckon 109 = .ok (.aload_n 0, 1) := by decide +kernel
theorem dX6_reckon_110 : decode cX6_reckon 110 = .ok (.getfield 15, 3) := by decide +kernel
theorem dX6_reckon_113 : decode cX6_reckon 113 = .ok (.iload 4, 2) := by decide +kernel
theorem dX6_reckon_115 : decode cX6_reckon 115 = .ok (.iconst 1, 1) := by decide +kernel
theorem dX6_reckon_116 : decode cX6_reckon 116 = .ok (.isub, 1) := by decide +kernel
theorem dX6_reckon_117 : decode cX6_reckon 117 = .ok (.iconst 1, 1) := by decide +kernel
theorem dX6_reckon_118 : decode cX6_reckon 118 = .ok (.aload_n 0, 1) := by decide +kernel
theorem dX6_reckon_119 : decode cX6_reckon 119 = .ok (.getfield 15, 3) := by decide +kernel
theorem dX6_reckon_122 : decode cX6_reckon 122 = .ok (.iload 4, 2) := by decide +kernel
theorem dX6_reckon_124 : decode cX6_reckon 124 = .ok (.iconst 1, 1) := by decide +kernel
theorem dX6_reckon_125 : decode cX6_reckon 125 = .ok (.isub, 1) := by decide +kernel
theorem dX6_reckon_126 : decode cX6_reckon 126 = .ok (.iaload, 1) := by decide +kernel
theorem dX6_reckon_127 : decode cX6_reckon 127 = .ok (.isub, 1) := by decide +kernel
theorem dX6_reckon_128 : decode cX6_reckon 128 = .ok (.iastore, 1) := by decide +kernel
theorem dX6_reckon_129 : decode cX6_reckon 129 = .ok (.goto 42, 3) := by decide +kernel
theorem dX6_reckon_132 : decode cX6_reckon 132 = .ok (.iload 4, 2) := by decide +kernel
theorem dX6_reckon_134 : decode cX6_reckon 134 = .ok (.iconst 1, 1) := by decide +kernel
theorem dX6_reckon_135 : decode cX6_reckon 135 = .ok (.if_icmp .le 36, 3) := by decide +kernel
theorem dX6_reckon_138 : decode cX6_reckon 138 = .ok (.iinc 4 (-1), 3) := by decide +kernel
theorem dX6_reckon_141 : decode cX6_reckon 141 = .ok (.aload_n 0, 1) := by decide +kernel
theorem dX6_reckon_142 : decode cX6_reckon 142 = .ok (.getfield 15, 3) := by decide +kernel
theorem dX6_reckon_145 : decode cX6_reckon 145 = .ok (.iload 4, 2) := by decide +kernel
theorem dX6_reckon_147 : decode cX6_reckon 147 = .ok (.iconst 1, 1) := by decide +kernel
theorem dX6_reckon_148 : decode cX6_reckon 148 = .ok (.isub, 1) := by decide +kernel
theorem dX6_reckon_149 : decode cX6_reckon 149 = .ok (.iload 7, 2) := by decide +kernel
theorem dX6_reckon_151 : decode cX6_reckon 151 = .ok (.aload_n 0, 1) := by decide +kernel
theorem dX6_reckon_152 : decode cX6_reckon 152 = .ok (.getfield 15, 3) := by decide +kernel
theorem dX6_reckon_155 : decode cX6_reckon 155 = .ok (.iload 4, 2) := by decide +kernel
theorem dX6_reckon_157 : decode cX6_reckon 157 = .ok (.iconst 1, 1) := by decide +kernel
theorem dX6_reckon_158 : decode cX6_reckon 158 = .ok (.isub, 1) := by decide +kernel
theorem dX6_reckon_159 : decode cX6_reckon 159 = .ok (.iaload, 1) := by decide +kernel
theorem dX6_reckon_160 : decode cX6_reckon 160 = .ok (.aload_n 0, 1) := by decide +kernel
theorem dX6_reckon_161 : decode cX6_reckon 161 = .ok (.getfield 15, 3) := by decide +kernel
theorem dX6_reckon_164 : decode cX6_reckon 164 = .ok (.iload 4, 2) := by decide +kernel
theorem dX6_reckon_166 : decode cX6_reckon 166 = .ok (.iaload, 1) := by decide +kernel
theorem dX6_reckon_167 : decode cX6_reckon 167 = .ok (.invokestatic 28, 3) := by decide +kernel
theorem dX6_reckon_170 : decode cX6_reckon 170 = .ok (.iastore, 1) := by decide +kernel
theorem dX6_reckon_171 : decode cX6_reckon 171 = .ok (.iinc 5 1, 3) := by decide +kernel
theorem dX6_reckon_174 : decode cX6_reckon 174 = .ok (.goto (-164), 3) := by decide +kernel
theorem dX6_reckon_177 : decode cX6_reckon 177 = .ok (.iload 4, 2) := by decide +kernel
theorem dX6_reckon_179 : decode cX6_reckon 179 = .ok (.ifCond .le 15, 3) := by decide +kernel
theorem dX6_reckon_182 : decode cX6_reckon 182 = .ok (.aload_n 0, 1) := by decide +kernel
theorem dX6_reckon_183 : decode cX6_reckon 183 = .ok (.getfield 15, 3) := by decide +kernel
theorem dX6_reckon_186 : decode cX6_reckon 186 = .ok (.iload 4, 2) := by decide +kernel
theorem dX6_reckon_188 : decode cX6_reckon 188 = .ok (.iconst 1, 1) := by decide +kernel
theorem dX6_reckon_189 : decode cX6_reckon 189 = .ok (.isub, 1) := by decide +kernel
theorem dX6_reckon_190 : decode cX6_reckon 190 = .ok (.iaload, 1) := by decide +kernel
theorem dX6_reckon_191 : decode cX6_reckon 191 = .ok (.goto 4, 3) := by decide +kernel
theorem dX6_reckon_194 : decode cX6_reckon 194 = .ok (.iconst 0, 1) := by decide +kernel
theorem dX6_reckon_195 : decode cX6_reckon 195 = .ok (.ireturn, 1) := by decide +kernel
set_option maxRecDepth 100000 in
theorem tj_X6_reckon_177 {g : GT} {n nf : Int} (hu : Up true nf n) (M : Mem) (x4 : Int) : AW g true RX6 cX6_reckon 9 (some .int) (2) n n nf 177 [(0, 2, 10), (4, 0, x4)] [] n M (j_X6_reckon_177 M x4) := by
  unfold j_X6_reckon_177
  refine r_iload 1 dX6_reckon_177 rfl ?_
  refine r_if_le (tgt := 194) dX6_reckon_179 rfl (fun h5 => ?_) (fun h6 => ?_)
  · refine r_iconst dX6_reckon_194 ⟨by decide, by decide⟩ ?_
    exact r_iret rfl rfl (Or.inl rfl) dX6_reckon_195
  · refine r_aload_n 0 dX6_reckon_182 rfl rfl ?_
    refine r_gx (kz := 1) rfl hu dX6_reckon_183 kF_X6_15 kd_10 rfl rfl rfl fx_10_1 ?_
    refine r_iload 1 dX6_reckon_186 rfl ?_
    refine r_iconst dX6_reckon_188 ⟨by decide, by decide⟩ ?_
    refine r_ok (fun h7 => ?_)
    refine r_isub dX6_reckon_189 h7 ?_
    refine r_ok (fun h8 => ?_)
    refine r_iald hu dX6_reckon_190 kd_12 rfl (Or.inl rfl) rfl ln_12 h8 ?_
    refine r_goto (tgt := 195) dX6_reckon_191 rfl ?_
    exact r_iret rfl rfl (Or.inl rfl) dX6_reckon_195
set_option maxRecDepth 100000 in
theorem tj_X6_reckon_132 {g : GT} {n nf : Int} (hu : Up true nf n) (a1 a3 : Int) (hk1 : kd a1 = 1) (hl1 : ln a1 = 900) (w10 : Mem → Int → Int → Res) (hw10 : ∀ (M : Mem) (x4 x5 : Int), AW g true RX6 cX6_reckon 9 (some .int) (2) n n nf 10 [(0, 2, 10), (1, 2, a1), (3, 0, a3), (4, 0, x4), (5, 0, x5)] [] n M (w10 M x4 x5)) (M : Mem) (x4 x5 x7 : Int) : AW g true RX6 cX6_reckon 9 (some .int) (2) n n nf 132 [(0, 2, 10), (1, 2, a1), (3, 0, a3), (4, 0, x4), (5, 0, x5), (7, 0, x7)] [] n M (j_X6_reckon_132 a1 a3 w10 M x4 x5 x7) := by
  unfold j_X6_reckon_132
  refine r_iload 3 dX6_reckon_132 rfl ?_
  refine r_iconst dX6_reckon_134 ⟨by decide, by decide⟩ ?_
  refine r_icmp_le (tgt := 171) dX6_reckon_135 rfl (fun h22 => ?_) (fun h23 => ?_)
  · refine r_ok (fun h24 => ?_)
    refine r_iincB 4 dX6_reckon_171 rfl h24 (by decide) (lf := fun y25 => [(5, 0, y25), (0, 2, 10), (1, 2, a1), (3, 0, a3), (4, 0, x4), (7, 0, x7)]) (fun _ => rfl) (fun y25 ey25 => ?_)
    refine r_goto (tgt := 10) dX6_reckon_174 rfl ?_
    refine r_sub [1, 2, 3, 4, 0] (ls' := [(0, 2, 10), (1, 2, a1), (3, 0, a3), (4, 0, x4), (5, 0, y25)]) rfl ?_
    exact hw10 M x4 y25
  · refine r_ok (fun h26 => ?_)
    refine r_iincB 3 dX6_reckon_138 rfl h26 (by decide) (lf := fun y27 => [(4, 0, y27), (0, 2, 10), (1, 2, a1), (3, 0, a3), (5, 0, x5), (7, 0, x7)]) (fun _ => rfl) (fun y27 ey27 => ?_)
    refine r_aload_n 1 dX6_reckon_141 rfl rfl ?_
    refine r_gx (kz := 1) rfl hu dX6_reckon_142 kF_X6_15 kd_10 rfl rfl rfl fx_10_1 ?_
    refine r_iload 0 dX6_reckon_145 rfl ?_
    refine r_iconst dX6_reckon_147 ⟨by decide, by decide⟩ ?_
    refine r_ok (fun h28 => ?_)
    refine r_isub dX6_reckon_148 h28 ?_
    refine r_iload 5 dX6_reckon_149 rfl ?_
    refine r_aload_n 1 dX6_reckon_151 rfl rfl ?_
    refine r_gx (kz := 1) rfl hu dX6_reckon_152 kF_X6_15 kd_10 rfl rfl rfl fx_10_1 ?_
    refine r_iload 0 dX6_reckon_155 rfl ?_
    refine r_iconst dX6_reckon_157 ⟨by decide, by decide⟩ ?_
    refine r_isub dX6_reckon_158 h28 ?_
    refine r_ok (fun h29 => ?_)
    refine r_iald hu dX6_reckon_159 kd_12 rfl (Or.inl rfl) rfl ln_12 h29 ?_
    refine r_aload_n 1 dX6_reckon_160 rfl rfl ?_
    refine r_gx (kz := 1) rfl hu dX6_reckon_161 kF_X6_15 kd_10 rfl rfl rfl fx_10_1 ?_
    refine r_iload 0 dX6_reckon_164 rfl ?_
    refine r_ok (fun h30 => ?_)
    refine r_iald hu dX6_reckon_166 kd_12 rfl (Or.inl rfl) rfl ln_12 h30 ?_
    refine r_ins (a := 0) ⟨Nat.le_refl _, Nat.le_refl _⟩ dX6_reckon_167 kM_X6_28 (by decide) (by decide) [(0, x7), (0, M 12 (y27 - 1)), (0, M 12 y27)] rfl (sk := [(0, y27 - 1), (2, 12)]) rfl (Nat.le_of_ble_eq_true rfl) rfl rfl (m_X6_joined hu M x7 (M 12 (y27 - 1)) (M 12 y27)) (fun r31 M32 => ?_)
    refine r_iast hu dX6_reckon_170 kd_12 rfl (Or.inl rfl) rfl ln_12 h29 rfl (fun M33 eM33 => ?_)
    refine r_ok (fun h34 => ?_)
    refine r_iincB 4 dX6_reckon_171 rfl h34 (by decide) (lf := fun y35 => [(5, 0, y35), (4, 0, y27), (0, 2, 10), (1, 2, a1), (3, 0, a3), (7, 0, x7)]) (fun _ => rfl) (fun y35 ey35 => ?_)
    refine r_goto (tgt := 10) dX6_reckon_174 rfl ?_
    refine r_sub [2, 3, 4, 1, 0] (ls' := [(0, 2, 10), (1, 2, a1), (3, 0, a3), (4, 0, y27), (5, 0, y35)]) rfl ?_
    exact hw10 M33 y27 y35
set_option maxRecDepth 100000 in
theorem tj_X6_reckon_97 {g : GT} {n nf : Int} (hu : Up true nf n) (a1 a3 : Int) (hk1 : kd a1 = 1) (hl1 : ln a1 = 900) (w10 : Mem → Int → Int → Res) (hw10 : ∀ (M : Mem) (x4 x5 : Int), AW g true RX6 cX6_reckon 9 (some .int) (2) n n nf 10 [(0, 2, 10), (1, 2, a1), (3, 0, a3), (4, 0, x4), (5, 0, x5)] [] n M (w10 M x4 x5)) (M : Mem) (x4 x5 x7 : Int) : AW g true RX6 cX6_reckon 9 (some .int) (2) n n nf 97 [(0, 2, 10), (1, 2, a1), (3, 0, a3), (4, 0, x4), (5, 0, x5), (7, 0, x7)] [] n M (j_X6_reckon_97 a1 a3 w10 M x4 x5 x7) := by
  unfold j_X6_reckon_97
  refine r_iload 5 dX6_reckon_97 rfl ?_
  refine r_bipush dX6_reckon_99 (by decide) ⟨by decide, by decide⟩ ?_
  refine r_icmp_ne (tgt := 132) dX6_reckon_101 rfl (fun h18 => ?_) (fun h19 => ?_)
  · refine r_iload 3 dX6_reckon_104 rfl ?_
    refine r_if_le (tgt := 132) dX6_reckon_106 rfl (fun h20 => ?_) (fun h21 => ?_)
    · exact tj_X6_reckon_132 hu a1 a3 hk1 hl1 w10 hw10 M x4 x5 x7
    · refine r_aload_n 0 dX6_reckon_109 rfl rfl ?_
      refine r_gx (kz := 1) rfl hu dX6_reckon_110 kF_X6_15 kd_10 rfl rfl rfl fx_10_1 ?_
      refine r_iload 3 dX6_reckon_113 rfl ?_
      refine r_iconst dX6_reckon_115 ⟨by decide, by decide⟩ ?_
      refine r_ok (fun h36 => ?_)
      refine r_isub dX6_reckon_116 h36 ?_
      refine r_iconst dX6_reckon_117 ⟨by decide, by decide⟩ ?_
      refine r_aload_n 0 dX6_reckon_118 rfl rfl ?_
      refine r_gx (kz := 1) rfl hu dX6_reckon_119 kF_X6_15 kd_10 rfl rfl rfl fx_10_1 ?_
      refine r_iload 3 dX6_reckon_122 rfl ?_
      refine r_iconst dX6_reckon_124 ⟨by decide, by decide⟩ ?_
      refine r_isub dX6_reckon_125 h36 ?_
      refine r_ok (fun h37 => ?_)
      refine r_iald hu dX6_reckon_126 kd_12 rfl (Or.inl rfl) rfl ln_12 h37 ?_
      refine r_ok (fun h38 => ?_)
      refine r_isub dX6_reckon_127 h38 ?_
      refine r_iast hu dX6_reckon_128 kd_12 rfl (Or.inl rfl) rfl ln_12 h37 rfl (fun M39 eM39 => ?_)
      refine r_goto (tgt := 171) dX6_reckon_129 rfl ?_
      refine r_ok (fun h40 => ?_)
      refine r_iincB 4 dX6_reckon_171 rfl h40 (by decide) (lf := fun y41 => [(5, 0, y41), (0, 2, 10), (1, 2, a1), (3, 0, a3), (4, 0, x4), (7, 0, x7)]) (fun _ => rfl) (fun y41 ey41 => ?_)
      refine r_goto (tgt := 10) dX6_reckon_174 rfl ?_
      refine r_sub [1, 2, 3, 4, 0] (ls' := [(0, 2, 10), (1, 2, a1), (3, 0, a3), (4, 0, x4), (5, 0, y41)]) rfl ?_
      exact hw10 M39 x4 y41
  · exact tj_X6_reckon_132 hu a1 a3 hk1 hl1 w10 hw10 M x4 x5 x7
set_option maxRecDepth 100000 in
theorem tj_X6_reckon_53 {g : GT} {n nf : Int} (hu : Up true nf n) (a1 a3 : Int) (hk1 : kd a1 = 1) (hl1 : ln a1 = 900) (w10 : Mem → Int → Int → Res) (hw10 : ∀ (M : Mem) (x4 x5 : Int), AW g true RX6 cX6_reckon 9 (some .int) (2) n n nf 10 [(0, 2, 10), (1, 2, a1), (3, 0, a3), (4, 0, x4), (5, 0, x5)] [] n M (w10 M x4 x5)) (M : Mem) (x4 x5 x6 x7 s0 : Int) : AW g true RX6 cX6_reckon 9 (some .int) (2) n n nf 53 [(0, 2, 10), (1, 2, a1), (3, 0, a3), (4, 0, x4), (5, 0, x5), (6, 0, x6), (7, 0, x7)] [(0, s0)] n M (j_X6_reckon_53 a1 a3 w10 M x4 x5 x6 x7 s0) := by
  unfold j_X6_reckon_53
  refine r_istore dX6_reckon_53 (by decide) (ls' := [(8, 0, s0), (0, 2, 10), (1, 2, a1), (3, 0, a3), (4, 0, x4), (5, 0, x5), (6, 0, x6), (7, 0, x7)]) rfl ?_
  refine r_iload 0 dX6_reckon_55 rfl ?_
  refine r_if_eq (tgt := 97) dX6_reckon_57 rfl (fun h16 => ?_) (fun h17 => ?_)
  · refine r_sub [1, 2, 3, 4, 5, 7] (ls' := [(0, 2, 10), (1, 2, a1), (3, 0, a3), (4, 0, x4), (5, 0, x5), (7, 0, x7)]) rfl ?_
    exact tj_X6_reckon_97 hu a1 a3 hk1 hl1 w10 hw10 M x4 x5 x7
  · refine r_iload 4 dX6_reckon_60 rfl ?_
    refine r_bipush dX6_reckon_62 (by decide) ⟨by decide, by decide⟩ ?_
    refine r_icmp_ge (tgt := 97) dX6_reckon_64 rfl (fun h42 => ?_) (fun h43 => ?_)
    · refine r_sub [1, 2, 3, 4, 5, 7] (ls' := [(0, 2, 10), (1, 2, a1), (3, 0, a3), (4, 0, x4), (5, 0, x5), (7, 0, x7)]) rfl ?_
      exact tj_X6_reckon_97 hu a1 a3 hk1 hl1 w10 hw10 M x4 x5 x7
    · refine r_aload_n 1 dX6_reckon_67 rfl rfl ?_
      refine r_gx (kz := 1) rfl hu dX6_reckon_68 kF_X6_15 kd_10 rfl rfl rfl fx_10_1 ?_
      refine r_iload 4 dX6_reckon_71 rfl ?_
      refine r_iload 6 dX6_reckon_73 rfl ?_
      refine r_if_lt (tgt := 83) dX6_reckon_75 rfl (fun h44 => ?_) (fun h45 => ?_)
      · refine r_aload_n 1 dX6_reckon_83 rfl rfl ?_
        refine r_gx (kz := 0) rfl hu dX6_reckon_84 kF_X6_9 kd_10 rfl rfl rfl fx_10_0 ?_
        refine r_iload 7 dX6_reckon_87 rfl ?_
        refine r_ok (fun h46 => ?_)
        refine r_iald hu dX6_reckon_89 kd_11 rfl (Or.inl rfl) rfl ln_11 h46 ?_
        refine r_ok (fun h47 => ?_)
        refine r_iast hu dX6_reckon_90 kd_12 rfl (Or.inl rfl) rfl ln_12 h47 rfl (fun M48 eM48 => ?_)
        refine r_iincB 4 dX6_reckon_91 rfl ⟨by have := h47; omega, by have := h47; omega⟩ (by decide) (lf := fun y49 => [(4, 0, y49), (8, 0, s0), (0, 2, 10), (1, 2, a1), (3, 0, a3), (5, 0, x5), (6, 0, x6), (7, 0, x7)]) (fun _ => rfl) (fun y49 ey49 => ?_)
        refine r_goto (tgt := 171) dX6_reckon_94 rfl ?_
        refine r_ok (fun h50 => ?_)
        refine r_iincB 5 dX6_reckon_171 rfl h50 (by decide) (lf := fun y51 => [(5, 0, y51), (4, 0, y49), (8, 0, s0), (0, 2, 10), (1, 2, a1), (3, 0, a3), (6, 0, x6), (7, 0, x7)]) (fun _ => rfl) (fun y51 ey51 => ?_)
        refine r_goto (tgt := 10) dX6_reckon_174 rfl ?_
        refine r_sub [3, 4, 5, 1, 0] (ls' := [(0, 2, 10), (1, 2, a1), (3, 0, a3), (4, 0, y49), (5, 0, y51)]) rfl ?_
        exact hw10 M48 y49 y51
      · refine r_iload 6 dX6_reckon_78 rfl ?_
        refine r_goto (tgt := 90) dX6_reckon_80 rfl ?_
        refine r_ok (fun h52 => ?_)
        refine r_iast hu dX6_reckon_90 kd_12 rfl (Or.inl rfl) rfl ln_12 h52 rfl (fun M53 eM53 => ?_)
        refine r_iincB 4 dX6_reckon_91 rfl ⟨by have := h52; omega, by have := h52; omega⟩ (by decide) (lf := fun y54 => [(4, 0, y54), (8, 0, s0), (0, 2, 10), (1, 2, a1), (3, 0, a3), (5, 0, x5), (6, 0, x6), (7, 0, x7)]) (fun _ => rfl) (fun y54 ey54 => ?_)
        refine r_goto (tgt := 171) dX6_reckon_94 rfl ?_
        refine r_ok (fun h55 => ?_)
        refine r_iincB 5 dX6_reckon_171 rfl h55 (by decide) (lf := fun y56 => [(5, 0, y56), (4, 0, y54), (8, 0, s0), (0, 2, 10), (1, 2, a1), (3, 0, a3), (6, 0, x6), (7, 0, x7)]) (fun _ => rfl) (fun y56 ey56 => ?_)
        refine r_goto (tgt := 10) dX6_reckon_174 rfl ?_
        refine r_sub [3, 4, 5, 1, 0] (ls' := [(0, 2, 10), (1, 2, a1), (3, 0, a3), (4, 0, y54), (5, 0, y56)]) rfl ?_
        exact hw10 M53 y54 y56
set_option maxRecDepth 100000 in
theorem tj_X6_reckon_48 {g : GT} {n nf : Int} (hu : Up true nf n) (a1 a3 : Int) (hk1 : kd a1 = 1) (hl1 : ln a1 = 900) (w10 : Mem → Int → Int → Res) (hw10 : ∀ (M : Mem) (x4 x5 : Int), AW g true RX6 cX6_reckon 9 (some .int) (2) n n nf 10 [(0, 2, 10), (1, 2, a1), (3, 0, a3), (4, 0, x4), (5, 0, x5)] [] n M (w10 M x4 x5)) (M : Mem) (x4 x5 x6 x7 : Int) : AW g true RX6 cX6_reckon 9 (some .int) (2) n n nf 48 [(0, 2, 10), (1, 2, a1), (3, 0, a3), (4, 0, x4), (5, 0, x5), (6, 0, x6), (7, 0, x7)] [] n M (j_X6_reckon_48 a1 a3 w10 M x4 x5 x6 x7) := by
  unfold j_X6_reckon_48
  refine r_iconst dX6_reckon_48 ⟨by decide, by decide⟩ ?_
  refine r_goto (tgt := 53) dX6_reckon_49 rfl ?_
  exact tj_X6_reckon_53 hu a1 a3 hk1 hl1 w10 hw10 M x4 x5 x6 x7 1
set_option maxRecDepth 100000 in
theorem tb_X6_reckon_10 {g : GT} {n nf : Int} (hu : Up true nf n) (a1 a3 : Int) (hk1 : kd a1 = 1) (hl1 : ln a1 = 900) (w10 : Mem → Int → Int → Res) (hw10 : ∀ (M : Mem) (x4 x5 : Int), AW g true RX6 cX6_reckon 9 (some .int) (2) n n nf 10 [(0, 2, 10), (1, 2, a1), (3, 0, a3), (4, 0, x4), (5, 0, x5)] [] n M (w10 M x4 x5)) (M : Mem) (x4 x5 : Int) : AW g true RX6 cX6_reckon 9 (some .int) (2) n n nf 10 [(0, 2, 10), (1, 2, a1), (3, 0, a3), (4, 0, x4), (5, 0, x5)] [] n M (b_X6_reckon_10 a1 a3 w10 M x4 x5) := by
  unfold b_X6_reckon_10
  refine r_iload 4 dX6_reckon_10 rfl ?_
  refine r_iload_n 2 dX6_reckon_12 rfl rfl ?_
  refine r_icmp_ge (tgt := 177) dX6_reckon_13 rfl (fun h3 => ?_) (fun h4 => ?_)
  · refine r_sub [0, 3] (ls' := [(0, 2, 10), (4, 0, x4)]) rfl ?_
    exact tj_X6_reckon_177 hu M x4
  · refine r_iload 4 dX6_reckon_16 rfl ?_
    refine r_aload_n 1 dX6_reckon_18 rfl rfl ?_
    refine r_alen hu dX6_reckon_19 hk1 rfl (Or.inl rfl) rfl hl1 ⟨by decide, by decide⟩ ?_
    refine r_icmp_ge (tgt := 177) dX6_reckon_20 rfl (fun h9 => ?_) (fun h10 => ?_)
    · refine r_sub [0, 3] (ls' := [(0, 2, 10), (4, 0, x4)]) rfl ?_
      exact tj_X6_reckon_177 hu M x4
    · refine r_aload_n 1 dX6_reckon_23 rfl rfl ?_
      refine r_iload 4 dX6_reckon_24 rfl ?_
      refine r_ok (fun h11 => ?_)
      refine r_iald hu dX6_reckon_26 hk1 rfl (Or.inl rfl) rfl hl1 h11 ?_
      refine r_istoreB dX6_reckon_27 (by decide) (lf := fun y12 => [(6, 0, y12), (0, 2, 10), (1, 2, a1), (3, 0, a3), (4, 0, x4), (5, 0, x5)]) (fun _ => rfl) (fun y12 ey12 => ?_)
      refine r_iload 0 dX6_reckon_29 rfl ?_
      refine r_iconst dX6_reckon_31 ⟨by decide, by decide⟩ ?_
      refine r_ixor dX6_reckon_32 ?_
      refine r_istoreB dX6_reckon_33 (by decide) (lf := fun y13 => [(7, 0, y13), (6, 0, y12), (0, 2, 10), (1, 2, a1), (3, 0, a3), (4, 0, x4), (5, 0, x5)]) (fun _ => rfl) (fun y13 ey13 => ?_)
      refine r_iload 1 dX6_reckon_35 rfl ?_
      refine r_if_ge (tgt := 48) dX6_reckon_37 rfl (fun h14 => ?_) (fun h15 => ?_)
      · refine r_sub [2, 3, 4, 5, 6, 1, 0] (ls' := [(0, 2, 10), (1, 2, a1), (3, 0, a3), (4, 0, x4), (5, 0, x5), (6, 0, y12), (7, 0, y13)]) rfl ?_
        exact tj_X6_reckon_48 hu a1 a3 hk1 hl1 w10 hw10 M x4 x5 y12 y13
      · refine r_iload 0 dX6_reckon_40 rfl ?_
        refine r_ins (a := 0) ⟨Nat.le_refl _, Nat.le_refl _⟩ dX6_reckon_42 kM_X6_24 (by decide) (by decide) [(0, y13)] rfl (sk := []) rfl (Nat.le_of_ble_eq_true rfl) rfl rfl (m_X6_isPart hu M y13) (fun r57 M58 => ?_)
        refine r_if_eq (tgt := 52) dX6_reckon_45 rfl (fun h59 => ?_) (fun h60 => ?_)
        · refine r_iconst dX6_reckon_52 ⟨by decide, by decide⟩ ?_
          refine r_sub [2, 3, 4, 5, 6, 1, 0] (ls' := [(0, 2, 10), (1, 2, a1), (3, 0, a3), (4, 0, x4), (5, 0, x5), (6, 0, y12), (7, 0, y13)]) rfl ?_
          exact tj_X6_reckon_53 hu a1 a3 hk1 hl1 w10 hw10 M58 x4 x5 y12 y13 0
        · refine r_sub [2, 3, 4, 5, 6, 1, 0] (ls' := [(0, 2, 10), (1, 2, a1), (3, 0, a3), (4, 0, x4), (5, 0, x5), (6, 0, y12), (7, 0, y13)]) rfl ?_
          exact tj_X6_reckon_48 hu a1 a3 hk1 hl1 w10 hw10 M58 x4 x5 y12 y13
set_option maxRecDepth 100000 in
theorem m_X6_reckon {g : GT} {n nf : Int} (hu : Up true nf n) (M : Mem) (a1 a2 a3 : Int) (hk1 : kd a1 = 1) (hl1 : ln a1 = 900) : AM g true yX6_reckon cX6_reckon 9 (some .int) (2) n n nf [(2, 10), (2, a1), (0, a2), (0, a3)] M (f_X6_reckon M a1 a2 a3) := by
  refine AM_of (by decide +kernel) (Nat.le_of_ble_eq_true rfl) (fun h => absurd h (Int.lt_irrefl n)) ?_
  show AW g true RX6 cX6_reckon 9 (some .int) (2) n n nf 0 [(0, 2, 10), (1, 2, a1), (2, 0, a2), (3, 0, a3)] [] n M (f_X6_reckon M a1 a2 a3)
  unfold f_X6_reckon
  refine r_iconst dX6_reckon_0 ⟨by decide, by decide⟩ ?_
  refine r_istore dX6_reckon_1 (by decide) (ls' := [(4, 0, 0), (0, 2, 10), (1, 2, a1), (2, 0, a2), (3, 0, a3)]) rfl ?_
  refine r_iconst dX6_reckon_3 ⟨by decide, by decide⟩ ?_
  refine r_iload_n 3 dX6_reckon_4 rfl rfl ?_
  refine r_ins (a := 0) ⟨Nat.le_refl _, Nat.le_refl _⟩ dX6_reckon_5 kM_X6_18 (by decide) (by decide) [(0, 0), (0, a2)] rfl (sk := []) rfl (Nat.le_of_ble_eq_true rfl) rfl rfl (m_J9_max_7cf53 hu M 0 a2) (fun r1 M2 => ?_)
  refine r_istore dX6_reckon_8 (by decide) (ls' := [(5, 0, r1), (4, 0, 0), (0, 2, 10), (1, 2, a1), (2, 0, a2), (3, 0, a3)]) rfl ?_
  refine r_sub [2, 3, 5, 1, 0] (ls' := [(0, 2, 10), (1, 2, a1), (3, 0, a3), (4, 0, 0), (5, 0, r1)]) rfl ?_
  exact wl2_aw (P := fun M x4 x5 o => AW g true RX6 cX6_reckon 9 (some .int) (2) n n nf 10 [(0, 2, 10), (1, 2, a1), (3, 0, a3), (4, 0, x4), (5, 0, x5)] [] n M (o)) (fun M x4 x5 => aw_none) (fun w hw M x4 x5 => tb_X6_reckon_10 hu a1 a3 hk1 hl1 w hw M x4 x5) FU M2 0 r1
theorem dX7_firstSum_0 : decode cX7_firstSum 0 = .ok (.iconst 0, 1) := by decide +kernel
theorem dX7_firstSum_1 : decode cX7_firstSum 1 = .ok (.istore 4, 2) := by decide +kernel
theorem dX7_firstSum_3 : decode cX7_firstSum 3 = .ok (.iload 4, 2) := by decide +kernel
theorem dX7_firstSum_5 : decode cX7_firstSum 5 = .ok (.aload_n 0, 1) := by decide +kernel
theorem dX7_firstSum_6 : decode cX7_firstSum 6 = .ok (.getfield 25, 3) := by decide +kernel
theorem dX7_firstSum_9 : decode cX7_firstSum 9 = .ok (.if_icmp .ge 67, 3) := by decide +kernel
theorem dX7_firstSum_12 : decode cX7_firstSum 12 = .ok (.aload_n 0, 1) := by decide +kernel
theorem dX7_firstSum_13 : decode cX7_firstSum 13 = .ok (.getfield 11, 3) := by decide +kernel
theorem dX7_firstSum_16 : decode cX7_firstSum 16 = .ok (.iload 4, 2) := by decide +kernel
theorem dX7_firstSum_18 : decode cX7_firstSum 18 = .ok (.aaload, 1) := by decide +kernel
theorem dX7_firstSum_19 : decode cX7_firstSum 19 = .ok (.astore 5, 2) := by decide +kernel
theorem dX7_firstSum_21 : decode cX7_firstSum 21 = .ok (.aload 5, 2) := by decide +kernel
theorem dX7_firstSum_23 : decode cX7_firstSum 23 = .ok (.getfield 41, 3) := by decide +kernel
theorem dX7_firstSum_26 : decode cX7_firstSum 26 = .ok (.iload_n 1, 1) := by decide +kernel
theorem dX7_firstSum_27 : decode cX7_firstSum 27 = .ok (.if_icmp .ne 43, 3) := by decide +kernel
theorem dX7_firstSum_30 : decode cX7_firstSum 30 = .ok (.aload_n 2, 1) := by decide +kernel
theorem dX7_firstSum_31 : decode cX7_firstSum 31 = .ok (.aload_n 0, 1) := by decide +kernel
theorem dX7_firstSum_32 : decode cX7_firstSum 32 = .ok (.getfield 21, 3) := by decide +kernel
theorem dX7_firstSum_35 : decode cX7_firstSum 35 = .ok (.aload 5, 2) := by decide +kernel
theorem dX7_firstSum_37 : decode cX7_firstSum 37 = .ok (.getfield 50, 3) := by decide +kernel
theorem dX7_firstSum_40 : decode cX7_firstSum 40 = .ok (.aload 5, 2) := by decide +kernel
theorem dX7_firstSum_42 : decode cX7_firstSum 42 = .ok (.getfield 53, 3) := by decide +kernel
theorem dX7_firstSum_45 : decode cX7_firstSum 45 = .ok (.invokevirtual 56, 3) := by decide +kernel
theorem dX7_firstSum_48 : decode cX7_firstSum 48 = .ok (.ifCond .eq 22, 3) := by decide +kernel
theorem dX7_firstSum_51 : decode cX7_firstSum 51 = .ok (.aload_n 2, 1) := by decide +kernel
theorem dX7_firstSum_52 : decode cX7_firstSum 52 = .ok (.aload_n 0, 1) := by decide +kernel
theorem dX7_firstSum_53 : decode cX7_firstSum 53 = .ok (.getfield 21, 3) := by decide +kernel
theorem dX7_firstSum_56 : decode cX7_firstSum 56 = .ok (.aload 5, 2) := by decide +kernel
theorem dX7_firstSum_58 : decode cX7_firstSum 58 = .ok (.getfield 62, 3) := by decide +kernel
theorem dX7_firstSum_61 : decode cX7_firstSum 61 = .ok (.aload 5, 2) := by decide +kernel
theorem dX7_firstSum_63 : decode cX7_firstSum 63 = .ok (.getfield 50, 3) := by decide +kernel
theorem dX7_firstSum_66 : decode cX7_firstSum 66 = .ok (.invokevirtual 56, 3) := by decide +kernel
theorem dX7_firstSum_69 : decode cX7_firstSum 69 = .ok (.ireturn, 1) := by decide +kernel
theorem dX7_firstSum_70 : decode cX7_firstSum 70 = .ok (.iinc 4 1, 3) := by decide +kernel
theorem dX7_firstSum_73 : decode cX7_firstSum 73 = .ok (.goto (-70), 3) := by decide +kernel
theorem dX7_firstSum_76 : decode cX7_firstSum 76 = .ok (.iload_n 3, 1) := by decide +kernel
theorem dX7_firstSum_77 : decode cX7_firstSum 77 = .ok (.ireturn, 1) := by decide +kernel
set_option maxRecDepth 100000 in
theorem tb_X7_firstSum_3 {g : GT} {n nf : Int} (hu : Up true nf n) (a0 a1 a3 : Int) (hk0 : kd a0 = 17) (w3 : Mem → Int → Res) (hw3 : ∀ (M : Mem) (x4 : Int), AW g true RX7 cX7_firstSum 6 (some .int) (3) n n nf 3 [(0, 2, a0), (1, 0, a1), (2, 2, 10), (3, 0, a3), (4, 0, x4)] [] n M (w3 M x4)) (M : Mem) (x4 : Int) : AW g true RX7 cX7_firstSum 6 (some .int) (3) n n nf 3 [(0, 2, a0), (1, 0, a1), (2, 2, 10), (3, 0, a3), (4, 0, x4)] [] n M (b_X7_firstSum_3 a0 a1 a3 w3 M x4) := by
  unfold b_X7_firstSum_3
  refine r_iload 4 dX7_firstSum_3 rfl ?_
  refine r_aload_n 0 dX7_firstSum_5 rfl rfl ?_
  refine r_gf (t := 0) (kz := 1) rfl hu dX7_firstSum_6 kF_X7_25 hk0 rfl rfl rfl ?_
  refine r_icmp_ge (tgt := 76) dX7_firstSum_9 rfl (fun h1 => ?_) (fun h2 => ?_)
  · refine r_iload_n 3 dX7_firstSum_76 rfl rfl ?_
    exact r_iret rfl rfl (Or.inl rfl) dX7_firstSum_77
  · refine r_aload_n 0 dX7_firstSum_12 rfl rfl ?_
    refine r_gx (kz := 0) rfl hu dX7_firstSum_13 kF_X7_11 hk0 rfl rfl rfl (fxS0 _ hk0) ?_
    refine r_iload 4 dX7_firstSum_16 rfl ?_
    refine r_ok (fun h3 => ?_)
    refine r_aalx hu dX7_firstSum_18 (kdS _ hk0).1 (Or.inr (Or.inl rfl)) rfl (kdS _ hk0).2.1 h3 (fxSt _ hk0 _ h3) ?_
    refine r_astore dX7_firstSum_19 (by decide) (ls' := [(5, 2, a0 + 4 + x4), (0, 2, a0), (1, 0, a1), (2, 2, 10), (3, 0, a3), (4, 0, x4)]) rfl ?_
    refine r_aload 0 dX7_firstSum_21 rfl ?_
    refine r_gf (t := 0) (kz := 0) rfl hu dX7_firstSum_23 kF_X7_41 (kdSt _ hk0 _ h3) rfl rfl rfl ?_
    refine r_iload_n 2 dX7_firstSum_26 rfl rfl ?_
    refine r_icmp_ne (tgt := 70) dX7_firstSum_27 rfl (fun h4 => ?_) (fun h5 => ?_)
    · refine r_aload_n 3 dX7_firstSum_30 rfl rfl ?_
      refine r_aload_n 1 dX7_firstSum_31 rfl rfl ?_
      refine r_gx (kz := 4) rfl hu dX7_firstSum_32 kF_X7_21 hk0 rfl rfl rfl (fxS4 _ hk0) ?_
      refine r_aload 0 dX7_firstSum_35 rfl ?_
      refine r_gf (t := 0) (kz := 7) rfl hu dX7_firstSum_37 kF_X7_50 (kdSt _ hk0 _ h3) rfl rfl rfl ?_
      refine r_aload 0 dX7_firstSum_40 rfl ?_
      refine r_gf (t := 0) (kz := 8) rfl hu dX7_firstSum_42 kF_X7_53 (kdSt _ hk0 _ h3) rfl rfl rfl ?_
      refine r_inv (a := 10) hu ⟨Nat.le_refl _, Nat.le_refl _⟩ dX7_firstSum_45 kM_X7_56 (ci := 6) rfl kd_10 rfl rfl (by decide) (by decide) [(2, a0 + 3), (0, M (a0 + 4 + x4) 7), (0, M (a0 + 4 + x4) 8)] rfl (sk := []) rfl (Nat.le_of_ble_eq_true rfl) rfl rfl (m_X6_reckon hu M (a0 + 3) (M (a0 + 4 + x4) 7) (M (a0 + 4 + x4) 8) (kdS _ hk0).2.2.2.2.1 (kdS _ hk0).2.2.2.2.2) (fun r6 M7 => ?_)
      refine r_if_eq (tgt := 70) dX7_firstSum_48 rfl (fun h8 => ?_) (fun h9 => ?_)
      · refine r_iincB 5 dX7_firstSum_70 rfl ⟨by have := h3; omega, by have := h3; omega⟩ (by decide) (lf := fun y10 => [(4, 0, y10), (5, 2, a0 + 4 + x4), (0, 2, a0), (1, 0, a1), (2, 2, 10), (3, 0, a3)]) (fun _ => rfl) (fun y10 ey10 => ?_)
        refine r_goto (tgt := 3) dX7_firstSum_73 rfl ?_
        refine r_sub [2, 3, 4, 5, 0] (ls' := [(0, 2, a0), (1, 0, a1), (2, 2, 10), (3, 0, a3), (4, 0, y10)]) rfl ?_
        exact hw3 M7 y10
      · refine r_aload_n 3 dX7_firstSum_51 rfl rfl ?_
        refine r_aload_n 1 dX7_firstSum_52 rfl rfl ?_
        refine r_gx (kz := 4) rfl hu dX7_firstSum_53 kF_X7_21 hk0 rfl rfl rfl (fxS4 _ hk0) ?_
        refine r_aload 0 dX7_firstSum_56 rfl ?_
        refine r_gf (t := 0) (kz := 6) rfl hu dX7_firstSum_58 kF_X7_62 (kdSt _ hk0 _ h3) rfl rfl rfl ?_
        refine r_aload 0 dX7_firstSum_61 rfl ?_
        refine r_gf (t := 0) (kz := 7) rfl hu dX7_firstSum_63 kF_X7_50 (kdSt _ hk0 _ h3) rfl rfl rfl ?_
        refine r_inv (a := 10) hu ⟨Nat.le_refl _, Nat.le_refl _⟩ dX7_firstSum_66 kM_X7_56 (ci := 6) rfl kd_10 rfl rfl (by decide) (by decide) [(2, a0 + 3), (0, M7 (a0 + 4 + x4) 6), (0, M7 (a0 + 4 + x4) 7)] rfl (sk := []) rfl (Nat.le_of_ble_eq_true rfl) rfl rfl (m_X6_reckon hu M7 (a0 + 3) (M7 (a0 + 4 + x4) 6) (M7 (a0 + 4 + x4) 7) (kdS _ hk0).2.2.2.2.1 (kdS _ hk0).2.2.2.2.2) (fun r11 M12 => ?_)
        exact r_iret rfl rfl (Or.inl rfl) dX7_firstSum_69
    · refine r_iincB 5 dX7_firstSum_70 rfl ⟨by have := h3; omega, by have := h3; omega⟩ (by decide) (lf := fun y13 => [(4, 0, y13), (5, 2, a0 + 4 + x4), (0, 2, a0), (1, 0, a1), (2, 2, 10), (3, 0, a3)]) (fun _ => rfl) (fun y13 ey13 => ?_)
      refine r_goto (tgt := 3) dX7_firstSum_73 rfl ?_
      refine r_sub [2, 3, 4, 5, 0] (ls' := [(0, 2, a0), (1, 0, a1), (2, 2, 10), (3, 0, a3), (4, 0, y13)]) rfl ?_
      exact hw3 M y13
set_option maxRecDepth 100000 in
theorem m_X7_firstSum {g : GT} {n nf : Int} (hu : Up true nf n) (M : Mem) (a0 a1 a3 : Int) (hk0 : kd a0 = 17) : AM g true yX7_firstSum cX7_firstSum 6 (some .int) (3) n n nf [(2, a0), (0, a1), (2, 10), (0, a3)] M (f_X7_firstSum M a0 a1 a3) := by
  refine AM_of (by decide +kernel) (Nat.le_of_ble_eq_true rfl) (fun h => absurd h (Int.lt_irrefl n)) ?_
  show AW g true RX7 cX7_firstSum 6 (some .int) (3) n n nf 0 [(0, 2, a0), (1, 0, a1), (2, 2, 10), (3, 0, a3)] [] n M (f_X7_firstSum M a0 a1 a3)
  unfold f_X7_firstSum
  refine r_iconst dX7_firstSum_0 ⟨by decide, by decide⟩ ?_
  refine r_istore dX7_firstSum_1 (by decide) (ls' := [(4, 0, 0), (0, 2, a0), (1, 0, a1), (2, 2, 10), (3, 0, a3)]) rfl ?_
  refine r_sub [1, 2, 3, 4, 0] (ls' := [(0, 2, a0), (1, 0, a1), (2, 2, 10), (3, 0, a3), (4, 0, 0)]) rfl ?_
  exact wl1_aw (P := fun M x4 o => AW g true RX7 cX7_firstSum 6 (some .int) (3) n n nf 3 [(0, 2, a0), (1, 0, a1), (2, 2, 10), (3, 0, a3), (4, 0, x4)] [] n M (o)) (fun M x4 => aw_none) (fun w hw M x4 => tb_X7_firstSum_3 hu a0 a1 a3 hk0 w hw M x4) FU M 0
theorem dX3_await_0 : decode cX3_await 0 = .ok (.iload_n 1, 1) := by decide +kernel
theorem dX3_await_1 : decode cX3_await 1 = .ok (.ifCond .lt 28, 3) := by decide +kernel
theorem dX3_await_4 : decode cX3_await 4 = .ok (.iload_n 1, 1) := by decide +kernel
theorem dX3_await_5 : decode cX3_await 5 = .ok (.bipush 96, 2) := by decide +kernel
theorem dX3_await_7 : decode cX3_await 7 = .ok (.if_icmp .ge 22, 3) := by decide +kernel
theorem dX3_await_10 : decode cX3_await 10 = .ok (.aload_n 0, 1) := by decide +kernel
theorem dX3_await_11 : decode cX3_await 11 = .ok (.getfield 9, 3) := by decide +kernel
theorem dX3_await_14 : decode cX3_await 14 = .ok (.iload_n 1, 1) := by decide +kernel
theorem dX3_await_15 : decode cX3_await 15 = .ok (.iaload, 1) := by decide +kernel
theorem dX3_await_16 : decode cX3_await 16 = .ok (.ifCond .eq 13, 3) := by decide +kernel
theorem dX3_await_19 : decode cX3_await 19 = .ok (.aload_n 0, 1) := by decide +kernel
theorem dX3_await_20 : decode cX3_await 20 = .ok (.getfield 15, 3) := by decide +kernel
theorem dX3_await_23 : decode cX3_await 23 = .ok (.iload_n 1, 1) := by decide +kernel
theorem dX3_await_24 : decode cX3_await 24 = .ok (.iaload, 1) := by decide +kernel
theorem dX3_await_25 : decode cX3_await 25 = .ok (.iconst (-1), 1) := by decide +kernel
theorem dX3_await_26 : decode cX3_await 26 = .ok (.if_icmp .eq 4, 3) := by decide +kernel
theorem dX3_await_29 : decode cX3_await 29 = .ok (.return_, 1) := by decide +kernel
theorem dX3_await_30 : decode cX3_await 30 = .ok (.aload_n 0, 1) := by decide +kernel
theorem dX3_await_31 : decode cX3_await 31 = .ok (.getfield 15, 3) := by decide +kernel
theorem dX3_await_34 : decode cX3_await 34 = .ok (.iload_n 1, 1) := by decide +kernel
theorem dX3_await_35 : decode cX3_await 35 = .ok (.aload_n 0, 1) := by decide +kernel
theorem dX3_await_36 : decode cX3_await 36 = .ok (.getfield 88, 3) := by decide +kernel
theorem dX3_await_39 : decode cX3_await 39 = .ok (.iastore, 1) := by decide +kernel
theorem dX3_await_40 : decode cX3_await 40 = .ok (.aload_n 0, 1) := by decide +kernel
theorem dX3_await_41 : decode cX3_await 41 = .ok (.getfield 18, 3) := by decide +kernel
theorem dX3_await_44 : decode cX3_await 44 = .ok (.aload_n 0, 1) := by decide +kernel
theorem dX3_await_45 : decode cX3_await 45 = .ok (.getfield 88, 3) := by decide +kernel
theorem dX3_await_48 : decode cX3_await 48 = .ok (.dup2, 1) := by decide +kernel
theorem dX3_await_49 : decode cX3_await 49 = .ok (.iaload, 1) := by decide +kernel
theorem dX3_await_50 : decode cX3_await 50 = .ok (.iconst 1, 1) := by decide +kernel
theorem dX3_await_51 : decode cX3_await 51 = .ok (.iadd, 1) := by decide +kernel
theorem dX3_await_52 : decode cX3_await 52 = .ok (.iastore, 1) := by decide +kernel
theorem dX3_await_53 : decode cX3_await 53 = .ok (.aload_n 0, 1) := by decide +kernel
theorem dX3_await_54 : decode cX3_await 54 = .ok (.getfield 24, 3) := by decide +kernel
theorem dX3_await_57 : decode cX3_await 57 = .ok (.aload_n 0, 1) := by decide +kernel
theorem dX3_await_58 : decode cX3_await 58 = .ok (.getfield 97, 3) := by decide +kernel
theorem dX3_await_61 : decode cX3_await 61 = .ok (.iload_n 1, 1) := by decide +kernel
theorem dX3_await_62 : decode cX3_await 62 = .ok (.iastore, 1) := by decide +kernel
theorem dX3_await_63 : decode cX3_await 63 = .ok (.aload_n 0, 1) := by decide +kernel
theorem dX3_await_64 : decode cX3_await 64 = .ok (.dup, 1) := by decide +kernel
theorem dX3_await_65 : decode cX3_await 65 = .ok (.getfield 97, 3) := by decide +kernel
theorem dX3_await_68 : decode cX3_await 68 = .ok (.iconst 1, 1) := by decide +kernel
theorem dX3_await_69 : decode cX3_await 69 = .ok (.iadd, 1) := by decide +kernel
theorem dX3_await_70 : decode cX3_await 70 = .ok (.putfield 97, 3) := by decide +kernel
theorem dX3_await_73 : decode cX3_await 73 = .ok (.return_, 1) := by decide +kernel
set_option maxRecDepth 100000 in
theorem m_X3_await {g : GT} {n nf : Int} (hu : Up true nf n) (M : Mem) (a1 : Int) : AM g true yX3_await cX3_await 2 none (0) n n nf [(2, 13), (0, a1)] M (f_X3_await M a1) := by
  refine AM_of (by decide +kernel) (Nat.le_of_ble_eq_true rfl) (fun h => absurd h (Int.lt_irrefl n)) ?_
  show AW g true RX3 cX3_await 2 none (0) n n nf 0 [(0, 2, 13), (1, 0, a1)] [] n M (f_X3_await M a1)
  unfold f_X3_await
  refine r_iload_n 1 dX3_await_0 rfl rfl ?_
  refine r_if_lt (tgt := 29) dX3_await_1 rfl (fun h1 => ?_) (fun h2 => ?_)
  · exact r_vret rfl rfl dX3_await_29
  · refine r_iload_n 1 dX3_await_4 rfl rfl ?_
    refine r_bipush dX3_await_5 (by decide) ⟨by decide, by decide⟩ ?_
    refine r_icmp_ge (tgt := 29) dX3_await_7 rfl (fun h3 => ?_) (fun h4 => ?_)
    · exact r_vret rfl rfl dX3_await_29
    · refine r_aload_n 0 dX3_await_10 rfl rfl ?_
      refine r_gx (kz := 0) rfl hu dX3_await_11 kF_X3_9 kd_13 rfl rfl rfl fx_13_0 ?_
      refine r_iload_n 1 dX3_await_14 rfl rfl ?_
      refine r_iald hu dX3_await_15 kd_14 rfl (Or.inl rfl) rfl ln_14 ⟨by omega, by omega⟩ ?_
      refine r_if_eq (tgt := 29) dX3_await_16 rfl (fun h5 => ?_) (fun h6 => ?_)
      · exact r_vret rfl rfl dX3_await_29
      · refine r_aload_n 0 dX3_await_19 rfl rfl ?_
        refine r_gx (kz := 1) rfl hu dX3_await_20 kF_X3_15 kd_13 rfl rfl rfl fx_13_1 ?_
        refine r_iload_n 1 dX3_await_23 rfl rfl ?_
        refine r_iald hu dX3_await_24 kd_15 rfl (Or.inl rfl) rfl ln_15 ⟨by omega, by omega⟩ ?_
        refine r_iconst dX3_await_25 ⟨by decide, by decide⟩ ?_
        refine r_icmp_eq (tgt := 30) dX3_await_26 rfl (fun h7 => ?_) (fun h8 => ?_)
        · refine r_aload_n 0 dX3_await_30 rfl rfl ?_
          refine r_gx (kz := 1) rfl hu dX3_await_31 kF_X3_15 kd_13 rfl rfl rfl fx_13_1 ?_
          refine r_iload_n 1 dX3_await_34 rfl rfl ?_
          refine r_aload_n 0 dX3_await_35 rfl rfl ?_
          refine r_gf (t := 0) (kz := 8) rfl hu dX3_await_36 kF_X3_88 kd_13 rfl rfl rfl ?_
          refine r_iast hu dX3_await_39 kd_15 rfl (Or.inl rfl) rfl ln_15 ⟨by omega, by omega⟩ rfl (fun M9 eM9 => ?_)
          refine r_aload_n 0 dX3_await_40 rfl rfl ?_
          refine r_gx (kz := 2) rfl hu dX3_await_41 kF_X3_18 kd_13 rfl rfl rfl fx_13_2 ?_
          refine r_aload_n 0 dX3_await_44 rfl rfl ?_
          refine r_gf (t := 0) (kz := 8) rfl hu dX3_await_45 kF_X3_88 kd_13 rfl rfl rfl ?_
          refine r_dup2 dX3_await_48 (nz0 _) (nz2 _) ?_
          refine r_ok (fun h10 => ?_)
          refine r_iald hu dX3_await_49 kd_16 rfl (Or.inl rfl) rfl ln_16 h10 ?_
          refine r_iconst dX3_await_50 ⟨by decide, by decide⟩ ?_
          refine r_ok (fun h11 => ?_)
          refine r_iadd dX3_await_51 h11 ?_
          refine r_iast hu dX3_await_52 kd_16 rfl (Or.inl rfl) rfl ln_16 h10 rfl (fun M12 eM12 => ?_)
          refine r_aload_n 0 dX3_await_53 rfl rfl ?_
          refine r_gx (kz := 4) rfl hu dX3_await_54 kF_X3_24 kd_13 rfl rfl rfl fx_13_4 ?_
          refine r_aload_n 0 dX3_await_57 rfl rfl ?_
          refine r_gf (t := 0) (kz := 7) rfl hu dX3_await_58 kF_X3_97 kd_13 rfl rfl rfl ?_
          refine r_iload_n 1 dX3_await_61 rfl rfl ?_
          refine r_ok (fun h13 => ?_)
          refine r_iast hu dX3_await_62 kd_18 rfl (Or.inl rfl) rfl ln_18 h13 rfl (fun M14 eM14 => ?_)
          refine r_aload_n 0 dX3_await_63 rfl rfl ?_
          refine r_dup dX3_await_64 (nz2 _) ?_
          refine r_gf (t := 0) (kz := 7) rfl hu dX3_await_65 kF_X3_97 kd_13 rfl rfl rfl ?_
          refine r_iconst dX3_await_68 ⟨by decide, by decide⟩ ?_
          refine r_ok (fun h15 => ?_)
          refine r_iadd dX3_await_69 h15 ?_
          refine r_pf (t := 0) (kz := 7) rfl hu dX3_await_70 kF_X3_97 kd_13 rfl rfl rfl (fun h => absurd h (by decide)) rfl kX_3_7 (fun M16 eM16 => ?_)
          exact r_vret rfl rfl dX3_await_73
        · exact r_vret rfl rfl dX3_await_29
theorem dX3_gather_0 : decode cX3_gather 0 = .ok (.aload_n 0, 1) := by decide +kernel
theorem dX3_gather_1 : decode cX3_gather 1 = .ok (.iconst 0, 1) := by decide +kernel
theorem dX3_gather_2 : decode cX3_gather 2 = .ok (.putfield 97, 3) := by decide +kernel
theorem dX3_gather_5 : decode cX3_gather 5 = .ok (.aload_n 0, 1) := by decide +kernel
theorem dX3_gather_6 : decode cX3_gather 6 = .ok (.iload_n 1, 1) := by decide +kernel
theorem dX3_gather_7 : decode cX3_gather 7 = .ok (.invokevirtual 100, 3) := by decide +kernel
theorem dX3_gather_10 : decode cX3_gather 10 = .ok (.iconst 0, 1) := by decide +kernel
theorem dX3_gather_11 : decode cX3_gather 11 = .ok (.istore_n 2, 1) := by decide +kernel
theorem dX3_gather_12 : decode cX3_gather 12 = .ok (.iload_n 2, 1) := by decide +kernel
theorem dX3_gather_13 : decode cX3_gather 13 = .ok (.aload_n 0, 1) := by decide +kernel
theorem dX3_gather_14 : decode cX3_gather 14 = .ok (.getfield 97, 3) := by decide +kernel
theorem dX3_gather_17 : decode cX3_gather 17 = .ok (.if_icmp .ge 70, 3) := by decide +kernel
theorem dX3_gather_20 : decode cX3_gather 20 = .ok (.iload_n 2, 1) := by decide +kernel
theorem dX3_gather_21 : decode cX3_gather 21 = .ok (.bipush 96, 2) := by decide +kernel
theorem dX3_gather_23 : decode cX3_gather 23 = .ok (.if_icmp .ge 64, 3) := by decide +kernel
theorem dX3_gather_26 : decode cX3_gather 26 = .ok (.aload_n 0, 1) := by decide +kernel
theorem dX3_gather_27 : decode cX3_gather 27 = .ok (.getfield 24, 3) := by decide +kernel
theorem dX3_gather_30 : decode cX3_gather 30 = .ok (.iload_n 2, 1) := by decide +kernel
theorem dX3_gather_31 : decode cX3_gather 31 = .ok (.iaload, 1) := by decide +kernel
theorem dX3_gather_32 : decode cX3_gather 32 = .ok (.istore_n 3, 1) := by decide +kernel
theorem dX3_gather_33 : decode cX3_gather 33 = .ok (.iload_n 3, 1) := by decide +kernel
theorem dX3_gather_34 : decode cX3_gather 34 = .ok (.bipush 12, 2) := by decide +kernel
theorem dX3_gather_36 : decode cX3_gather 36 = .ok (.irem, 1) := by decide +kernel
theorem dX3_gather_37 : decode cX3_gather 37 = .ok (.istore 4, 2) := by decide +kernel
theorem dX3_gather_39 : decode cX3_gather 39 = .ok (.iload 4, 2) := by decide +kernel
theorem dX3_gather_41 : decode cX3_gather 41 = .ok (.ifCond .le 10, 3) := by decide +kernel
theorem dX3_gather_44 : decode cX3_gather 44 = .ok (.aload_n 0, 1) := by decide +kernel
theorem dX3_gather_45 : decode cX3_gather 45 = .ok (.iload_n 3, 1) := by decide +kernel
theorem dX3_gather_46 : decode cX3_gather 46 = .ok (.iconst 1, 1) := by decide +kernel
theorem dX3_gather_47 : decode cX3_gather 47 = .ok (.isub, 1) := by decide +kernel
theorem dX3_gather_48 : decode cX3_gather 48 = .ok (.invokevirtual 100, 3) := by decide +kernel
theorem dX3_gather_51 : decode cX3_gather 51 = .ok (.iload 4, 2) := by decide +kernel
theorem dX3_gather_53 : decode cX3_gather 53 = .ok (.bipush 11, 2) := by decide +kernel
theorem dX3_gather_55 : decode cX3_gather 55 = .ok (.if_icmp .ge 10, 3) := by decide +kernel
theorem dX3_gather_58 : decode cX3_gather 58 = .ok (.aload_n 0, 1) := by decide +kernel
theorem dX3_gather_59 : decode cX3_gather 59 = .ok (.iload_n 3, 1) := by decide +kernel
theorem dX3_gather_60 : decode cX3_gather 60 = .ok (.iconst 1, 1) := by decide +kernel
theorem dX3_gather_61 : decode cX3_gather 61 = .ok (.iadd, 1) := by decide +kernel
theorem dX3_gather_62 : decode cX3_gather 62 = .ok (.invokevirtual 100, 3) := by decide +kernel
theorem dX3_gather_65 : decode cX3_gather 65 = .ok (.aload_n 0, 1) := by decide +kernel
theorem dX3_gather_66 : decode cX3_gather 66 = .ok (.iload_n 3, 1) := by decide +kernel
theorem dX3_gather_67 : decode cX3_gather 67 = .ok (.bipush 12, 2) := by decide +kernel
theorem dX3_gather_69 : decode cX3_gather 69 = .ok (.isub, 1) := by decide +kernel
theorem dX3_gather_70 : decode cX3_gather 70 = .ok (.invokevirtual 100, 3) := by decide +kernel
theorem dX3_gather_73 : decode cX3_gather 73 = .ok (.aload_n 0, 1) := by decide +kernel
theorem dX3_gather_74 : decode cX3_gather 74 = .ok (.iload_n 3, 1) := by decide +kernel
theorem dX3_gather_75 : decode cX3_gather 75 = .ok (.bipush 12, 2) := by decide +kernel
theorem dX3_gather_77 : decode cX3_gather 77 = .ok (.iadd, 1) := by decide +kernel
theorem dX3_gather_78 : decode cX3_gather 78 = .ok (.invokevirtual 100, 3) := by decide +kernel
theorem dX3_gather_81 : decode cX3_gather 81 = .ok (.iinc 2 1, 3) := by decide +kernel
theorem dX3_gather_84 : decode cX3_gather 84 = .ok (.goto (-72), 3) := by decide +kernel
theorem dX3_gather_87 : decode cX3_gather 87 = .ok (.return_, 1) := by decide +kernel
set_option maxRecDepth 100000 in
theorem tj_X3_gather_65 {g : GT} {n nf : Int} (hu : Up true nf n) (w12 : Mem → Int → Res) (hw12 : ∀ (M : Mem) (x2 : Int), AW g true RX3 cX3_gather 5 none (1) n n nf 12 [(0, 2, 13), (2, 0, x2)] [] n M (w12 M x2)) (M : Mem) (x2 x3 : Int) : AW g true RX3 cX3_gather 5 none (1) n n nf 65 [(0, 2, 13), (2, 0, x2), (3, 0, x3)] [] n M (j_X3_gather_65 w12 M x2 x3) := by
  unfold j_X3_gather_65
  refine r_aload_n 0 dX3_gather_65 rfl rfl ?_
  refine r_iload_n 2 dX3_gather_66 rfl rfl ?_
  refine r_bipush dX3_gather_67 (by decide) ⟨by decide, by decide⟩ ?_
  refine r_ok (fun h16 => ?_)
  refine r_isub dX3_gather_69 h16 ?_
  refine r_invv (a := 13) hu ⟨Nat.le_refl _, Nat.le_refl _⟩ dX3_gather_70 kM_X3_100 (ci := 3) rfl kd_13 rfl rfl (by decide) (by decide) [(0, x3 - 12)] rfl (sk := []) rfl (Nat.le_of_ble_eq_true rfl) rfl (m_X3_await hu M (x3 - 12)) (fun r17 M18 => ?_)
  refine r_aload_n 0 dX3_gather_73 rfl rfl ?_
  refine r_iload_n 2 dX3_gather_74 rfl rfl ?_
  refine r_bipush dX3_gather_75 (by decide) ⟨by decide, by decide⟩ ?_
  refine r_ok (fun h19 => ?_)
  refine r_iadd dX3_gather_77 h19 ?_
  refine r_invv (a := 13) hu ⟨Nat.le_refl _, Nat.le_refl _⟩ dX3_gather_78 kM_X3_100 (ci := 3) rfl kd_13 rfl rfl (by decide) (by decide) [(0, x3 + 12)] rfl (sk := []) rfl (Nat.le_of_ble_eq_true rfl) rfl (m_X3_await hu M18 (x3 + 12)) (fun r20 M21 => ?_)
  refine r_ok (fun h22 => ?_)
  refine r_iincB 1 dX3_gather_81 rfl h22 (by decide) (lf := fun y23 => [(2, 0, y23), (0, 2, 13), (3, 0, x3)]) (fun _ => rfl) (fun y23 ey23 => ?_)
  refine r_goto (tgt := 12) dX3_gather_84 rfl ?_
  refine r_sub [1, 0] (ls' := [(0, 2, 13), (2, 0, y23)]) rfl ?_
  exact hw12 M21 y23
set_option maxRecDepth 100000 in
theorem tj_X3_gather_51 {g : GT} {n nf : Int} (hu : Up true nf n) (w12 : Mem → Int → Res) (hw12 : ∀ (M : Mem) (x2 : Int), AW g true RX3 cX3_gather 5 none (1) n n nf 12 [(0, 2, 13), (2, 0, x2)] [] n M (w12 M x2)) (M : Mem) (x2 x3 x4 : Int) : AW g true RX3 cX3_gather 5 none (1) n n nf 51 [(0, 2, 13), (2, 0, x2), (3, 0, x3), (4, 0, x4)] [] n M (j_X3_gather_51 w12 M x2 x3 x4) := by
  unfold j_X3_gather_51
  refine r_iload 3 dX3_gather_51 rfl ?_
  refine r_bipush dX3_gather_53 (by decide) ⟨by decide, by decide⟩ ?_
  refine r_icmp_ge (tgt := 65) dX3_gather_55 rfl (fun h14 => ?_) (fun h15 => ?_)
  · refine r_sub [0, 1, 2] (ls' := [(0, 2, 13), (2, 0, x2), (3, 0, x3)]) rfl ?_
    exact tj_X3_gather_65 hu w12 hw12 M x2 x3
  · refine r_aload_n 0 dX3_gather_58 rfl rfl ?_
    refine r_iload_n 2 dX3_gather_59 rfl rfl ?_
    refine r_iconst dX3_gather_60 ⟨by decide, by decide⟩ ?_
    refine r_ok (fun h24 => ?_)
    refine r_iadd dX3_gather_61 h24 ?_
    refine r_invv (a := 13) hu ⟨Nat.le_refl _, Nat.le_refl _⟩ dX3_gather_62 kM_X3_100 (ci := 3) rfl kd_13 rfl rfl (by decide) (by decide) [(0, x3 + 1)] rfl (sk := []) rfl (Nat.le_of_ble_eq_true rfl) rfl (m_X3_await hu M (x3 + 1)) (fun r25 M26 => ?_)
    refine r_sub [0, 1, 2] (ls' := [(0, 2, 13), (2, 0, x2), (3, 0, x3)]) rfl ?_
    exact tj_X3_gather_65 hu w12 hw12 M26 x2 x3
set_option maxRecDepth 100000 in
theorem tb_X3_gather_12 {g : GT} {n nf : Int} (hu : Up true nf n) (w12 : Mem → Int → Res) (hw12 : ∀ (M : Mem) (x2 : Int), AW g true RX3 cX3_gather 5 none (1) n n nf 12 [(0, 2, 13), (2, 0, x2)] [] n M (w12 M x2)) (M : Mem) (x2 : Int) : AW g true RX3 cX3_gather 5 none (1) n n nf 12 [(0, 2, 13), (2, 0, x2)] [] n M (b_X3_gather_12 w12 M x2) := by
  unfold b_X3_gather_12
  refine r_iload_n 1 dX3_gather_12 rfl rfl ?_
  refine r_aload_n 0 dX3_gather_13 rfl rfl ?_
  refine r_gf (t := 0) (kz := 7) rfl hu dX3_gather_14 kF_X3_97 kd_13 rfl rfl rfl ?_
  refine r_icmp_ge (tgt := 87) dX3_gather_17 rfl (fun h4 => ?_) (fun h5 => ?_)
  · exact r_vret rfl rfl dX3_gather_87
  · refine r_iload_n 1 dX3_gather_20 rfl rfl ?_
    refine r_bipush dX3_gather_21 (by decide) ⟨by decide, by decide⟩ ?_
    refine r_icmp_ge (tgt := 87) dX3_gather_23 rfl (fun h6 => ?_) (fun h7 => ?_)
    · exact r_vret rfl rfl dX3_gather_87
    · refine r_aload_n 0 dX3_gather_26 rfl rfl ?_
      refine r_gx (kz := 4) rfl hu dX3_gather_27 kF_X3_24 kd_13 rfl rfl rfl fx_13_4 ?_
      refine r_iload_n 1 dX3_gather_30 rfl rfl ?_
      refine r_ok (fun h8 => ?_)
      refine r_iald hu dX3_gather_31 kd_18 rfl (Or.inl rfl) rfl ln_18 h8 ?_
      refine r_istore_nB dX3_gather_32 rfl (by decide) (lf := fun y9 => [(3, 0, y9), (0, 2, 13), (2, 0, x2)]) (fun _ => rfl) (fun y9 ey9 => ?_)
      refine r_iload_n 0 dX3_gather_33 rfl rfl ?_
      refine r_bipush dX3_gather_34 (by decide) ⟨by decide, by decide⟩ ?_
      refine r_ok (fun h10 => ?_)
      refine r_iremP dX3_gather_36 ⟨h10, by decide⟩ ?_
      refine r_istoreB dX3_gather_37 (by decide) (lf := fun y11 => [(4, 0, y11), (3, 0, y9), (0, 2, 13), (2, 0, x2)]) (fun _ => rfl) (fun y11 ey11 => ?_)
      refine r_iload 0 dX3_gather_39 rfl ?_
      refine r_if_le (tgt := 51) dX3_gather_41 rfl (fun h12 => ?_) (fun h13 => ?_)
      · refine r_sub [2, 3, 1, 0] (ls' := [(0, 2, 13), (2, 0, x2), (3, 0, y9), (4, 0, y11)]) rfl ?_
        exact tj_X3_gather_51 hu w12 hw12 M x2 y9 y11
      · refine r_aload_n 2 dX3_gather_44 rfl rfl ?_
        refine r_iload_n 1 dX3_gather_45 rfl rfl ?_
        refine r_iconst dX3_gather_46 ⟨by decide, by decide⟩ ?_
        refine r_ok (fun h27 => ?_)
        refine r_isub dX3_gather_47 h27 ?_
        refine r_invv (a := 13) hu ⟨Nat.le_refl _, Nat.le_refl _⟩ dX3_gather_48 kM_X3_100 (ci := 3) rfl kd_13 rfl rfl (by decide) (by decide) [(0, y9 - 1)] rfl (sk := []) rfl (Nat.le_of_ble_eq_true rfl) rfl (m_X3_await hu M (y9 - 1)) (fun r28 M29 => ?_)
        refine r_sub [2, 3, 1, 0] (ls' := [(0, 2, 13), (2, 0, x2), (3, 0, y9), (4, 0, y11)]) rfl ?_
        exact tj_X3_gather_51 hu w12 hw12 M29 x2 y9 y11
set_option maxRecDepth 100000 in
theorem m_X3_gather {g : GT} {n nf : Int} (hu : Up true nf n) (M : Mem) (a1 : Int) : AM g true yX3_gather cX3_gather 5 none (1) n n nf [(2, 13), (0, a1)] M (f_X3_gather M a1) := by
  refine AM_of (by decide +kernel) (Nat.le_of_ble_eq_true rfl) (fun h => absurd h (Int.lt_irrefl n)) ?_
  show AW g true RX3 cX3_gather 5 none (1) n n nf 0 [(0, 2, 13), (1, 0, a1)] [] n M (f_X3_gather M a1)
  unfold f_X3_gather
  refine r_aload_n 0 dX3_gather_0 rfl rfl ?_
  refine r_iconst dX3_gather_1 ⟨by decide, by decide⟩ ?_
  refine r_pf (t := 0) (kz := 7) rfl hu dX3_gather_2 kF_X3_97 kd_13 rfl rfl rfl (fun h => absurd h (by decide)) rfl kX_3_7 (fun M1 eM1 => ?_)
  refine r_aload_n 0 dX3_gather_5 rfl rfl ?_
  refine r_iload_n 1 dX3_gather_6 rfl rfl ?_
  refine r_invv (a := 13) hu ⟨Nat.le_refl _, Nat.le_refl _⟩ dX3_gather_7 kM_X3_100 (ci := 3) rfl kd_13 rfl rfl (by decide) (by decide) [(0, a1)] rfl (sk := []) rfl (Nat.le_of_ble_eq_true rfl) rfl (m_X3_await hu M1 a1) (fun r2 M3 => ?_)
  refine r_iconst dX3_gather_10 ⟨by decide, by decide⟩ ?_
  refine r_istore_n dX3_gather_11 rfl (by decide) (ls' := [(2, 0, 0), (0, 2, 13), (1, 0, a1)]) rfl ?_
  refine r_sub [1, 0] (ls' := [(0, 2, 13), (2, 0, 0)]) rfl ?_
  exact wl1_aw (P := fun M x2 o => AW g true RX3 cX3_gather 5 none (1) n n nf 12 [(0, 2, 13), (2, 0, x2)] [] n M (o)) (fun M x2 => aw_none) (fun w hw M x2 => tb_X3_gather_12 hu w hw M x2) FU M3 0
theorem dX3_partPieces_0 : decode cX3_partPieces 0 = .ok (.aload_n 0, 1) := by decide +kernel
theorem dX3_partPieces_1 : decode cX3_partPieces 1 = .ok (.iconst 0, 1) := by decide +kernel
theorem dX3_partPieces_2 : decode cX3_partPieces 2 = .ok (.putfield 88, 3) := by decide +kernel
theorem dX3_partPieces_5 : decode cX3_partPieces 5 = .ok (.aload_n 0, 1) := by decide +kernel
theorem dX3_partPieces_6 : decode cX3_partPieces 6 = .ok (.iconst (-1), 1) := by decide +kernel
theorem dX3_partPieces_7 : decode cX3_partPieces 7 = .ok (.putfield 91, 3) := by decide +kernel
theorem dX3_partPieces_10 : decode cX3_partPieces 10 = .ok (.iconst 0, 1) := by decide +kernel
theorem dX3_partPieces_11 : decode cX3_partPieces 11 = .ok (.istore_n 1, 1) := by decide +kernel
theorem dX3_partPieces_12 : decode cX3_partPieces 12 = .ok (.iload_n 1, 1) := by decide +kernel
theorem dX3_partPieces_13 : decode cX3_partPieces 13 = .ok (.bipush 96, 2) := by decide +kernel
theorem dX3_partPieces_15 : decode cX3_partPieces 15 = .ok (.if_icmp .ge 100, 3) := by decide +kernel
theorem dX3_partPieces_18 : decode cX3_partPieces 18 = .ok (.aload_n 0, 1) := by decide +kernel
theorem dX3_partPieces_19 : decode cX3_partPieces 19 = .ok (.getfield 9, 3) := by decide +kernel
theorem dX3_partPieces_22 : decode cX3_partPieces 22 = .ok (.iload_n 1, 1) := by decide +kernel
theorem dX3_partPieces_23 : decode cX3_partPieces 23 = .ok (.iaload, 1) := by decide +kernel
theorem dX3_partPieces_24 : decode cX3_partPieces 24 = .ok (.ifCond .le 85, 3) := by decide +kernel
theorem dX3_partPieces_27 : decode cX3_partPieces 27 = .ok (.aload_n 0, 1) := by decide +kernel
theorem dX3_partPieces_28 : decode cX3_partPieces 28 = .ok (.getfield 15, 3) := by decide +kernel
theorem dX3_partPieces_31 : decode cX3_partPieces 31 = .ok (.iload_n 1, 1) := by decide +kernel
theorem dX3_partPieces_32 : decode cX3_partPieces 32 = .ok (.iaload, 1) := by decide +kernel
theorem dX3_partPieces_33 : decode cX3_partPieces 33 = .ok (.iconst (-1), 1) := by decide +kernel
theorem dX3_partPieces_34 : decode cX3_partPieces 34 = .ok (.if_icmp .ne 75, 3) := by decide +kernel
theorem dX3_partPieces_37 : decode cX3_partPieces 37 = .ok (.aload_n 0, 1) := by decide +kernel
theorem dX3_partPieces_38 : decode cX3_partPieces 38 = .ok (.getfield 21, 3) := by decide +kernel
theorem dX3_partPieces_41 : decode cX3_partPieces 41 = .ok (.aload_n 0, 1) := by decide +kernel
theorem dX3_partPieces_42 : decode cX3_partPieces 42 = .ok (.getfield 88, 3) := by decide +kernel
theorem dX3_partPieces_45 : decode cX3_partPieces 45 = .ok (.iload_n 1, 1) := by decide +kernel
theorem dX3_partPieces_46 : decode cX3_partPieces 46 = .ok (.iastore, 1) := by decide +kernel
theorem dX3_partPieces_47 : decode cX3_partPieces 47 = .ok (.aload_n 0, 1) := by decide +kernel
theorem dX3_partPieces_48 : decode cX3_partPieces 48 = .ok (.getfield 18, 3) := by decide +kernel
theorem dX3_partPieces_51 : decode cX3_partPieces 51 = .ok (.aload_n 0, 1) := by decide +kernel
theorem dX3_partPieces_52 : decode cX3_partPieces 52 = .ok (.getfield 88, 3) := by decide +kernel
theorem dX3_partPieces_55 : decode cX3_partPieces 55 = .ok (.iconst 0, 1) := by decide +kernel
theorem dX3_partPieces_56 : decode cX3_partPieces 56 = .ok (.iastore, 1) := by decide +kernel
theorem dX3_partPieces_57 : decode cX3_partPieces 57 = .ok (.aload_n 0, 1) := by decide +kernel
theorem dX3_partPieces_58 : decode cX3_partPieces 58 = .ok (.iload_n 1, 1) := by decide +kernel
theorem dX3_partPieces_59 : decode cX3_partPieces 59 = .ok (.invokevirtual 94, 3) := by decide +kernel
theorem dX3_partPieces_62 : decode cX3_partPieces 62 = .ok (.aload_n 0, 1) := by decide +kernel
theorem dX3_partPieces_63 : decode cX3_partPieces 63 = .ok (.getfield 91, 3) := by decide +kernel
theorem dX3_partPieces_66 : decode cX3_partPieces 66 = .ok (.iconst (-1), 1) := by decide +kernel
theorem dX3_partPieces_67 : decode cX3_partPieces 67 = .ok (.if_icmp .eq 24, 3) := by decide +kernel
theorem dX3_partPieces_70 : decode cX3_partPieces 70 = .ok (.aload_n 0, 1) := by decide +kernel
theorem dX3_partPieces_71 : decode cX3_partPieces 71 = .ok (.getfield 18, 3) := by decide +kernel
theorem dX3_partPieces_74 : decode cX3_partPieces 74 = .ok (.aload_n 0, 1) := by decide +kernel
theorem dX3_partPieces_75 : decode cX3_partPieces 75 = .ok (.getfield 88, 3) := by decide +kernel
theorem dX3_partPieces_78 : decode cX3_partPieces 78 = .ok (.iaload, 1) := by decide +kernel
theorem dX3_partPieces_79 : decode cX3_partPieces 79 = .ok (.aload_n 0, 1) := by decide +kernel
theorem dX3_partPieces_80 : decode cX3_partPieces 80 = .ok (.getfield 18, 3) := by decide +kernel
theorem dX3_partPieces_83 : decode cX3_partPieces 83 = .ok (.aload_n 0, 1) := by decide +kernel
theorem dX3_partPieces_84 : decode cX3_partPieces 84 = .ok (.getfield 91, 3) := by decide +kernel
theorem dX3_partPieces_87 : decode cX3_partPieces 87 = .ok (.iaload, 1) := by decide +kernel
theorem dX3_partPieces_88 : decode cX3_partPieces 88 = .ok (.if_icmp .le 11, 3) := by decide +kernel
theorem dX3_partPieces_91 : decode cX3_partPieces 91 = .ok (.aload_n 0, 1) := by decide +kernel
theorem dX3_partPieces_92 : decode cX3_partPieces 92 = .ok (.aload_n 0, 1) := by decide +kernel
theorem dX3_partPieces_93 : decode cX3_partPieces 93 = .ok (.getfield 88, 3) := by decide +kernel
theorem dX3_partPieces_96 : decode cX3_partPieces 96 = .ok (.putfield 91, 3) := by decide +kernel
theorem dX3_partPieces_99 : decode cX3_partPieces 99 = .ok (.aload_n 0, 1) := by decide +kernel
theorem dX3_partPieces_100 : decode cX3_partPieces 100 = .ok (.dup, 1) := by decide +kernel
theorem dX3_partPieces_101 : decode cX3_partPieces 101 = .ok (.getfield 88, 3) := by decide +kernel
theorem dX3_partPieces_104 : decode cX3_partPieces 104 = .ok (.iconst 1, 1) := by decide +kernel
theorem dX3_partPieces_105 : decode cX3_partPieces 105 = .ok (.iadd, 1) := by decide +kernel
theorem dX3_partPieces_106 : decode cX3_partPieces 106 = .ok (.putfield 88, 3) := by decide +kernel
theorem dX3_partPieces_109 : decode cX3_partPieces 109 = .ok (.iinc 1 1, 3) := by decide +kernel
theorem dX3_partPieces_112 : decode cX3_partPieces 112 = .ok (.goto (-100), 3) := by decide +kernel
theorem dX3_partPieces_115 : decode cX3_partPieces 115 = .ok (.return_, 1) := by decide +kernel
set_option maxRecDepth 100000 in
theorem tj_X3_partPieces_91 {g : GT} {n nf : Int} (hu : Up true nf n) (w12 : Mem → Int → Res) (hw12 : ∀ (M : Mem) (x1 : Int), AW g true RX3 cX3_partPieces 2 none (2) n n nf 12 [(0, 2, 13), (1, 0, x1)] [] n M (w12 M x1)) (M : Mem) (x1 : Int) : AW g true RX3 cX3_partPieces 2 none (2) n n nf 91 [(0, 2, 13), (1, 0, x1)] [] n M (j_X3_partPieces_91 w12 M x1) := by
  unfold j_X3_partPieces_91
  refine r_aload_n 0 dX3_partPieces_91 rfl rfl ?_
  refine r_aload_n 0 dX3_partPieces_92 rfl rfl ?_
  refine r_gf (t := 0) (kz := 8) rfl hu dX3_partPieces_93 kF_X3_88 kd_13 rfl rfl rfl ?_
  refine r_pf (t := 0) (kz := 9) rfl hu dX3_partPieces_96 kF_X3_91 kd_13 rfl rfl rfl (fun h => absurd h (by decide)) rfl kX_3_9 (fun M19 eM19 => ?_)
  refine r_aload_n 0 dX3_partPieces_99 rfl rfl ?_
  refine r_dup dX3_partPieces_100 (nz2 _) ?_
  refine r_gf (t := 0) (kz := 8) rfl hu dX3_partPieces_101 kF_X3_88 kd_13 rfl rfl rfl ?_
  refine r_iconst dX3_partPieces_104 ⟨by decide, by decide⟩ ?_
  refine r_ok (fun h20 => ?_)
  refine r_iadd dX3_partPieces_105 h20 ?_
  refine r_pf (t := 0) (kz := 8) rfl hu dX3_partPieces_106 kF_X3_88 kd_13 rfl rfl rfl (fun h => absurd h (by decide)) rfl kX_3_8 (fun M21 eM21 => ?_)
  refine r_ok (fun h22 => ?_)
  refine r_iincB 1 dX3_partPieces_109 rfl h22 (by decide) (lf := fun y23 => [(1, 0, y23), (0, 2, 13)]) (fun _ => rfl) (fun y23 ey23 => ?_)
  refine r_goto (tgt := 12) dX3_partPieces_112 rfl ?_
  refine r_sub [1, 0] (ls' := [(0, 2, 13), (1, 0, y23)]) rfl ?_
  exact hw12 M21 y23
set_option maxRecDepth 100000 in
theorem tb_X3_partPieces_12 {g : GT} {n nf : Int} (hu : Up true nf n) (w12 : Mem → Int → Res) (hw12 : ∀ (M : Mem) (x1 : Int), AW g true RX3 cX3_partPieces 2 none (2) n n nf 12 [(0, 2, 13), (1, 0, x1)] [] n M (w12 M x1)) (M : Mem) (x1 : Int) : AW g true RX3 cX3_partPieces 2 none (2) n n nf 12 [(0, 2, 13), (1, 0, x1)] [] n M (b_X3_partPieces_12 w12 M x1) := by
  unfold b_X3_partPieces_12
  refine r_iload_n 1 dX3_partPieces_12 rfl rfl ?_
  refine r_bipush dX3_partPieces_13 (by decide) ⟨by decide, by decide⟩ ?_
  refine r_icmp_ge (tgt := 115) dX3_partPieces_15 rfl (fun h3 => ?_) (fun h4 => ?_)
  · exact r_vret rfl rfl dX3_partPieces_115
  · refine r_aload_n 0 dX3_partPieces_18 rfl rfl ?_
    refine r_gx (kz := 0) rfl hu dX3_partPieces_19 kF_X3_9 kd_13 rfl rfl rfl fx_13_0 ?_
    refine r_iload_n 1 dX3_partPieces_22 rfl rfl ?_
    refine r_ok (fun h5 => ?_)
    refine r_iald hu dX3_partPieces_23 kd_14 rfl (Or.inl rfl) rfl ln_14 h5 ?_
    refine r_if_le (tgt := 109) dX3_partPieces_24 rfl (fun h6 => ?_) (fun h7 => ?_)
    · refine r_iincB 1 dX3_partPieces_109 rfl ⟨by have := h5; omega, by have := h5; omega⟩ (by decide) (lf := fun y8 => [(1, 0, y8), (0, 2, 13)]) (fun _ => rfl) (fun y8 ey8 => ?_)
      refine r_goto (tgt := 12) dX3_partPieces_112 rfl ?_
      refine r_sub [1, 0] (ls' := [(0, 2, 13), (1, 0, y8)]) rfl ?_
      exact hw12 M y8
    · refine r_aload_n 0 dX3_partPieces_27 rfl rfl ?_
      refine r_gx (kz := 1) rfl hu dX3_partPieces_28 kF_X3_15 kd_13 rfl rfl rfl fx_13_1 ?_
      refine r_iload_n 1 dX3_partPieces_31 rfl rfl ?_
      refine r_iald hu dX3_partPieces_32 kd_15 rfl (Or.inl rfl) rfl ln_15 h5 ?_
      refine r_iconst dX3_partPieces_33 ⟨by decide, by decide⟩ ?_
      refine r_icmp_ne (tgt := 109) dX3_partPieces_34 rfl (fun h9 => ?_) (fun h10 => ?_)
      · refine r_aload_n 0 dX3_partPieces_37 rfl rfl ?_
        refine r_gx (kz := 3) rfl hu dX3_partPieces_38 kF_X3_21 kd_13 rfl rfl rfl fx_13_3 ?_
        refine r_aload_n 0 dX3_partPieces_41 rfl rfl ?_
        refine r_gf (t := 0) (kz := 8) rfl hu dX3_partPieces_42 kF_X3_88 kd_13 rfl rfl rfl ?_
        refine r_iload_n 1 dX3_partPieces_45 rfl rfl ?_
        refine r_ok (fun h11 => ?_)
        refine r_iast hu dX3_partPieces_46 kd_17 rfl (Or.inl rfl) rfl ln_17 h11 rfl (fun M12 eM12 => ?_)
        refine r_aload_n 0 dX3_partPieces_47 rfl rfl ?_
        refine r_gx (kz := 2) rfl hu dX3_partPieces_48 kF_X3_18 kd_13 rfl rfl rfl fx_13_2 ?_
        refine r_aload_n 0 dX3_partPieces_51 rfl rfl ?_
        refine r_gf (t := 0) (kz := 8) rfl hu dX3_partPieces_52 kF_X3_88 kd_13 rfl rfl rfl ?_
        refine r_iconst dX3_partPieces_55 ⟨by decide, by decide⟩ ?_
        refine r_ok (fun h13 => ?_)
        refine r_iast hu dX3_partPieces_56 kd_16 rfl (Or.inl rfl) rfl ln_16 h13 rfl (fun M14 eM14 => ?_)
        refine r_aload_n 0 dX3_partPieces_57 rfl rfl ?_
        refine r_iload_n 1 dX3_partPieces_58 rfl rfl ?_
        refine r_invv (a := 13) hu ⟨Nat.le_refl _, Nat.le_refl _⟩ dX3_partPieces_59 kM_X3_94 (ci := 3) rfl kd_13 rfl rfl (by decide) (by decide) [(0, x1)] rfl (sk := []) rfl (Nat.le_of_ble_eq_true rfl) rfl (m_X3_gather hu M14 x1) (fun r15 M16 => ?_)
        refine r_aload_n 0 dX3_partPieces_62 rfl rfl ?_
        refine r_gf (t := 0) (kz := 9) rfl hu dX3_partPieces_63 kF_X3_91 kd_13 rfl rfl rfl ?_
        refine r_iconst dX3_partPieces_66 ⟨by decide, by decide⟩ ?_
        refine r_icmp_eq (tgt := 91) dX3_partPieces_67 rfl (fun h17 => ?_) (fun h18 => ?_)
        · exact tj_X3_partPieces_91 hu w12 hw12 M16 x1
        · refine r_aload_n 0 dX3_partPieces_70 rfl rfl ?_
          refine r_gx (kz := 2) rfl hu dX3_partPieces_71 kF_X3_18 kd_13 rfl rfl rfl fx_13_2 ?_
          refine r_aload_n 0 dX3_partPieces_74 rfl rfl ?_
          refine r_gf (t := 0) (kz := 8) rfl hu dX3_partPieces_75 kF_X3_88 kd_13 rfl rfl rfl ?_
          refine r_ok (fun h24 => ?_)
          refine r_iald hu dX3_partPieces_78 kd_16 rfl (Or.inl rfl) rfl ln_16 h24 ?_
          refine r_aload_n 0 dX3_partPieces_79 rfl rfl ?_
          refine r_gx (kz := 2) rfl hu dX3_partPieces_80 kF_X3_18 kd_13 rfl rfl rfl fx_13_2 ?_
          refine r_aload_n 0 dX3_partPieces_83 rfl rfl ?_
          refine r_gf (t := 0) (kz := 9) rfl hu dX3_partPieces_84 kF_X3_91 kd_13 rfl rfl rfl ?_
          refine r_ok (fun h25 => ?_)
          refine r_iald hu dX3_partPieces_87 kd_16 rfl (Or.inl rfl) rfl ln_16 h25 ?_
          refine r_icmp_le (tgt := 99) dX3_partPieces_88 rfl (fun h26 => ?_) (fun h27 => ?_)
          · refine r_aload_n 0 dX3_partPieces_99 rfl rfl ?_
            refine r_dup dX3_partPieces_100 (nz2 _) ?_
            refine r_gf (t := 0) (kz := 8) rfl hu dX3_partPieces_101 kF_X3_88 kd_13 rfl rfl rfl ?_
            refine r_iconst dX3_partPieces_104 ⟨by decide, by decide⟩ ?_
            refine r_iadd dX3_partPieces_105 ⟨by have := h24; omega, by have := h24; omega⟩ ?_
            refine r_pf (t := 0) (kz := 8) rfl hu dX3_partPieces_106 kF_X3_88 kd_13 rfl rfl rfl (fun h => absurd h (by decide)) rfl kX_3_8 (fun M28 eM28 => ?_)
            refine r_iincB 1 dX3_partPieces_109 rfl ⟨by have := h5; omega, by have := h5; omega⟩ (by decide) (lf := fun y29 => [(1, 0, y29), (0, 2, 13)]) (fun _ => rfl) (fun y29 ey29 => ?_)
            refine r_goto (tgt := 12) dX3_partPieces_112 rfl ?_
            refine r_sub [1, 0] (ls' := [(0, 2, 13), (1, 0, y29)]) rfl ?_
            exact hw12 M28 y29
          · exact tj_X3_partPieces_91 hu w12 hw12 M16 x1
      · refine r_iincB 1 dX3_partPieces_109 rfl ⟨by have := h5; omega, by have := h5; omega⟩ (by decide) (lf := fun y30 => [(1, 0, y30), (0, 2, 13)]) (fun _ => rfl) (fun y30 ey30 => ?_)
        refine r_goto (tgt := 12) dX3_partPieces_112 rfl ?_
        refine r_sub [1, 0] (ls' := [(0, 2, 13), (1, 0, y30)]) rfl ?_
        exact hw12 M y30
set_option maxRecDepth 100000 in
theorem m_X3_partPieces {g : GT} {n nf : Int} (hu : Up true nf n) (M : Mem) : AM g true yX3_partPieces cX3_partPieces 2 none (2) n n nf [(2, 13)] M (f_X3_partPieces M) := by
  refine AM_of (by decide +kernel) (Nat.le_of_ble_eq_true rfl) (fun h => absurd h (Int.lt_irrefl n)) ?_
  show AW g true RX3 cX3_partPieces 2 none (2) n n nf 0 [(0, 2, 13)] [] n M (f_X3_partPieces M)
  unfold f_X3_partPieces
  refine r_aload_n 0 dX3_partPieces_0 rfl rfl ?_
  refine r_iconst dX3_partPieces_1 ⟨by decide, by decide⟩ ?_
  refine r_pf (t := 0) (kz := 8) rfl hu dX3_partPieces_2 kF_X3_88 kd_13 rfl rfl rfl (fun h => absurd h (by decide)) rfl kX_3_8 (fun M1 eM1 => ?_)
  refine r_aload_n 0 dX3_partPieces_5 rfl rfl ?_
  refine r_iconst dX3_partPieces_6 ⟨by decide, by decide⟩ ?_
  refine r_pf (t := 0) (kz := 9) rfl hu dX3_partPieces_7 kF_X3_91 kd_13 rfl rfl rfl (fun h => absurd h (by decide)) rfl kX_3_9 (fun M2 eM2 => ?_)
  refine r_iconst dX3_partPieces_10 ⟨by decide, by decide⟩ ?_
  refine r_istore_n dX3_partPieces_11 rfl (by decide) (ls' := [(1, 0, 0), (0, 2, 13)]) rfl ?_
  refine r_sub [1, 0] (ls' := [(0, 2, 13), (1, 0, 0)]) rfl ?_
  exact wl1_aw (P := fun M x1 o => AW g true RX3 cX3_partPieces 2 none (2) n n nf 12 [(0, 2, 13), (1, 0, x1)] [] n M (o)) (fun M x1 => aw_none) (fun w hw M x1 => tb_X3_partPieces_12 hu w hw M x1) FU M2 0
theorem dX3_build_0 : decode cX3_build 0 = .ok (.aload_n 0, 1) := by decide +kernel
theorem dX3_build_1 : decode cX3_build 1 = .ok (.aload_n 1, 1) := by decide +kernel
theorem dX3_build_2 : decode cX3_build 2 = .ok (.invokestatic 33, 3) := by decide +kernel
theorem dX3_build_5 : decode cX3_build 5 = .ok (.putfield 37, 3) := by decide +kernel
theorem dX3_build_8 : decode cX3_build 8 = .ok (.aload_n 2, 1) := by decide +kernel
theorem dX3_build_9 : decode cX3_build 9 = .ok (.invokevirtual 41, 3) := by decide +kernel
theorem dX3_build_12 : decode cX3_build 12 = .ok (.aload_n 0, 1) := by decide +kernel
theorem dX3_build_13 : decode cX3_build 13 = .ok (.iconst 0, 1) := by decide +kernel
theorem dX3_build_14 : decode cX3_build 14 = .ok (.putfield 46, 3) := by decide +kernel
theorem dX3_build_17 : decode cX3_build 17 = .ok (.iconst 0, 1) := by decide +kernel
theorem dX3_build_18 : decode cX3_build 18 = .ok (.istore_n 3, 1) := by decide +kernel
theorem dX3_build_19 : decode cX3_build 19 = .ok (.iload_n 3, 1) := by decide +kernel
theorem dX3_build_20 : decode cX3_build 20 = .ok (.bipush 96, 2) := by decide +kernel
theorem dX3_build_22 : decode cX3_build 22 = .ok (.if_icmp .ge 82, 3) := by decide +kernel
theorem dX3_build_25 : decode cX3_build 25 = .ok (.aload_n 2, 1) := by decide +kernel
theorem dX3_build_26 : decode cX3_build 26 = .ok (.iload_n 3, 1) := by decide +kernel
theorem dX3_build_27 : decode cX3_build 27 = .ok (.invokevirtual 49, 3) := by decide +kernel
theorem dX3_build_30 : decode cX3_build 30 = .ok (.aload_n 0, 1) := by decide +kernel
theorem dX3_build_31 : decode cX3_build 31 = .ok (.getfield 9, 3) := by decide +kernel
theorem dX3_build_34 : decode cX3_build 34 = .ok (.iload_n 3, 1) := by decide +kernel
theorem dX3_build_35 : decode cX3_build 35 = .ok (.iload_n 3, 1) := by decide +kernel
theorem dX3_build_36 : decode cX3_build 36 = .ok (.aload_n 0, 1) := by decide +kernel
theorem dX3_build_37 : decode cX3_build 37 = .ok (.getfield 37, 3) := by decide +kernel
theorem dX3_build_40 : decode cX3_build 40 = .ok (.if_icmp .ne 7, 3) := by decide +kernel
theorem dX3_build_43 : decode cX3_build 43 = .ok (.iconst 0, 1) := by decide +kernel
theorem dX3_build_44 : decode cX3_build 44 = .ok (.goto 16, 3) := by decide +kernel
theorem dX3_build_47 : decode cX3_build 47 = .ok (.aload_n 1, 1) := by decide +kernel
theorem dX3_build_48 : decode cX3_build 48 = .ok (.iconst 0, 1) := by decide +kernel
theorem dX3_build_49 : decode cX3_build 49 = .ok (.aload_n 2, 1) := by decide +kernel
theorem dX3_build_50 : decode cX3_build 50 = .ok (.iconst 0, 1) := by decide +kernel
theorem dX3_build_51 : decode cX3_build 51 = .ok (.invokevirtual 53, 3) := by decide +kernel
theorem dX3_build_54 : decode cX3_build 54 = .ok (.iconst 0, 1) := by decide +kernel
theorem dX3_build_55 : decode cX3_build 55 = .ok (.bipush 9, 2) := by decide +kernel
theorem dX3_build_57 : decode cX3_build 57 = .ok (.invokestatic 59, 3) := by decide +kernel
theorem dX3_build_60 : decode cX3_build 60 = .ok (.iastore, 1) := by decide +kernel
theorem dX3_build_61 : decode cX3_build 61 = .ok (.aload_n 0, 1) := by decide +kernel
theorem dX3_build_62 : decode cX3_build 62 = .ok (.dup, 1) := by decide +kernel
theorem dX3_build_63 : decode cX3_build 63 = .ok (.getfield 46, 3) := by decide +kernel
theorem dX3_build_66 : decode cX3_build 66 = .ok (.aload_n 0, 1) := by decide +kernel
theorem dX3_build_67 : decode cX3_build 67 = .ok (.getfield 9, 3) := by decide +kernel
theorem dX3_build_70 : decode cX3_build 70 = .ok (.iload_n 3, 1) := by decide +kernel
theorem dX3_build_71 : decode cX3_build 71 = .ok (.iaload, 1) := by decide +kernel
theorem dX3_build_72 : decode cX3_build 72 = .ok (.ifCond .le 7, 3) := by decide +kernel
theorem dX3_build_75 : decode cX3_build 75 = .ok (.iconst 1, 1) := by decide +kernel
theorem dX3_build_76 : decode cX3_build 76 = .ok (.goto 4, 3) := by decide +kernel
theorem dX3_build_79 : decode cX3_build 79 = .ok (.iconst 0, 1) := by decide +kernel
theorem dX3_build_80 : decode cX3_build 80 = .ok (.iadd, 1) := by decide +kernel
theorem dX3_build_81 : decode cX3_build 81 = .ok (.putfield 46, 3) := by decide +kernel
theorem dX3_build_84 : decode cX3_build 84 = .ok (.aload_n 0, 1) := by decide +kernel
theorem dX3_build_85 : decode cX3_build 85 = .ok (.getfield 30, 3) := by decide +kernel
theorem dX3_build_88 : decode cX3_build 88 = .ok (.iload_n 3, 1) := by decide +kernel
theorem dX3_build_89 : decode cX3_build 89 = .ok (.iconst 0, 1) := by decide +kernel
theorem dX3_build_90 : decode cX3_build 90 = .ok (.iastore, 1) := by decide +kernel
theorem dX3_build_91 : decode cX3_build 91 = .ok (.aload_n 0, 1) := by decide +kernel
theorem dX3_build_92 : decode cX3_build 92 = .ok (.getfield 15, 3) := by decide +kernel
theorem dX3_build_95 : decode cX3_build 95 = .ok (.iload_n 3, 1) := by decide +kernel
theorem dX3_build_96 : decode cX3_build 96 = .ok (.iconst (-1), 1) := by decide +kernel
theorem dX3_build_97 : decode cX3_build 97 = .ok (.iastore, 1) := by decide +kernel
theorem dX3_build_98 : decode cX3_build 98 = .ok (.iinc 3 1, 3) := by decide +kernel
theorem dX3_build_101 : decode cX3_build 101 = .ok (.goto (-82), 3) := by decide +kernel
theorem dX3_build_104 : decode cX3_build 104 = .ok (.aload_n 0, 1) := by decide +kernel
theorem dX3_build_105 : decode cX3_build 105 = .ok (.invokevirtual 63, 3) := by decide +kernel
theorem dX3_build_108 : decode cX3_build 108 = .ok (.return_, 1) := by decide +kernel
set_option maxRecDepth 100000 in
theorem tj_X3_build_80 {g : GT} {n nf : Int} (hu : Up true nf n) (a1 : Int) (hk1 : kd a1 = 17) (w19 : Mem → Int → Res) (hw19 : ∀ (M : Mem) (x3 : Int), AW g true RX3 cX3_build 4 none (4) n n nf 19 [(0, 2, 13), (1, 2, a1), (2, 2, 10), (3, 0, x3)] [] n M (w19 M x3)) (M : Mem) (x3 s0 s1 : Int) : AW g true RX3 cX3_build 4 none (4) n n nf 80 [(0, 2, 13), (1, 2, a1), (2, 2, 10), (3, 0, x3)] [(0, s0), (0, s1), (2, 13)] n M (j_X3_build_80 a1 w19 M x3 s0 s1) := by
  unfold j_X3_build_80
  refine r_ok (fun h20 => ?_)
  refine r_iadd dX3_build_80 h20 ?_
  refine r_pf (t := 0) (kz := 10) rfl hu dX3_build_81 kF_X3_46 kd_13 rfl rfl rfl (fun h => absurd h (by decide)) rfl kX_3_10 (fun M21 eM21 => ?_)
  refine r_aload_n 0 dX3_build_84 rfl rfl ?_
  refine r_gx (kz := 6) rfl hu dX3_build_85 kF_X3_30 kd_13 rfl rfl rfl fx_13_6 ?_
  refine r_iload_n 3 dX3_build_88 rfl rfl ?_
  refine r_iconst dX3_build_89 ⟨by decide, by decide⟩ ?_
  refine r_ok (fun h22 => ?_)
  refine r_iast hu dX3_build_90 kd_20 rfl (Or.inl rfl) rfl ln_20 h22 rfl (fun M23 eM23 => ?_)
  refine r_aload_n 0 dX3_build_91 rfl rfl ?_
  refine r_gx (kz := 1) rfl hu dX3_build_92 kF_X3_15 kd_13 rfl rfl rfl fx_13_1 ?_
  refine r_iload_n 3 dX3_build_95 rfl rfl ?_
  refine r_iconst dX3_build_96 ⟨by decide, by decide⟩ ?_
  refine r_iast hu dX3_build_97 kd_15 rfl (Or.inl rfl) rfl ln_15 h22 rfl (fun M24 eM24 => ?_)
  refine r_iincB 3 dX3_build_98 rfl ⟨by have := h22; omega, by have := h22; omega⟩ (by decide) (lf := fun y25 => [(3, 0, y25), (0, 2, 13), (1, 2, a1), (2, 2, 10)]) (fun _ => rfl) (fun y25 ey25 => ?_)
  refine r_goto (tgt := 19) dX3_build_101 rfl ?_
  refine r_sub [1, 2, 3, 0] (ls' := [(0, 2, 13), (1, 2, a1), (2, 2, 10), (3, 0, y25)]) rfl ?_
  exact hw19 M24 y25
set_option maxRecDepth 100000 in
theorem tj_X3_build_60 {g : GT} {n nf : Int} (hu : Up true nf n) (a1 : Int) (hk1 : kd a1 = 17) (w19 : Mem → Int → Res) (hw19 : ∀ (M : Mem) (x3 : Int), AW g true RX3 cX3_build 4 none (4) n n nf 19 [(0, 2, 13), (1, 2, a1), (2, 2, 10), (3, 0, x3)] [] n M (w19 M x3)) (M : Mem) (x3 s0 s1 : Int) : AW g true RX3 cX3_build 4 none (4) n n nf 60 [(0, 2, 13), (1, 2, a1), (2, 2, 10), (3, 0, x3)] [(0, s0), (0, s1), (2, 14)] n M (j_X3_build_60 a1 w19 M x3 s0 s1) := by
  unfold j_X3_build_60
  refine r_ok (fun h15 => ?_)
  refine r_iast hu dX3_build_60 kd_14 rfl (Or.inl rfl) rfl ln_14 h15 rfl (fun M16 eM16 => ?_)
  refine r_aload_n 0 dX3_build_61 rfl rfl ?_
  refine r_dup dX3_build_62 (nz2 _) ?_
  refine r_gf (t := 0) (kz := 10) rfl hu dX3_build_63 kF_X3_46 kd_13 rfl rfl rfl ?_
  refine r_aload_n 0 dX3_build_66 rfl rfl ?_
  refine r_gx (kz := 0) rfl hu dX3_build_67 kF_X3_9 kd_13 rfl rfl rfl fx_13_0 ?_
  refine r_iload_n 3 dX3_build_70 rfl rfl ?_
  refine r_ok (fun h17 => ?_)
  refine r_iald hu dX3_build_71 kd_14 rfl (Or.inl rfl) rfl ln_14 h17 ?_
  refine r_if_le (tgt := 79) dX3_build_72 rfl (fun h18 => ?_) (fun h19 => ?_)
  · refine r_iconst dX3_build_79 ⟨by decide, by decide⟩ ?_
    exact tj_X3_build_80 hu a1 hk1 w19 hw19 M16 x3 0 (M16 13 10)
  · refine r_iconst dX3_build_75 ⟨by decide, by decide⟩ ?_
    refine r_goto (tgt := 80) dX3_build_76 rfl ?_
    exact tj_X3_build_80 hu a1 hk1 w19 hw19 M16 x3 1 (M16 13 10)
set_option maxRecDepth 100000 in
theorem tb_X3_build_19 {g : GT} {n nf : Int} (hu : Up true nf n) (a1 : Int) (hk1 : kd a1 = 17) (w19 : Mem → Int → Res) (hw19 : ∀ (M : Mem) (x3 : Int), AW g true RX3 cX3_build 4 none (4) n n nf 19 [(0, 2, 13), (1, 2, a1), (2, 2, 10), (3, 0, x3)] [] n M (w19 M x3)) (M : Mem) (x3 : Int) : AW g true RX3 cX3_build 4 none (4) n n nf 19 [(0, 2, 13), (1, 2, a1), (2, 2, 10), (3, 0, x3)] [] n M (b_X3_build_19 a1 w19 M x3) := by
  unfold b_X3_build_19
  refine r_iload_n 3 dX3_build_19 rfl rfl ?_
  refine r_bipush dX3_build_20 (by decide) ⟨by decide, by decide⟩ ?_
  refine r_icmp_ge (tgt := 104) dX3_build_22 rfl (fun h7 => ?_) (fun h8 => ?_)
  · refine r_aload_n 0 dX3_build_104 rfl rfl ?_
    refine r_invv (a := 13) hu ⟨Nat.le_refl _, Nat.le_refl _⟩ dX3_build_105 kM_X3_63 (ci := 3) rfl kd_13 rfl rfl (by decide) (by decide) [] rfl (sk := []) rfl (Nat.le_of_ble_eq_true rfl) rfl (m_X3_partPieces hu M) (fun r9 M10 => ?_)
    exact r_vret rfl rfl dX3_build_108
  · refine r_aload_n 2 dX3_build_25 rfl rfl ?_
    refine r_iload_n 3 dX3_build_26 rfl rfl ?_
    refine r_invv (a := 10) hu ⟨Nat.le_refl _, Nat.le_refl _⟩ dX3_build_27 kM_X3_49 (ci := 6) rfl kd_10 rfl rfl (by decide) (by decide) [(0, x3)] rfl (sk := []) rfl (Nat.le_of_ble_eq_true rfl) rfl (m_X6_putSquare hu M x3) (fun r11 M12 => ?_)
    refine r_aload_n 0 dX3_build_30 rfl rfl ?_
    refine r_gx (kz := 0) rfl hu dX3_build_31 kF_X3_9 kd_13 rfl rfl rfl fx_13_0 ?_
    refine r_iload_n 3 dX3_build_34 rfl rfl ?_
    refine r_iload_n 3 dX3_build_35 rfl rfl ?_
    refine r_aload_n 0 dX3_build_36 rfl rfl ?_
    refine r_gf (t := 0) (kz := 11) rfl hu dX3_build_37 kF_X3_37 kd_13 rfl rfl rfl ?_
    refine r_icmp_ne (tgt := 47) dX3_build_40 rfl (fun h13 => ?_) (fun h14 => ?_)
    · refine r_iconst dX3_build_43 ⟨by decide, by decide⟩ ?_
      refine r_goto (tgt := 60) dX3_build_44 rfl ?_
      exact tj_X3_build_60 hu a1 hk1 w19 hw19 M12 x3 0 x3
    · refine r_aload_n 1 dX3_build_47 rfl rfl ?_
      refine r_iconst dX3_build_48 ⟨by decide, by decide⟩ ?_
      refine r_aload_n 2 dX3_build_49 rfl rfl ?_
      refine r_iconst dX3_build_50 ⟨by decide, by decide⟩ ?_
      refine r_inv (a := a1) hu ⟨Nat.le_refl _, Nat.le_refl _⟩ dX3_build_51 kM_X3_53 (ci := 7) rfl hk1 rfl rfl (by decide) (by decide) [(0, 0), (2, 10), (0, 0)] rfl (sk := [(0, x3), (2, 14)]) rfl (Nat.le_of_ble_eq_true rfl) rfl rfl (m_X7_firstSum hu M12 a1 0 0 hk1) (fun r26 M27 => ?_)
      refine r_iconst dX3_build_54 ⟨by decide, by decide⟩ ?_
      refine r_bipush dX3_build_55 (by decide) ⟨by decide, by decide⟩ ?_
      refine r_ins (a := 0) ⟨Nat.le_refl _, Nat.le_refl _⟩ dX3_build_57 kM_X3_59 (by decide) (by decide) [(0, r26), (0, 0), (0, 9)] rfl (sk := [(0, x3), (2, 14)]) rfl (Nat.le_of_ble_eq_true rfl) rfl rfl (m_X11_clamped hu M27 r26 0 9) (fun r28 M29 => ?_)
      exact tj_X3_build_60 hu a1 hk1 w19 hw19 M29 x3 r28 x3
set_option maxRecDepth 100000 in
theorem m_X3_build {g : GT} {n nf : Int} (hu : Up true nf n) (M : Mem) (a1 : Int) (hk1 : kd a1 = 17) : AM g true yX3_build cX3_build 4 none (4) n n nf [(2, 13), (2, a1), (2, 10)] M (f_X3_build M a1) := by
  refine AM_of (by decide +kernel) (Nat.le_of_ble_eq_true rfl) (fun h => absurd h (Int.lt_irrefl n)) ?_
  show AW g true RX3 cX3_build 4 none (4) n n nf 0 [(0, 2, 13), (1, 2, a1), (2, 2, 10)] [] n M (f_X3_build M a1)
  unfold f_X3_build
  refine r_aload_n 0 dX3_build_0 rfl rfl ?_
  refine r_aload_n 1 dX3_build_1 rfl rfl ?_
  refine r_ins (a := 0) ⟨Nat.le_refl _, Nat.le_refl _⟩ dX3_build_2 kM_X3_33 (by decide) (by decide) [(2, a1)] rfl (sk := [(2, 13)]) rfl (Nat.le_of_ble_eq_true rfl) rfl rfl (m_X3_discOf hu M a1 hk1) (fun r1 M2 => ?_)
  refine r_pf (t := 0) (kz := 11) rfl hu dX3_build_5 kF_X3_37 kd_13 rfl rfl rfl (fun h => absurd h (by decide)) rfl kX_3_11 (fun M3 eM3 => ?_)
  refine r_aload_n 2 dX3_build_8 rfl rfl ?_
  refine r_invv (a := 10) hu ⟨Nat.le_refl _, Nat.le_refl _⟩ dX3_build_9 kM_X3_41 (ci := 6) rfl kd_10 rfl rfl (by decide) (by decide) [] rfl (sk := []) rfl (Nat.le_of_ble_eq_true rfl) rfl (m_X6_putNothing hu M3) (fun r4 M5 => ?_)
  refine r_aload_n 0 dX3_build_12 rfl rfl ?_
  refine r_iconst dX3_build_13 ⟨by decide, by decide⟩ ?_
  refine r_pf (t := 0) (kz := 10) rfl hu dX3_build_14 kF_X3_46 kd_13 rfl rfl rfl (fun h => absurd h (by decide)) rfl kX_3_10 (fun M6 eM6 => ?_)
  refine r_iconst dX3_build_17 ⟨by decide, by decide⟩ ?_
  refine r_istore_n dX3_build_18 rfl (by decide) (ls' := [(3, 0, 0), (0, 2, 13), (1, 2, a1), (2, 2, 10)]) rfl ?_
  refine r_sub [1, 2, 3, 0] (ls' := [(0, 2, 13), (1, 2, a1), (2, 2, 10), (3, 0, 0)]) rfl ?_
  exact wl1_aw (P := fun M x3 o => AW g true RX3 cX3_build 4 none (4) n n nf 19 [(0, 2, 13), (1, 2, a1), (2, 2, 10), (3, 0, x3)] [] n M (o)) (fun M x3 => aw_none) (fun w hw M x3 => tb_X3_build_19 hu a1 hk1 w hw M x3) FU M6 0
theorem dX3_isIsland_0 : decode cX3_isIsland 0 = .ok (.iload_n 1, 1) := by decide +kernel
theorem dX3_isIsland_1 : decode cX3_isIsland 1 = .ok (.iconst (-1), 1) := by decide +kernel
theorem dX3_isIsland_2 : decode cX3_isIsland 2 = .ok (.if_icmp .eq 15, 3) := by decide +kernel
theorem dX3_isIsland_5 : decode cX3_isIsland 5 = .ok (.iload_n 1, 1) := by decide +kernel
theorem dX3_isIsland_6 : decode cX3_isIsland 6 = .ok (.aload_n 0, 1) := by decide +kernel
theorem dX3_isIsland_7 : decode cX3_isIsland 7 = .ok (.getfield 91, 3) := by decide +kernel
theorem dX3_isIsland_10 : decode cX3_isIsland 10 = .ok (.if_icmp .eq 7, 3) := by decide +kernel
theorem dX3_isIsland_13 : decode cX3_isIsland 13 = .ok (.iconst 1, 1) := by decide +kernel
theorem dX3_isIsland_14 : decode cX3_isIsland 14 = .ok (.goto 4, 3) := by decide +kernel
theorem dX3_isIsland_17 : decode cX3_isIsland 17 = .ok (.iconst 0, 1) := by decide +kernel
theorem dX3_isIsland_18 : decode cX3_isIsland 18 = .ok (.ireturn, 1) := by decide +kernel
set_option maxRecDepth 100000 in
theorem m_X3_isIsland {g : GT} {n nf : Int} (hu : Up true nf n) (M : Mem) (a1 : Int) : AM g true yX3_isIsland cX3_isIsland 2 (some .boolean) (0) n n nf [(2, 13), (0, a1)] M (f_X3_isIsland M a1) := by
  refine AM_of (by decide +kernel) (Nat.le_of_ble_eq_true rfl) (fun h => absurd h (Int.lt_irrefl n)) ?_
  show AW g true RX3 cX3_isIsland 2 (some .boolean) (0) n n nf 0 [(0, 2, 13), (1, 0, a1)] [] n M (f_X3_isIsland M a1)
  unfold f_X3_isIsland
  refine r_iload_n 1 dX3_isIsland_0 rfl rfl ?_
  refine r_iconst dX3_isIsland_1 ⟨by decide, by decide⟩ ?_
  refine r_icmp_eq (tgt := 17) dX3_isIsland_2 rfl (fun h1 => ?_) (fun h2 => ?_)
  · refine r_iconst dX3_isIsland_17 ⟨by decide, by decide⟩ ?_
    exact r_iret rfl rfl (Or.inr ⟨rfl, Or.inl rfl⟩) dX3_isIsland_18
  · refine r_iload_n 1 dX3_isIsland_5 rfl rfl ?_
    refine r_aload_n 0 dX3_isIsland_6 rfl rfl ?_
    refine r_gf (t := 0) (kz := 9) rfl hu dX3_isIsland_7 kF_X3_91 kd_13 rfl rfl rfl ?_
    refine r_icmp_eq (tgt := 17) dX3_isIsland_10 rfl (fun h3 => ?_) (fun h4 => ?_)
    · refine r_iconst dX3_isIsland_17 ⟨by decide, by decide⟩ ?_
      exact r_iret rfl rfl (Or.inr ⟨rfl, Or.inl rfl⟩) dX3_isIsland_18
    · refine r_iconst dX3_isIsland_13 ⟨by decide, by decide⟩ ?_
      refine r_goto (tgt := 18) dX3_isIsland_14 rfl ?_
      exact r_iret rfl rfl (Or.inr ⟨rfl, Or.inr rfl⟩) dX3_isIsland_18
theorem dX3_isGone_0 : decode cX3_isGone 0 = .ok (.aload_n 0, 1) := by decide +kernel
theorem dX3_isGone_1 : decode cX3_isGone 1 = .ok (.getfield 9, 3) := by decide +kernel
theorem dX3_isGone_4 : decode cX3_isGone 4 = .ok (.iload_n 1, 1) := by decide +kernel
theorem dX3_isGone_5 : decode cX3_isGone 5 = .ok (.iaload, 1) := by decide +kernel
theorem dX3_isGone_6 : decode cX3_isGone 6 = .ok (.ifCond .ne 15, 3) := by decide +kernel
theorem dX3_isGone_9 : decode cX3_isGone 9 = .ok (.iload_n 1, 1) := by decide +kernel
theorem dX3_isGone_10 : decode cX3_isGone 10 = .ok (.aload_n 0, 1) := by decide +kernel
theorem dX3_isGone_11 : decode cX3_isGone 11 = .ok (.getfield 37, 3) := by decide +kernel
theorem dX3_isGone_14 : decode cX3_isGone 14 = .ok (.if_icmp .eq 7, 3) := by decide +kernel
theorem dX3_isGone_17 : decode cX3_isGone 17 = .ok (.iconst 1, 1) := by decide +kernel
theorem dX3_isGone_18 : decode cX3_isGone 18 = .ok (.goto 4, 3) := by decide +kernel
theorem dX3_isGone_21 : decode cX3_isGone 21 = .ok (.iconst 0, 1) := by decide +kernel
theorem dX3_isGone_22 : decode cX3_isGone 22 = .ok (.ireturn, 1) := by decide +kernel
set_option maxRecDepth 100000 in
theorem m_X3_isGone {g : GT} {n nf : Int} (hu : Up true nf n) (M : Mem) (a1 : Int) : AM g true yX3_isGone cX3_isGone 2 (some .boolean) (0) n n nf [(2, 13), (0, a1)] M (f_X3_isGone M a1) := by
  refine AM_of (by decide +kernel) (Nat.le_of_ble_eq_true rfl) (fun h => absurd h (Int.lt_irrefl n)) ?_
  show AW g true RX3 cX3_isGone 2 (some .boolean) (0) n n nf 0 [(0, 2, 13), (1, 0, a1)] [] n M (f_X3_isGone M a1)
  unfold f_X3_isGone
  refine r_aload_n 0 dX3_isGone_0 rfl rfl ?_
  refine r_gx (kz := 0) rfl hu dX3_isGone_1 kF_X3_9 kd_13 rfl rfl rfl fx_13_0 ?_
  refine r_iload_n 1 dX3_isGone_4 rfl rfl ?_
  refine r_ok (fun h1 => ?_)
  refine r_iald hu dX3_isGone_5 kd_14 rfl (Or.inl rfl) rfl ln_14 h1 ?_
  refine r_if_ne (tgt := 21) dX3_isGone_6 rfl (fun h2 => ?_) (fun h3 => ?_)
  · refine r_iload_n 1 dX3_isGone_9 rfl rfl ?_
    refine r_aload_n 0 dX3_isGone_10 rfl rfl ?_
    refine r_gf (t := 0) (kz := 11) rfl hu dX3_isGone_11 kF_X3_37 kd_13 rfl rfl rfl ?_
    refine r_icmp_eq (tgt := 21) dX3_isGone_14 rfl (fun h4 => ?_) (fun h5 => ?_)
    · refine r_iconst dX3_isGone_21 ⟨by decide, by decide⟩ ?_
      exact r_iret rfl rfl (Or.inr ⟨rfl, Or.inl rfl⟩) dX3_isGone_22
    · refine r_iconst dX3_isGone_17 ⟨by decide, by decide⟩ ?_
      refine r_goto (tgt := 22) dX3_isGone_18 rfl ?_
      exact r_iret rfl rfl (Or.inr ⟨rfl, Or.inr rfl⟩) dX3_isGone_22
  · refine r_iconst dX3_isGone_21 ⟨by decide, by decide⟩ ?_
    exact r_iret rfl rfl (Or.inr ⟨rfl, Or.inl rfl⟩) dX3_isGone_22
theorem dX3_lookForLight_0 : decode cX3_lookForLight 0 = .ok (.iconst 0, 1) := by decide +kernel
theorem dX3_lookForLight_1 : decode cX3_lookForLight 1 = .ok (.istore_n 2, 1) := by decide +kernel
theorem dX3_lookForLight_2 : decode cX3_lookForLight 2 = .ok (.iconst 1, 1) := by decide +kernel
theorem dX3_lookForLight_3 : decode cX3_lookForLight 3 = .ok (.istore_n 3, 1) := by decide +kernel
theorem dX3_lookForLight_4 : decode cX3_lookForLight 4 = .ok (.iconst 0, 1) := by decide +kernel
theorem dX3_lookForLight_5 : decode cX3_lookForLight 5 = .ok (.istore 4, 2) := by decide +kernel
theorem dX3_lookForLight_7 : decode cX3_lookForLight 7 = .ok (.iload 4, 2) := by decide +kernel
theorem dX3_lookForLight_9 : decode cX3_lookForLight 9 = .ok (.bipush 96, 2) := by decide +kernel
theorem dX3_lookForLight_11 : decode cX3_lookForLight 11 = .ok (.if_icmp .ge 91, 3) := by decide +kernel
theorem dX3_lookForLight_14 : decode cX3_lookForLight 14 = .ok (.iload 4, 2) := by decide +kernel
theorem dX3_lookForLight_16 : decode cX3_lookForLight 16 = .ok (.iload_n 1, 1) := by decide +kernel
theorem dX3_lookForLight_17 : decode cX3_lookForLight 17 = .ok (.if_icmp .eq 79, 3) := by decide +kernel
theorem dX3_lookForLight_20 : decode cX3_lookForLight 20 = .ok (.aload_n 0, 1) := by decide +kernel
theorem dX3_lookForLight_21 : decode cX3_lookForLight 21 = .ok (.getfield 9, 3) := by decide +kernel
theorem dX3_lookForLight_24 : decode cX3_lookForLight 24 = .ok (.iload 4, 2) := by decide +kernel
theorem dX3_lookForLight_26 : decode cX3_lookForLight 26 = .ok (.iaload, 1) := by decide +kernel
theorem dX3_lookForLight_27 : decode cX3_lookForLight 27 = .ok (.ifCond .le 69, 3) := by decide +kernel
theorem dX3_lookForLight_30 : decode cX3_lookForLight 30 = .ok (.iload 4, 2) := by decide +kernel
theorem dX3_lookForLight_32 : decode cX3_lookForLight 32 = .ok (.bipush 12, 2) := by decide +kernel
theorem dX3_lookForLight_34 : decode cX3_lookForLight 34 = .ok (.irem, 1) := by decide +kernel
theorem dX3_lookForLight_35 : decode cX3_lookForLight 35 = .ok (.iload_n 1, 1) := by decide +kernel
theorem dX3_lookForLight_36 : decode cX3_lookForLight 36 = .ok (.bipush 12, 2) := by decide +kernel
theorem dX3_lookForLight_38 : decode cX3_lookForLight 38 = .ok (.irem, 1) := by decide +kernel
theorem dX3_lookForLight_39 : decode cX3_lookForLight 39 = .ok (.isub, 1) := by decide +kernel
theorem dX3_lookForLight_40 : decode cX3_lookForLight 40 = .ok (.istore 5, 2) := by decide +kernel
theorem dX3_lookForLight_42 : decode cX3_lookForLight 42 = .ok (.iload 4, 2) := by decide +kernel
theorem dX3_lookForLight_44 : decode cX3_lookForLight 44 = .ok (.bipush 12, 2) := by decide +kernel
theorem dX3_lookForLight_46 : decode cX3_lookForLight 46 = .ok (.idiv, 1) := by decide +kernel
theorem dX3_lookForLight_47 : decode cX3_lookForLight 47 = .ok (.iload_n 1, 1) := by decide +kernel
theorem dX3_lookForLight_48 : decode cX3_lookForLight 48 = .ok (.bipush 12, 2) := by decide +kernel
theorem dX3_lookForLight_50 : decode cX3_lookForLight 50 = .ok (.idiv, 1) := by decide +kernel
theorem dX3_lookForLight_51 : decode cX3_lookForLight 51 = .ok (.isub, 1) := by decide +kernel
theorem dX3_lookForLight_52 : decode cX3_lookForLight 52 = .ok (.istore 6, 2) := by decide +kernel
theorem dX3_lookForLight_54 : decode cX3_lookForLight 54 = .ok (.iconst 1, 1) := by decide +kernel
theorem dX3_lookForLight_55 : decode cX3_lookForLight 55 = .ok (.iload 5, 2) := by decide +kernel
theorem dX3_lookForLight_57 : decode cX3_lookForLight 57 = .ok (.iload 5, 2) := by decide +kernel
theorem dX3_lookForLight_59 : decode cX3_lookForLight 59 = .ok (.imul, 1) := by decide +kernel
theorem dX3_lookForLight_60 : decode cX3_lookForLight 60 = .ok (.iadd, 1) := by decide +kernel
theorem dX3_lookForLight_61 : decode cX3_lookForLight 61 = .ok (.iload 6, 2) := by decide +kernel
theorem dX3_lookForLight_63 : decode cX3_lookForLight 63 = .ok (.iload 6, 2) := by decide +kernel
theorem dX3_lookForLight_65 : decode cX3_lookForLight 65 = .ok (.imul, 1) := by decide +kernel
theorem dX3_lookForLight_66 : decode cX3_lookForLight 66 = .ok (.iadd, 1) := by decide +kernel
theorem dX3_lookForLight_67 : decode cX3_lookForLight 67 = .ok (.istore 7, 2) := by decide +kernel
theorem dX3_lookForLight_69 : decode cX3_lookForLight 69 = .ok (.aload_n 0, 1) := by decide +kernel
theorem dX3_lookForLight_70 : decode cX3_lookForLight 70 = .ok (.getfield 9, 3) := by decide +kernel
theorem dX3_lookForLight_73 : decode cX3_lookForLight 73 = .ok (.iload 4, 2) := by decide +kernel
theorem dX3_lookForLight_75 : decode cX3_lookForLight 75 = .ok (.iaload, 1) := by decide +kernel
theorem dX3_lookForLight_76 : decode cX3_lookForLight 76 = .ok (.iload_n 3, 1) := by decide +kernel
theorem dX3_lookForLight_77 : decode cX3_lookForLight 77 = .ok (.imul, 1) := by decide +kernel
theorem dX3_lookForLight_78 : decode cX3_lookForLight 78 = .ok (.iload_n 2, 1) := by decide +kernel
theorem dX3_lookForLight_79 : decode cX3_lookForLight 79 = .ok (.iload 7, 2) := by decide +kernel
theorem dX3_lookForLight_81 : decode cX3_lookForLight 81 = .ok (.imul, 1) := by decide +kernel
theorem dX3_lookForLight_82 : decode cX3_lookForLight 82 = .ok (.if_icmp .le 14, 3) := by decide +kernel
theorem dX3_lookForLight_85 : decode cX3_lookForLight 85 = .ok (.aload_n 0, 1) := by decide +kernel
theorem dX3_lookForLight_86 : decode cX3_lookForLight 86 = .ok (.getfield 9, 3) := by decide +kernel
theorem dX3_lookForLight_89 : decode cX3_lookForLight 89 = .ok (.iload 4, 2) := by decide +kernel
theorem dX3_lookForLight_91 : decode cX3_lookForLight 91 = .ok (.iaload, 1) := by decide +kernel
theorem dX3_lookForLight_92 : decode cX3_lookForLight 92 = .ok (.istore_n 2, 1) := by decide +kernel
theorem dX3_lookForLight_93 : decode cX3_lookForLight 93 = .ok (.iload 7, 2) := by decide +kernel
theorem dX3_lookForLight_95 : decode cX3_lookForLight 95 = .ok (.istore_n 3, 1) := by decide +kernel
theorem dX3_lookForLight_96 : decode cX3_lookForLight 96 = .ok (.iinc 4 1, 3) := by decide +kernel
theorem dX3_lookForLight_99 : decode cX3_lookForLight 99 = .ok (.goto (-92), 3) := by decide +kernel
theorem dX3_lookForLight_102 : decode cX3_lookForLight 102 = .ok (.aload_n 0, 1) := by decide +kernel
theorem dX3_lookForLight_103 : decode cX3_lookForLight 103 = .ok (.getfield 27, 3) := by decide +kernel
theorem dX3_lookForLight_106 : decode cX3_lookForLight 106 = .ok (.iload_n 1, 1) := by decide +kernel
theorem dX3_lookForLight_107 : decode cX3_lookForLight 107 = .ok (.iload_n 2, 1) := by decide +kernel
theorem dX3_lookForLight_108 : decode cX3_lookForLight 108 = .ok (.iastore, 1) := by decide +kernel
theorem dX3_lookForLight_109 : decode cX3_lookForLight 109 = .ok (.aload_n 0, 1) := by decide +kernel
theorem dX3_lookForLight_110 : decode cX3_lookForLight 110 = .ok (.getfield 30, 3) := by decide +kernel
theorem dX3_lookForLight_113 : decode cX3_lookForLight 113 = .ok (.iload_n 1, 1) := by decide +kernel
theorem dX3_lookForLight_114 : decode cX3_lookForLight 114 = .ok (.iload_n 3, 1) := by decide +kernel
theorem dX3_lookForLight_115 : decode cX3_lookForLight 115 = .ok (.iastore, 1) := by decide +kernel
theorem dX3_lookForLight_116 : decode cX3_lookForLight 116 = .ok (.return_, 1) := by decide +kernel
set_option maxRecDepth 100000 in
theorem tb_X3_lookForLight_7 {g : GT} {n nf : Int} (hu : Up true nf n) (a1 : Int) (w7 : Mem → Int → Int → Int → Res) (hw7 : ∀ (M : Mem) (x2 x3 x4 : Int), AW g true RX3 cX3_lookForLight 8 none (0) n n nf 7 [(0, 2, 13), (1, 0, a1), (2, 0, x2), (3, 0, x3), (4, 0, x4)] [] n M (w7 M x2 x3 x4)) (M : Mem) (x2 x3 x4 : Int) : AW g true RX3 cX3_lookForLight 8 none (0) n n nf 7 [(0, 2, 13), (1, 0, a1), (2, 0, x2), (3, 0, x3), (4, 0, x4)] [] n M (b_X3_lookForLight_7 a1 w7 M x2 x3 x4) := by
  unfold b_X3_lookForLight_7
  refine r_iload 4 dX3_lookForLight_7 rfl ?_
  refine r_bipush dX3_lookForLight_9 (by decide) ⟨by decide, by decide⟩ ?_
  refine r_icmp_ge (tgt := 102) dX3_lookForLight_11 rfl (fun h1 => ?_) (fun h2 => ?_)
  · refine r_aload_n 0 dX3_lookForLight_102 rfl rfl ?_
    refine r_gx (kz := 5) rfl hu dX3_lookForLight_103 kF_X3_27 kd_13 rfl rfl rfl fx_13_5 ?_
    refine r_iload_n 1 dX3_lookForLight_106 rfl rfl ?_
    refine r_iload_n 2 dX3_lookForLight_107 rfl rfl ?_
    refine r_ok (fun h3 => ?_)
    refine r_iast hu dX3_lookForLight_108 kd_19 rfl (Or.inl rfl) rfl ln_19 h3 rfl (fun M4 eM4 => ?_)
    refine r_aload_n 0 dX3_lookForLight_109 rfl rfl ?_
    refine r_gx (kz := 6) rfl hu dX3_lookForLight_110 kF_X3_30 kd_13 rfl rfl rfl fx_13_6 ?_
    refine r_iload_n 1 dX3_lookForLight_113 rfl rfl ?_
    refine r_iload_n 3 dX3_lookForLight_114 rfl rfl ?_
    refine r_iast hu dX3_lookForLight_115 kd_20 rfl (Or.inl rfl) rfl ln_20 h3 rfl (fun M5 eM5 => ?_)
    exact r_vret rfl rfl dX3_lookForLight_116
  · refine r_iload 4 dX3_lookForLight_14 rfl ?_
    refine r_iload_n 1 dX3_lookForLight_16 rfl rfl ?_
    refine r_icmp_eq (tgt := 96) dX3_lookForLight_17 rfl (fun h6 => ?_) (fun h7 => ?_)
    · refine r_ok (fun h8 => ?_)
      refine r_iincB 4 dX3_lookForLight_96 rfl h8 (by decide) (lf := fun y9 => [(4, 0, y9), (0, 2, 13), (1, 0, a1), (2, 0, x2), (3, 0, x3)]) (fun _ => rfl) (fun y9 ey9 => ?_)
      refine r_goto (tgt := 7) dX3_lookForLight_99 rfl ?_
      refine r_sub [1, 2, 3, 4, 0] (ls' := [(0, 2, 13), (1, 0, a1), (2, 0, x2), (3, 0, x3), (4, 0, y9)]) rfl ?_
      exact hw7 M x2 x3 y9
    · refine r_aload_n 0 dX3_lookForLight_20 rfl rfl ?_
      refine r_gx (kz := 0) rfl hu dX3_lookForLight_21 kF_X3_9 kd_13 rfl rfl rfl fx_13_0 ?_
      refine r_iload 4 dX3_lookForLight_24 rfl ?_
      refine r_ok (fun h10 => ?_)
      refine r_iald hu dX3_lookForLight_26 kd_14 rfl (Or.inl rfl) rfl ln_14 h10 ?_
      refine r_if_le (tgt := 96) dX3_lookForLight_27 rfl (fun h11 => ?_) (fun h12 => ?_)
      · refine r_iincB 4 dX3_lookForLight_96 rfl ⟨by have := h10; omega, by have := h10; omega⟩ (by decide) (lf := fun y13 => [(4, 0, y13), (0, 2, 13), (1, 0, a1), (2, 0, x2), (3, 0, x3)]) (fun _ => rfl) (fun y13 ey13 => ?_)
        refine r_goto (tgt := 7) dX3_lookForLight_99 rfl ?_
        refine r_sub [1, 2, 3, 4, 0] (ls' := [(0, 2, 13), (1, 0, a1), (2, 0, x2), (3, 0, x3), (4, 0, y13)]) rfl ?_
        exact hw7 M x2 x3 y13
      · refine r_iload 4 dX3_lookForLight_30 rfl ?_
        refine r_bipush dX3_lookForLight_32 (by decide) ⟨by decide, by decide⟩ ?_
        refine r_iremP dX3_lookForLight_34 ⟨h10.1, by decide⟩ ?_
        refine r_iload_n 1 dX3_lookForLight_35 rfl rfl ?_
        refine r_bipush dX3_lookForLight_36 (by decide) ⟨by decide, by decide⟩ ?_
        refine r_ok (fun h14 => ?_)
        refine r_iremP dX3_lookForLight_38 ⟨h14, by decide⟩ ?_
        refine r_ok (fun h15 => ?_)
        refine r_isub dX3_lookForLight_39 h15 ?_
        refine r_istoreB dX3_lookForLight_40 (by decide) (lf := fun y16 => [(5, 0, y16), (0, 2, 13), (1, 0, a1), (2, 0, x2), (3, 0, x3), (4, 0, x4)]) (fun _ => rfl) (fun y16 ey16 => ?_)
        refine r_iload 5 dX3_lookForLight_42 rfl ?_
        refine r_bipush dX3_lookForLight_44 (by decide) ⟨by decide, by decide⟩ ?_
        refine r_idivP dX3_lookForLight_46 ⟨h10.1, by decide⟩ ?_
        refine r_iload_n 2 dX3_lookForLight_47 rfl rfl ?_
        refine r_bipush dX3_lookForLight_48 (by decide) ⟨by decide, by decide⟩ ?_
        refine r_idivP dX3_lookForLight_50 ⟨h14, by decide⟩ ?_
        refine r_ok (fun h17 => ?_)
        refine r_isub dX3_lookForLight_51 h17 ?_
        refine r_istoreB dX3_lookForLight_52 (by decide) (lf := fun y18 => [(6, 0, y18), (5, 0, y16), (0, 2, 13), (1, 0, a1), (2, 0, x2), (3, 0, x3), (4, 0, x4)]) (fun _ => rfl) (fun y18 ey18 => ?_)
        refine r_iconst dX3_lookForLight_54 ⟨by decide, by decide⟩ ?_
        refine r_iload 1 dX3_lookForLight_55 rfl ?_
        refine r_iload 1 dX3_lookForLight_57 rfl ?_
        refine r_ok (fun h19 => ?_)
        refine r_imul dX3_lookForLight_59 h19 ?_
        refine r_ok (fun h20 => ?_)
        refine r_iadd dX3_lookForLight_60 h20 ?_
        refine r_iload 0 dX3_lookForLight_61 rfl ?_
        refine r_iload 0 dX3_lookForLight_63 rfl ?_
        refine r_ok (fun h21 => ?_)
        refine r_imul dX3_lookForLight_65 h21 ?_
        refine r_ok (fun h22 => ?_)
        refine r_iadd dX3_lookForLight_66 h22 ?_
        refine r_istoreB dX3_lookForLight_67 (by decide) (lf := fun y23 => [(7, 0, y23), (6, 0, y18), (5, 0, y16), (0, 2, 13), (1, 0, a1), (2, 0, x2), (3, 0, x3), (4, 0, x4)]) (fun _ => rfl) (fun y23 ey23 => ?_)
        refine r_aload_n 3 dX3_lookForLight_69 rfl rfl ?_
        refine r_gx (kz := 0) rfl hu dX3_lookForLight_70 kF_X3_9 kd_13 rfl rfl rfl fx_13_0 ?_
        refine r_iload 7 dX3_lookForLight_73 rfl ?_
        refine r_iald hu dX3_lookForLight_75 kd_14 rfl (Or.inl rfl) rfl ln_14 h10 ?_
        refine r_iload_n 6 dX3_lookForLight_76 rfl rfl ?_
        refine r_ok (fun h24 => ?_)
        refine r_imul dX3_lookForLight_77 h24 ?_
        refine r_iload_n 5 dX3_lookForLight_78 rfl rfl ?_
        refine r_iload 0 dX3_lookForLight_79 rfl ?_
        refine r_ok (fun h25 => ?_)
        refine r_imul dX3_lookForLight_81 h25 ?_
        refine r_icmp_le (tgt := 96) dX3_lookForLight_82 rfl (fun h26 => ?_) (fun h27 => ?_)
        · refine r_iincB 7 dX3_lookForLight_96 rfl ⟨by have := h10; omega, by have := h10; omega⟩ (by decide) (lf := fun y28 => [(4, 0, y28), (7, 0, y23), (6, 0, y18), (5, 0, y16), (0, 2, 13), (1, 0, a1), (2, 0, x2), (3, 0, x3)]) (fun _ => rfl) (fun y28 ey28 => ?_)
          refine r_goto (tgt := 7) dX3_lookForLight_99 rfl ?_
          refine r_sub [4, 5, 6, 7, 0] (ls' := [(0, 2, 13), (1, 0, a1), (2, 0, x2), (3, 0, x3), (4, 0, y28)]) rfl ?_
          exact hw7 M x2 x3 y28
        · refine r_aload_n 3 dX3_lookForLight_85 rfl rfl ?_
          refine r_gx (kz := 0) rfl hu dX3_lookForLight_86 kF_X3_9 kd_13 rfl rfl rfl fx_13_0 ?_
          refine r_iload 7 dX3_lookForLight_89 rfl ?_
          refine r_iald hu dX3_lookForLight_91 kd_14 rfl (Or.inl rfl) rfl ln_14 h10 ?_
          refine r_istore_nB dX3_lookForLight_92 rfl (by decide) (lf := fun y29 => [(2, 0, y29), (7, 0, y23), (6, 0, y18), (5, 0, y16), (0, 2, 13), (1, 0, a1), (3, 0, x3), (4, 0, x4)]) (fun _ => rfl) (fun y29 ey29 => ?_)
          refine r_iload 1 dX3_lookForLight_93 rfl ?_
          refine r_istore_n dX3_lookForLight_95 rfl (by decide) (ls' := [(3, 0, y23), (2, 0, y29), (7, 0, y23), (6, 0, y18), (5, 0, y16), (0, 2, 13), (1, 0, a1), (4, 0, x4)]) rfl ?_
          refine r_iincB 7 dX3_lookForLight_96 rfl ⟨by have := h10; omega, by have := h10; omega⟩ (by decide) (lf := fun y30 => [(4, 0, y30), (3, 0, y23), (2, 0, y29), (7, 0, y23), (6, 0, y18), (5, 0, y16), (0, 2, 13), (1, 0, a1)]) (fun _ => rfl) (fun y30 ey30 => ?_)
          refine r_goto (tgt := 7) dX3_lookForLight_99 rfl ?_
          refine r_sub [6, 7, 2, 1, 0] (ls' := [(0, 2, 13), (1, 0, a1), (2, 0, y29), (3, 0, y23), (4, 0, y30)]) rfl ?_
          exact hw7 M y29 y23 y30
set_option maxRecDepth 100000 in
theorem m_X3_lookForLight {g : GT} {n nf : Int} (hu : Up true nf n) (M : Mem) (a1 : Int) : AM g true yX3_lookForLight cX3_lookForLight 8 none (0) n n nf [(2, 13), (0, a1)] M (f_X3_lookForLight M a1) := by
  refine AM_of (by decide +kernel) (Nat.le_of_ble_eq_true rfl) (fun h => absurd h (Int.lt_irrefl n)) ?_
  show AW g true RX3 cX3_lookForLight 8 none (0) n n nf 0 [(0, 2, 13), (1, 0, a1)] [] n M (f_X3_lookForLight M a1)
  unfold f_X3_lookForLight
  refine r_iconst dX3_lookForLight_0 ⟨by decide, by decide⟩ ?_
  refine r_istore_n dX3_lookForLight_1 rfl (by decide) (ls' := [(2, 0, 0), (0, 2, 13), (1, 0, a1)]) rfl ?_
  refine r_iconst dX3_lookForLight_2 ⟨by decide, by decide⟩ ?_
  refine r_istore_n dX3_lookForLight_3 rfl (by decide) (ls' := [(3, 0, 1), (2, 0, 0), (0, 2, 13), (1, 0, a1)]) rfl ?_
  refine r_iconst dX3_lookForLight_4 ⟨by decide, by decide⟩ ?_
  refine r_istore dX3_lookForLight_5 (by decide) (ls' := [(4, 0, 0), (3, 0, 1), (2, 0, 0), (0, 2, 13), (1, 0, a1)]) rfl ?_
  refine r_sub [3, 4, 2, 1, 0] (ls' := [(0, 2, 13), (1, 0, a1), (2, 0, 0), (3, 0, 1), (4, 0, 0)]) rfl ?_
  exact wl3_aw (P := fun M x2 x3 x4 o => AW g true RX3 cX3_lookForLight 8 none (0) n n nf 7 [(0, 2, 13), (1, 0, a1), (2, 0, x2), (3, 0, x3), (4, 0, x4)] [] n M (o)) (fun M x2 x3 x4 => aw_none) (fun w hw M x2 x3 x4 => tb_X3_lookForLight_7 hu a1 w hw M x2 x3 x4) FU M 0 1 0
theorem dX3_lightAt_0 : decode cX3_lightAt 0 = .ok (.aload_n 0, 1) := by decide +kernel
theorem dX3_lightAt_1 : decode cX3_lightAt 1 = .ok (.getfield 30, 3) := by decide +kernel
theorem dX3_lightAt_4 : decode cX3_lightAt 4 = .ok (.iload_n 1, 1) := by decide +kernel
theorem dX3_lightAt_5 : decode cX3_lightAt 5 = .ok (.iaload, 1) := by decide +kernel
theorem dX3_lightAt_6 : decode cX3_lightAt 6 = .ok (.ifCond .ne 8, 3) := by decide +kernel
theorem dX3_lightAt_9 : decode cX3_lightAt 9 = .ok (.aload_n 0, 1) := by decide +kernel
theorem dX3_lightAt_10 : decode cX3_lightAt 10 = .ok (.iload_n 1, 1) := by decide +kernel
theorem dX3_lightAt_11 : decode cX3_lightAt 11 = .ok (.invokevirtual 103, 3) := by decide +kernel
theorem dX3_lightAt_14 : decode cX3_lightAt 14 = .ok (.iload_n 2, 1) := by decide +kernel
theorem dX3_lightAt_15 : decode cX3_lightAt 15 = .ok (.aload_n 0, 1) := by decide +kernel
theorem dX3_lightAt_16 : decode cX3_lightAt 16 = .ok (.getfield 27, 3) := by decide +kernel
theorem dX3_lightAt_19 : decode cX3_lightAt 19 = .ok (.iload_n 1, 1) := by decide +kernel
theorem dX3_lightAt_20 : decode cX3_lightAt 20 = .ok (.iaload, 1) := by decide +kernel
theorem dX3_lightAt_21 : decode cX3_lightAt 21 = .ok (.imul, 1) := by decide +kernel
theorem dX3_lightAt_22 : decode cX3_lightAt 22 = .ok (.bipush 9, 2) := by decide +kernel
theorem dX3_lightAt_24 : decode cX3_lightAt 24 = .ok (.iconst 1, 1) := by decide +kernel
theorem dX3_lightAt_25 : decode cX3_lightAt 25 = .ok (.aload_n 0, 1) := by decide +kernel
theorem dX3_lightAt_26 : decode cX3_lightAt 26 = .ok (.getfield 30, 3) := by decide +kernel
theorem dX3_lightAt_29 : decode cX3_lightAt 29 = .ok (.iload_n 1, 1) := by decide +kernel
theorem dX3_lightAt_30 : decode cX3_lightAt 30 = .ok (.iaload, 1) := by decide +kernel
theorem dX3_lightAt_31 : decode cX3_lightAt 31 = .ok (.invokestatic 106, 3) := by decide +kernel
theorem dX3_lightAt_34 : decode cX3_lightAt 34 = .ok (.imul, 1) := by decide +kernel
theorem dX3_lightAt_35 : decode cX3_lightAt 35 = .ok (.idiv, 1) := by decide +kernel
theorem dX3_lightAt_36 : decode cX3_lightAt 36 = .ok (.ireturn, 1) := by decide +kernel
set_option maxRecDepth 100000 in
theorem tj_X3_lightAt_14 {g : GT} {n nf : Int} (hu : Up true nf n) (a1 a2 : Int) (M : Mem) : AW g true RX3 cX3_lightAt 3 (some .int) (1) n n nf 14 [(0, 2, 13), (1, 0, a1), (2, 0, a2)] [] n M (j_X3_lightAt_14 a1 a2 M) := by
  unfold j_X3_lightAt_14
  refine r_iload_n 2 dX3_lightAt_14 rfl rfl ?_
  refine r_aload_n 0 dX3_lightAt_15 rfl rfl ?_
  refine r_gx (kz := 5) rfl hu dX3_lightAt_16 kF_X3_27 kd_13 rfl rfl rfl fx_13_5 ?_
  refine r_iload_n 1 dX3_lightAt_19 rfl rfl ?_
  refine r_ok (fun h6 => ?_)
  refine r_iald hu dX3_lightAt_20 kd_19 rfl (Or.inl rfl) rfl ln_19 h6 ?_
  refine r_ok (fun h7 => ?_)
  refine r_imul dX3_lightAt_21 h7 ?_
  refine r_bipush dX3_lightAt_22 (by decide) ⟨by decide, by decide⟩ ?_
  refine r_iconst dX3_lightAt_24 ⟨by decide, by decide⟩ ?_
  refine r_aload_n 0 dX3_lightAt_25 rfl rfl ?_
  refine r_gx (kz := 6) rfl hu dX3_lightAt_26 kF_X3_30 kd_13 rfl rfl rfl fx_13_6 ?_
  refine r_iload_n 1 dX3_lightAt_29 rfl rfl ?_
  refine r_iald hu dX3_lightAt_30 kd_20 rfl (Or.inl rfl) rfl ln_20 h6 ?_
  refine r_ins (a := 0) ⟨Nat.le_refl _, Nat.le_refl _⟩ dX3_lightAt_31 kM_X3_106 (by decide) (by decide) [(0, 1), (0, M 20 a1)] rfl (sk := [(0, 9), (0, a2 * (M 19 a1))]) rfl (Nat.le_of_ble_eq_true rfl) rfl rfl (m_J9_max_7cf53 hu M 1 (M 20 a1)) (fun r8 M9 => ?_)
  refine r_ok (fun h10 => ?_)
  refine r_imul dX3_lightAt_34 h10 ?_
  refine r_ok (fun h11 => ?_)
  refine r_idivP dX3_lightAt_35 h11 ?_
  exact r_iret rfl rfl (Or.inl rfl) dX3_lightAt_36
set_option maxRecDepth 100000 in
theorem m_X3_lightAt {g : GT} {n nf : Int} (hu : Up true nf n) (M : Mem) (a1 a2 : Int) : AM g true yX3_lightAt cX3_lightAt 3 (some .int) (1) n n nf [(2, 13), (0, a1), (0, a2)] M (f_X3_lightAt M a1 a2) := by
  refine AM_of (by decide +kernel) (Nat.le_of_ble_eq_true rfl) (fun h => absurd h (Int.lt_irrefl n)) ?_
  show AW g true RX3 cX3_lightAt 3 (some .int) (1) n n nf 0 [(0, 2, 13), (1, 0, a1), (2, 0, a2)] [] n M (f_X3_lightAt M a1 a2)
  unfold f_X3_lightAt
  refine r_aload_n 0 dX3_lightAt_0 rfl rfl ?_
  refine r_gx (kz := 6) rfl hu dX3_lightAt_1 kF_X3_30 kd_13 rfl rfl rfl fx_13_6 ?_
  refine r_iload_n 1 dX3_lightAt_4 rfl rfl ?_
  refine r_ok (fun h1 => ?_)
  refine r_iald hu dX3_lightAt_5 kd_20 rfl (Or.inl rfl) rfl ln_20 h1 ?_
  refine r_if_ne (tgt := 14) dX3_lightAt_6 rfl (fun h2 => ?_) (fun h3 => ?_)
  · refine r_aload_n 0 dX3_lightAt_9 rfl rfl ?_
    refine r_iload_n 1 dX3_lightAt_10 rfl rfl ?_
    refine r_invv (a := 13) hu ⟨Nat.le_refl _, Nat.le_refl _⟩ dX3_lightAt_11 kM_X3_103 (ci := 3) rfl kd_13 rfl rfl (by decide) (by decide) [(0, a1)] rfl (sk := []) rfl (Nat.le_of_ble_eq_true rfl) rfl (m_X3_lookForLight hu M a1) (fun r4 M5 => ?_)
    exact tj_X3_lightAt_14 hu a1 a2 M5
  · exact tj_X3_lightAt_14 hu a1 a2 M
theorem dX9_at_0 : decode cX9_at 0 = .ok (.iload_n 1, 1) := by decide +kernel
theorem dX9_at_1 : decode cX9_at 1 = .ok (.ifCond .lt 20, 3) := by decide +kernel
theorem dX9_at_4 : decode cX9_at 4 = .ok (.iload_n 1, 1) := by decide +kernel
theorem dX9_at_5 : decode cX9_at 5 = .ok (.aload_n 0, 1) := by decide +kernel
theorem dX9_at_6 : decode cX9_at 6 = .ok (.getfield 15, 3) := by decide +kernel
theorem dX9_at_9 : decode cX9_at 9 = .ok (.if_icmp .ge 12, 3) := by decide +kernel
theorem dX9_at_12 : decode cX9_at 12 = .ok (.aload_n 0, 1) := by decide +kernel
theorem dX9_at_13 : decode cX9_at 13 = .ok (.getfield 9, 3) := by decide +kernel
theorem dX9_at_16 : decode cX9_at 16 = .ok (.iload_n 1, 1) := by decide +kernel
theorem dX9_at_17 : decode cX9_at 17 = .ok (.iaload, 1) := by decide +kernel
theorem dX9_at_18 : decode cX9_at 18 = .ok (.goto 4, 3) := by decide +kernel
theorem dX9_at_21 : decode cX9_at 21 = .ok (.iconst (-1), 1) := by decide +kernel
theorem dX9_at_22 : decode cX9_at 22 = .ok (.ireturn, 1) := by decide +kernel
set_option maxRecDepth 100000 in
theorem m_X9_at {g : GT} {n nf : Int} (hu : Up true nf n) (M : Mem) (a1 : Int) : AM g true yX9_at cX9_at 2 (some .int) (0) n n nf [(2, 2), (0, a1)] M (f_X9_at M a1) := by
  refine AM_of (by decide +kernel) (Nat.le_of_ble_eq_true rfl) (fun h => absurd h (Int.lt_irrefl n)) ?_
  show AW g true RX9 cX9_at 2 (some .int) (0) n n nf 0 [(0, 2, 2), (1, 0, a1)] [] n M (f_X9_at M a1)
  unfold f_X9_at
  refine r_iload_n 1 dX9_at_0 rfl rfl ?_
  refine r_if_lt (tgt := 21) dX9_at_1 rfl (fun h1 => ?_) (fun h2 => ?_)
  · refine r_iconst dX9_at_21 ⟨by decide, by decide⟩ ?_
    exact r_iret rfl rfl (Or.inl rfl) dX9_at_22
  · refine r_iload_n 1 dX9_at_4 rfl rfl ?_
    refine r_aload_n 0 dX9_at_5 rfl rfl ?_
    refine r_gf (t := 0) (kz := 1) rfl hu dX9_at_6 kF_X9_15 kd_2 rfl rfl rfl ?_
    refine r_icmp_ge (tgt := 21) dX9_at_9 rfl (fun h3 => ?_) (fun h4 => ?_)
    · refine r_iconst dX9_at_21 ⟨by decide, by decide⟩ ?_
      exact r_iret rfl rfl (Or.inl rfl) dX9_at_22
    · refine r_aload_n 0 dX9_at_12 rfl rfl ?_
      refine r_gx (kz := 0) rfl hu dX9_at_13 kF_X9_9 kd_2 rfl rfl rfl fx_2_0 ?_
      refine r_iload_n 1 dX9_at_16 rfl rfl ?_
      refine r_ok (fun h5 => ?_)
      refine r_iald hu dX9_at_17 kd_3 rfl (Or.inl rfl) rfl ln_3 h5 ?_
      refine r_goto (tgt := 22) dX9_at_18 rfl ?_
      exact r_iret rfl rfl (Or.inl rfl) dX9_at_22
theorem dX11_isLetter_0 : decode cX11_isLetter 0 = .ok (.iload_n 0, 1) := by decide +kernel
theorem dX11_isLetter_1 : decode cX11_isLetter 1 = .ok (.bipush 97, 2) := by decide +kernel
theorem dX11_isLetter_3 : decode cX11_isLetter 3 = .ok (.if_icmp .lt 13, 3) := by decide +kernel
theorem dX11_isLetter_6 : decode cX11_isLetter 6 = .ok (.iload_n 0, 1) := by decide +kernel
theorem dX11_isLetter_7 : decode cX11_isLetter 7 = .ok (.bipush 122, 2) := by decide +kernel
theorem dX11_isLetter_9 : decode cX11_isLetter 9 = .ok (.if_icmp .gt 7, 3) := by decide +kernel
theorem dX11_isLetter_12 : decode cX11_isLetter 12 = .ok (.iconst 1, 1) := by decide +kernel
theorem dX11_isLetter_13 : decode cX11_isLetter 13 = .ok (.goto 4, 3) := by decide +kernel
theorem dX11_isLetter_16 : decode cX11_isLetter 16 = .ok (.iconst 0, 1) := by decide +kernel
theorem dX11_isLetter_17 : decode cX11_isLetter 17 = .ok (.ireturn, 1) := by decide +kernel
set_option maxRecDepth 100000 in
theorem m_X11_isLetter {g : GT} {n nf : Int} (hu : Up true nf n) (M : Mem) (a0 : Int) : AM g true yX11_isLetter cX11_isLetter 1 (some .boolean) (0) n n nf [(0, a0)] M (f_X11_isLetter M a0) := by
  refine AM_of (by decide +kernel) (Nat.le_of_ble_eq_true rfl) (fun h => absurd h (Int.lt_irrefl n)) ?_
  show AW g true RX11 cX11_isLetter 1 (some .boolean) (0) n n nf 0 [(0, 0, a0)] [] n M (f_X11_isLetter M a0)
  unfold f_X11_isLetter
  refine r_iload_n 0 dX11_isLetter_0 rfl rfl ?_
  refine r_bipush dX11_isLetter_1 (by decide) ⟨by decide, by decide⟩ ?_
  refine r_icmp_lt (tgt := 16) dX11_isLetter_3 rfl (fun h1 => ?_) (fun h2 => ?_)
  · refine r_iconst dX11_isLetter_16 ⟨by decide, by decide⟩ ?_
    exact r_iret rfl rfl (Or.inr ⟨rfl, Or.inl rfl⟩) dX11_isLetter_17
  · refine r_iload_n 0 dX11_isLetter_6 rfl rfl ?_
    refine r_bipush dX11_isLetter_7 (by decide) ⟨by decide, by decide⟩ ?_
    refine r_icmp_gt (tgt := 16) dX11_isLetter_9 rfl (fun h3 => ?_) (fun h4 => ?_)
    · refine r_iconst dX11_isLetter_16 ⟨by decide, by decide⟩ ?_
      exact r_iret rfl rfl (Or.inr ⟨rfl, Or.inl rfl⟩) dX11_isLetter_17
    · refine r_iconst dX11_isLetter_12 ⟨by decide, by decide⟩ ?_
      refine r_goto (tgt := 17) dX11_isLetter_13 rfl ?_
      exact r_iret rfl rfl (Or.inr ⟨rfl, Or.inr rfl⟩) dX11_isLetter_17
theorem dX11_withLetter_0 : decode cX11_withLetter 0 = .ok (.iconst 1, 1) := by decide +kernel
theorem dX11_withLetter_1 : decode cX11_withLetter 1 = .ok (.istore_n 3, 1) := by decide +kernel
theorem dX11_withLetter_2 : decode cX11_withLetter 2 = .ok (.iload_n 1, 1) := by decide +kernel
theorem dX11_withLetter_3 : decode cX11_withLetter 3 = .ok (.istore 4, 2) := by decide +kernel
theorem dX11_withLetter_5 : decode cX11_withLetter 5 = .ok (.iload 4, 2) := by decide +kernel
theorem dX11_withLetter_7 : decode cX11_withLetter 7 = .ok (.iconst 5, 1) := by decide +kernel
theorem dX11_withLetter_8 : decode cX11_withLetter 8 = .ok (.if_icmp .ge 14, 3) := by decide +kernel
theorem dX11_withLetter_11 : decode cX11_withLetter 11 = .ok (.iload_n 3, 1) := by decide +kernel
theorem dX11_withLetter_12 : decode cX11_withLetter 12 = .ok (.bipush 27, 2) := by decide +kernel
theorem dX11_withLetter_14 : decode cX11_withLetter 14 = .ok (.imul, 1) := by decide +kernel
theorem dX11_withLetter_15 : decode cX11_withLetter 15 = .ok (.istore_n 3, 1) := by decide +kernel
theorem dX11_withLetter_16 : decode cX11_withLetter 16 = .ok (.iinc 4 1, 3) := by decide +kernel
theorem dX11_withLetter_19 : decode cX11_withLetter 19 = .ok (.goto (-14), 3) := by decide +kernel
theorem dX11_withLetter_22 : decode cX11_withLetter 22 = .ok (.iload_n 0, 1) := by decide +kernel
theorem dX11_withLetter_23 : decode cX11_withLetter 23 = .ok (.iload_n 2, 1) := by decide +kernel
theorem dX11_withLetter_24 : decode cX11_withLetter 24 = .ok (.iload_n 3, 1) := by decide +kernel
theorem dX11_withLetter_25 : decode cX11_withLetter 25 = .ok (.imul, 1) := by decide +kernel
theorem dX11_withLetter_26 : decode cX11_withLetter 26 = .ok (.iadd, 1) := by decide +kernel
theorem dX11_withLetter_27 : decode cX11_withLetter 27 = .ok (.ireturn, 1) := by decide +kernel
set_option maxRecDepth 100000 in
theorem tb_X11_withLetter_5 {g : GT} {n nf : Int} (hu : Up true nf n) (a0 a2 : Int) (w5 : Mem → Int → Int → Res) (hw5 : ∀ (M : Mem) (x3 x4 : Int), AW g true RX11 cX11_withLetter 5 (some .int) (0) n n nf 5 [(0, 0, a0), (2, 0, a2), (3, 0, x3), (4, 0, x4)] [] n M (w5 M x3 x4)) (M : Mem) (x3 x4 : Int) : AW g true RX11 cX11_withLetter 5 (some .int) (0) n n nf 5 [(0, 0, a0), (2, 0, a2), (3, 0, x3), (4, 0, x4)] [] n M (b_X11_withLetter_5 a0 a2 w5 M x3 x4) := by
  unfold b_X11_withLetter_5
  refine r_iload 3 dX11_withLetter_5 rfl ?_
  refine r_iconst dX11_withLetter_7 ⟨by decide, by decide⟩ ?_
  refine r_icmp_ge (tgt := 22) dX11_withLetter_8 rfl (fun h1 => ?_) (fun h2 => ?_)
  · refine r_iload_n 0 dX11_withLetter_22 rfl rfl ?_
    refine r_iload_n 1 dX11_withLetter_23 rfl rfl ?_
    refine r_iload_n 2 dX11_withLetter_24 rfl rfl ?_
    refine r_ok (fun h3 => ?_)
    refine r_imul dX11_withLetter_25 h3 ?_
    refine r_ok (fun h4 => ?_)
    refine r_iadd dX11_withLetter_26 h4 ?_
    exact r_iret rfl rfl (Or.inl rfl) dX11_withLetter_27
  · refine r_iload_n 2 dX11_withLetter_11 rfl rfl ?_
    refine r_bipush dX11_withLetter_12 (by decide) ⟨by decide, by decide⟩ ?_
    refine r_ok (fun h5 => ?_)
    refine r_imul dX11_withLetter_14 h5 ?_
    refine r_istore_nB dX11_withLetter_15 rfl (by decide) (lf := fun y6 => [(3, 0, y6), (0, 0, a0), (2, 0, a2), (4, 0, x4)]) (fun _ => rfl) (fun y6 ey6 => ?_)
    refine r_ok (fun h7 => ?_)
    refine r_iincB 3 dX11_withLetter_16 rfl h7 (by decide) (lf := fun y8 => [(4, 0, y8), (3, 0, y6), (0, 0, a0), (2, 0, a2)]) (fun _ => rfl) (fun y8 ey8 => ?_)
    refine r_goto (tgt := 5) dX11_withLetter_19 rfl ?_
    refine r_sub [2, 3, 1, 0] (ls' := [(0, 0, a0), (2, 0, a2), (3, 0, y6), (4, 0, y8)]) rfl ?_
    exact hw5 M y6 y8
set_option maxRecDepth 100000 in
theorem m_X11_withLetter {g : GT} {n nf : Int} (hu : Up true nf n) (M : Mem) (a0 a1 a2 : Int) : AM g true yX11_withLetter cX11_withLetter 5 (some .int) (0) n n nf [(0, a0), (0, a1), (0, a2)] M (f_X11_withLetter M a0 a1 a2) := by
  refine AM_of (by decide +kernel) (Nat.le_of_ble_eq_true rfl) (fun h => absurd h (Int.lt_irrefl n)) ?_
  show AW g true RX11 cX11_withLetter 5 (some .int) (0) n n nf 0 [(0, 0, a0), (1, 0, a1), (2, 0, a2)] [] n M (f_X11_withLetter M a0 a1 a2)
  unfold f_X11_withLetter
  refine r_iconst dX11_withLetter_0 ⟨by decide, by decide⟩ ?_
  refine r_istore_n dX11_withLetter_1 rfl (by decide) (ls' := [(3, 0, 1), (0, 0, a0), (1, 0, a1), (2, 0, a2)]) rfl ?_
  refine r_iload_n 2 dX11_withLetter_2 rfl rfl ?_
  refine r_istore dX11_withLetter_3 (by decide) (ls' := [(4, 0, a1), (3, 0, 1), (0, 0, a0), (1, 0, a1), (2, 0, a2)]) rfl ?_
  refine r_sub [2, 4, 1, 0] (ls' := [(0, 0, a0), (2, 0, a2), (3, 0, 1), (4, 0, a1)]) rfl ?_
  exact wl2_aw (P := fun M x3 x4 o => AW g true RX11 cX11_withLetter 5 (some .int) (0) n n nf 5 [(0, 0, a0), (2, 0, a2), (3, 0, x3), (4, 0, x4)] [] n M (o)) (fun M x3 x4 => aw_none) (fun w hw M x3 x4 => tb_X11_withLetter_5 hu a0 a2 w hw M x3 x4) FU M 1 a1
theorem dX11_isDigit_0 : decode cX11_isDigit 0 = .ok (.iload_n 0, 1) := by decide +kernel
theorem dX11_isDigit_1 : decode cX11_isDigit 1 = .ok (.bipush 48, 2) := by decide +kernel
theorem dX11_isDigit_3 : decode cX11_isDigit 3 = .ok (.if_icmp .lt 13, 3) := by decide +kernel
theorem dX11_isDigit_6 : decode cX11_isDigit 6 = .ok (.iload_n 0, 1) := by decide +kernel
theorem dX11_isDigit_7 : decode cX11_isDigit 7 = .ok (.bipush 57, 2) := by decide +kernel
theorem dX11_isDigit_9 : decode cX11_isDigit 9 = .ok (.if_icmp .gt 7, 3) := by decide +kernel
theorem dX11_isDigit_12 : decode cX11_isDigit 12 = .ok (.iconst 1, 1) := by decide +kernel
theorem dX11_isDigit_13 : decode cX11_isDigit 13 = .ok (.goto 4, 3) := by decide +kernel
theorem dX11_isDigit_16 : decode cX11_isDigit 16 = .ok (.iconst 0, 1) := by decide +kernel
theorem dX11_isDigit_17 : decode cX11_isDigit 17 = .ok (.ireturn, 1) := by decide +kernel
set_option maxRecDepth 100000 in
theorem m_X11_isDigit {g : GT} {n nf : Int} (hu : Up true nf n) (M : Mem) (a0 : Int) : AM g true yX11_isDigit cX11_isDigit 1 (some .boolean) (0) n n nf [(0, a0)] M (f_X11_isDigit M a0) := by
  refine AM_of (by decide +kernel) (Nat.le_of_ble_eq_true rfl) (fun h => absurd h (Int.lt_irrefl n)) ?_
  show AW g true RX11 cX11_isDigit 1 (some .boolean) (0) n n nf 0 [(0, 0, a0)] [] n M (f_X11_isDigit M a0)
  unfold f_X11_isDigit
  refine r_iload_n 0 dX11_isDigit_0 rfl rfl ?_
  refine r_bipush dX11_isDigit_1 (by decide) ⟨by decide, by decide⟩ ?_
  refine r_icmp_lt (tgt := 16) dX11_isDigit_3 rfl (fun h1 => ?_) (fun h2 => ?_)
  · refine r_iconst dX11_isDigit_16 ⟨by decide, by decide⟩ ?_
    exact r_iret rfl rfl (Or.inr ⟨rfl, Or.inl rfl⟩) dX11_isDigit_17
  · refine r_iload_n 0 dX11_isDigit_6 rfl rfl ?_
    refine r_bipush dX11_isDigit_7 (by decide) ⟨by decide, by decide⟩ ?_
    refine r_icmp_gt (tgt := 16) dX11_isDigit_9 rfl (fun h3 => ?_) (fun h4 => ?_)
    · refine r_iconst dX11_isDigit_16 ⟨by decide, by decide⟩ ?_
      exact r_iret rfl rfl (Or.inr ⟨rfl, Or.inl rfl⟩) dX11_isDigit_17
    · refine r_iconst dX11_isDigit_12 ⟨by decide, by decide⟩ ?_
      refine r_goto (tgt := 17) dX11_isDigit_13 rfl ?_
      exact r_iret rfl rfl (Or.inr ⟨rfl, Or.inr rfl⟩) dX11_isDigit_17
theorem dX4_isGlued_0 : decode cX4_isGlued 0 = .ok (.aload_n 0, 1) := by decide +kernel
theorem dX4_isGlued_1 : decode cX4_isGlued 1 = .ok (.getfield 24, 3) := by decide +kernel
theorem dX4_isGlued_4 : decode cX4_isGlued 4 = .ok (.iload_n 1, 1) := by decide +kernel
theorem dX4_isGlued_5 : decode cX4_isGlued 5 = .ok (.iconst 1, 1) := by decide +kernel
theorem dX4_isGlued_6 : decode cX4_isGlued 6 = .ok (.isub, 1) := by decide +kernel
theorem dX4_isGlued_7 : decode cX4_isGlued 7 = .ok (.invokevirtual 52, 3) := by decide +kernel
theorem dX4_isGlued_10 : decode cX4_isGlued 10 = .ok (.istore_n 2, 1) := by decide +kernel
theorem dX4_isGlued_11 : decode cX4_isGlued 11 = .ok (.iload_n 2, 1) := by decide +kernel
theorem dX4_isGlued_12 : decode cX4_isGlued 12 = .ok (.invokestatic 56, 3) := by decide +kernel
theorem dX4_isGlued_15 : decode cX4_isGlued 15 = .ok (.ifCond .ne 10, 3) := by decide +kernel
theorem dX4_isGlued_18 : decode cX4_isGlued 18 = .ok (.iload_n 2, 1) := by decide +kernel
theorem dX4_isGlued_19 : decode cX4_isGlued 19 = .ok (.invokestatic 63, 3) := by decide +kernel
theorem dX4_isGlued_22 : decode cX4_isGlued 22 = .ok (.ifCond .eq 7, 3) := by decide +kernel
theorem dX4_isGlued_25 : decode cX4_isGlued 25 = .ok (.iconst 1, 1) := by decide +kernel
theorem dX4_isGlued_26 : decode cX4_isGlued 26 = .ok (.goto 4, 3) := by decide +kernel
theorem dX4_isGlued_29 : decode cX4_isGlued 29 = .ok (.iconst 0, 1) := by decide +kernel
theorem dX4_isGlued_30 : decode cX4_isGlued 30 = .ok (.ireturn, 1) := by decide +kernel
set_option maxRecDepth 100000 in
theorem m_X4_isGlued {g : GT} {n nf : Int} (hu : Up true nf n) (M : Mem) (a1 : Int) : AM g true yX4_isGlued cX4_isGlued 3 (some .boolean) (1) n n nf [(2, 5), (0, a1)] M (f_X4_isGlued M a1) := by
  refine AM_of (by decide +kernel) (Nat.le_of_ble_eq_true rfl) (fun h => absurd h (Int.lt_irrefl n)) ?_
  show AW g true RX4 cX4_isGlued 3 (some .boolean) (1) n n nf 0 [(0, 2, 5), (1, 0, a1)] [] n M (f_X4_isGlued M a1)
  unfold f_X4_isGlued
  refine r_aload_n 0 dX4_isGlued_0 rfl rfl ?_
  refine r_gx (kz := 0) rfl hu dX4_isGlued_1 kF_X4_24 kd_5 rfl rfl rfl fx_5_0 ?_
  refine r_iload_n 1 dX4_isGlued_4 rfl rfl ?_
  refine r_iconst dX4_isGlued_5 ⟨by decide, by decide⟩ ?_
  refine r_ok (fun h1 => ?_)
  refine r_isub dX4_isGlued_6 h1 ?_
  refine r_inv (a := 2) hu ⟨Nat.le_refl _, Nat.le_refl _⟩ dX4_isGlued_7 kM_X4_52 (ci := 9) rfl kd_2 rfl rfl (by decide) (by decide) [(0, a1 - 1)] rfl (sk := []) rfl (Nat.le_of_ble_eq_true rfl) rfl rfl (m_X9_at hu M (a1 - 1)) (fun r2 M3 => ?_)
  refine r_istore_n dX4_isGlued_10 rfl (by decide) (ls' := [(2, 0, r2), (0, 2, 5), (1, 0, a1)]) rfl ?_
  refine r_iload_n 0 dX4_isGlued_11 rfl rfl ?_
  refine r_ins (a := 0) ⟨Nat.le_refl _, Nat.le_refl _⟩ dX4_isGlued_12 kM_X4_56 (by decide) (by decide) [(0, r2)] rfl (sk := []) rfl (Nat.le_of_ble_eq_true rfl) rfl rfl (m_X11_isLetter hu M3 r2) (fun r4 M5 => ?_)
  refine r_if_ne (tgt := 25) dX4_isGlued_15 rfl (fun h6 => ?_) (fun h7 => ?_)
  · refine r_iload_n 0 dX4_isGlued_18 rfl rfl ?_
    refine r_ins (a := 0) ⟨Nat.le_refl _, Nat.le_refl _⟩ dX4_isGlued_19 kM_X4_63 (by decide) (by decide) [(0, r2)] rfl (sk := []) rfl (Nat.le_of_ble_eq_true rfl) rfl rfl (m_X11_isDigit hu M5 r2) (fun r8 M9 => ?_)
    refine r_if_eq (tgt := 29) dX4_isGlued_22 rfl (fun h10 => ?_) (fun h11 => ?_)
    · refine r_iconst dX4_isGlued_29 ⟨by decide, by decide⟩ ?_
      exact r_iret rfl rfl (Or.inr ⟨rfl, Or.inl rfl⟩) dX4_isGlued_30
    · refine r_iconst dX4_isGlued_25 ⟨by decide, by decide⟩ ?_
      refine r_goto (tgt := 30) dX4_isGlued_26 rfl ?_
      exact r_iret rfl rfl (Or.inr ⟨rfl, Or.inr rfl⟩) dX4_isGlued_30
  · refine r_iconst dX4_isGlued_25 ⟨by decide, by decide⟩ ?_
    refine r_goto (tgt := 30) dX4_isGlued_26 rfl ?_
    exact r_iret rfl rfl (Or.inr ⟨rfl, Or.inr rfl⟩) dX4_isGlued_30
theorem dX4_add_0 : decode cX4_add 0 = .ok (.aload_n 0, 1) := by decide +kernel
theorem dX4_add_1 : decode cX4_add 1 = .ok (.getfield 44, 3) := by decide +kernel
theorem dX4_add_4 : decode cX4_add 4 = .ok (.sipush 900, 3) := by decide +kernel
theorem dX4_add_7 : decode cX4_add 7 = .ok (.if_icmp .gt 43, 3) := by decide +kernel
theorem dX4_add_10 : decode cX4_add 10 = .ok (.aload_n 0, 1) := by decide +kernel
theorem dX4_add_11 : decode cX4_add 11 = .ok (.getfield 15, 3) := by decide +kernel
theorem dX4_add_14 : decode cX4_add 14 = .ok (.aload_n 0, 1) := by decide +kernel
theorem dX4_add_15 : decode cX4_add 15 = .ok (.getfield 44, 3) := by decide +kernel
theorem dX4_add_18 : decode cX4_add 18 = .ok (.iload_n 1, 1) := by decide +kernel
theorem dX4_add_19 : decode cX4_add 19 = .ok (.iastore, 1) := by decide +kernel
theorem dX4_add_20 : decode cX4_add 20 = .ok (.aload_n 0, 1) := by decide +kernel
theorem dX4_add_21 : decode cX4_add 21 = .ok (.getfield 18, 3) := by decide +kernel
theorem dX4_add_24 : decode cX4_add 24 = .ok (.aload_n 0, 1) := by decide +kernel
theorem dX4_add_25 : decode cX4_add 25 = .ok (.getfield 44, 3) := by decide +kernel
theorem dX4_add_28 : decode cX4_add 28 = .ok (.iload_n 2, 1) := by decide +kernel
theorem dX4_add_29 : decode cX4_add 29 = .ok (.iastore, 1) := by decide +kernel
theorem dX4_add_30 : decode cX4_add 30 = .ok (.aload_n 0, 1) := by decide +kernel
theorem dX4_add_31 : decode cX4_add 31 = .ok (.getfield 21, 3) := by decide +kernel
theorem dX4_add_34 : decode cX4_add 34 = .ok (.aload_n 0, 1) := by decide +kernel
theorem dX4_add_35 : decode cX4_add 35 = .ok (.getfield 44, 3) := by decide +kernel
theorem dX4_add_38 : decode cX4_add 38 = .ok (.iload_n 3, 1) := by decide +kernel
theorem dX4_add_39 : decode cX4_add 39 = .ok (.iastore, 1) := by decide +kernel
theorem dX4_add_40 : decode cX4_add 40 = .ok (.aload_n 0, 1) := by decide +kernel
theorem dX4_add_41 : decode cX4_add 41 = .ok (.dup, 1) := by decide +kernel
theorem dX4_add_42 : decode cX4_add 42 = .ok (.getfield 44, 3) := by decide +kernel
theorem dX4_add_45 : decode cX4_add 45 = .ok (.iconst 1, 1) := by decide +kernel
theorem dX4_add_46 : decode cX4_add 46 = .ok (.iadd, 1) := by decide +kernel
theorem dX4_add_47 : decode cX4_add 47 = .ok (.putfield 44, 3) := by decide +kernel
theorem dX4_add_50 : decode cX4_add 50 = .ok (.return_, 1) := by decide +kernel
set_option maxRecDepth 100000 in
theorem m_X4_add {g : GT} {n nf : Int} (hu : Up true nf n) (M : Mem) (a1 a2 a3 : Int) : AM g true yX4_add cX4_add 4 none (0) n n nf [(2, 5), (0, a1), (0, a2), (0, a3)] M (f_X4_add M a1 a2 a3) := by
  refine AM_of (by decide +kernel) (Nat.le_of_ble_eq_true rfl) (fun h => absurd h (Int.lt_irrefl n)) ?_
  show AW g true RX4 cX4_add 4 none (0) n n nf 0 [(0, 2, 5), (1, 0, a1), (2, 0, a2), (3, 0, a3)] [] n M (f_X4_add M a1 a2 a3)
  unfold f_X4_add
  refine r_aload_n 0 dX4_add_0 rfl rfl ?_
  refine r_gf (t := 0) (kz := 5) rfl hu dX4_add_1 kF_X4_44 kd_5 rfl rfl rfl ?_
  refine r_sipush dX4_add_4 (by decide) ⟨by decide, by decide⟩ ?_
  refine r_icmp_gt (tgt := 50) dX4_add_7 rfl (fun h1 => ?_) (fun h2 => ?_)
  · exact r_vret rfl rfl dX4_add_50
  · refine r_aload_n 0 dX4_add_10 rfl rfl ?_
    refine r_gx (kz := 2) rfl hu dX4_add_11 kF_X4_15 kd_5 rfl rfl rfl fx_5_2 ?_
    refine r_aload_n 0 dX4_add_14 rfl rfl ?_
    refine r_gf (t := 0) (kz := 5) rfl hu dX4_add_15 kF_X4_44 kd_5 rfl rfl rfl ?_
    refine r_iload_n 1 dX4_add_18 rfl rfl ?_
    refine r_ok (fun h3 => ?_)
    refine r_iast hu dX4_add_19 kd_7 rfl (Or.inl rfl) rfl ln_7 h3 rfl (fun M4 eM4 => ?_)
    refine r_aload_n 0 dX4_add_20 rfl rfl ?_
    refine r_gx (kz := 3) rfl hu dX4_add_21 kF_X4_18 kd_5 rfl rfl rfl fx_5_3 ?_
    refine r_aload_n 0 dX4_add_24 rfl rfl ?_
    refine r_gf (t := 0) (kz := 5) rfl hu dX4_add_25 kF_X4_44 kd_5 rfl rfl rfl ?_
    refine r_iload_n 2 dX4_add_28 rfl rfl ?_
    refine r_ok (fun h5 => ?_)
    refine r_iast hu dX4_add_29 kd_8 rfl (Or.inl rfl) rfl ln_8 h5 rfl (fun M6 eM6 => ?_)
    refine r_aload_n 0 dX4_add_30 rfl rfl ?_
    refine r_gx (kz := 4) rfl hu dX4_add_31 kF_X4_21 kd_5 rfl rfl rfl fx_5_4 ?_
    refine r_aload_n 0 dX4_add_34 rfl rfl ?_
    refine r_gf (t := 0) (kz := 5) rfl hu dX4_add_35 kF_X4_44 kd_5 rfl rfl rfl ?_
    refine r_iload_n 3 dX4_add_38 rfl rfl ?_
    refine r_ok (fun h7 => ?_)
    refine r_iast hu dX4_add_39 kd_9 rfl (Or.inl rfl) rfl ln_9 h7 rfl (fun M8 eM8 => ?_)
    refine r_aload_n 0 dX4_add_40 rfl rfl ?_
    refine r_dup dX4_add_41 (nz2 _) ?_
    refine r_gf (t := 0) (kz := 5) rfl hu dX4_add_42 kF_X4_44 kd_5 rfl rfl rfl ?_
    refine r_iconst dX4_add_45 ⟨by decide, by decide⟩ ?_
    refine r_ok (fun h9 => ?_)
    refine r_iadd dX4_add_46 h9 ?_
    refine r_pf (t := 0) (kz := 5) rfl hu dX4_add_47 kF_X4_44 kd_5 rfl rfl rfl (fun h => absurd h (by decide)) rfl kX_4_5 (fun M10 eM10 => ?_)
    exact r_vret rfl rfl dX4_add_50
