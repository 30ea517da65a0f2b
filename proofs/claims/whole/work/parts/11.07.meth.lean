theorem dX12_timesTold_0 : decode cX12_timesTold 0 = .ok (.aload_n 0, 1) := by decide +kernel
theorem dX12_timesTold_1 : decode cX12_timesTold 1 = .ok (.getfield 149, 3) := by decide +kernel
theorem dX12_timesTold_4 : decode cX12_timesTold 4 = .ok (.aload_n 0, 1) := by decide +kernel
theorem dX12_timesTold_5 : decode cX12_timesTold 5 = .ok (.getfield 131, 3) := by decide +kernel
theorem dX12_timesTold_8 : decode cX12_timesTold 8 = .ok (.iconst 0, 1) := by decide +kernel
theorem dX12_timesTold_9 : decode cX12_timesTold 9 = .ok (.iaload, 1) := by decide +kernel
theorem dX12_timesTold_10 : decode cX12_timesTold 10 = .ok (.aload_n 0, 1) := by decide +kernel
theorem dX12_timesTold_11 : decode cX12_timesTold 11 = .ok (.iconst 1, 1) := by decide +kernel
theorem dX12_timesTold_12 : decode cX12_timesTold 12 = .ok (.bipush 9, 2) := by decide +kernel
theorem dX12_timesTold_14 : decode cX12_timesTold 14 = .ok (.invokevirtual 314, 3) := by decide +kernel
theorem dX12_timesTold_17 : decode cX12_timesTold 17 = .ok (.iastore, 1) := by decide +kernel
theorem dX12_timesTold_18 : decode cX12_timesTold 18 = .ok (.aload_n 0, 1) := by decide +kernel
theorem dX12_timesTold_19 : decode cX12_timesTold 19 = .ok (.invokevirtual 239, 3) := by decide +kernel
theorem dX12_timesTold_22 : decode cX12_timesTold 22 = .ok (.istore_n 1, 1) := by decide +kernel
theorem dX12_timesTold_23 : decode cX12_timesTold 23 = .ok (.aload_n 0, 1) := by decide +kernel
theorem dX12_timesTold_24 : decode cX12_timesTold 24 = .ok (.getfield 227, 3) := by decide +kernel
theorem dX12_timesTold_27 : decode cX12_timesTold 27 = .ok (.ifCond .ne 18, 3) := by decide +kernel
theorem dX12_timesTold_30 : decode cX12_timesTold 30 = .ok (.iload_n 1, 1) := by decide +kernel
theorem dX12_timesTold_31 : decode cX12_timesTold 31 = .ok (.bipush 91, 2) := by decide +kernel
theorem dX12_timesTold_33 : decode cX12_timesTold 33 = .ok (.if_icmp .eq 12, 3) := by decide +kernel
theorem dX12_timesTold_36 : decode cX12_timesTold 36 = .ok (.aload_n 0, 1) := by decide +kernel
theorem dX12_timesTold_37 : decode cX12_timesTold 37 = .ok (.iconst 1, 1) := by decide +kernel
theorem dX12_timesTold_38 : decode cX12_timesTold 38 = .ok (.aload_n 0, 1) := by decide +kernel
theorem dX12_timesTold_39 : decode cX12_timesTold 39 = .ok (.getfield 233, 3) := by decide +kernel
theorem dX12_timesTold_42 : decode cX12_timesTold 42 = .ok (.invokevirtual 257, 3) := by decide +kernel
theorem dX12_timesTold_45 : decode cX12_timesTold 45 = .ok (.aload_n 0, 1) := by decide +kernel
theorem dX12_timesTold_46 : decode cX12_timesTold 46 = .ok (.getfield 227, 3) := by decide +kernel
theorem dX12_timesTold_49 : decode cX12_timesTold 49 = .ok (.ifCond .ne 21, 3) := by decide +kernel
theorem dX12_timesTold_52 : decode cX12_timesTold 52 = .ok (.aload_n 0, 1) := by decide +kernel
theorem dX12_timesTold_53 : decode cX12_timesTold 53 = .ok (.getfield 348, 3) := by decide +kernel
theorem dX12_timesTold_56 : decode cX12_timesTold 56 = .ok (.bipush 6, 2) := by decide +kernel
theorem dX12_timesTold_58 : decode cX12_timesTold 58 = .ok (.if_icmp .ne 12, 3) := by decide +kernel
theorem dX12_timesTold_61 : decode cX12_timesTold 61 = .ok (.aload_n 0, 1) := by decide +kernel
theorem dX12_timesTold_62 : decode cX12_timesTold 62 = .ok (.iconst 4, 1) := by decide +kernel
theorem dX12_timesTold_63 : decode cX12_timesTold 63 = .ok (.aload_n 0, 1) := by decide +kernel
theorem dX12_timesTold_64 : decode cX12_timesTold 64 = .ok (.getfield 233, 3) := by decide +kernel
theorem dX12_timesTold_67 : decode cX12_timesTold 67 = .ok (.invokevirtual 257, 3) := by decide +kernel
theorem dX12_timesTold_70 : decode cX12_timesTold 70 = .ok (.aload_n 0, 1) := by decide +kernel
theorem dX12_timesTold_71 : decode cX12_timesTold 71 = .ok (.getfield 227, 3) := by decide +kernel
theorem dX12_timesTold_74 : decode cX12_timesTold 74 = .ok (.ifCond .eq 4, 3) := by decide +kernel
theorem dX12_timesTold_77 : decode cX12_timesTold 77 = .ok (.return_, 1) := by decide +kernel
theorem dX12_timesTold_78 : decode cX12_timesTold 78 = .ok (.aload_n 0, 1) := by decide +kernel
theorem dX12_timesTold_79 : decode cX12_timesTold 79 = .ok (.dup, 1) := by decide +kernel
theorem dX12_timesTold_80 : decode cX12_timesTold 80 = .ok (.getfield 233, 3) := by decide +kernel
theorem dX12_timesTold_83 : decode cX12_timesTold 83 = .ok (.iconst 1, 1) := by decide +kernel
theorem dX12_timesTold_84 : decode cX12_timesTold 84 = .ok (.iadd, 1) := by decide +kernel
theorem dX12_timesTold_85 : decode cX12_timesTold 85 = .ok (.putfield 233, 3) := by decide +kernel
theorem dX12_timesTold_88 : decode cX12_timesTold 88 = .ok (.aload_n 0, 1) := by decide +kernel
theorem dX12_timesTold_89 : decode cX12_timesTold 89 = .ok (.dup, 1) := by decide +kernel
theorem dX12_timesTold_90 : decode cX12_timesTold 90 = .ok (.getfield 348, 3) := by decide +kernel
theorem dX12_timesTold_93 : decode cX12_timesTold 93 = .ok (.iconst 1, 1) := by decide +kernel
theorem dX12_timesTold_94 : decode cX12_timesTold 94 = .ok (.iadd, 1) := by decide +kernel
theorem dX12_timesTold_95 : decode cX12_timesTold 95 = .ok (.putfield 348, 3) := by decide +kernel
theorem dX12_timesTold_98 : decode cX12_timesTold 98 = .ok (.aload_n 0, 1) := by decide +kernel
theorem dX12_timesTold_99 : decode cX12_timesTold 99 = .ok (.iconst 1, 1) := by decide +kernel
theorem dX12_timesTold_100 : decode cX12_timesTold 100 = .ok (.invokevirtual 379, 3) := by decide +kernel
theorem dX12_timesTold_103 : decode cX12_timesTold 103 = .ok (.return_, 1) := by decide +kernel
set_option maxRecDepth 100000 in
theorem tj_X12_timesTold_70 {g : GT} {n nf : Int} (hu : Up false nf n) (M : Mem) : AW g false RX12 cX12_timesTold 2 none (2) n n nf 70 [(0, 2, 337)] [] n M (j_X12_timesTold_70 M) := by
  unfold j_X12_timesTold_70
  refine r_aload_n 0 dX12_timesTold_70 rfl rfl ?_
  refine r_gf (t := 0) (kz := 5) rfl hu dX12_timesTold_71 kF_X12_227 kd_337 rfl rfl rfl ?_
  refine r_if_eq (tgt := 78) dX12_timesTold_74 rfl (fun h17 => ?_) (fun h18 => ?_)
  · refine r_aload_n 0 dX12_timesTold_78 rfl rfl ?_
    refine r_dup dX12_timesTold_79 (nz2 _) ?_
    refine r_gf (t := 0) (kz := 2) rfl hu dX12_timesTold_80 kF_X12_233 kd_337 rfl rfl rfl ?_
    refine r_iconst dX12_timesTold_83 ⟨by decide, by decide⟩ ?_
    refine r_ok (fun h19 => ?_)
    refine r_iadd dX12_timesTold_84 h19 ?_
    refine r_pf (t := 0) (kz := 2) rfl hu dX12_timesTold_85 kF_X12_233 kd_337 rfl rfl rfl (fun h => absurd h (by decide)) rfl kX_12_2 (fun M20 eM20 => ?_)
    refine r_aload_n 0 dX12_timesTold_88 rfl rfl ?_
    refine r_dup dX12_timesTold_89 (nz2 _) ?_
    refine r_gf (t := 0) (kz := 52) rfl hu dX12_timesTold_90 kF_X12_348 kd_337 rfl rfl rfl ?_
    refine r_iconst dX12_timesTold_93 ⟨by decide, by decide⟩ ?_
    refine r_ok (fun h21 => ?_)
    refine r_iadd dX12_timesTold_94 h21 ?_
    refine r_pf (t := 0) (kz := 52) rfl hu dX12_timesTold_95 kF_X12_348 kd_337 rfl rfl rfl (fun h => absurd h (by decide)) rfl kX_12_52 (fun M22 eM22 => ?_)
    refine r_aload_n 0 dX12_timesTold_98 rfl rfl ?_
    refine r_iconst dX12_timesTold_99 ⟨by decide, by decide⟩ ?_
    refine r_invv (a := 337) hu ⟨Nat.le_refl _, Nat.le_refl _⟩ dX12_timesTold_100 kM_X12_379 (ci := 12) rfl kd_337 rfl rfl (by decide) (by decide) [(0, 1)] rfl (sk := []) rfl (Nat.le_of_ble_eq_true rfl) rfl (m_X12_step hu M22 1) (fun r23 M24 => ?_)
    exact r_vret rfl rfl dX12_timesTold_103
  · exact r_vret rfl rfl dX12_timesTold_77
set_option maxRecDepth 100000 in
theorem tj_X12_timesTold_45 {g : GT} {n nf : Int} (hu : Up false nf n) (M : Mem) : AW g false RX12 cX12_timesTold 2 none (2) n n nf 45 [(0, 2, 337)] [] n M (j_X12_timesTold_45 M) := by
  unfold j_X12_timesTold_45
  refine r_aload_n 0 dX12_timesTold_45 rfl rfl ?_
  refine r_gf (t := 0) (kz := 5) rfl hu dX12_timesTold_46 kF_X12_227 kd_337 rfl rfl rfl ?_
  refine r_if_ne (tgt := 70) dX12_timesTold_49 rfl (fun h11 => ?_) (fun h12 => ?_)
  · refine r_aload_n 0 dX12_timesTold_52 rfl rfl ?_
    refine r_gf (t := 0) (kz := 52) rfl hu dX12_timesTold_53 kF_X12_348 kd_337 rfl rfl rfl ?_
    refine r_bipush dX12_timesTold_56 (by decide) ⟨by decide, by decide⟩ ?_
    refine r_icmp_ne (tgt := 70) dX12_timesTold_58 rfl (fun h13 => ?_) (fun h14 => ?_)
    · refine r_aload_n 0 dX12_timesTold_61 rfl rfl ?_
      refine r_iconst dX12_timesTold_62 ⟨by decide, by decide⟩ ?_
      refine r_aload_n 0 dX12_timesTold_63 rfl rfl ?_
      refine r_gf (t := 0) (kz := 2) rfl hu dX12_timesTold_64 kF_X12_233 kd_337 rfl rfl rfl ?_
      refine r_invv (a := 337) hu ⟨Nat.le_refl _, Nat.le_refl _⟩ dX12_timesTold_67 kM_X12_257 (ci := 12) rfl kd_337 rfl rfl (by decide) (by decide) [(0, 4), (0, M 337 2)] rfl (sk := []) rfl (Nat.le_of_ble_eq_true rfl) rfl (m_X12_fail hu M 4 (M 337 2)) (fun r15 M16 => ?_)
      exact tj_X12_timesTold_70 hu M16
    · exact tj_X12_timesTold_70 hu M
  · exact tj_X12_timesTold_70 hu M
set_option maxRecDepth 100000 in
theorem m_X12_timesTold {g : GT} {n nf : Int} (hu : Up false nf n) (M : Mem) : AM g false yX12_timesTold cX12_timesTold 2 none (2) n n nf [(2, 337)] M (f_X12_timesTold M) := by
  refine AM_of (by decide +kernel) (Nat.le_of_ble_eq_true rfl) (fun h => absurd h (Int.lt_irrefl n)) ?_
  show AW g false RX12 cX12_timesTold 2 none (2) n n nf 0 [(0, 2, 337)] [] n M (f_X12_timesTold M)
  unfold f_X12_timesTold
  refine r_aload_n 0 dX12_timesTold_0 rfl rfl ?_
  refine r_gx (kz := 59) rfl hu dX12_timesTold_1 kF_X12_149 kd_337 rfl rfl rfl fx_337_59 ?_
  refine r_aload_n 0 dX12_timesTold_4 rfl rfl ?_
  refine r_gx (kz := 53) rfl hu dX12_timesTold_5 kF_X12_131 kd_337 rfl rfl rfl fx_337_53 ?_
  refine r_iconst dX12_timesTold_8 ⟨by decide, by decide⟩ ?_
  refine r_iald hu dX12_timesTold_9 kd_376 rfl (Or.inl rfl) rfl ln_376 ⟨by decide, by decide⟩ ?_
  refine r_aload_n 0 dX12_timesTold_10 rfl rfl ?_
  refine r_iconst dX12_timesTold_11 ⟨by decide, by decide⟩ ?_
  refine r_bipush dX12_timesTold_12 (by decide) ⟨by decide, by decide⟩ ?_
  refine r_inv (a := 337) hu ⟨Nat.le_refl _, Nat.le_refl _⟩ dX12_timesTold_14 kM_X12_314 (ci := 12) rfl kd_337 rfl rfl (by decide) (by decide) [(0, 1), (0, 9)] rfl (sk := [(0, M 376 0), (2, 382)]) rfl (Nat.le_of_ble_eq_true rfl) rfl rfl (m_X12_number hu M 1 9) (fun r1 M2 => ?_)
  refine r_ok (fun h3 => ?_)
  refine r_iast hu dX12_timesTold_17 kd_382 rfl (Or.inl rfl) rfl ln_382 h3 rfl (fun M4 eM4 => ?_)
  refine r_aload_n 0 dX12_timesTold_18 rfl rfl ?_
  refine r_inv (a := 337) hu ⟨Nat.le_refl _, Nat.le_refl _⟩ dX12_timesTold_19 kM_X12_239 (ci := 12) rfl kd_337 rfl rfl (by decide) (by decide) [] rfl (sk := []) rfl (Nat.le_of_ble_eq_true rfl) rfl rfl (m_X12_look hu M4) (fun r5 M6 => ?_)
  refine r_istore_n dX12_timesTold_22 rfl (by decide) (ls' := [(1, 0, r5), (0, 2, 337)]) rfl ?_
  refine r_aload_n 1 dX12_timesTold_23 rfl rfl ?_
  refine r_gf (t := 0) (kz := 5) rfl hu dX12_timesTold_24 kF_X12_227 kd_337 rfl rfl rfl ?_
  refine r_if_ne (tgt := 45) dX12_timesTold_27 rfl (fun h7 => ?_) (fun h8 => ?_)
  · refine r_iload_n 0 dX12_timesTold_30 rfl rfl ?_
    refine r_bipush dX12_timesTold_31 (by decide) ⟨by decide, by decide⟩ ?_
    refine r_icmp_eq (tgt := 45) dX12_timesTold_33 rfl (fun h9 => ?_) (fun h10 => ?_)
    · refine r_sub [1] (ls' := [(0, 2, 337)]) rfl ?_
      exact tj_X12_timesTold_45 hu M6
    · refine r_aload_n 1 dX12_timesTold_36 rfl rfl ?_
      refine r_iconst dX12_timesTold_37 ⟨by decide, by decide⟩ ?_
      refine r_aload_n 1 dX12_timesTold_38 rfl rfl ?_
      refine r_gf (t := 0) (kz := 2) rfl hu dX12_timesTold_39 kF_X12_233 kd_337 rfl rfl rfl ?_
      refine r_invv (a := 337) hu ⟨Nat.le_refl _, Nat.le_refl _⟩ dX12_timesTold_42 kM_X12_257 (ci := 12) rfl kd_337 rfl rfl (by decide) (by decide) [(0, 1), (0, M6 337 2)] rfl (sk := []) rfl (Nat.le_of_ble_eq_true rfl) rfl (m_X12_fail hu M6 1 (M6 337 2)) (fun r25 M26 => ?_)
      refine r_sub [1] (ls' := [(0, 2, 337)]) rfl ?_
      exact tj_X12_timesTold_45 hu M26
  · refine r_sub [1] (ls' := [(0, 2, 337)]) rfl ?_
    exact tj_X12_timesTold_45 hu M6
theorem dX12_planned_0 : decode cX12_planned 0 = .ok (.aload_n 0, 1) := by decide +kernel
theorem dX12_planned_1 : decode cX12_planned 1 = .ok (.invokevirtual 239, 3) := by decide +kernel
theorem dX12_planned_4 : decode cX12_planned 4 = .ok (.istore_n 1, 1) := by decide +kernel
theorem dX12_planned_5 : decode cX12_planned 5 = .ok (.aload_n 0, 1) := by decide +kernel
theorem dX12_planned_6 : decode cX12_planned 6 = .ok (.getfield 348, 3) := by decide +kernel
theorem dX12_planned_9 : decode cX12_planned 9 = .ok (.ifCond .le 41, 3) := by decide +kernel
theorem dX12_planned_12 : decode cX12_planned 12 = .ok (.iload_n 1, 1) := by decide +kernel
theorem dX12_planned_13 : decode cX12_planned 13 = .ok (.bipush 93, 2) := by decide +kernel
theorem dX12_planned_15 : decode cX12_planned 15 = .ok (.if_icmp .ne 35, 3) := by decide +kernel
theorem dX12_planned_18 : decode cX12_planned 18 = .ok (.aload_n 0, 1) := by decide +kernel
theorem dX12_planned_19 : decode cX12_planned 19 = .ok (.dup, 1) := by decide +kernel
theorem dX12_planned_20 : decode cX12_planned 20 = .ok (.getfield 233, 3) := by decide +kernel
theorem dX12_planned_23 : decode cX12_planned 23 = .ok (.iconst 1, 1) := by decide +kernel
theorem dX12_planned_24 : decode cX12_planned 24 = .ok (.iadd, 1) := by decide +kernel
theorem dX12_planned_25 : decode cX12_planned 25 = .ok (.putfield 233, 3) := by decide +kernel
theorem dX12_planned_28 : decode cX12_planned 28 = .ok (.aload_n 0, 1) := by decide +kernel
theorem dX12_planned_29 : decode cX12_planned 29 = .ok (.dup, 1) := by decide +kernel
theorem dX12_planned_30 : decode cX12_planned 30 = .ok (.getfield 348, 3) := by decide +kernel
theorem dX12_planned_33 : decode cX12_planned 33 = .ok (.iconst 1, 1) := by decide +kernel
theorem dX12_planned_34 : decode cX12_planned 34 = .ok (.isub, 1) := by decide +kernel
theorem dX12_planned_35 : decode cX12_planned 35 = .ok (.putfield 348, 3) := by decide +kernel
theorem dX12_planned_38 : decode cX12_planned 38 = .ok (.aload_n 0, 1) := by decide +kernel
theorem dX12_planned_39 : decode cX12_planned 39 = .ok (.iconst 2, 1) := by decide +kernel
theorem dX12_planned_40 : decode cX12_planned 40 = .ok (.invokevirtual 379, 3) := by decide +kernel
theorem dX12_planned_43 : decode cX12_planned 43 = .ok (.aload_n 0, 1) := by decide +kernel
theorem dX12_planned_44 : decode cX12_planned 44 = .ok (.bipush 59, 2) := by decide +kernel
theorem dX12_planned_46 : decode cX12_planned 46 = .ok (.invokevirtual 311, 3) := by decide +kernel
theorem dX12_planned_49 : decode cX12_planned 49 = .ok (.return_, 1) := by decide +kernel
theorem dX12_planned_50 : decode cX12_planned 50 = .ok (.iload_n 1, 1) := by decide +kernel
theorem dX12_planned_51 : decode cX12_planned 51 = .ok (.iconst (-1), 1) := by decide +kernel
theorem dX12_planned_52 : decode cX12_planned 52 = .ok (.if_icmp .eq 22, 3) := by decide +kernel
theorem dX12_planned_55 : decode cX12_planned 55 = .ok (.aload_n 0, 1) := by decide +kernel
theorem dX12_planned_56 : decode cX12_planned 56 = .ok (.getfield 364, 3) := by decide +kernel
theorem dX12_planned_59 : decode cX12_planned 59 = .ok (.bipush 40, 2) := by decide +kernel
theorem dX12_planned_61 : decode cX12_planned 61 = .ok (.if_icmp .ne 13, 3) := by decide +kernel
theorem dX12_planned_64 : decode cX12_planned 64 = .ok (.aload_n 0, 1) := by decide +kernel
theorem dX12_planned_65 : decode cX12_planned 65 = .ok (.iconst 5, 1) := by decide +kernel
theorem dX12_planned_66 : decode cX12_planned 66 = .ok (.aload_n 0, 1) := by decide +kernel
theorem dX12_planned_67 : decode cX12_planned 67 = .ok (.getfield 233, 3) := by decide +kernel
theorem dX12_planned_70 : decode cX12_planned 70 = .ok (.invokevirtual 257, 3) := by decide +kernel
theorem dX12_planned_73 : decode cX12_planned 73 = .ok (.return_, 1) := by decide +kernel
theorem dX12_planned_74 : decode cX12_planned 74 = .ok (.aload_n 0, 1) := by decide +kernel
theorem dX12_planned_75 : decode cX12_planned 75 = .ok (.dup, 1) := by decide +kernel
theorem dX12_planned_76 : decode cX12_planned 76 = .ok (.getfield 364, 3) := by decide +kernel
theorem dX12_planned_79 : decode cX12_planned 79 = .ok (.iconst 1, 1) := by decide +kernel
theorem dX12_planned_80 : decode cX12_planned 80 = .ok (.iadd, 1) := by decide +kernel
theorem dX12_planned_81 : decode cX12_planned 81 = .ok (.putfield 364, 3) := by decide +kernel
theorem dX12_planned_84 : decode cX12_planned 84 = .ok (.aload_n 0, 1) := by decide +kernel
theorem dX12_planned_85 : decode cX12_planned 85 = .ok (.aload_n 0, 1) := by decide +kernel
theorem dX12_planned_86 : decode cX12_planned 86 = .ok (.getfield 39, 3) := by decide +kernel
theorem dX12_planned_89 : decode cX12_planned 89 = .ok (.invokevirtual 254, 3) := by decide +kernel
theorem dX12_planned_92 : decode cX12_planned 92 = .ok (.ifCond .eq 8, 3) := by decide +kernel
theorem dX12_planned_95 : decode cX12_planned 95 = .ok (.aload_n 0, 1) := by decide +kernel
theorem dX12_planned_96 : decode cX12_planned 96 = .ok (.invokevirtual 382, 3) := by decide +kernel
theorem dX12_planned_99 : decode cX12_planned 99 = .ok (.return_, 1) := by decide +kernel
theorem dX12_planned_100 : decode cX12_planned 100 = .ok (.aload_n 0, 1) := by decide +kernel
theorem dX12_planned_101 : decode cX12_planned 101 = .ok (.aload_n 0, 1) := by decide +kernel
theorem dX12_planned_102 : decode cX12_planned 102 = .ok (.getfield 42, 3) := by decide +kernel
theorem dX12_planned_105 : decode cX12_planned 105 = .ok (.invokevirtual 307, 3) := by decide +kernel
theorem dX12_planned_108 : decode cX12_planned 108 = .ok (.aload_n 0, 1) := by decide +kernel
theorem dX12_planned_109 : decode cX12_planned 109 = .ok (.getfield 227, 3) := by decide +kernel
theorem dX12_planned_112 : decode cX12_planned 112 = .ok (.ifCond .ne 7, 3) := by decide +kernel
theorem dX12_planned_115 : decode cX12_planned 115 = .ok (.aload_n 0, 1) := by decide +kernel
theorem dX12_planned_116 : decode cX12_planned 116 = .ok (.invokevirtual 385, 3) := by decide +kernel
theorem dX12_planned_119 : decode cX12_planned 119 = .ok (.return_, 1) := by decide +kernel
set_option maxRecDepth 100000 in
theorem tj_X12_planned_74 {g : GT} {n nf : Int} (hu : Up false nf n) (M : Mem) : AW g false RX12 cX12_planned 2 none (8) n n nf 74 [(0, 2, 337)] [] n M (j_X12_planned_74 M) := by
  unfold j_X12_planned_74
  refine r_aload_n 0 dX12_planned_74 rfl rfl ?_
  refine r_dup dX12_planned_75 (nz2 _) ?_
  refine r_gf (t := 0) (kz := 36) rfl hu dX12_planned_76 kF_X12_364 kd_337 rfl rfl rfl ?_
  refine r_iconst dX12_planned_79 ⟨by decide, by decide⟩ ?_
  refine r_ok (fun h7 => ?_)
  refine r_iadd dX12_planned_80 h7 ?_
  refine r_pf (t := 0) (kz := 36) rfl hu dX12_planned_81 kF_X12_364 kd_337 rfl rfl rfl (fun h => absurd h (by decide)) rfl kX_12_36 (fun M8 eM8 => ?_)
  refine r_aload_n 0 dX12_planned_84 rfl rfl ?_
  refine r_aload_n 0 dX12_planned_85 rfl rfl ?_
  refine r_gx (kz := 16) rfl hu dX12_planned_86 kF_X12_39 kd_337 rfl rfl rfl fx_337_16 ?_
  refine r_inv (a := 337) hu ⟨Nat.le_refl _, Nat.le_refl _⟩ dX12_planned_89 kM_X12_254 (ci := 12) rfl kd_337 rfl rfl (by decide) (by decide) [(2, 346)] rfl (sk := []) rfl (Nat.le_of_ble_eq_true rfl) rfl rfl (m_X12_takes hu M8 346 kd_346) (fun r9 M10 => ?_)
  refine r_if_eq (tgt := 100) dX12_planned_92 rfl (fun h11 => ?_) (fun h12 => ?_)
  · refine r_aload_n 0 dX12_planned_100 rfl rfl ?_
    refine r_aload_n 0 dX12_planned_101 rfl rfl ?_
    refine r_gx (kz := 17) rfl hu dX12_planned_102 kF_X12_42 kd_337 rfl rfl rfl fx_337_17 ?_
    refine r_invv (a := 337) hu ⟨Nat.le_refl _, Nat.le_refl _⟩ dX12_planned_105 kM_X12_307 (ci := 12) rfl kd_337 rfl rfl (by decide) (by decide) [(2, 347)] rfl (sk := []) rfl (Nat.le_of_ble_eq_true rfl) rfl (m_X12_asks hu M10 347 kd_347) (fun r13 M14 => ?_)
    refine r_aload_n 0 dX12_planned_108 rfl rfl ?_
    refine r_gf (t := 0) (kz := 5) rfl hu dX12_planned_109 kF_X12_227 kd_337 rfl rfl rfl ?_
    refine r_if_ne (tgt := 119) dX12_planned_112 rfl (fun h15 => ?_) (fun h16 => ?_)
    · refine r_aload_n 0 dX12_planned_115 rfl rfl ?_
      refine r_invv (a := 337) hu ⟨Nat.le_refl _, Nat.le_refl _⟩ dX12_planned_116 kM_X12_385 (ci := 12) rfl kd_337 rfl rfl (by decide) (by decide) [] rfl (sk := []) rfl (Nat.le_of_ble_eq_true rfl) rfl (m_X12_timesTold hu M14) (fun r17 M18 => ?_)
      exact r_vret rfl rfl dX12_planned_119
    · exact r_vret rfl rfl dX12_planned_119
  · refine r_aload_n 0 dX12_planned_95 rfl rfl ?_
    refine r_invv (a := 337) hu ⟨Nat.le_refl _, Nat.le_refl _⟩ dX12_planned_96 kM_X12_382 (ci := 12) rfl kd_337 rfl rfl (by decide) (by decide) [] rfl (sk := []) rfl (Nat.le_of_ble_eq_true rfl) rfl (m_X12_showTold hu M10) (fun r19 M20 => ?_)
    exact r_vret rfl rfl dX12_planned_99
set_option maxRecDepth 100000 in
theorem tj_X12_planned_50 {g : GT} {n nf : Int} (hu : Up false nf n) (M : Mem) (x1 : Int) : AW g false RX12 cX12_planned 2 none (8) n n nf 50 [(0, 2, 337), (1, 0, x1)] [] n M (j_X12_planned_50 M x1) := by
  unfold j_X12_planned_50
  refine r_iload_n 1 dX12_planned_50 rfl rfl ?_
  refine r_iconst dX12_planned_51 ⟨by decide, by decide⟩ ?_
  refine r_icmp_eq (tgt := 74) dX12_planned_52 rfl (fun h5 => ?_) (fun h6 => ?_)
  · refine r_sub [0] (ls' := [(0, 2, 337)]) rfl ?_
    exact tj_X12_planned_74 hu M
  · refine r_aload_n 0 dX12_planned_55 rfl rfl ?_
    refine r_gf (t := 0) (kz := 36) rfl hu dX12_planned_56 kF_X12_364 kd_337 rfl rfl rfl ?_
    refine r_bipush dX12_planned_59 (by decide) ⟨by decide, by decide⟩ ?_
    refine r_icmp_ne (tgt := 74) dX12_planned_61 rfl (fun h21 => ?_) (fun h22 => ?_)
    · refine r_aload_n 0 dX12_planned_64 rfl rfl ?_
      refine r_iconst dX12_planned_65 ⟨by decide, by decide⟩ ?_
      refine r_aload_n 0 dX12_planned_66 rfl rfl ?_
      refine r_gf (t := 0) (kz := 2) rfl hu dX12_planned_67 kF_X12_233 kd_337 rfl rfl rfl ?_
      refine r_invv (a := 337) hu ⟨Nat.le_refl _, Nat.le_refl _⟩ dX12_planned_70 kM_X12_257 (ci := 12) rfl kd_337 rfl rfl (by decide) (by decide) [(0, 5), (0, M 337 2)] rfl (sk := []) rfl (Nat.le_of_ble_eq_true rfl) rfl (m_X12_fail hu M 5 (M 337 2)) (fun r23 M24 => ?_)
      exact r_vret rfl rfl dX12_planned_73
    · refine r_sub [0] (ls' := [(0, 2, 337)]) rfl ?_
      exact tj_X12_planned_74 hu M
set_option maxRecDepth 100000 in
theorem m_X12_planned {g : GT} {n nf : Int} (hu : Up false nf n) (M : Mem) : AM g false yX12_planned cX12_planned 2 none (8) n n nf [(2, 337)] M (f_X12_planned M) := by
  refine AM_of (by decide +kernel) (Nat.le_of_ble_eq_true rfl) (fun h => absurd h (Int.lt_irrefl n)) ?_
  show AW g false RX12 cX12_planned 2 none (8) n n nf 0 [(0, 2, 337)] [] n M (f_X12_planned M)
  unfold f_X12_planned
  refine r_aload_n 0 dX12_planned_0 rfl rfl ?_
  refine r_inv (a := 337) hu ⟨Nat.le_refl _, Nat.le_refl _⟩ dX12_planned_1 kM_X12_239 (ci := 12) rfl kd_337 rfl rfl (by decide) (by decide) [] rfl (sk := []) rfl (Nat.le_of_ble_eq_true rfl) rfl rfl (m_X12_look hu M) (fun r1 M2 => ?_)
  refine r_istore_n dX12_planned_4 rfl (by decide) (ls' := [(1, 0, r1), (0, 2, 337)]) rfl ?_
  refine r_aload_n 1 dX12_planned_5 rfl rfl ?_
  refine r_gf (t := 0) (kz := 52) rfl hu dX12_planned_6 kF_X12_348 kd_337 rfl rfl rfl ?_
  refine r_if_le (tgt := 50) dX12_planned_9 rfl (fun h3 => ?_) (fun h4 => ?_)
  · refine r_sub [1, 0] (ls' := [(0, 2, 337), (1, 0, r1)]) rfl ?_
    exact tj_X12_planned_50 hu M2 r1
  · refine r_iload_n 0 dX12_planned_12 rfl rfl ?_
    refine r_bipush dX12_planned_13 (by decide) ⟨by decide, by decide⟩ ?_
    refine r_icmp_ne (tgt := 50) dX12_planned_15 rfl (fun h25 => ?_) (fun h26 => ?_)
    · refine r_aload_n 1 dX12_planned_18 rfl rfl ?_
      refine r_dup dX12_planned_19 (nz2 _) ?_
      refine r_gf (t := 0) (kz := 2) rfl hu dX12_planned_20 kF_X12_233 kd_337 rfl rfl rfl ?_
      refine r_iconst dX12_planned_23 ⟨by decide, by decide⟩ ?_
      refine r_ok (fun h27 => ?_)
      refine r_iadd dX12_planned_24 h27 ?_
      refine r_pf (t := 0) (kz := 2) rfl hu dX12_planned_25 kF_X12_233 kd_337 rfl rfl rfl (fun h => absurd h (by decide)) rfl kX_12_2 (fun M28 eM28 => ?_)
      refine r_aload_n 1 dX12_planned_28 rfl rfl ?_
      refine r_dup dX12_planned_29 (nz2 _) ?_
      refine r_gf (t := 0) (kz := 52) rfl hu dX12_planned_30 kF_X12_348 kd_337 rfl rfl rfl ?_
      refine r_iconst dX12_planned_33 ⟨by decide, by decide⟩ ?_
      refine r_ok (fun h29 => ?_)
      refine r_isub dX12_planned_34 h29 ?_
      refine r_pf (t := 0) (kz := 52) rfl hu dX12_planned_35 kF_X12_348 kd_337 rfl rfl rfl (fun h => absurd h (by decide)) rfl kX_12_52 (fun M30 eM30 => ?_)
      refine r_aload_n 1 dX12_planned_38 rfl rfl ?_
      refine r_iconst dX12_planned_39 ⟨by decide, by decide⟩ ?_
      refine r_invv (a := 337) hu ⟨Nat.le_refl _, Nat.le_refl _⟩ dX12_planned_40 kM_X12_379 (ci := 12) rfl kd_337 rfl rfl (by decide) (by decide) [(0, 2)] rfl (sk := []) rfl (Nat.le_of_ble_eq_true rfl) rfl (m_X12_step hu M30 2) (fun r31 M32 => ?_)
      refine r_aload_n 1 dX12_planned_43 rfl rfl ?_
      refine r_bipush dX12_planned_44 (by decide) ⟨by decide, by decide⟩ ?_
      refine r_invv (a := 337) hu ⟨Nat.le_refl _, Nat.le_refl _⟩ dX12_planned_46 kM_X12_311 (ci := 12) rfl kd_337 rfl rfl (by decide) (by decide) [(0, 59)] rfl (sk := []) rfl (Nat.le_of_ble_eq_true rfl) rfl (m_X12_asksSign hu M32 59) (fun r33 M34 => ?_)
      exact r_vret rfl rfl dX12_planned_49
    · refine r_sub [1, 0] (ls' := [(0, 2, 337), (1, 0, r1)]) rfl ?_
      exact tj_X12_planned_50 hu M2 r1
theorem dX12_begins_0 : decode cX12_begins 0 = .ok (.aload_n 0, 1) := by decide +kernel
theorem dX12_begins_1 : decode cX12_begins 1 = .ok (.aload_n 0, 1) := by decide +kernel
theorem dX12_begins_2 : decode cX12_begins 2 = .ok (.getfield 224, 3) := by decide +kernel
theorem dX12_begins_5 : decode cX12_begins 5 = .ok (.putfield 236, 3) := by decide +kernel
theorem dX12_begins_8 : decode cX12_begins 8 = .ok (.aload_n 0, 1) := by decide +kernel
theorem dX12_begins_9 : decode cX12_begins 9 = .ok (.iconst 0, 1) := by decide +kernel
theorem dX12_begins_10 : decode cX12_begins 10 = .ok (.putfield 224, 3) := by decide +kernel
theorem dX12_begins_13 : decode cX12_begins 13 = .ok (.aload_n 0, 1) := by decide +kernel
theorem dX12_begins_14 : decode cX12_begins 14 = .ok (.iconst 0, 1) := by decide +kernel
theorem dX12_begins_15 : decode cX12_begins 15 = .ok (.putfield 233, 3) := by decide +kernel
theorem dX12_begins_18 : decode cX12_begins 18 = .ok (.aload_n 0, 1) := by decide +kernel
theorem dX12_begins_19 : decode cX12_begins 19 = .ok (.iconst (-1), 1) := by decide +kernel
theorem dX12_begins_20 : decode cX12_begins 20 = .ok (.putfield 247, 3) := by decide +kernel
theorem dX12_begins_23 : decode cX12_begins 23 = .ok (.aload_n 0, 1) := by decide +kernel
theorem dX12_begins_24 : decode cX12_begins 24 = .ok (.iconst 0, 1) := by decide +kernel
theorem dX12_begins_25 : decode cX12_begins 25 = .ok (.putfield 227, 3) := by decide +kernel
theorem dX12_begins_28 : decode cX12_begins 28 = .ok (.aload_n 0, 1) := by decide +kernel
theorem dX12_begins_29 : decode cX12_begins 29 = .ok (.iconst (-1), 1) := by decide +kernel
theorem dX12_begins_30 : decode cX12_begins 30 = .ok (.putfield 230, 3) := by decide +kernel
theorem dX12_begins_33 : decode cX12_begins 33 = .ok (.aload_n 0, 1) := by decide +kernel
theorem dX12_begins_34 : decode cX12_begins 34 = .ok (.getfield 87, 3) := by decide +kernel
theorem dX12_begins_37 : decode cX12_begins 37 = .ok (.iconst 0, 1) := by decide +kernel
theorem dX12_begins_38 : decode cX12_begins 38 = .ok (.iconst 0, 1) := by decide +kernel
theorem dX12_begins_39 : decode cX12_begins 39 = .ok (.iastore, 1) := by decide +kernel
theorem dX12_begins_40 : decode cX12_begins 40 = .ok (.aload_n 0, 1) := by decide +kernel
theorem dX12_begins_41 : decode cX12_begins 41 = .ok (.getfield 99, 3) := by decide +kernel
theorem dX12_begins_44 : decode cX12_begins 44 = .ok (.iconst 0, 1) := by decide +kernel
theorem dX12_begins_45 : decode cX12_begins 45 = .ok (.iconst 0, 1) := by decide +kernel
theorem dX12_begins_46 : decode cX12_begins 46 = .ok (.iastore, 1) := by decide +kernel
theorem dX12_begins_47 : decode cX12_begins 47 = .ok (.aload_n 0, 1) := by decide +kernel
theorem dX12_begins_48 : decode cX12_begins 48 = .ok (.getfield 119, 3) := by decide +kernel
theorem dX12_begins_51 : decode cX12_begins 51 = .ok (.iconst 0, 1) := by decide +kernel
theorem dX12_begins_52 : decode cX12_begins 52 = .ok (.iconst 0, 1) := by decide +kernel
theorem dX12_begins_53 : decode cX12_begins 53 = .ok (.iastore, 1) := by decide +kernel
theorem dX12_begins_54 : decode cX12_begins 54 = .ok (.aload_n 0, 1) := by decide +kernel
theorem dX12_begins_55 : decode cX12_begins 55 = .ok (.getfield 128, 3) := by decide +kernel
theorem dX12_begins_58 : decode cX12_begins 58 = .ok (.iconst 0, 1) := by decide +kernel
theorem dX12_begins_59 : decode cX12_begins 59 = .ok (.bipush 95, 2) := by decide +kernel
theorem dX12_begins_61 : decode cX12_begins 61 = .ok (.iastore, 1) := by decide +kernel
theorem dX12_begins_62 : decode cX12_begins 62 = .ok (.aload_n 0, 1) := by decide +kernel
theorem dX12_begins_63 : decode cX12_begins 63 = .ok (.iconst 0, 1) := by decide +kernel
theorem dX12_begins_64 : decode cX12_begins 64 = .ok (.putfield 282, 3) := by decide +kernel
theorem dX12_begins_67 : decode cX12_begins 67 = .ok (.aload_n 0, 1) := by decide +kernel
theorem dX12_begins_68 : decode cX12_begins 68 = .ok (.iconst 0, 1) := by decide +kernel
theorem dX12_begins_69 : decode cX12_begins 69 = .ok (.putfield 364, 3) := by decide +kernel
theorem dX12_begins_72 : decode cX12_begins 72 = .ok (.aload_n 0, 1) := by decide +kernel
theorem dX12_begins_73 : decode cX12_begins 73 = .ok (.iconst 0, 1) := by decide +kernel
theorem dX12_begins_74 : decode cX12_begins 74 = .ok (.putfield 348, 3) := by decide +kernel
theorem dX12_begins_77 : decode cX12_begins 77 = .ok (.return_, 1) := by decide +kernel
set_option maxRecDepth 100000 in
theorem m_X12_begins {g : GT} {n nf : Int} (hu : Up false nf n) (M : Mem) : AM g false yX12_begins cX12_begins 1 none (0) n n nf [(2, 337)] M (f_X12_begins M) := by
  refine AM_of (by decide +kernel) (Nat.le_of_ble_eq_true rfl) (fun h => absurd h (Int.lt_irrefl n)) ?_
  show AW g false RX12 cX12_begins 1 none (0) n n nf 0 [(0, 2, 337)] [] n M (f_X12_begins M)
  unfold f_X12_begins
  refine r_aload_n 0 dX12_begins_0 rfl rfl ?_
  refine r_aload_n 0 dX12_begins_1 rfl rfl ?_
  refine r_gf (t := 0) (kz := 1) rfl hu dX12_begins_2 kF_X12_224 kd_337 rfl rfl rfl ?_
  refine r_pf (t := 0) (kz := 3) rfl hu dX12_begins_5 kF_X12_236 kd_337 rfl rfl rfl (fun h => absurd h (by decide)) rfl kX_12_3 (fun M1 eM1 => ?_)
  refine r_aload_n 0 dX12_begins_8 rfl rfl ?_
  refine r_iconst dX12_begins_9 ⟨by decide, by decide⟩ ?_
  refine r_pf (t := 0) (kz := 1) rfl hu dX12_begins_10 kF_X12_224 kd_337 rfl rfl rfl (fun h => absurd h (by decide)) rfl kX_12_1 (fun M2 eM2 => ?_)
  refine r_aload_n 0 dX12_begins_13 rfl rfl ?_
  refine r_iconst dX12_begins_14 ⟨by decide, by decide⟩ ?_
  refine r_pf (t := 0) (kz := 2) rfl hu dX12_begins_15 kF_X12_233 kd_337 rfl rfl rfl (fun h => absurd h (by decide)) rfl kX_12_2 (fun M3 eM3 => ?_)
  refine r_aload_n 0 dX12_begins_18 rfl rfl ?_
  refine r_iconst dX12_begins_19 ⟨by decide, by decide⟩ ?_
  refine r_pf (t := 0) (kz := 4) rfl hu dX12_begins_20 kF_X12_247 kd_337 rfl rfl rfl (fun h => absurd h (by decide)) rfl kX_12_4 (fun M4 eM4 => ?_)
  refine r_aload_n 0 dX12_begins_23 rfl rfl ?_
  refine r_iconst dX12_begins_24 ⟨by decide, by decide⟩ ?_
  refine r_pf (t := 0) (kz := 5) rfl hu dX12_begins_25 kF_X12_227 kd_337 rfl rfl rfl (fun h => absurd h (by decide)) rfl kX_12_5 (fun M5 eM5 => ?_)
  refine r_aload_n 0 dX12_begins_28 rfl rfl ?_
  refine r_iconst dX12_begins_29 ⟨by decide, by decide⟩ ?_
  refine r_pf (t := 0) (kz := 6) rfl hu dX12_begins_30 kF_X12_230 kd_337 rfl rfl rfl (fun h => absurd h (by decide)) rfl kX_12_6 (fun M6 eM6 => ?_)
  refine r_aload_n 0 dX12_begins_33 rfl rfl ?_
  refine r_gx (kz := 37) rfl hu dX12_begins_34 kF_X12_87 kd_337 rfl rfl rfl fx_337_37 ?_
  refine r_iconst dX12_begins_37 ⟨by decide, by decide⟩ ?_
  refine r_iconst dX12_begins_38 ⟨by decide, by decide⟩ ?_
  refine r_iast hu dX12_begins_39 kd_362 rfl (Or.inl rfl) rfl ln_362 ⟨by decide, by decide⟩ rfl (fun M7 eM7 => ?_)
  refine r_aload_n 0 dX12_begins_40 rfl rfl ?_
  refine r_gx (kz := 41) rfl hu dX12_begins_41 kF_X12_99 kd_337 rfl rfl rfl fx_337_41 ?_
  refine r_iconst dX12_begins_44 ⟨by decide, by decide⟩ ?_
  refine r_iconst dX12_begins_45 ⟨by decide, by decide⟩ ?_
  refine r_iast hu dX12_begins_46 kd_366 rfl (Or.inl rfl) rfl ln_366 ⟨by decide, by decide⟩ rfl (fun M8 eM8 => ?_)
  refine r_aload_n 0 dX12_begins_47 rfl rfl ?_
  refine r_gx (kz := 47) rfl hu dX12_begins_48 kF_X12_119 kd_337 rfl rfl rfl fx_337_47 ?_
  refine r_iconst dX12_begins_51 ⟨by decide, by decide⟩ ?_
  refine r_iconst dX12_begins_52 ⟨by decide, by decide⟩ ?_
  refine r_iast hu dX12_begins_53 kd_372 rfl (Or.inl rfl) rfl ln_372 ⟨by decide, by decide⟩ rfl (fun M9 eM9 => ?_)
  refine r_aload_n 0 dX12_begins_54 rfl rfl ?_
  refine r_gx (kz := 50) rfl hu dX12_begins_55 kF_X12_128 kd_337 rfl rfl rfl fx_337_50 ?_
  refine r_iconst dX12_begins_58 ⟨by decide, by decide⟩ ?_
  refine r_bipush dX12_begins_59 (by decide) ⟨by decide, by decide⟩ ?_
  refine r_iast hu dX12_begins_61 kd_375 rfl (Or.inl rfl) rfl ln_375 ⟨by decide, by decide⟩ rfl (fun M10 eM10 => ?_)
  refine r_aload_n 0 dX12_begins_62 rfl rfl ?_
  refine r_iconst dX12_begins_63 ⟨by decide, by decide⟩ ?_
  refine r_pf (t := 0) (kz := 32) rfl hu dX12_begins_64 kF_X12_282 kd_337 rfl rfl rfl (fun h => absurd h (by decide)) rfl kX_12_32 (fun M11 eM11 => ?_)
  refine r_aload_n 0 dX12_begins_67 rfl rfl ?_
  refine r_iconst dX12_begins_68 ⟨by decide, by decide⟩ ?_
  refine r_pf (t := 0) (kz := 36) rfl hu dX12_begins_69 kF_X12_364 kd_337 rfl rfl rfl (fun h => absurd h (by decide)) rfl kX_12_36 (fun M12 eM12 => ?_)
  refine r_aload_n 0 dX12_begins_72 rfl rfl ?_
  refine r_iconst dX12_begins_73 ⟨by decide, by decide⟩ ?_
  refine r_pf (t := 0) (kz := 52) rfl hu dX12_begins_74 kF_X12_348 kd_337 rfl rfl rfl (fun h => absurd h (by decide)) rfl kX_12_52 (fun M13 eM13 => ?_)
  exact r_vret rfl rfl dX12_begins_77
theorem dX12_plan_0 : decode cX12_plan 0 = .ok (.aload_n 0, 1) := by decide +kernel
theorem dX12_plan_1 : decode cX12_plan 1 = .ok (.invokevirtual 388, 3) := by decide +kernel
theorem dX12_plan_4 : decode cX12_plan 4 = .ok (.aload_n 0, 1) := by decide +kernel
theorem dX12_plan_5 : decode cX12_plan 5 = .ok (.getfield 131, 3) := by decide +kernel
theorem dX12_plan_8 : decode cX12_plan 8 = .ok (.iconst 0, 1) := by decide +kernel
theorem dX12_plan_9 : decode cX12_plan 9 = .ok (.iconst 0, 1) := by decide +kernel
theorem dX12_plan_10 : decode cX12_plan 10 = .ok (.iastore, 1) := by decide +kernel
theorem dX12_plan_11 : decode cX12_plan 11 = .ok (.aload_n 0, 1) := by decide +kernel
theorem dX12_plan_12 : decode cX12_plan 12 = .ok (.getfield 227, 3) := by decide +kernel
theorem dX12_plan_15 : decode cX12_plan 15 = .ok (.ifCond .ne 25, 3) := by decide +kernel
theorem dX12_plan_18 : decode cX12_plan 18 = .ok (.aload_n 0, 1) := by decide +kernel
theorem dX12_plan_19 : decode cX12_plan 19 = .ok (.invokevirtual 239, 3) := by decide +kernel
theorem dX12_plan_22 : decode cX12_plan 22 = .ok (.iconst (-1), 1) := by decide +kernel
theorem dX12_plan_23 : decode cX12_plan 23 = .ok (.if_icmp .ne 10, 3) := by decide +kernel
theorem dX12_plan_26 : decode cX12_plan 26 = .ok (.aload_n 0, 1) := by decide +kernel
theorem dX12_plan_27 : decode cX12_plan 27 = .ok (.getfield 348, 3) := by decide +kernel
theorem dX12_plan_30 : decode cX12_plan 30 = .ok (.ifCond .le 10, 3) := by decide +kernel
theorem dX12_plan_33 : decode cX12_plan 33 = .ok (.aload_n 0, 1) := by decide +kernel
theorem dX12_plan_34 : decode cX12_plan 34 = .ok (.invokevirtual 391, 3) := by decide +kernel
theorem dX12_plan_37 : decode cX12_plan 37 = .ok (.goto (-26), 3) := by decide +kernel
theorem dX12_plan_40 : decode cX12_plan 40 = .ok (.aload_n 0, 1) := by decide +kernel
theorem dX12_plan_41 : decode cX12_plan 41 = .ok (.iconst 0, 1) := by decide +kernel
theorem dX12_plan_42 : decode cX12_plan 42 = .ok (.putfield 348, 3) := by decide +kernel
theorem dX12_plan_45 : decode cX12_plan 45 = .ok (.aload_n 0, 1) := by decide +kernel
theorem dX12_plan_46 : decode cX12_plan 46 = .ok (.aload_n 0, 1) := by decide +kernel
theorem dX12_plan_47 : decode cX12_plan 47 = .ok (.getfield 227, 3) := by decide +kernel
theorem dX12_plan_50 : decode cX12_plan 50 = .ok (.putfield 394, 3) := by decide +kernel
theorem dX12_plan_53 : decode cX12_plan 53 = .ok (.aload_n 0, 1) := by decide +kernel
theorem dX12_plan_54 : decode cX12_plan 54 = .ok (.aload_n 0, 1) := by decide +kernel
theorem dX12_plan_55 : decode cX12_plan 55 = .ok (.getfield 230, 3) := by decide +kernel
theorem dX12_plan_58 : decode cX12_plan 58 = .ok (.putfield 13, 3) := by decide +kernel
theorem dX12_plan_61 : decode cX12_plan 61 = .ok (.aload_n 0, 1) := by decide +kernel
theorem dX12_plan_62 : decode cX12_plan 62 = .ok (.getfield 227, 3) := by decide +kernel
theorem dX12_plan_65 : decode cX12_plan 65 = .ok (.ifCond .eq 5, 3) := by decide +kernel
theorem dX12_plan_68 : decode cX12_plan 68 = .ok (.iconst (-1), 1) := by decide +kernel
theorem dX12_plan_69 : decode cX12_plan 69 = .ok (.ireturn, 1) := by decide +kernel
theorem dX12_plan_70 : decode cX12_plan 70 = .ok (.aload_n 0, 1) := by decide +kernel
theorem dX12_plan_71 : decode cX12_plan 71 = .ok (.getfield 131, 3) := by decide +kernel
theorem dX12_plan_74 : decode cX12_plan 74 = .ok (.iconst 1, 1) := by decide +kernel
theorem dX12_plan_75 : decode cX12_plan 75 = .ok (.aload_n 0, 1) := by decide +kernel
theorem dX12_plan_76 : decode cX12_plan 76 = .ok (.getfield 131, 3) := by decide +kernel
theorem dX12_plan_79 : decode cX12_plan 79 = .ok (.iconst 0, 1) := by decide +kernel
theorem dX12_plan_80 : decode cX12_plan 80 = .ok (.iaload, 1) := by decide +kernel
theorem dX12_plan_81 : decode cX12_plan 81 = .ok (.iastore, 1) := by decide +kernel
theorem dX12_plan_82 : decode cX12_plan 82 = .ok (.iconst 0, 1) := by decide +kernel
theorem dX12_plan_83 : decode cX12_plan 83 = .ok (.istore_n 1, 1) := by decide +kernel
theorem dX12_plan_84 : decode cX12_plan 84 = .ok (.iload_n 1, 1) := by decide +kernel
theorem dX12_plan_85 : decode cX12_plan 85 = .ok (.aload_n 0, 1) := by decide +kernel
theorem dX12_plan_86 : decode cX12_plan 86 = .ok (.getfield 131, 3) := by decide +kernel
theorem dX12_plan_89 : decode cX12_plan 89 = .ok (.iconst 1, 1) := by decide +kernel
theorem dX12_plan_90 : decode cX12_plan 90 = .ok (.iaload, 1) := by decide +kernel
theorem dX12_plan_91 : decode cX12_plan 91 = .ok (.if_icmp .ge 107, 3) := by decide +kernel
theorem dX12_plan_94 : decode cX12_plan 94 = .ok (.aload_n 0, 1) := by decide +kernel
theorem dX12_plan_95 : decode cX12_plan 95 = .ok (.getfield 134, 3) := by decide +kernel
theorem dX12_plan_98 : decode cX12_plan 98 = .ok (.bipush 80, 2) := by decide +kernel
theorem dX12_plan_100 : decode cX12_plan 100 = .ok (.iload_n 1, 1) := by decide +kernel
theorem dX12_plan_101 : decode cX12_plan 101 = .ok (.iadd, 1) := by decide +kernel
theorem dX12_plan_102 : decode cX12_plan 102 = .ok (.aload_n 0, 1) := by decide +kernel
theorem dX12_plan_103 : decode cX12_plan 103 = .ok (.getfield 134, 3) := by decide +kernel
theorem dX12_plan_106 : decode cX12_plan 106 = .ok (.iload_n 1, 1) := by decide +kernel
theorem dX12_plan_107 : decode cX12_plan 107 = .ok (.iaload, 1) := by decide +kernel
theorem dX12_plan_108 : decode cX12_plan 108 = .ok (.iastore, 1) := by decide +kernel
theorem dX12_plan_109 : decode cX12_plan 109 = .ok (.aload_n 0, 1) := by decide +kernel
theorem dX12_plan_110 : decode cX12_plan 110 = .ok (.getfield 137, 3) := by decide +kernel
theorem dX12_plan_113 : decode cX12_plan 113 = .ok (.bipush 80, 2) := by decide +kernel
theorem dX12_plan_115 : decode cX12_plan 115 = .ok (.iload_n 1, 1) := by decide +kernel
theorem dX12_plan_116 : decode cX12_plan 116 = .ok (.iadd, 1) := by decide +kernel
theorem dX12_plan_117 : decode cX12_plan 117 = .ok (.aload_n 0, 1) := by decide +kernel
theorem dX12_plan_118 : decode cX12_plan 118 = .ok (.getfield 137, 3) := by decide +kernel
theorem dX12_plan_121 : decode cX12_plan 121 = .ok (.iload_n 1, 1) := by decide +kernel
theorem dX12_plan_122 : decode cX12_plan 122 = .ok (.iaload, 1) := by decide +kernel
theorem dX12_plan_123 : decode cX12_plan 123 = .ok (.iastore, 1) := by decide +kernel
theorem dX12_plan_124 : decode cX12_plan 124 = .ok (.aload_n 0, 1) := by decide +kernel
theorem dX12_plan_125 : decode cX12_plan 125 = .ok (.getfield 140, 3) := by decide +kernel
theorem dX12_plan_128 : decode cX12_plan 128 = .ok (.bipush 80, 2) := by decide +kernel
theorem dX12_plan_130 : decode cX12_plan 130 = .ok (.iload_n 1, 1) := by decide +kernel
theorem dX12_plan_131 : decode cX12_plan 131 = .ok (.iadd, 1) := by decide +kernel
theorem dX12_plan_132 : decode cX12_plan 132 = .ok (.aload_n 0, 1) := by decide +kernel
theorem dX12_plan_133 : decode cX12_plan 133 = .ok (.getfield 140, 3) := by decide +kernel
theorem dX12_plan_136 : decode cX12_plan 136 = .ok (.iload_n 1, 1) := by decide +kernel
theorem dX12_plan_137 : decode cX12_plan 137 = .ok (.iaload, 1) := by decide +kernel
theorem dX12_plan_138 : decode cX12_plan 138 = .ok (.iastore, 1) := by decide +kernel
theorem dX12_plan_139 : decode cX12_plan 139 = .ok (.aload_n 0, 1) := by decide +kernel
theorem dX12_plan_140 : decode cX12_plan 140 = .ok (.getfield 143, 3) := by decide +kernel
theorem dX12_plan_143 : decode cX12_plan 143 = .ok (.bipush 80, 2) := by decide +kernel
theorem dX12_plan_145 : decode cX12_plan 145 = .ok (.iload_n 1, 1) := by decide +kernel
theorem dX12_plan_146 : decode cX12_plan 146 = .ok (.iadd, 1) := by decide +kernel
theorem dX12_plan_147 : decode cX12_plan 147 = .ok (.aload_n 0, 1) := by decide +kernel
theorem dX12_plan_148 : decode cX12_plan 148 = .ok (.getfield 143, 3) := by decide +kernel
theorem dX12_plan_151 : decode cX12_plan 151 = .ok (.iload_n 1, 1) := by decide +kernel
theorem dX12_plan_152 : decode cX12_plan 152 = .ok (.iaload, 1) := by decide +kernel
theorem dX12_plan_153 : decode cX12_plan 153 = .ok (.sipush 4500, 3) := by decide +kernel
theorem dX12_plan_156 : decode cX12_plan 156 = .ok (.iadd, 1) := by decide +kernel
theorem dX12_plan_157 : decode cX12_plan 157 = .ok (.iastore, 1) := by decide +kernel
theorem dX12_plan_158 : decode cX12_plan 158 = .ok (.aload_n 0, 1) := by decide +kernel
theorem dX12_plan_159 : decode cX12_plan 159 = .ok (.getfield 146, 3) := by decide +kernel
theorem dX12_plan_162 : decode cX12_plan 162 = .ok (.bipush 80, 2) := by decide +kernel
theorem dX12_plan_164 : decode cX12_plan 164 = .ok (.iload_n 1, 1) := by decide +kernel
theorem dX12_plan_165 : decode cX12_plan 165 = .ok (.iadd, 1) := by decide +kernel
theorem dX12_plan_166 : decode cX12_plan 166 = .ok (.aload_n 0, 1) := by decide +kernel
theorem dX12_plan_167 : decode cX12_plan 167 = .ok (.getfield 146, 3) := by decide +kernel
theorem dX12_plan_170 : decode cX12_plan 170 = .ok (.iload_n 1, 1) := by decide +kernel
theorem dX12_plan_171 : decode cX12_plan 171 = .ok (.iaload, 1) := by decide +kernel
theorem dX12_plan_172 : decode cX12_plan 172 = .ok (.sipush 4500, 3) := by decide +kernel
theorem dX12_plan_175 : decode cX12_plan 175 = .ok (.iadd, 1) := by decide +kernel
theorem dX12_plan_176 : decode cX12_plan 176 = .ok (.iastore, 1) := by decide +kernel
theorem dX12_plan_177 : decode cX12_plan 177 = .ok (.aload_n 0, 1) := by decide +kernel
theorem dX12_plan_178 : decode cX12_plan 178 = .ok (.getfield 149, 3) := by decide +kernel
theorem dX12_plan_181 : decode cX12_plan 181 = .ok (.bipush 80, 2) := by decide +kernel
theorem dX12_plan_183 : decode cX12_plan 183 = .ok (.iload_n 1, 1) := by decide +kernel
theorem dX12_plan_184 : decode cX12_plan 184 = .ok (.iadd, 1) := by decide +kernel
theorem dX12_plan_185 : decode cX12_plan 185 = .ok (.aload_n 0, 1) := by decide +kernel
theorem dX12_plan_186 : decode cX12_plan 186 = .ok (.getfield 149, 3) := by decide +kernel
theorem dX12_plan_189 : decode cX12_plan 189 = .ok (.iload_n 1, 1) := by decide +kernel
theorem dX12_plan_190 : decode cX12_plan 190 = .ok (.iaload, 1) := by decide +kernel
theorem dX12_plan_191 : decode cX12_plan 191 = .ok (.iastore, 1) := by decide +kernel
theorem dX12_plan_192 : decode cX12_plan 192 = .ok (.iinc 1 1, 3) := by decide +kernel
theorem dX12_plan_195 : decode cX12_plan 195 = .ok (.goto (-111), 3) := by decide +kernel
theorem dX12_plan_198 : decode cX12_plan 198 = .ok (.iconst 0, 1) := by decide +kernel
theorem dX12_plan_199 : decode cX12_plan 199 = .ok (.istore_n 1, 1) := by decide +kernel
theorem dX12_plan_200 : decode cX12_plan 200 = .ok (.iload_n 1, 1) := by decide +kernel
theorem dX12_plan_201 : decode cX12_plan 201 = .ok (.aload_n 0, 1) := by decide +kernel
theorem dX12_plan_202 : decode cX12_plan 202 = .ok (.getfield 282, 3) := by decide +kernel
theorem dX12_plan_205 : decode cX12_plan 205 = .ok (.if_icmp .ge 25, 3) := by decide +kernel
theorem dX12_plan_208 : decode cX12_plan 208 = .ok (.aload_n 0, 1) := by decide +kernel
theorem dX12_plan_209 : decode cX12_plan 209 = .ok (.getfield 81, 3) := by decide +kernel
theorem dX12_plan_212 : decode cX12_plan 212 = .ok (.sipush 4500, 3) := by decide +kernel
theorem dX12_plan_215 : decode cX12_plan 215 = .ok (.iload_n 1, 1) := by decide +kernel
theorem dX12_plan_216 : decode cX12_plan 216 = .ok (.iadd, 1) := by decide +kernel
theorem dX12_plan_217 : decode cX12_plan 217 = .ok (.aload_n 0, 1) := by decide +kernel
theorem dX12_plan_218 : decode cX12_plan 218 = .ok (.getfield 81, 3) := by decide +kernel
theorem dX12_plan_221 : decode cX12_plan 221 = .ok (.iload_n 1, 1) := by decide +kernel
theorem dX12_plan_222 : decode cX12_plan 222 = .ok (.iaload, 1) := by decide +kernel
theorem dX12_plan_223 : decode cX12_plan 223 = .ok (.iastore, 1) := by decide +kernel
theorem dX12_plan_224 : decode cX12_plan 224 = .ok (.iinc 1 1, 3) := by decide +kernel
theorem dX12_plan_227 : decode cX12_plan 227 = .ok (.goto (-27), 3) := by decide +kernel
theorem dX12_plan_230 : decode cX12_plan 230 = .ok (.aload_n 0, 1) := by decide +kernel
theorem dX12_plan_231 : decode cX12_plan 231 = .ok (.iconst 1, 1) := by decide +kernel
theorem dX12_plan_232 : decode cX12_plan 232 = .ok (.putfield 397, 3) := by decide +kernel
theorem dX12_plan_235 : decode cX12_plan 235 = .ok (.aload_n 0, 1) := by decide +kernel
theorem dX12_plan_236 : decode cX12_plan 236 = .ok (.getfield 364, 3) := by decide +kernel
theorem dX12_plan_239 : decode cX12_plan 239 = .ok (.ireturn, 1) := by decide +kernel
set_option maxRecDepth 100000 in
theorem tb_X12_plan_200 {g : GT} {n nf : Int} (hu : Up false nf n) (w200 : Mem → Int → Res) (hw200 : ∀ (M : Mem) (x1 : Int), AW g false RX12 cX12_plan 2 (some .int) (9) n n nf 200 [(0, 2, 337), (1, 0, x1)] [] n M (w200 M x1)) (M : Mem) (x1 : Int) : AW g false RX12 cX12_plan 2 (some .int) (9) n n nf 200 [(0, 2, 337), (1, 0, x1)] [] n M (b_X12_plan_200 w200 M x1) := by
  unfold b_X12_plan_200
  refine r_iload_n 1 dX12_plan_200 rfl rfl ?_
  refine r_aload_n 0 dX12_plan_201 rfl rfl ?_
  refine r_gf (t := 0) (kz := 32) rfl hu dX12_plan_202 kF_X12_282 kd_337 rfl rfl rfl ?_
  refine r_icmp_ge (tgt := 230) dX12_plan_205 rfl (fun h20 => ?_) (fun h21 => ?_)
  · refine r_aload_n 0 dX12_plan_230 rfl rfl ?_
    refine r_iconst dX12_plan_231 ⟨by decide, by decide⟩ ?_
    refine r_pf (t := 0) (kz := 60) rfl hu dX12_plan_232 kF_X12_397 kd_337 rfl rfl rfl (fun _ => Or.inr rfl) rfl kX_12_60 (fun M22 eM22 => ?_)
    refine r_aload_n 0 dX12_plan_235 rfl rfl ?_
    refine r_gf (t := 0) (kz := 36) rfl hu dX12_plan_236 kF_X12_364 kd_337 rfl rfl rfl ?_
    exact r_iret rfl rfl (Or.inl rfl) dX12_plan_239
  · refine r_aload_n 0 dX12_plan_208 rfl rfl ?_
    refine r_gx (kz := 31) rfl hu dX12_plan_209 kF_X12_81 kd_337 rfl rfl rfl fx_337_31 ?_
    refine r_sipush dX12_plan_212 (by decide) ⟨by decide, by decide⟩ ?_
    refine r_iload_n 1 dX12_plan_215 rfl rfl ?_
    refine r_ok (fun h23 => ?_)
    refine r_iadd dX12_plan_216 h23 ?_
    refine r_aload_n 0 dX12_plan_217 rfl rfl ?_
    refine r_gx (kz := 31) rfl hu dX12_plan_218 kF_X12_81 kd_337 rfl rfl rfl fx_337_31 ?_
    refine r_iload_n 1 dX12_plan_221 rfl rfl ?_
    refine r_ok (fun h24 => ?_)
    refine r_iald hu dX12_plan_222 kd_360 rfl (Or.inl rfl) rfl ln_360 h24 ?_
    refine r_ok (fun h25 => ?_)
    refine r_iast hu dX12_plan_223 kd_360 rfl (Or.inl rfl) rfl ln_360 h25 rfl (fun M26 eM26 => ?_)
    refine r_iincB 1 dX12_plan_224 rfl ⟨by have := h24; omega, by have := h24; omega⟩ (by decide) (lf := fun y27 => [(1, 0, y27), (0, 2, 337)]) (fun _ => rfl) (fun y27 ey27 => ?_)
    refine r_goto (tgt := 200) dX12_plan_227 rfl ?_
    refine r_sub [1, 0] (ls' := [(0, 2, 337), (1, 0, y27)]) rfl ?_
    exact hw200 M26 y27
set_option maxRecDepth 100000 in
theorem tb_X12_plan_84 {g : GT} {n nf : Int} (hu : Up false nf n) (w84 : Mem → Int → Res) (hw84 : ∀ (M : Mem) (x1 : Int), AW g false RX12 cX12_plan 2 (some .int) (9) n n nf 84 [(0, 2, 337), (1, 0, x1)] [] n M (w84 M x1)) (M : Mem) (x1 : Int) : AW g false RX12 cX12_plan 2 (some .int) (9) n n nf 84 [(0, 2, 337), (1, 0, x1)] [] n M (b_X12_plan_84 w84 M x1) := by
  unfold b_X12_plan_84
  refine r_iload_n 1 dX12_plan_84 rfl rfl ?_
  refine r_aload_n 0 dX12_plan_85 rfl rfl ?_
  refine r_gx (kz := 53) rfl hu dX12_plan_86 kF_X12_131 kd_337 rfl rfl rfl fx_337_53 ?_
  refine r_iconst dX12_plan_89 ⟨by decide, by decide⟩ ?_
  refine r_iald hu dX12_plan_90 kd_376 rfl (Or.inl rfl) rfl ln_376 ⟨by decide, by decide⟩ ?_
  refine r_icmp_ge (tgt := 198) dX12_plan_91 rfl (fun h18 => ?_) (fun h19 => ?_)
  · refine r_iconst dX12_plan_198 ⟨by decide, by decide⟩ ?_
    refine r_istore_n dX12_plan_199 rfl (by decide) (ls' := [(1, 0, 0), (0, 2, 337)]) rfl ?_
    refine r_sub [1, 0] (ls' := [(0, 2, 337), (1, 0, 0)]) rfl ?_
    exact wl1_aw (P := fun M x1 o => AW g false RX12 cX12_plan 2 (some .int) (9) n n nf 200 [(0, 2, 337), (1, 0, x1)] [] n M (o)) (fun M x1 => aw_none) (fun w hw M x1 => tb_X12_plan_200 hu w hw M x1) FU M 0
  · refine r_aload_n 0 dX12_plan_94 rfl rfl ?_
    refine r_gx (kz := 54) rfl hu dX12_plan_95 kF_X12_134 kd_337 rfl rfl rfl fx_337_54 ?_
    refine r_bipush dX12_plan_98 (by decide) ⟨by decide, by decide⟩ ?_
    refine r_iload_n 1 dX12_plan_100 rfl rfl ?_
    refine r_ok (fun h28 => ?_)
    refine r_iadd dX12_plan_101 h28 ?_
    refine r_aload_n 0 dX12_plan_102 rfl rfl ?_
    refine r_gx (kz := 54) rfl hu dX12_plan_103 kF_X12_134 kd_337 rfl rfl rfl fx_337_54 ?_
    refine r_iload_n 1 dX12_plan_106 rfl rfl ?_
    refine r_ok (fun h29 => ?_)
    refine r_iald hu dX12_plan_107 kd_377 rfl (Or.inl rfl) rfl ln_377 h29 ?_
    refine r_ok (fun h30 => ?_)
    refine r_iast hu dX12_plan_108 kd_377 rfl (Or.inl rfl) rfl ln_377 h30 rfl (fun M31 eM31 => ?_)
    refine r_aload_n 0 dX12_plan_109 rfl rfl ?_
    refine r_gx (kz := 55) rfl hu dX12_plan_110 kF_X12_137 kd_337 rfl rfl rfl fx_337_55 ?_
    refine r_bipush dX12_plan_113 (by decide) ⟨by decide, by decide⟩ ?_
    refine r_iload_n 1 dX12_plan_115 rfl rfl ?_
    refine r_iadd dX12_plan_116 h28 ?_
    refine r_aload_n 0 dX12_plan_117 rfl rfl ?_
    refine r_gx (kz := 55) rfl hu dX12_plan_118 kF_X12_137 kd_337 rfl rfl rfl fx_337_55 ?_
    refine r_iload_n 1 dX12_plan_121 rfl rfl ?_
    refine r_iald hu dX12_plan_122 kd_378 rfl (Or.inl rfl) rfl ln_378 h29 ?_
    refine r_iast hu dX12_plan_123 kd_378 rfl (Or.inl rfl) rfl ln_378 h30 rfl (fun M32 eM32 => ?_)
    refine r_aload_n 0 dX12_plan_124 rfl rfl ?_
    refine r_gx (kz := 56) rfl hu dX12_plan_125 kF_X12_140 kd_337 rfl rfl rfl fx_337_56 ?_
    refine r_bipush dX12_plan_128 (by decide) ⟨by decide, by decide⟩ ?_
    refine r_iload_n 1 dX12_plan_130 rfl rfl ?_
    refine r_iadd dX12_plan_131 h28 ?_
    refine r_aload_n 0 dX12_plan_132 rfl rfl ?_
    refine r_gx (kz := 56) rfl hu dX12_plan_133 kF_X12_140 kd_337 rfl rfl rfl fx_337_56 ?_
    refine r_iload_n 1 dX12_plan_136 rfl rfl ?_
    refine r_iald hu dX12_plan_137 kd_379 rfl (Or.inl rfl) rfl ln_379 h29 ?_
    refine r_iast hu dX12_plan_138 kd_379 rfl (Or.inl rfl) rfl ln_379 h30 rfl (fun M33 eM33 => ?_)
    refine r_aload_n 0 dX12_plan_139 rfl rfl ?_
    refine r_gx (kz := 57) rfl hu dX12_plan_140 kF_X12_143 kd_337 rfl rfl rfl fx_337_57 ?_
    refine r_bipush dX12_plan_143 (by decide) ⟨by decide, by decide⟩ ?_
    refine r_iload_n 1 dX12_plan_145 rfl rfl ?_
    refine r_iadd dX12_plan_146 h28 ?_
    refine r_aload_n 0 dX12_plan_147 rfl rfl ?_
    refine r_gx (kz := 57) rfl hu dX12_plan_148 kF_X12_143 kd_337 rfl rfl rfl fx_337_57 ?_
    refine r_iload_n 1 dX12_plan_151 rfl rfl ?_
    refine r_iald hu dX12_plan_152 kd_380 rfl (Or.inl rfl) rfl ln_380 h29 ?_
    refine r_sipush dX12_plan_153 (by decide) ⟨by decide, by decide⟩ ?_
    refine r_ok (fun h34 => ?_)
    refine r_iadd dX12_plan_156 h34 ?_
    refine r_iast hu dX12_plan_157 kd_380 rfl (Or.inl rfl) rfl ln_380 h30 rfl (fun M35 eM35 => ?_)
    refine r_aload_n 0 dX12_plan_158 rfl rfl ?_
    refine r_gx (kz := 58) rfl hu dX12_plan_159 kF_X12_146 kd_337 rfl rfl rfl fx_337_58 ?_
    refine r_bipush dX12_plan_162 (by decide) ⟨by decide, by decide⟩ ?_
    refine r_iload_n 1 dX12_plan_164 rfl rfl ?_
    refine r_iadd dX12_plan_165 h28 ?_
    refine r_aload_n 0 dX12_plan_166 rfl rfl ?_
    refine r_gx (kz := 58) rfl hu dX12_plan_167 kF_X12_146 kd_337 rfl rfl rfl fx_337_58 ?_
    refine r_iload_n 1 dX12_plan_170 rfl rfl ?_
    refine r_iald hu dX12_plan_171 kd_381 rfl (Or.inl rfl) rfl ln_381 h29 ?_
    refine r_sipush dX12_plan_172 (by decide) ⟨by decide, by decide⟩ ?_
    refine r_ok (fun h36 => ?_)
    refine r_iadd dX12_plan_175 h36 ?_
    refine r_iast hu dX12_plan_176 kd_381 rfl (Or.inl rfl) rfl ln_381 h30 rfl (fun M37 eM37 => ?_)
    refine r_aload_n 0 dX12_plan_177 rfl rfl ?_
    refine r_gx (kz := 59) rfl hu dX12_plan_178 kF_X12_149 kd_337 rfl rfl rfl fx_337_59 ?_
    refine r_bipush dX12_plan_181 (by decide) ⟨by decide, by decide⟩ ?_
    refine r_iload_n 1 dX12_plan_183 rfl rfl ?_
    refine r_iadd dX12_plan_184 h28 ?_
    refine r_aload_n 0 dX12_plan_185 rfl rfl ?_
    refine r_gx (kz := 59) rfl hu dX12_plan_186 kF_X12_149 kd_337 rfl rfl rfl fx_337_59 ?_
    refine r_iload_n 1 dX12_plan_189 rfl rfl ?_
    refine r_iald hu dX12_plan_190 kd_382 rfl (Or.inl rfl) rfl ln_382 h29 ?_
    refine r_iast hu dX12_plan_191 kd_382 rfl (Or.inl rfl) rfl ln_382 h30 rfl (fun M38 eM38 => ?_)
    refine r_iincB 1 dX12_plan_192 rfl ⟨by have := h29; omega, by have := h29; omega⟩ (by decide) (lf := fun y39 => [(1, 0, y39), (0, 2, 337)]) (fun _ => rfl) (fun y39 ey39 => ?_)
    refine r_goto (tgt := 84) dX12_plan_195 rfl ?_
    refine r_sub [1, 0] (ls' := [(0, 2, 337), (1, 0, y39)]) rfl ?_
    exact hw84 M38 y39
set_option maxRecDepth 100000 in
theorem tj_X12_plan_40 {g : GT} {n nf : Int} (hu : Up false nf n) (M : Mem) : AW g false RX12 cX12_plan 2 (some .int) (9) n n nf 40 [(0, 2, 337)] [] n M (j_X12_plan_40 M) := by
  unfold j_X12_plan_40
  refine r_aload_n 0 dX12_plan_40 rfl rfl ?_
  refine r_iconst dX12_plan_41 ⟨by decide, by decide⟩ ?_
  refine r_pf (t := 0) (kz := 52) rfl hu dX12_plan_42 kF_X12_348 kd_337 rfl rfl rfl (fun h => absurd h (by decide)) rfl kX_12_52 (fun M12 eM12 => ?_)
  refine r_aload_n 0 dX12_plan_45 rfl rfl ?_
  refine r_aload_n 0 dX12_plan_46 rfl rfl ?_
  refine r_gf (t := 0) (kz := 5) rfl hu dX12_plan_47 kF_X12_227 kd_337 rfl rfl rfl ?_
  refine r_pf (t := 0) (kz := 7) rfl hu dX12_plan_50 kF_X12_394 kd_337 rfl rfl rfl (fun h => absurd h (by decide)) rfl kX_12_7 (fun M13 eM13 => ?_)
  refine r_aload_n 0 dX12_plan_53 rfl rfl ?_
  refine r_aload_n 0 dX12_plan_54 rfl rfl ?_
  refine r_gf (t := 0) (kz := 6) rfl hu dX12_plan_55 kF_X12_230 kd_337 rfl rfl rfl ?_
  refine r_pf (t := 0) (kz := 8) rfl hu dX12_plan_58 kF_X12_13 kd_337 rfl rfl rfl (fun h => absurd h (by decide)) rfl kX_12_8 (fun M14 eM14 => ?_)
  refine r_aload_n 0 dX12_plan_61 rfl rfl ?_
  refine r_gf (t := 0) (kz := 5) rfl hu dX12_plan_62 kF_X12_227 kd_337 rfl rfl rfl ?_
  refine r_if_eq (tgt := 70) dX12_plan_65 rfl (fun h15 => ?_) (fun h16 => ?_)
  · refine r_aload_n 0 dX12_plan_70 rfl rfl ?_
    refine r_gx (kz := 53) rfl hu dX12_plan_71 kF_X12_131 kd_337 rfl rfl rfl fx_337_53 ?_
    refine r_iconst dX12_plan_74 ⟨by decide, by decide⟩ ?_
    refine r_aload_n 0 dX12_plan_75 rfl rfl ?_
    refine r_gx (kz := 53) rfl hu dX12_plan_76 kF_X12_131 kd_337 rfl rfl rfl fx_337_53 ?_
    refine r_iconst dX12_plan_79 ⟨by decide, by decide⟩ ?_
    refine r_iald hu dX12_plan_80 kd_376 rfl (Or.inl rfl) rfl ln_376 ⟨by decide, by decide⟩ ?_
    refine r_iast hu dX12_plan_81 kd_376 rfl (Or.inl rfl) rfl ln_376 ⟨by decide, by decide⟩ rfl (fun M17 eM17 => ?_)
    refine r_iconst dX12_plan_82 ⟨by decide, by decide⟩ ?_
    refine r_istore_n dX12_plan_83 rfl (by decide) (ls' := [(1, 0, 0), (0, 2, 337)]) rfl ?_
    refine r_sub [1, 0] (ls' := [(0, 2, 337), (1, 0, 0)]) rfl ?_
    exact wl1_aw (P := fun M x1 o => AW g false RX12 cX12_plan 2 (some .int) (9) n n nf 84 [(0, 2, 337), (1, 0, x1)] [] n M (o)) (fun M x1 => aw_none) (fun w hw M x1 => tb_X12_plan_84 hu w hw M x1) FU M17 0
  · refine r_iconst dX12_plan_68 ⟨by decide, by decide⟩ ?_
    exact r_iret rfl rfl (Or.inl rfl) dX12_plan_69
set_option maxRecDepth 100000 in
theorem tj_X12_plan_33 {g : GT} {n nf : Int} (hu : Up false nf n) (w11 : Mem → Res) (hw11 : ∀ (M : Mem), AW g false RX12 cX12_plan 2 (some .int) (9) n n nf 11 [(0, 2, 337)] [] n M (w11 M)) (M : Mem) : AW g false RX12 cX12_plan 2 (some .int) (9) n n nf 33 [(0, 2, 337)] [] n M (j_X12_plan_33 w11 M) := by
  unfold j_X12_plan_33
  refine r_aload_n 0 dX12_plan_33 rfl rfl ?_
  refine r_invv (a := 337) hu ⟨Nat.le_refl _, Nat.le_refl _⟩ dX12_plan_34 kM_X12_391 (ci := 12) rfl kd_337 rfl rfl (by decide) (by decide) [] rfl (sk := []) rfl (Nat.le_of_ble_eq_true rfl) rfl (m_X12_planned hu M) (fun r40 M41 => ?_)
  refine r_goto (tgt := 11) dX12_plan_37 rfl ?_
  exact hw11 M41
set_option maxRecDepth 100000 in
theorem tb_X12_plan_11 {g : GT} {n nf : Int} (hu : Up false nf n) (w11 : Mem → Res) (hw11 : ∀ (M : Mem), AW g false RX12 cX12_plan 2 (some .int) (9) n n nf 11 [(0, 2, 337)] [] n M (w11 M)) (M : Mem) : AW g false RX12 cX12_plan 2 (some .int) (9) n n nf 11 [(0, 2, 337)] [] n M (b_X12_plan_11 w11 M) := by
  unfold b_X12_plan_11
  refine r_aload_n 0 dX12_plan_11 rfl rfl ?_
  refine r_gf (t := 0) (kz := 5) rfl hu dX12_plan_12 kF_X12_227 kd_337 rfl rfl rfl ?_
  refine r_if_ne (tgt := 40) dX12_plan_15 rfl (fun h4 => ?_) (fun h5 => ?_)
  · refine r_aload_n 0 dX12_plan_18 rfl rfl ?_
    refine r_inv (a := 337) hu ⟨Nat.le_refl _, Nat.le_refl _⟩ dX12_plan_19 kM_X12_239 (ci := 12) rfl kd_337 rfl rfl (by decide) (by decide) [] rfl (sk := []) rfl (Nat.le_of_ble_eq_true rfl) rfl rfl (m_X12_look hu M) (fun r6 M7 => ?_)
    refine r_iconst dX12_plan_22 ⟨by decide, by decide⟩ ?_
    refine r_icmp_ne (tgt := 33) dX12_plan_23 rfl (fun h8 => ?_) (fun h9 => ?_)
    · refine r_aload_n 0 dX12_plan_26 rfl rfl ?_
      refine r_gf (t := 0) (kz := 52) rfl hu dX12_plan_27 kF_X12_348 kd_337 rfl rfl rfl ?_
      refine r_if_le (tgt := 40) dX12_plan_30 rfl (fun h10 => ?_) (fun h11 => ?_)
      · exact tj_X12_plan_40 hu M7
      · exact tj_X12_plan_33 hu w11 hw11 M7
    · exact tj_X12_plan_33 hu w11 hw11 M7
  · exact tj_X12_plan_40 hu M
set_option maxRecDepth 100000 in
theorem m_X12_plan {g : GT} {n nf : Int} (hu : Up false nf n) (M : Mem) : AM g false yX12_plan cX12_plan 2 (some .int) (9) n n nf [(2, 337)] M (f_X12_plan M) := by
  refine AM_of (by decide +kernel) (Nat.le_of_ble_eq_true rfl) (fun h => absurd h (Int.lt_irrefl n)) ?_
  show AW g false RX12 cX12_plan 2 (some .int) (9) n n nf 0 [(0, 2, 337)] [] n M (f_X12_plan M)
  unfold f_X12_plan
  refine r_aload_n 0 dX12_plan_0 rfl rfl ?_
  refine r_invv (a := 337) hu ⟨Nat.le_refl _, Nat.le_refl _⟩ dX12_plan_1 kM_X12_388 (ci := 12) rfl kd_337 rfl rfl (by decide) (by decide) [] rfl (sk := []) rfl (Nat.le_of_ble_eq_true rfl) rfl (m_X12_begins hu M) (fun r1 M2 => ?_)
  refine r_aload_n 0 dX12_plan_4 rfl rfl ?_
  refine r_gx (kz := 53) rfl hu dX12_plan_5 kF_X12_131 kd_337 rfl rfl rfl fx_337_53 ?_
  refine r_iconst dX12_plan_8 ⟨by decide, by decide⟩ ?_
  refine r_iconst dX12_plan_9 ⟨by decide, by decide⟩ ?_
  refine r_iast hu dX12_plan_10 kd_376 rfl (Or.inl rfl) rfl ln_376 ⟨by decide, by decide⟩ rfl (fun M3 eM3 => ?_)
  exact wl0_aw (P := fun M o => AW g false RX12 cX12_plan 2 (some .int) (9) n n nf 11 [(0, 2, 337)] [] n M (o)) (fun M => aw_none) (fun w hw M => tb_X12_plan_11 hu w hw M) FU M3
theorem dX12_cut_0 : decode cX12_cut 0 = .ok (.lload_n 0, 1) := by decide +kernel
theorem dX12_cut_1 : decode cX12_cut 1 = .ok (.ldc2_w 401, 3) := by decide +kernel
theorem dX12_cut_4 : decode cX12_cut 4 = .ok (.lcmp, 1) := by decide +kernel
theorem dX12_cut_5 : decode cX12_cut 5 = .ok (.ifCond .le 9, 3) := by decide +kernel
theorem dX12_cut_8 : decode cX12_cut 8 = .ok (.ldc2_w 401, 3) := by decide +kernel
theorem dX12_cut_11 : decode cX12_cut 11 = .ok (.goto 4, 3) := by decide +kernel
theorem dX12_cut_14 : decode cX12_cut 14 = .ok (.lload_n 0, 1) := by decide +kernel
theorem dX12_cut_15 : decode cX12_cut 15 = .ok (.lreturn, 1) := by decide +kernel
set_option maxRecDepth 100000 in
theorem m_X12_cut {g : GT} {n nf : Int} (hu : Up false nf n) (M : Mem) (a0 : Int) : AM g false yX12_cut cX12_cut 2 (some .long) (0) n n nf [(1, a0)] M (f_X12_cut M a0) := by
  refine AM_of (by decide +kernel) (Nat.le_of_ble_eq_true rfl) (fun h => absurd h (Int.lt_irrefl n)) ?_
  show AW g false RX12 cX12_cut 2 (some .long) (0) n n nf 0 [(0, 1, a0)] [] n M (f_X12_cut M a0)
  unfold f_X12_cut
  refine r_lload_n 0 dX12_cut_0 rfl rfl ?_
  refine r_ldc2 (v := 1000000) dX12_cut_1 kC_X12_401 rfl ⟨by decide, by decide⟩ ?_
  refine r_lif_le (tgt := 14) dX12_cut_4 dX12_cut_5 rfl (fun h1 => ?_) (fun h2 => ?_)
  · refine r_lload_n 0 dX12_cut_14 rfl rfl ?_
    exact r_lret rfl rfl dX12_cut_15
  · refine r_ldc2 (v := 1000000) dX12_cut_8 kC_X12_401 rfl ⟨by decide, by decide⟩ ?_
    refine r_goto (tgt := 15) dX12_cut_11 rfl ?_
    exact r_lret rfl rfl dX12_cut_15
theorem dX12_showings_0 : decode cX12_showings 0 = .ok (.iconst 0, 1) := by decide +kernel
theorem dX12_showings_1 : decode cX12_showings 1 = .ok (.istore_n 1, 1) := by decide +kernel
theorem dX12_showings_2 : decode cX12_showings 2 = .ok (.aload_n 0, 1) := by decide +kernel
theorem dX12_showings_3 : decode cX12_showings 3 = .ok (.getfield 158, 3) := by decide +kernel
theorem dX12_showings_6 : decode cX12_showings 6 = .ok (.iconst 0, 1) := by decide +kernel
theorem dX12_showings_7 : decode cX12_showings 7 = .ok (.lconst 0, 1) := by decide +kernel
theorem dX12_showings_8 : decode cX12_showings 8 = .ok (.lastore, 1) := by decide +kernel
theorem dX12_showings_9 : decode cX12_showings 9 = .ok (.bipush 80, 2) := by decide +kernel
theorem dX12_showings_11 : decode cX12_showings 11 = .ok (.istore_n 2, 1) := by decide +kernel
theorem dX12_showings_12 : decode cX12_showings 12 = .ok (.iload_n 2, 1) := by decide +kernel
theorem dX12_showings_13 : decode cX12_showings 13 = .ok (.bipush 80, 2) := by decide +kernel
theorem dX12_showings_15 : decode cX12_showings 15 = .ok (.aload_n 0, 1) := by decide +kernel
theorem dX12_showings_16 : decode cX12_showings 16 = .ok (.getfield 131, 3) := by decide +kernel
theorem dX12_showings_19 : decode cX12_showings 19 = .ok (.iconst 1, 1) := by decide +kernel
theorem dX12_showings_20 : decode cX12_showings 20 = .ok (.iaload, 1) := by decide +kernel
theorem dX12_showings_21 : decode cX12_showings 21 = .ok (.iadd, 1) := by decide +kernel
theorem dX12_showings_22 : decode cX12_showings 22 = .ok (.if_icmp .ge 115, 3) := by decide +kernel
theorem dX12_showings_25 : decode cX12_showings 25 = .ok (.aload_n 0, 1) := by decide +kernel
theorem dX12_showings_26 : decode cX12_showings 26 = .ok (.getfield 397, 3) := by decide +kernel
theorem dX12_showings_29 : decode cX12_showings 29 = .ok (.ifCond .eq 108, 3) := by decide +kernel
theorem dX12_showings_32 : decode cX12_showings 32 = .ok (.aload_n 0, 1) := by decide +kernel
theorem dX12_showings_33 : decode cX12_showings 33 = .ok (.getfield 134, 3) := by decide +kernel
theorem dX12_showings_36 : decode cX12_showings 36 = .ok (.iload_n 2, 1) := by decide +kernel
theorem dX12_showings_37 : decode cX12_showings 37 = .ok (.iaload, 1) := by decide +kernel
theorem dX12_showings_38 : decode cX12_showings 38 = .ok (.ifCond .ne 23, 3) := by decide +kernel
theorem dX12_showings_41 : decode cX12_showings 41 = .ok (.aload_n 0, 1) := by decide +kernel
theorem dX12_showings_42 : decode cX12_showings 42 = .ok (.getfield 158, 3) := by decide +kernel
theorem dX12_showings_45 : decode cX12_showings 45 = .ok (.iload_n 1, 1) := by decide +kernel
theorem dX12_showings_46 : decode cX12_showings 46 = .ok (.aload_n 0, 1) := by decide +kernel
theorem dX12_showings_47 : decode cX12_showings 47 = .ok (.getfield 158, 3) := by decide +kernel
theorem dX12_showings_50 : decode cX12_showings 50 = .ok (.iload_n 1, 1) := by decide +kernel
theorem dX12_showings_51 : decode cX12_showings 51 = .ok (.laload, 1) := by decide +kernel
theorem dX12_showings_52 : decode cX12_showings 52 = .ok (.lconst 1, 1) := by decide +kernel
theorem dX12_showings_53 : decode cX12_showings 53 = .ok (.ladd, 1) := by decide +kernel
theorem dX12_showings_54 : decode cX12_showings 54 = .ok (.invokestatic 403, 3) := by decide +kernel
theorem dX12_showings_57 : decode cX12_showings 57 = .ok (.lastore, 1) := by decide +kernel
theorem dX12_showings_58 : decode cX12_showings 58 = .ok (.goto 73, 3) := by decide +kernel
theorem dX12_showings_61 : decode cX12_showings 61 = .ok (.aload_n 0, 1) := by decide +kernel
theorem dX12_showings_62 : decode cX12_showings 62 = .ok (.getfield 134, 3) := by decide +kernel
theorem dX12_showings_65 : decode cX12_showings 65 = .ok (.iload_n 2, 1) := by decide +kernel
theorem dX12_showings_66 : decode cX12_showings 66 = .ok (.iaload, 1) := by decide +kernel
theorem dX12_showings_67 : decode cX12_showings 67 = .ok (.iconst 1, 1) := by decide +kernel
theorem dX12_showings_68 : decode cX12_showings 68 = .ok (.if_icmp .ne 23, 3) := by decide +kernel
theorem dX12_showings_71 : decode cX12_showings 71 = .ok (.aload_n 0, 1) := by decide +kernel
theorem dX12_showings_72 : decode cX12_showings 72 = .ok (.getfield 152, 3) := by decide +kernel
theorem dX12_showings_75 : decode cX12_showings 75 = .ok (.iload_n 1, 1) := by decide +kernel
theorem dX12_showings_76 : decode cX12_showings 76 = .ok (.iload_n 2, 1) := by decide +kernel
theorem dX12_showings_77 : decode cX12_showings 77 = .ok (.iastore, 1) := by decide +kernel
theorem dX12_showings_78 : decode cX12_showings 78 = .ok (.iinc 1 1, 3) := by decide +kernel
theorem dX12_showings_81 : decode cX12_showings 81 = .ok (.aload_n 0, 1) := by decide +kernel
theorem dX12_showings_82 : decode cX12_showings 82 = .ok (.getfield 158, 3) := by decide +kernel
theorem dX12_showings_85 : decode cX12_showings 85 = .ok (.iload_n 1, 1) := by decide +kernel
theorem dX12_showings_86 : decode cX12_showings 86 = .ok (.lconst 0, 1) := by decide +kernel
theorem dX12_showings_87 : decode cX12_showings 87 = .ok (.lastore, 1) := by decide +kernel
theorem dX12_showings_88 : decode cX12_showings 88 = .ok (.goto 43, 3) := by decide +kernel
theorem dX12_showings_91 : decode cX12_showings 91 = .ok (.iinc 1 (-1), 3) := by decide +kernel
theorem dX12_showings_94 : decode cX12_showings 94 = .ok (.aload_n 0, 1) := by decide +kernel
theorem dX12_showings_95 : decode cX12_showings 95 = .ok (.getfield 158, 3) := by decide +kernel
theorem dX12_showings_98 : decode cX12_showings 98 = .ok (.iload_n 1, 1) := by decide +kernel
theorem dX12_showings_99 : decode cX12_showings 99 = .ok (.aload_n 0, 1) := by decide +kernel
theorem dX12_showings_100 : decode cX12_showings 100 = .ok (.getfield 158, 3) := by decide +kernel
theorem dX12_showings_103 : decode cX12_showings 103 = .ok (.iload_n 1, 1) := by decide +kernel
theorem dX12_showings_104 : decode cX12_showings 104 = .ok (.laload, 1) := by decide +kernel
theorem dX12_showings_105 : decode cX12_showings 105 = .ok (.aload_n 0, 1) := by decide +kernel
theorem dX12_showings_106 : decode cX12_showings 106 = .ok (.getfield 149, 3) := by decide +kernel
theorem dX12_showings_109 : decode cX12_showings 109 = .ok (.aload_n 0, 1) := by decide +kernel
theorem dX12_showings_110 : decode cX12_showings 110 = .ok (.getfield 152, 3) := by decide +kernel
theorem dX12_showings_113 : decode cX12_showings 113 = .ok (.iload_n 1, 1) := by decide +kernel
theorem dX12_showings_114 : decode cX12_showings 114 = .ok (.iaload, 1) := by decide +kernel
theorem dX12_showings_115 : decode cX12_showings 115 = .ok (.iaload, 1) := by decide +kernel
theorem dX12_showings_116 : decode cX12_showings 116 = .ok (.i2l, 1) := by decide +kernel
theorem dX12_showings_117 : decode cX12_showings 117 = .ok (.aload_n 0, 1) := by decide +kernel
theorem dX12_showings_118 : decode cX12_showings 118 = .ok (.getfield 158, 3) := by decide +kernel
theorem dX12_showings_121 : decode cX12_showings 121 = .ok (.iload_n 1, 1) := by decide +kernel
theorem dX12_showings_122 : decode cX12_showings 122 = .ok (.iconst 1, 1) := by decide +kernel
theorem dX12_showings_123 : decode cX12_showings 123 = .ok (.iadd, 1) := by decide +kernel
theorem dX12_showings_124 : decode cX12_showings 124 = .ok (.laload, 1) := by decide +kernel
theorem dX12_showings_125 : decode cX12_showings 125 = .ok (.lmul, 1) := by decide +kernel
theorem dX12_showings_126 : decode cX12_showings 126 = .ok (.ladd, 1) := by decide +kernel
theorem dX12_showings_127 : decode cX12_showings 127 = .ok (.invokestatic 403, 3) := by decide +kernel
theorem dX12_showings_130 : decode cX12_showings 130 = .ok (.lastore, 1) := by decide +kernel
theorem dX12_showings_131 : decode cX12_showings 131 = .ok (.iinc 2 1, 3) := by decide +kernel
theorem dX12_showings_134 : decode cX12_showings 134 = .ok (.goto (-122), 3) := by decide +kernel
theorem dX12_showings_137 : decode cX12_showings 137 = .ok (.aload_n 0, 1) := by decide +kernel
theorem dX12_showings_138 : decode cX12_showings 138 = .ok (.getfield 158, 3) := by decide +kernel
theorem dX12_showings_141 : decode cX12_showings 141 = .ok (.iconst 0, 1) := by decide +kernel
theorem dX12_showings_142 : decode cX12_showings 142 = .ok (.laload, 1) := by decide +kernel
theorem dX12_showings_143 : decode cX12_showings 143 = .ok (.l2i, 1) := by decide +kernel
theorem dX12_showings_144 : decode cX12_showings 144 = .ok (.ireturn, 1) := by decide +kernel
set_option maxRecDepth 100000 in
theorem tb_X12_showings_12 {g : GT} {n nf : Int} (hu : Up false nf n) (w12 : Mem → Int → Int → Res) (hw12 : ∀ (M : Mem) (x1 x2 : Int), AW g false RX12 cX12_showings 3 (some .int) (1) n n nf 12 [(0, 2, 337), (1, 0, x1), (2, 0, x2)] [] n M (w12 M x1 x2)) (M : Mem) (x1 x2 : Int) : AW g false RX12 cX12_showings 3 (some .int) (1) n n nf 12 [(0, 2, 337), (1, 0, x1), (2, 0, x2)] [] n M (b_X12_showings_12 w12 M x1 x2) := by
  unfold b_X12_showings_12
  refine r_iload_n 2 dX12_showings_12 rfl rfl ?_
  refine r_bipush dX12_showings_13 (by decide) ⟨by decide, by decide⟩ ?_
  refine r_aload_n 0 dX12_showings_15 rfl rfl ?_
  refine r_gx (kz := 53) rfl hu dX12_showings_16 kF_X12_131 kd_337 rfl rfl rfl fx_337_53 ?_
  refine r_iconst dX12_showings_19 ⟨by decide, by decide⟩ ?_
  refine r_iald hu dX12_showings_20 kd_376 rfl (Or.inl rfl) rfl ln_376 ⟨by decide, by decide⟩ ?_
  refine r_ok (fun h2 => ?_)
  refine r_iadd dX12_showings_21 h2 ?_
  refine r_icmp_ge (tgt := 137) dX12_showings_22 rfl (fun h3 => ?_) (fun h4 => ?_)
  · refine r_aload_n 0 dX12_showings_137 rfl rfl ?_
    refine r_gx (kz := 63) rfl hu dX12_showings_138 kF_X12_158 kd_337 rfl rfl rfl fx_337_63 ?_
    refine r_iconst dX12_showings_141 ⟨by decide, by decide⟩ ?_
    refine r_lald hu dX12_showings_142 kd_385 rfl rfl rfl ln_385 ⟨by decide, by decide⟩ ?_
    refine r_ok (fun h5 => ?_)
    refine r_l2i dX12_showings_143 h5 ?_
    exact r_iret rfl rfl (Or.inl rfl) dX12_showings_144
  · refine r_aload_n 0 dX12_showings_25 rfl rfl ?_
    refine r_gf (t := 0) (kz := 60) rfl hu dX12_showings_26 kF_X12_397 kd_337 rfl rfl rfl ?_
    refine r_if_eq (tgt := 137) dX12_showings_29 rfl (fun h6 => ?_) (fun h7 => ?_)
    · refine r_aload_n 0 dX12_showings_137 rfl rfl ?_
      refine r_gx (kz := 63) rfl hu dX12_showings_138 kF_X12_158 kd_337 rfl rfl rfl fx_337_63 ?_
      refine r_iconst dX12_showings_141 ⟨by decide, by decide⟩ ?_
      refine r_lald hu dX12_showings_142 kd_385 rfl rfl rfl ln_385 ⟨by decide, by decide⟩ ?_
      refine r_ok (fun h8 => ?_)
      refine r_l2i dX12_showings_143 h8 ?_
      exact r_iret rfl rfl (Or.inl rfl) dX12_showings_144
    · refine r_aload_n 0 dX12_showings_32 rfl rfl ?_
      refine r_gx (kz := 54) rfl hu dX12_showings_33 kF_X12_134 kd_337 rfl rfl rfl fx_337_54 ?_
      refine r_iload_n 2 dX12_showings_36 rfl rfl ?_
      refine r_ok (fun h9 => ?_)
      refine r_iald hu dX12_showings_37 kd_377 rfl (Or.inl rfl) rfl ln_377 h9 ?_
      refine r_if_ne (tgt := 61) dX12_showings_38 rfl (fun h10 => ?_) (fun h11 => ?_)
      · refine r_aload_n 0 dX12_showings_41 rfl rfl ?_
        refine r_gx (kz := 63) rfl hu dX12_showings_42 kF_X12_158 kd_337 rfl rfl rfl fx_337_63 ?_
        refine r_iload_n 1 dX12_showings_45 rfl rfl ?_
        refine r_aload_n 0 dX12_showings_46 rfl rfl ?_
        refine r_gx (kz := 63) rfl hu dX12_showings_47 kF_X12_158 kd_337 rfl rfl rfl fx_337_63 ?_
        refine r_iload_n 1 dX12_showings_50 rfl rfl ?_
        refine r_ok (fun h12 => ?_)
        refine r_lald hu dX12_showings_51 kd_385 rfl rfl rfl ln_385 h12 ?_
        refine r_lconst (v := 1) dX12_showings_52 (by decide) ⟨by decide, by decide⟩ ?_
        refine r_ok (fun h13 => ?_)
        refine r_ladd dX12_showings_53 h13 ?_
        refine r_ins (a := 0) ⟨Nat.le_refl _, Nat.le_refl _⟩ dX12_showings_54 kM_X12_403 (by decide) (by decide) [(1, (M 385 x1) + 1)] rfl (sk := [(0, x1), (2, 385)]) rfl (Nat.le_of_ble_eq_true rfl) rfl rfl (m_X12_cut hu M ((M 385 x1) + 1)) (fun r14 M15 => ?_)
        refine r_last hu dX12_showings_57 kd_385 rfl rfl rfl ln_385 h12 rfl (fun M16 eM16 => ?_)
        refine r_goto (tgt := 131) dX12_showings_58 rfl ?_
        refine r_iincB 2 dX12_showings_131 rfl ⟨by have := h9; omega, by have := h9; omega⟩ (by decide) (lf := fun y17 => [(2, 0, y17), (0, 2, 337), (1, 0, x1)]) (fun _ => rfl) (fun y17 ey17 => ?_)
        refine r_goto (tgt := 12) dX12_showings_134 rfl ?_
        refine r_sub [1, 2, 0] (ls' := [(0, 2, 337), (1, 0, x1), (2, 0, y17)]) rfl ?_
        exact hw12 M16 x1 y17
      · refine r_aload_n 0 dX12_showings_61 rfl rfl ?_
        refine r_gx (kz := 54) rfl hu dX12_showings_62 kF_X12_134 kd_337 rfl rfl rfl fx_337_54 ?_
        refine r_iload_n 2 dX12_showings_65 rfl rfl ?_
        refine r_iald hu dX12_showings_66 kd_377 rfl (Or.inl rfl) rfl ln_377 h9 ?_
        refine r_iconst dX12_showings_67 ⟨by decide, by decide⟩ ?_
        refine r_icmp_ne (tgt := 91) dX12_showings_68 rfl (fun h18 => ?_) (fun h19 => ?_)
        · refine r_aload_n 0 dX12_showings_71 rfl rfl ?_
          refine r_gx (kz := 61) rfl hu dX12_showings_72 kF_X12_152 kd_337 rfl rfl rfl fx_337_61 ?_
          refine r_iload_n 1 dX12_showings_75 rfl rfl ?_
          refine r_iload_n 2 dX12_showings_76 rfl rfl ?_
          refine r_ok (fun h20 => ?_)
          refine r_iast hu dX12_showings_77 kd_383 rfl (Or.inl rfl) rfl ln_383 h20 rfl (fun M21 eM21 => ?_)
          refine r_iincB 1 dX12_showings_78 rfl ⟨by have := h20; omega, by have := h20; omega⟩ (by decide) (lf := fun y22 => [(1, 0, y22), (0, 2, 337), (2, 0, x2)]) (fun _ => rfl) (fun y22 ey22 => ?_)
          refine r_aload_n 1 dX12_showings_81 rfl rfl ?_
          refine r_gx (kz := 63) rfl hu dX12_showings_82 kF_X12_158 kd_337 rfl rfl rfl fx_337_63 ?_
          refine r_iload_n 0 dX12_showings_85 rfl rfl ?_
          refine r_lconst (v := 0) dX12_showings_86 (by decide) ⟨by decide, by decide⟩ ?_
          refine r_ok (fun h23 => ?_)
          refine r_last hu dX12_showings_87 kd_385 rfl rfl rfl ln_385 h23 rfl (fun M24 eM24 => ?_)
          refine r_goto (tgt := 131) dX12_showings_88 rfl ?_
          refine r_iincB 2 dX12_showings_131 rfl ⟨by have := h9; omega, by have := h9; omega⟩ (by decide) (lf := fun y25 => [(2, 0, y25), (1, 0, y22), (0, 2, 337)]) (fun _ => rfl) (fun y25 ey25 => ?_)
          refine r_goto (tgt := 12) dX12_showings_134 rfl ?_
          refine r_sub [2, 1, 0] (ls' := [(0, 2, 337), (1, 0, y22), (2, 0, y25)]) rfl ?_
          exact hw12 M24 y22 y25
        · refine r_ok (fun h26 => ?_)
          refine r_iincB 1 dX12_showings_91 rfl h26 (by decide) (lf := fun y27 => [(1, 0, y27), (0, 2, 337), (2, 0, x2)]) (fun _ => rfl) (fun y27 ey27 => ?_)
          refine r_aload_n 1 dX12_showings_94 rfl rfl ?_
          refine r_gx (kz := 63) rfl hu dX12_showings_95 kF_X12_158 kd_337 rfl rfl rfl fx_337_63 ?_
          refine r_iload_n 0 dX12_showings_98 rfl rfl ?_
          refine r_aload_n 1 dX12_showings_99 rfl rfl ?_
          refine r_gx (kz := 63) rfl hu dX12_showings_100 kF_X12_158 kd_337 rfl rfl rfl fx_337_63 ?_
          refine r_iload_n 0 dX12_showings_103 rfl rfl ?_
          refine r_ok (fun h28 => ?_)
          refine r_lald hu dX12_showings_104 kd_385 rfl rfl rfl ln_385 h28 ?_
          refine r_aload_n 1 dX12_showings_105 rfl rfl ?_
          refine r_gx (kz := 59) rfl hu dX12_showings_106 kF_X12_149 kd_337 rfl rfl rfl fx_337_59 ?_
          refine r_aload_n 1 dX12_showings_109 rfl rfl ?_
          refine r_gx (kz := 61) rfl hu dX12_showings_110 kF_X12_152 kd_337 rfl rfl rfl fx_337_61 ?_
          refine r_iload_n 0 dX12_showings_113 rfl rfl ?_
          refine r_iald hu dX12_showings_114 kd_383 rfl (Or.inl rfl) rfl ln_383 h28 ?_
          refine r_ok (fun h29 => ?_)
          refine r_iald hu dX12_showings_115 kd_382 rfl (Or.inl rfl) rfl ln_382 h29 ?_
          refine r_i2l dX12_showings_116 ?_
          refine r_aload_n 1 dX12_showings_117 rfl rfl ?_
          refine r_gx (kz := 63) rfl hu dX12_showings_118 kF_X12_158 kd_337 rfl rfl rfl fx_337_63 ?_
          refine r_iload_n 0 dX12_showings_121 rfl rfl ?_
          refine r_iconst dX12_showings_122 ⟨by decide, by decide⟩ ?_
          refine r_iadd dX12_showings_123 ⟨by have := h28; omega, by have := h28; omega⟩ ?_
          refine r_ok (fun h30 => ?_)
          refine r_lald hu dX12_showings_124 kd_385 rfl rfl rfl ln_385 h30 ?_
          refine r_ok (fun h31 => ?_)
          refine r_lmul dX12_showings_125 h31 ?_
          refine r_ok (fun h32 => ?_)
          refine r_ladd dX12_showings_126 h32 ?_
          refine r_ins (a := 0) ⟨Nat.le_refl _, Nat.le_refl _⟩ dX12_showings_127 kM_X12_403 (by decide) (by decide) [(1, (M 385 y27) + ((M 382 (M 383 y27)) * (M 385 (y27 + 1))))] rfl (sk := [(0, y27), (2, 385)]) rfl (Nat.le_of_ble_eq_true rfl) rfl rfl (m_X12_cut hu M ((M 385 y27) + ((M 382 (M 383 y27)) * (M 385 (y27 + 1))))) (fun r33 M34 => ?_)
          refine r_last hu dX12_showings_130 kd_385 rfl rfl rfl ln_385 h28 rfl (fun M35 eM35 => ?_)
          refine r_iincB 2 dX12_showings_131 rfl ⟨by have := h9; omega, by have := h9; omega⟩ (by decide) (lf := fun y36 => [(2, 0, y36), (1, 0, y27), (0, 2, 337)]) (fun _ => rfl) (fun y36 ey36 => ?_)
          refine r_goto (tgt := 12) dX12_showings_134 rfl ?_
          refine r_sub [2, 1, 0] (ls' := [(0, 2, 337), (1, 0, y27), (2, 0, y36)]) rfl ?_
          exact hw12 M35 y27 y36
set_option maxRecDepth 100000 in
theorem m_X12_showings {g : GT} {n nf : Int} (hu : Up false nf n) (M : Mem) : AM g false yX12_showings cX12_showings 3 (some .int) (1) n n nf [(2, 337)] M (f_X12_showings M) := by
  refine AM_of (by decide +kernel) (Nat.le_of_ble_eq_true rfl) (fun h => absurd h (Int.lt_irrefl n)) ?_
  show AW g false RX12 cX12_showings 3 (some .int) (1) n n nf 0 [(0, 2, 337)] [] n M (f_X12_showings M)
  unfold f_X12_showings
  refine r_iconst dX12_showings_0 ⟨by decide, by decide⟩ ?_
  refine r_istore_n dX12_showings_1 rfl (by decide) (ls' := [(1, 0, 0), (0, 2, 337)]) rfl ?_
  refine r_aload_n 1 dX12_showings_2 rfl rfl ?_
  refine r_gx (kz := 63) rfl hu dX12_showings_3 kF_X12_158 kd_337 rfl rfl rfl fx_337_63 ?_
  refine r_iconst dX12_showings_6 ⟨by decide, by decide⟩ ?_
  refine r_lconst (v := 0) dX12_showings_7 (by decide) ⟨by decide, by decide⟩ ?_
  refine r_last hu dX12_showings_8 kd_385 rfl rfl rfl ln_385 ⟨by decide, by decide⟩ rfl (fun M1 eM1 => ?_)
  refine r_bipush dX12_showings_9 (by decide) ⟨by decide, by decide⟩ ?_
  refine r_istore_n dX12_showings_11 rfl (by decide) (ls' := [(2, 0, 80), (1, 0, 0), (0, 2, 337)]) rfl ?_
  refine r_sub [2, 1, 0] (ls' := [(0, 2, 337), (1, 0, 0), (2, 0, 80)]) rfl ?_
  exact wl2_aw (P := fun M x1 x2 o => AW g false RX12 cX12_showings 3 (some .int) (1) n n nf 12 [(0, 2, 337), (1, 0, x1), (2, 0, x2)] [] n M (o)) (fun M x1 x2 => aw_none) (fun w hw M x1 x2 => tb_X12_showings_12 hu w hw M x1 x2) FU M1 0 80
theorem dX12_puts_0 : decode cX12_puts 0 = .ok (.aload_n 0, 1) := by decide +kernel
theorem dX12_puts_1 : decode cX12_puts 1 = .ok (.getfield 164, 3) := by decide +kernel
theorem dX12_puts_4 : decode cX12_puts 4 = .ok (.aload_n 0, 1) := by decide +kernel
theorem dX12_puts_5 : decode cX12_puts 5 = .ok (.getfield 494, 3) := by decide +kernel
theorem dX12_puts_8 : decode cX12_puts 8 = .ok (.lload_n 1, 1) := by decide +kernel
theorem dX12_puts_9 : decode cX12_puts 9 = .ok (.lastore, 1) := by decide +kernel
theorem dX12_puts_10 : decode cX12_puts 10 = .ok (.aload_n 0, 1) := by decide +kernel
theorem dX12_puts_11 : decode cX12_puts 11 = .ok (.dup, 1) := by decide +kernel
theorem dX12_puts_12 : decode cX12_puts 12 = .ok (.getfield 494, 3) := by decide +kernel
theorem dX12_puts_15 : decode cX12_puts 15 = .ok (.iconst 1, 1) := by decide +kernel
theorem dX12_puts_16 : decode cX12_puts 16 = .ok (.iadd, 1) := by decide +kernel
theorem dX12_puts_17 : decode cX12_puts 17 = .ok (.putfield 494, 3) := by decide +kernel
theorem dX12_puts_20 : decode cX12_puts 20 = .ok (.return_, 1) := by decide +kernel
set_option maxRecDepth 100000 in
theorem m_X12_puts {g : GT} {n nf : Int} (hu : Up false nf n) (M : Mem) (a1 : Int) : AM g false yX12_puts cX12_puts 3 none (0) n n nf [(2, 337), (1, a1)] M (f_X12_puts M a1) := by
  refine AM_of (by decide +kernel) (Nat.le_of_ble_eq_true rfl) (fun h => absurd h (Int.lt_irrefl n)) ?_
  show AW g false RX12 cX12_puts 3 none (0) n n nf 0 [(0, 2, 337), (1, 1, a1)] [] n M (f_X12_puts M a1)
  unfold f_X12_puts
  refine r_aload_n 0 dX12_puts_0 rfl rfl ?_
  refine r_gx (kz := 66) rfl hu dX12_puts_1 kF_X12_164 kd_337 rfl rfl rfl fx_337_66 ?_
  refine r_aload_n 0 dX12_puts_4 rfl rfl ?_
  refine r_gf (t := 0) (kz := 67) rfl hu dX12_puts_5 kF_X12_494 kd_337 rfl rfl rfl ?_
  refine r_lload_n 1 dX12_puts_8 rfl rfl ?_
  refine r_ok (fun h1 => ?_)
  refine r_last hu dX12_puts_9 kd_387 rfl rfl rfl ln_387 h1 rfl (fun M2 eM2 => ?_)
  refine r_aload_n 0 dX12_puts_10 rfl rfl ?_
  refine r_dup dX12_puts_11 (nz2 _) ?_
  refine r_gf (t := 0) (kz := 67) rfl hu dX12_puts_12 kF_X12_494 kd_337 rfl rfl rfl ?_
  refine r_iconst dX12_puts_15 ⟨by decide, by decide⟩ ?_
  refine r_ok (fun h3 => ?_)
  refine r_iadd dX12_puts_16 h3 ?_
  refine r_pf (t := 0) (kz := 67) rfl hu dX12_puts_17 kF_X12_494 kd_337 rfl rfl rfl (fun h => absurd h (by decide)) rfl kX_12_67 (fun M4 eM4 => ?_)
  exact r_vret rfl rfl dX12_puts_20
theorem dX12_clip_0 : decode cX12_clip 0 = .ok (.lload_n 0, 1) := by decide +kernel
theorem dX12_clip_1 : decode cX12_clip 1 = .ok (.ldc2_w 401, 3) := by decide +kernel
theorem dX12_clip_4 : decode cX12_clip 4 = .ok (.lcmp, 1) := by decide +kernel
theorem dX12_clip_5 : decode cX12_clip 5 = .ok (.ifCond .le 9, 3) := by decide +kernel
theorem dX12_clip_8 : decode cX12_clip 8 = .ok (.ldc2_w 401, 3) := by decide +kernel
theorem dX12_clip_11 : decode cX12_clip 11 = .ok (.goto 18, 3) := by decide +kernel
theorem dX12_clip_14 : decode cX12_clip 14 = .ok (.lload_n 0, 1) := by decide +kernel
theorem dX12_clip_15 : decode cX12_clip 15 = .ok (.ldc2_w 492, 3) := by decide +kernel
theorem dX12_clip_18 : decode cX12_clip 18 = .ok (.lcmp, 1) := by decide +kernel
theorem dX12_clip_19 : decode cX12_clip 19 = .ok (.ifCond .ge 9, 3) := by decide +kernel
theorem dX12_clip_22 : decode cX12_clip 22 = .ok (.ldc2_w 492, 3) := by decide +kernel
theorem dX12_clip_25 : decode cX12_clip 25 = .ok (.goto 4, 3) := by decide +kernel
theorem dX12_clip_28 : decode cX12_clip 28 = .ok (.lload_n 0, 1) := by decide +kernel
theorem dX12_clip_29 : decode cX12_clip 29 = .ok (.lreturn, 1) := by decide +kernel
set_option maxRecDepth 100000 in
theorem m_X12_clip {g : GT} {n nf : Int} (hu : Up false nf n) (M : Mem) (a0 : Int) : AM g false yX12_clip cX12_clip 2 (some .long) (0) n n nf [(1, a0)] M (f_X12_clip M a0) := by
  refine AM_of (by decide +kernel) (Nat.le_of_ble_eq_true rfl) (fun h => absurd h (Int.lt_irrefl n)) ?_
  show AW g false RX12 cX12_clip 2 (some .long) (0) n n nf 0 [(0, 1, a0)] [] n M (f_X12_clip M a0)
  unfold f_X12_clip
  refine r_lload_n 0 dX12_clip_0 rfl rfl ?_
  refine r_ldc2 (v := 1000000) dX12_clip_1 kC_X12_401 rfl ⟨by decide, by decide⟩ ?_
  refine r_lif_le (tgt := 14) dX12_clip_4 dX12_clip_5 rfl (fun h1 => ?_) (fun h2 => ?_)
  · refine r_lload_n 0 dX12_clip_14 rfl rfl ?_
    refine r_ldc2 (v := (-1000000)) dX12_clip_15 kC_X12_492 rfl ⟨by decide, by decide⟩ ?_
    refine r_lif_ge (tgt := 28) dX12_clip_18 dX12_clip_19 rfl (fun h3 => ?_) (fun h4 => ?_)
    · refine r_lload_n 0 dX12_clip_28 rfl rfl ?_
      exact r_lret rfl rfl dX12_clip_29
    · refine r_ldc2 (v := (-1000000)) dX12_clip_22 kC_X12_492 rfl ⟨by decide, by decide⟩ ?_
      refine r_goto (tgt := 29) dX12_clip_25 rfl ?_
      exact r_lret rfl rfl dX12_clip_29
  · refine r_ldc2 (v := 1000000) dX12_clip_8 kC_X12_401 rfl ⟨by decide, by decide⟩ ?_
    refine r_goto (tgt := 29) dX12_clip_11 rfl ?_
    exact r_lret rfl rfl dX12_clip_29
theorem dX12_floor_0 : decode cX12_floor 0 = .ok (.lload_n 2, 1) := by decide +kernel
theorem dX12_floor_1 : decode cX12_floor 1 = .ok (.lconst 0, 1) := by decide +kernel
theorem dX12_floor_2 : decode cX12_floor 2 = .ok (.lcmp, 1) := by decide +kernel
theorem dX12_floor_3 : decode cX12_floor 3 = .ok (.ifCond .ne 5, 3) := by decide +kernel
theorem dX12_floor_6 : decode cX12_floor 6 = .ok (.lconst 0, 1) := by decide +kernel
theorem dX12_floor_7 : decode cX12_floor 7 = .ok (.lreturn, 1) := by decide +kernel
theorem dX12_floor_8 : decode cX12_floor 8 = .ok (.lload_n 0, 1) := by decide +kernel
theorem dX12_floor_9 : decode cX12_floor 9 = .ok (.lload_n 2, 1) := by decide +kernel
theorem dX12_floor_10 : decode cX12_floor 10 = .ok (.ldiv, 1) := by decide +kernel
theorem dX12_floor_11 : decode cX12_floor 11 = .ok (.lstore 4, 2) := by decide +kernel
theorem dX12_floor_13 : decode cX12_floor 13 = .ok (.lload_n 0, 1) := by decide +kernel
theorem dX12_floor_14 : decode cX12_floor 14 = .ok (.lload_n 2, 1) := by decide +kernel
theorem dX12_floor_15 : decode cX12_floor 15 = .ok (.lrem, 1) := by decide +kernel
theorem dX12_floor_16 : decode cX12_floor 16 = .ok (.lconst 0, 1) := by decide +kernel
theorem dX12_floor_17 : decode cX12_floor 17 = .ok (.lcmp, 1) := by decide +kernel
theorem dX12_floor_18 : decode cX12_floor 18 = .ok (.ifCond .eq 35, 3) := by decide +kernel
theorem dX12_floor_21 : decode cX12_floor 21 = .ok (.lload_n 0, 1) := by decide +kernel
theorem dX12_floor_22 : decode cX12_floor 22 = .ok (.lconst 0, 1) := by decide +kernel
theorem dX12_floor_23 : decode cX12_floor 23 = .ok (.lcmp, 1) := by decide +kernel
theorem dX12_floor_24 : decode cX12_floor 24 = .ok (.ifCond .ge 7, 3) := by decide +kernel
theorem dX12_floor_27 : decode cX12_floor 27 = .ok (.iconst 1, 1) := by decide +kernel
theorem dX12_floor_28 : decode cX12_floor 28 = .ok (.goto 4, 3) := by decide +kernel
theorem dX12_floor_31 : decode cX12_floor 31 = .ok (.iconst 0, 1) := by decide +kernel
theorem dX12_floor_32 : decode cX12_floor 32 = .ok (.lload_n 2, 1) := by decide +kernel
theorem dX12_floor_33 : decode cX12_floor 33 = .ok (.lconst 0, 1) := by decide +kernel
theorem dX12_floor_34 : decode cX12_floor 34 = .ok (.lcmp, 1) := by decide +kernel
theorem dX12_floor_35 : decode cX12_floor 35 = .ok (.ifCond .ge 7, 3) := by decide +kernel
theorem dX12_floor_38 : decode cX12_floor 38 = .ok (.iconst 1, 1) := by decide +kernel
theorem dX12_floor_39 : decode cX12_floor 39 = .ok (.goto 4, 3) := by decide +kernel
theorem dX12_floor_42 : decode cX12_floor 42 = .ok (.iconst 0, 1) := by decide +kernel
theorem dX12_floor_43 : decode cX12_floor 43 = .ok (.if_icmp .eq 10, 3) := by decide +kernel
theorem dX12_floor_46 : decode cX12_floor 46 = .ok (.lload 4, 2) := by decide +kernel
theorem dX12_floor_48 : decode cX12_floor 48 = .ok (.lconst 1, 1) := by decide +kernel
theorem dX12_floor_49 : decode cX12_floor 49 = .ok (.lsub, 1) := by decide +kernel
theorem dX12_floor_50 : decode cX12_floor 50 = .ok (.goto 5, 3) := by decide +kernel
theorem dX12_floor_53 : decode cX12_floor 53 = .ok (.lload 4, 2) := by decide +kernel
theorem dX12_floor_55 : decode cX12_floor 55 = .ok (.lreturn, 1) := by decide +kernel
set_option maxRecDepth 100000 in
theorem tj_X12_floor_43 {g : GT} {n nf : Int} (hu : Up false nf n) (M : Mem) (x4 s0 s1 : Int) : AW g false RX12 cX12_floor 6 (some .long) (0) n n nf 43 [(4, 1, x4)] [(0, s0), (0, s1)] n M (j_X12_floor_43 M x4 s0 s1) := by
  unfold j_X12_floor_43
  refine r_icmp_eq (tgt := 53) dX12_floor_43 rfl (fun h12 => ?_) (fun h13 => ?_)
  · refine r_lload 0 dX12_floor_53 rfl ?_
    exact r_lret rfl rfl dX12_floor_55
  · refine r_lload 0 dX12_floor_46 rfl ?_
    refine r_lconst (v := 1) dX12_floor_48 (by decide) ⟨by decide, by decide⟩ ?_
    refine r_ok (fun h14 => ?_)
    refine r_lsub dX12_floor_49 h14 ?_
    refine r_goto (tgt := 55) dX12_floor_50 rfl ?_
    exact r_lret rfl rfl dX12_floor_55
set_option maxRecDepth 100000 in
theorem tj_X12_floor_32 {g : GT} {n nf : Int} (hu : Up false nf n) (a2 : Int) (M : Mem) (x4 s0 : Int) : AW g false RX12 cX12_floor 6 (some .long) (0) n n nf 32 [(2, 1, a2), (4, 1, x4)] [(0, s0)] n M (j_X12_floor_32 a2 M x4 s0) := by
  unfold j_X12_floor_32
  refine r_lload_n 0 dX12_floor_32 rfl rfl ?_
  refine r_lconst (v := 0) dX12_floor_33 (by decide) ⟨by decide, by decide⟩ ?_
  refine r_lif_ge (tgt := 42) dX12_floor_34 dX12_floor_35 rfl (fun h10 => ?_) (fun h11 => ?_)
  · refine r_iconst dX12_floor_42 ⟨by decide, by decide⟩ ?_
    refine r_sub [1] (ls' := [(4, 1, x4)]) rfl ?_
    exact tj_X12_floor_43 hu M x4 0 s0
  · refine r_iconst dX12_floor_38 ⟨by decide, by decide⟩ ?_
    refine r_goto (tgt := 43) dX12_floor_39 rfl ?_
    refine r_sub [1] (ls' := [(4, 1, x4)]) rfl ?_
    exact tj_X12_floor_43 hu M x4 1 s0
set_option maxRecDepth 100000 in
theorem m_X12_floor {g : GT} {n nf : Int} (hu : Up false nf n) (M : Mem) (a0 a2 : Int) : AM g false yX12_floor cX12_floor 6 (some .long) (0) n n nf [(1, a0), (1, a2)] M (f_X12_floor M a0 a2) := by
  refine AM_of (by decide +kernel) (Nat.le_of_ble_eq_true rfl) (fun h => absurd h (Int.lt_irrefl n)) ?_
  show AW g false RX12 cX12_floor 6 (some .long) (0) n n nf 0 [(0, 1, a0), (2, 1, a2)] [] n M (f_X12_floor M a0 a2)
  unfold f_X12_floor
  refine r_lload_n 1 dX12_floor_0 rfl rfl ?_
  refine r_lconst (v := 0) dX12_floor_1 (by decide) ⟨by decide, by decide⟩ ?_
  refine r_lif_ne (tgt := 8) dX12_floor_2 dX12_floor_3 rfl (fun h1 => ?_) (fun h2 => ?_)
  · refine r_lconst (v := 0) dX12_floor_6 (by decide) ⟨by decide, by decide⟩ ?_
    exact r_lret rfl rfl dX12_floor_7
  · refine r_lload_n 0 dX12_floor_8 rfl rfl ?_
    refine r_lload_n 1 dX12_floor_9 rfl rfl ?_
    refine r_ok (fun h3 => ?_)
    refine r_ok (fun h4 => ?_)
    refine r_ldiv dX12_floor_10 h3 h4 ?_
    refine r_lstoreB dX12_floor_11 (by decide) (lf := fun y5 => [(4, 1, y5), (0, 1, a0), (2, 1, a2)]) (fun _ => rfl) (fun y5 ey5 => ?_)
    refine r_lload_n 1 dX12_floor_13 rfl rfl ?_
    refine r_lload_n 2 dX12_floor_14 rfl rfl ?_
    refine r_lrem dX12_floor_15 h3 ?_
    refine r_lconst (v := 0) dX12_floor_16 (by decide) ⟨by decide, by decide⟩ ?_
    refine r_lif_eq (tgt := 53) dX12_floor_17 dX12_floor_18 rfl (fun h6 => ?_) (fun h7 => ?_)
    · refine r_lload 0 dX12_floor_53 rfl ?_
      exact r_lret rfl rfl dX12_floor_55
    · refine r_lload_n 1 dX12_floor_21 rfl rfl ?_
      refine r_lconst (v := 0) dX12_floor_22 (by decide) ⟨by decide, by decide⟩ ?_
      refine r_lif_ge (tgt := 31) dX12_floor_23 dX12_floor_24 rfl (fun h8 => ?_) (fun h9 => ?_)
      · refine r_iconst dX12_floor_31 ⟨by decide, by decide⟩ ?_
        refine r_sub [2, 0] (ls' := [(2, 1, a2), (4, 1, y5)]) rfl ?_
        exact tj_X12_floor_32 hu a2 M y5 0
      · refine r_iconst dX12_floor_27 ⟨by decide, by decide⟩ ?_
        refine r_goto (tgt := 32) dX12_floor_28 rfl ?_
        refine r_sub [2, 0] (ls' := [(2, 1, a2), (4, 1, y5)]) rfl ?_
        exact tj_X12_floor_32 hu a2 M y5 1
theorem dX12_joins_0 : decode cX12_joins 0 = .ok (.aload_n 0, 1) := by decide +kernel
theorem dX12_joins_1 : decode cX12_joins 1 = .ok (.getfield 164, 3) := by decide +kernel
theorem dX12_joins_4 : decode cX12_joins 4 = .ok (.aload_n 0, 1) := by decide +kernel
theorem dX12_joins_5 : decode cX12_joins 5 = .ok (.getfield 494, 3) := by decide +kernel
theorem dX12_joins_8 : decode cX12_joins 8 = .ok (.iconst 1, 1) := by decide +kernel
theorem dX12_joins_9 : decode cX12_joins 9 = .ok (.isub, 1) := by decide +kernel
theorem dX12_joins_10 : decode cX12_joins 10 = .ok (.laload, 1) := by decide +kernel
theorem dX12_joins_11 : decode cX12_joins 11 = .ok (.lstore_n 2, 1) := by decide +kernel
theorem dX12_joins_12 : decode cX12_joins 12 = .ok (.aload_n 0, 1) := by decide +kernel
theorem dX12_joins_13 : decode cX12_joins 13 = .ok (.getfield 164, 3) := by decide +kernel
theorem dX12_joins_16 : decode cX12_joins 16 = .ok (.aload_n 0, 1) := by decide +kernel
theorem dX12_joins_17 : decode cX12_joins 17 = .ok (.getfield 494, 3) := by decide +kernel
theorem dX12_joins_20 : decode cX12_joins 20 = .ok (.iconst 2, 1) := by decide +kernel
theorem dX12_joins_21 : decode cX12_joins 21 = .ok (.isub, 1) := by decide +kernel
theorem dX12_joins_22 : decode cX12_joins 22 = .ok (.laload, 1) := by decide +kernel
theorem dX12_joins_23 : decode cX12_joins 23 = .ok (.lstore 4, 2) := by decide +kernel
theorem dX12_joins_25 : decode cX12_joins 25 = .ok (.aload_n 0, 1) := by decide +kernel
theorem dX12_joins_26 : decode cX12_joins 26 = .ok (.dup, 1) := by decide +kernel
theorem dX12_joins_27 : decode cX12_joins 27 = .ok (.getfield 494, 3) := by decide +kernel
theorem dX12_joins_30 : decode cX12_joins 30 = .ok (.iconst 2, 1) := by decide +kernel
theorem dX12_joins_31 : decode cX12_joins 31 = .ok (.isub, 1) := by decide +kernel
theorem dX12_joins_32 : decode cX12_joins 32 = .ok (.putfield 494, 3) := by decide +kernel
theorem dX12_joins_35 : decode cX12_joins 35 = .ok (.iload_n 1, 1) := by decide +kernel
theorem dX12_joins_36 : decode cX12_joins 36 = .ok (.tableswitch 235 1 14 #[72, 86, 100, 114, 127, 147, 235, 235, 235, 235, 167, 186, 205, 224], 72) := by decide +kernel
theorem dX12_joins_108 : decode cX12_joins 108 = .ok (.aload_n 0, 1) := by decide +kernel
theorem dX12_joins_109 : decode cX12_joins 109 = .ok (.lload 4, 2) := by decide +kernel
theorem dX12_joins_111 : decode cX12_joins 111 = .ok (.lload_n 2, 1) := by decide +kernel
theorem dX12_joins_112 : decode cX12_joins 112 = .ok (.ladd, 1) := by decide +kernel
theorem dX12_joins_113 : decode cX12_joins 113 = .ok (.invokestatic 497, 3) := by decide +kernel
theorem dX12_joins_116 : decode cX12_joins 116 = .ok (.invokevirtual 500, 3) := by decide +kernel
theorem dX12_joins_119 : decode cX12_joins 119 = .ok (.goto 170, 3) := by decide +kernel
theorem dX12_joins_122 : decode cX12_joins 122 = .ok (.aload_n 0, 1) := by decide +kernel
theorem dX12_joins_123 : decode cX12_joins 123 = .ok (.lload 4, 2) := by decide +kernel
theorem dX12_joins_125 : decode cX12_joins 125 = .ok (.lload_n 2, 1) := by decide +kernel
theorem dX12_joins_126 : decode cX12_joins 126 = .ok (.lsub, 1) := by decide +kernel
theorem dX12_joins_127 : decode cX12_joins 127 = .ok (.invokestatic 497, 3) := by decide +kernel
theorem dX12_joins_130 : decode cX12_joins 130 = .ok (.invokevirtual 500, 3) := by decide +kernel
theorem dX12_joins_133 : decode cX12_joins 133 = .ok (.goto 156, 3) := by decide +kernel
theorem dX12_joins_136 : decode cX12_joins 136 = .ok (.aload_n 0, 1) := by decide +kernel
theorem dX12_joins_137 : decode cX12_joins 137 = .ok (.lload 4, 2) := by decide +kernel
theorem dX12_joins_139 : decode cX12_joins 139 = .ok (.lload_n 2, 1) := by decide +kernel
theorem dX12_joins_140 : decode cX12_joins 140 = .ok (.lmul, 1) := by decide +kernel
theorem dX12_joins_141 : decode cX12_joins 141 = .ok (.invokestatic 497, 3) := by decide +kernel
theorem dX12_joins_144 : decode cX12_joins 144 = .ok (.invokevirtual 500, 3) := by decide +kernel
theorem dX12_joins_147 : decode cX12_joins 147 = .ok (.goto 142, 3) := by decide +kernel
theorem dX12_joins_150 : decode cX12_joins 150 = .ok (.aload_n 0, 1) := by decide +kernel
theorem dX12_joins_151 : decode cX12_joins 151 = .ok (.lload 4, 2) := by decide +kernel
theorem dX12_joins_153 : decode cX12_joins 153 = .ok (.lload_n 2, 1) := by decide +kernel
theorem dX12_joins_154 : decode cX12_joins 154 = .ok (.invokestatic 504, 3) := by decide +kernel
theorem dX12_joins_157 : decode cX12_joins 157 = .ok (.invokevirtual 500, 3) := by decide +kernel
theorem dX12_joins_160 : decode cX12_joins 160 = .ok (.goto 129, 3) := by decide +kernel
theorem dX12_joins_163 : decode cX12_joins 163 = .ok (.aload_n 0, 1) := by decide +kernel
theorem dX12_joins_164 : decode cX12_joins 164 = .ok (.lload 4, 2) := by decide +kernel
theorem dX12_joins_166 : decode cX12_joins 166 = .ok (.lload_n 2, 1) := by decide +kernel
theorem dX12_joins_167 : decode cX12_joins 167 = .ok (.lcmp, 1) := by decide +kernel
theorem dX12_joins_168 : decode cX12_joins 168 = .ok (.ifCond .ge 8, 3) := by decide +kernel
theorem dX12_joins_171 : decode cX12_joins 171 = .ok (.lload 4, 2) := by decide +kernel
theorem dX12_joins_173 : decode cX12_joins 173 = .ok (.goto 4, 3) := by decide +kernel
theorem dX12_joins_176 : decode cX12_joins 176 = .ok (.lload_n 2, 1) := by decide +kernel
theorem dX12_joins_177 : decode cX12_joins 177 = .ok (.invokevirtual 500, 3) := by decide +kernel
theorem dX12_joins_180 : decode cX12_joins 180 = .ok (.goto 109, 3) := by decide +kernel
theorem dX12_joins_183 : decode cX12_joins 183 = .ok (.aload_n 0, 1) := by decide +kernel
theorem dX12_joins_184 : decode cX12_joins 184 = .ok (.lload 4, 2) := by decide +kernel
theorem dX12_joins_186 : decode cX12_joins 186 = .ok (.lload_n 2, 1) := by decide +kernel
theorem dX12_joins_187 : decode cX12_joins 187 = .ok (.lcmp, 1) := by decide +kernel
theorem dX12_joins_188 : decode cX12_joins 188 = .ok (.ifCond .le 8, 3) := by decide +kernel
theorem dX12_joins_191 : decode cX12_joins 191 = .ok (.lload 4, 2) := by decide +kernel
theorem dX12_joins_193 : decode cX12_joins 193 = .ok (.goto 4, 3) := by decide +kernel
theorem dX12_joins_196 : decode cX12_joins 196 = .ok (.lload_n 2, 1) := by decide +kernel
theorem dX12_joins_197 : decode cX12_joins 197 = .ok (.invokevirtual 500, 3) := by decide +kernel
theorem dX12_joins_200 : decode cX12_joins 200 = .ok (.goto 89, 3) := by decide +kernel
theorem dX12_joins_203 : decode cX12_joins 203 = .ok (.aload_n 0, 1) := by decide +kernel
theorem dX12_joins_204 : decode cX12_joins 204 = .ok (.lload 4, 2) := by decide +kernel
theorem dX12_joins_206 : decode cX12_joins 206 = .ok (.lload_n 2, 1) := by decide +kernel
theorem dX12_joins_207 : decode cX12_joins 207 = .ok (.lcmp, 1) := by decide +kernel
theorem dX12_joins_208 : decode cX12_joins 208 = .ok (.ifCond .ge 7, 3) := by decide +kernel
theorem dX12_joins_211 : decode cX12_joins 211 = .ok (.lconst 1, 1) := by decide +kernel
theorem dX12_joins_212 : decode cX12_joins 212 = .ok (.goto 4, 3) := by decide +kernel
theorem dX12_joins_215 : decode cX12_joins 215 = .ok (.lconst 0, 1) := by decide +kernel
theorem dX12_joins_216 : decode cX12_joins 216 = .ok (.invokevirtual 500, 3) := by decide +kernel
theorem dX12_joins_219 : decode cX12_joins 219 = .ok (.goto 70, 3) := by decide +kernel
theorem dX12_joins_222 : decode cX12_joins 222 = .ok (.aload_n 0, 1) := by decide +kernel
theorem dX12_joins_223 : decode cX12_joins 223 = .ok (.lload 4, 2) := by decide +kernel
theorem dX12_joins_225 : decode cX12_joins 225 = .ok (.lload_n 2, 1) := by decide +kernel
theorem dX12_joins_226 : decode cX12_joins 226 = .ok (.lcmp, 1) := by decide +kernel
theorem dX12_joins_227 : decode cX12_joins 227 = .ok (.ifCond .le 7, 3) := by decide +kernel
theorem dX12_joins_230 : decode cX12_joins 230 = .ok (.lconst 1, 1) := by decide +kernel
theorem dX12_joins_231 : decode cX12_joins 231 = .ok (.goto 4, 3) := by decide +kernel
theorem dX12_joins_234 : decode cX12_joins 234 = .ok (.lconst 0, 1) := by decide +kernel
theorem dX12_joins_235 : decode cX12_joins 235 = .ok (.invokevirtual 500, 3) := by decide +kernel
theorem dX12_joins_238 : decode cX12_joins 238 = .ok (.goto 51, 3) := by decide +kernel
theorem dX12_joins_241 : decode cX12_joins 241 = .ok (.aload_n 0, 1) := by decide +kernel
theorem dX12_joins_242 : decode cX12_joins 242 = .ok (.lload 4, 2) := by decide +kernel
theorem dX12_joins_244 : decode cX12_joins 244 = .ok (.lload_n 2, 1) := by decide +kernel
theorem dX12_joins_245 : decode cX12_joins 245 = .ok (.lcmp, 1) := by decide +kernel
theorem dX12_joins_246 : decode cX12_joins 246 = .ok (.ifCond .ne 7, 3) := by decide +kernel
theorem dX12_joins_249 : decode cX12_joins 249 = .ok (.lconst 1, 1) := by decide +kernel
theorem dX12_joins_250 : decode cX12_joins 250 = .ok (.goto 4, 3) := by decide +kernel
theorem dX12_joins_253 : decode cX12_joins 253 = .ok (.lconst 0, 1) := by decide +kernel
theorem dX12_joins_254 : decode cX12_joins 254 = .ok (.invokevirtual 500, 3) := by decide +kernel
theorem dX12_joins_257 : decode cX12_joins 257 = .ok (.goto 32, 3) := by decide +kernel
theorem dX12_joins_260 : decode cX12_joins 260 = .ok (.aload_n 0, 1) := by decide +kernel
theorem dX12_joins_261 : decode cX12_joins 261 = .ok (.lload 4, 2) := by decide +kernel
theorem dX12_joins_263 : decode cX12_joins 263 = .ok (.lload_n 2, 1) := by decide +kernel
theorem dX12_joins_264 : decode cX12_joins 264 = .ok (.lmul, 1) := by decide +kernel
theorem dX12_joins_265 : decode cX12_joins 265 = .ok (.invokevirtual 500, 3) := by decide +kernel
theorem dX12_joins_268 : decode cX12_joins 268 = .ok (.goto 21, 3) := by decide +kernel
theorem dX12_joins_271 : decode cX12_joins 271 = .ok (.aload_n 0, 1) := by decide +kernel
theorem dX12_joins_272 : decode cX12_joins 272 = .ok (.lload 4, 2) := by decide +kernel
theorem dX12_joins_274 : decode cX12_joins 274 = .ok (.lload_n 2, 1) := by decide +kernel
theorem dX12_joins_275 : decode cX12_joins 275 = .ok (.ladd, 1) := by decide +kernel
theorem dX12_joins_276 : decode cX12_joins 276 = .ok (.lconst 0, 1) := by decide +kernel
theorem dX12_joins_277 : decode cX12_joins 277 = .ok (.lcmp, 1) := by decide +kernel
theorem dX12_joins_278 : decode cX12_joins 278 = .ok (.ifCond .le 7, 3) := by decide +kernel
theorem dX12_joins_281 : decode cX12_joins 281 = .ok (.lconst 1, 1) := by decide +kernel
theorem dX12_joins_282 : decode cX12_joins 282 = .ok (.goto 4, 3) := by decide +kernel
theorem dX12_joins_285 : decode cX12_joins 285 = .ok (.lconst 0, 1) := by decide +kernel
theorem dX12_joins_286 : decode cX12_joins 286 = .ok (.invokevirtual 500, 3) := by decide +kernel
theorem dX12_joins_289 : decode cX12_joins 289 = .ok (.return_, 1) := by decide +kernel
set_option maxRecDepth 100000 in
theorem tj_X12_joins_271 {g : GT} {n nf : Int} (hu : Up false nf n) (M : Mem) (x2 x4 : Int) : AW g false RX12 cX12_joins 6 none (1) n n nf 271 [(0, 2, 337), (2, 1, x2), (4, 1, x4)] [] n M (j_X12_joins_271 M x2 x4) := by
  unfold j_X12_joins_271
  refine r_aload_n 0 dX12_joins_271 rfl rfl ?_
  refine r_lload 2 dX12_joins_272 rfl ?_
  refine r_lload_n 1 dX12_joins_274 rfl rfl ?_
  refine r_ok (fun h53 => ?_)
  refine r_ladd dX12_joins_275 h53 ?_
  refine r_lconst (v := 0) dX12_joins_276 (by decide) ⟨by decide, by decide⟩ ?_
  refine r_lif_le (tgt := 285) dX12_joins_277 dX12_joins_278 rfl (fun h54 => ?_) (fun h55 => ?_)
  · refine r_lconst (v := 0) dX12_joins_285 (by decide) ⟨by decide, by decide⟩ ?_
    refine r_invv (a := 337) hu ⟨Nat.le_refl _, Nat.le_refl _⟩ dX12_joins_286 kM_X12_500 (ci := 12) rfl kd_337 rfl rfl (by decide) (by decide) [(1, 0)] rfl (sk := []) rfl (Nat.le_of_ble_eq_true rfl) rfl (m_X12_puts hu M 0) (fun r56 M57 => ?_)
    exact r_vret rfl rfl dX12_joins_289
  · refine r_lconst (v := 1) dX12_joins_281 (by decide) ⟨by decide, by decide⟩ ?_
    refine r_goto (tgt := 286) dX12_joins_282 rfl ?_
    refine r_invv (a := 337) hu ⟨Nat.le_refl _, Nat.le_refl _⟩ dX12_joins_286 kM_X12_500 (ci := 12) rfl kd_337 rfl rfl (by decide) (by decide) [(1, 1)] rfl (sk := []) rfl (Nat.le_of_ble_eq_true rfl) rfl (m_X12_puts hu M 1) (fun r58 M59 => ?_)
    exact r_vret rfl rfl dX12_joins_289
set_option maxRecDepth 100000 in
theorem m_X12_joins {g : GT} {n nf : Int} (hu : Up false nf n) (M : Mem) (a1 : Int) : AM g false yX12_joins cX12_joins 6 none (1) n n nf [(2, 337), (0, a1)] M (f_X12_joins M a1) := by
  refine AM_of (by decide +kernel) (Nat.le_of_ble_eq_true rfl) (fun h => absurd h (Int.lt_irrefl n)) ?_
  show AW g false RX12 cX12_joins 6 none (1) n n nf 0 [(0, 2, 337), (1, 0, a1)] [] n M (f_X12_joins M a1)
  unfold f_X12_joins
  refine r_aload_n 0 dX12_joins_0 rfl rfl ?_
  refine r_gx (kz := 66) rfl hu dX12_joins_1 kF_X12_164 kd_337 rfl rfl rfl fx_337_66 ?_
  refine r_aload_n 0 dX12_joins_4 rfl rfl ?_
  refine r_gf (t := 0) (kz := 67) rfl hu dX12_joins_5 kF_X12_494 kd_337 rfl rfl rfl ?_
  refine r_iconst dX12_joins_8 ⟨by decide, by decide⟩ ?_
  refine r_ok (fun h1 => ?_)
  refine r_isub dX12_joins_9 h1 ?_
  refine r_ok (fun h2 => ?_)
  refine r_lald hu dX12_joins_10 kd_387 rfl rfl rfl ln_387 h2 ?_
  refine r_lstore_nB dX12_joins_11 rfl (by decide) (lf := fun y3 => [(2, 1, y3), (0, 2, 337), (1, 0, a1)]) (fun _ => rfl) (fun y3 ey3 => ?_)
  refine r_aload_n 1 dX12_joins_12 rfl rfl ?_
  refine r_gx (kz := 66) rfl hu dX12_joins_13 kF_X12_164 kd_337 rfl rfl rfl fx_337_66 ?_
  refine r_aload_n 1 dX12_joins_16 rfl rfl ?_
  refine r_gf (t := 0) (kz := 67) rfl hu dX12_joins_17 kF_X12_494 kd_337 rfl rfl rfl ?_
  refine r_iconst dX12_joins_20 ⟨by decide, by decide⟩ ?_
  refine r_ok (fun h4 => ?_)
  refine r_isub dX12_joins_21 h4 ?_
  refine r_ok (fun h5 => ?_)
  refine r_lald hu dX12_joins_22 kd_387 rfl rfl rfl ln_387 h5 ?_
  refine r_lstoreB dX12_joins_23 (by decide) (lf := fun y6 => [(4, 1, y6), (2, 1, y3), (0, 2, 337), (1, 0, a1)]) (fun _ => rfl) (fun y6 ey6 => ?_)
  refine r_aload_n 2 dX12_joins_25 rfl rfl ?_
  refine r_dup dX12_joins_26 (nz2 _) ?_
  refine r_gf (t := 0) (kz := 67) rfl hu dX12_joins_27 kF_X12_494 kd_337 rfl rfl rfl ?_
  refine r_iconst dX12_joins_30 ⟨by decide, by decide⟩ ?_
  refine r_isub dX12_joins_31 h4 ?_
  refine r_pf (t := 0) (kz := 67) rfl hu dX12_joins_32 kF_X12_494 kd_337 rfl rfl rfl (fun h => absurd h (by decide)) rfl kX_12_67 (fun M7 eM7 => ?_)
  refine r_iload_n 3 dX12_joins_35 rfl rfl ?_
  refine r_tsw (tgt := 108) 1 dX12_joins_36 ⟨by decide, by decide⟩ rfl rfl (fun h8 => ?_) (fun h9 => ?_)
  · refine r_aload_n 2 dX12_joins_108 rfl rfl ?_
    refine r_lload 0 dX12_joins_109 rfl ?_
    refine r_lload_n 1 dX12_joins_111 rfl rfl ?_
    refine r_ok (fun h10 => ?_)
    refine r_ladd dX12_joins_112 h10 ?_
    refine r_ins (a := 0) ⟨Nat.le_refl _, Nat.le_refl _⟩ dX12_joins_113 kM_X12_497 (by decide) (by decide) [(1, y6 + y3)] rfl (sk := [(2, 337)]) rfl (Nat.le_of_ble_eq_true rfl) rfl rfl (m_X12_clip hu M7 (y6 + y3)) (fun r11 M12 => ?_)
    refine r_invv (a := 337) hu ⟨Nat.le_refl _, Nat.le_refl _⟩ dX12_joins_116 kM_X12_500 (ci := 12) rfl kd_337 rfl rfl (by decide) (by decide) [(1, r11)] rfl (sk := []) rfl (Nat.le_of_ble_eq_true rfl) rfl (m_X12_puts hu M12 r11) (fun r13 M14 => ?_)
    refine r_goto (tgt := 289) dX12_joins_119 rfl ?_
    exact r_vret rfl rfl dX12_joins_289
  · refine r_tsw (tgt := 122) 2 dX12_joins_36 ⟨by decide, by decide⟩ rfl rfl (fun h15 => ?_) (fun h16 => ?_)
    · refine r_aload_n 2 dX12_joins_122 rfl rfl ?_
      refine r_lload 0 dX12_joins_123 rfl ?_
      refine r_lload_n 1 dX12_joins_125 rfl rfl ?_
      refine r_ok (fun h17 => ?_)
      refine r_lsub dX12_joins_126 h17 ?_
      refine r_ins (a := 0) ⟨Nat.le_refl _, Nat.le_refl _⟩ dX12_joins_127 kM_X12_497 (by decide) (by decide) [(1, y6 - y3)] rfl (sk := [(2, 337)]) rfl (Nat.le_of_ble_eq_true rfl) rfl rfl (m_X12_clip hu M7 (y6 - y3)) (fun r18 M19 => ?_)
      refine r_invv (a := 337) hu ⟨Nat.le_refl _, Nat.le_refl _⟩ dX12_joins_130 kM_X12_500 (ci := 12) rfl kd_337 rfl rfl (by decide) (by decide) [(1, r18)] rfl (sk := []) rfl (Nat.le_of_ble_eq_true rfl) rfl (m_X12_puts hu M19 r18) (fun r20 M21 => ?_)
      refine r_goto (tgt := 289) dX12_joins_133 rfl ?_
      exact r_vret rfl rfl dX12_joins_289
    · refine r_tsw (tgt := 136) 3 dX12_joins_36 ⟨by decide, by decide⟩ rfl rfl (fun h22 => ?_) (fun h23 => ?_)
      · refine r_aload_n 2 dX12_joins_136 rfl rfl ?_
        refine r_lload 0 dX12_joins_137 rfl ?_
        refine r_lload_n 1 dX12_joins_139 rfl rfl ?_
        refine r_ok (fun h24 => ?_)
        refine r_lmul dX12_joins_140 h24 ?_
        refine r_ins (a := 0) ⟨Nat.le_refl _, Nat.le_refl _⟩ dX12_joins_141 kM_X12_497 (by decide) (by decide) [(1, y6 * y3)] rfl (sk := [(2, 337)]) rfl (Nat.le_of_ble_eq_true rfl) rfl rfl (m_X12_clip hu M7 (y6 * y3)) (fun r25 M26 => ?_)
        refine r_invv (a := 337) hu ⟨Nat.le_refl _, Nat.le_refl _⟩ dX12_joins_144 kM_X12_500 (ci := 12) rfl kd_337 rfl rfl (by decide) (by decide) [(1, r25)] rfl (sk := []) rfl (Nat.le_of_ble_eq_true rfl) rfl (m_X12_puts hu M26 r25) (fun r27 M28 => ?_)
        refine r_goto (tgt := 289) dX12_joins_147 rfl ?_
        exact r_vret rfl rfl dX12_joins_289
      · refine r_tsw (tgt := 150) 4 dX12_joins_36 ⟨by decide, by decide⟩ rfl rfl (fun h29 => ?_) (fun h30 => ?_)
        · refine r_aload_n 2 dX12_joins_150 rfl rfl ?_
          refine r_lload 0 dX12_joins_151 rfl ?_
          refine r_lload_n 1 dX12_joins_153 rfl rfl ?_
          refine r_ins (a := 0) ⟨Nat.le_refl _, Nat.le_refl _⟩ dX12_joins_154 kM_X12_504 (by decide) (by decide) [(1, y6), (1, y3)] rfl (sk := [(2, 337)]) rfl (Nat.le_of_ble_eq_true rfl) rfl rfl (m_X12_floor hu M7 y6 y3) (fun r31 M32 => ?_)
          refine r_invv (a := 337) hu ⟨Nat.le_refl _, Nat.le_refl _⟩ dX12_joins_157 kM_X12_500 (ci := 12) rfl kd_337 rfl rfl (by decide) (by decide) [(1, r31)] rfl (sk := []) rfl (Nat.le_of_ble_eq_true rfl) rfl (m_X12_puts hu M32 r31) (fun r33 M34 => ?_)
          refine r_goto (tgt := 289) dX12_joins_160 rfl ?_
          exact r_vret rfl rfl dX12_joins_289
        · refine r_tsw (tgt := 163) 5 dX12_joins_36 ⟨by decide, by decide⟩ rfl rfl (fun h35 => ?_) (fun h36 => ?_)
          · refine r_aload_n 2 dX12_joins_163 rfl rfl ?_
            refine r_lload 0 dX12_joins_164 rfl ?_
            refine r_lload_n 1 dX12_joins_166 rfl rfl ?_
            refine r_lif_ge (tgt := 176) dX12_joins_167 dX12_joins_168 rfl (fun h37 => ?_) (fun h38 => ?_)
            · refine r_lload_n 1 dX12_joins_176 rfl rfl ?_
              refine r_invv (a := 337) hu ⟨Nat.le_refl _, Nat.le_refl _⟩ dX12_joins_177 kM_X12_500 (ci := 12) rfl kd_337 rfl rfl (by decide) (by decide) [(1, y3)] rfl (sk := []) rfl (Nat.le_of_ble_eq_true rfl) rfl (m_X12_puts hu M7 y3) (fun r39 M40 => ?_)
              refine r_goto (tgt := 289) dX12_joins_180 rfl ?_
              exact r_vret rfl rfl dX12_joins_289
            · refine r_lload 0 dX12_joins_171 rfl ?_
              refine r_goto (tgt := 177) dX12_joins_173 rfl ?_
              refine r_invv (a := 337) hu ⟨Nat.le_refl _, Nat.le_refl _⟩ dX12_joins_177 kM_X12_500 (ci := 12) rfl kd_337 rfl rfl (by decide) (by decide) [(1, y6)] rfl (sk := []) rfl (Nat.le_of_ble_eq_true rfl) rfl (m_X12_puts hu M7 y6) (fun r41 M42 => ?_)
              refine r_goto (tgt := 289) dX12_joins_180 rfl ?_
              exact r_vret rfl rfl dX12_joins_289
          · refine r_tsw (tgt := 183) 6 dX12_joins_36 ⟨by decide, by decide⟩ rfl rfl (fun h43 => ?_) (fun h44 => ?_)
            · refine r_aload_n 2 dX12_joins_183 rfl rfl ?_
              refine r_lload 0 dX12_joins_184 rfl ?_
              refine r_lload_n 1 dX12_joins_186 rfl rfl ?_
              refine r_lif_le (tgt := 196) dX12_joins_187 dX12_joins_188 rfl (fun h45 => ?_) (fun h46 => ?_)
              · refine r_lload_n 1 dX12_joins_196 rfl rfl ?_
                refine r_invv (a := 337) hu ⟨Nat.le_refl _, Nat.le_refl _⟩ dX12_joins_197 kM_X12_500 (ci := 12) rfl kd_337 rfl rfl (by decide) (by decide) [(1, y3)] rfl (sk := []) rfl (Nat.le_of_ble_eq_true rfl) rfl (m_X12_puts hu M7 y3) (fun r47 M48 => ?_)
                refine r_goto (tgt := 289) dX12_joins_200 rfl ?_
                exact r_vret rfl rfl dX12_joins_289
              · refine r_lload 0 dX12_joins_191 rfl ?_
                refine r_goto (tgt := 197) dX12_joins_193 rfl ?_
                refine r_invv (a := 337) hu ⟨Nat.le_refl _, Nat.le_refl _⟩ dX12_joins_197 kM_X12_500 (ci := 12) rfl kd_337 rfl rfl (by decide) (by decide) [(1, y6)] rfl (sk := []) rfl (Nat.le_of_ble_eq_true rfl) rfl (m_X12_puts hu M7 y6) (fun r49 M50 => ?_)
                refine r_goto (tgt := 289) dX12_joins_200 rfl ?_
                exact r_vret rfl rfl dX12_joins_289
            · refine r_tsw (tgt := 271) 7 dX12_joins_36 ⟨by decide, by decide⟩ rfl rfl (fun h51 => ?_) (fun h52 => ?_)
              · refine r_sub [2, 1, 0] (ls' := [(0, 2, 337), (2, 1, y3), (4, 1, y6)]) rfl ?_
                exact tj_X12_joins_271 hu M7 y3 y6
              · refine r_tsw (tgt := 271) 8 dX12_joins_36 ⟨by decide, by decide⟩ rfl rfl (fun h60 => ?_) (fun h61 => ?_)
                · refine r_sub [2, 1, 0] (ls' := [(0, 2, 337), (2, 1, y3), (4, 1, y6)]) rfl ?_
                  exact tj_X12_joins_271 hu M7 y3 y6
                · refine r_tsw (tgt := 271) 9 dX12_joins_36 ⟨by decide, by decide⟩ rfl rfl (fun h62 => ?_) (fun h63 => ?_)
                  · refine r_sub [2, 1, 0] (ls' := [(0, 2, 337), (2, 1, y3), (4, 1, y6)]) rfl ?_
                    exact tj_X12_joins_271 hu M7 y3 y6
                  · refine r_tsw (tgt := 271) 10 dX12_joins_36 ⟨by decide, by decide⟩ rfl rfl (fun h64 => ?_) (fun h65 => ?_)
                    · refine r_sub [2, 1, 0] (ls' := [(0, 2, 337), (2, 1, y3), (4, 1, y6)]) rfl ?_
                      exact tj_X12_joins_271 hu M7 y3 y6
                    · refine r_tsw (tgt := 203) 11 dX12_joins_36 ⟨by decide, by decide⟩ rfl rfl (fun h66 => ?_) (fun h67 => ?_)
                      · refine r_aload_n 2 dX12_joins_203 rfl rfl ?_
                        refine r_lload 0 dX12_joins_204 rfl ?_
                        refine r_lload_n 1 dX12_joins_206 rfl rfl ?_
                        refine r_lif_ge (tgt := 215) dX12_joins_207 dX12_joins_208 rfl (fun h68 => ?_) (fun h69 => ?_)
                        · refine r_lconst (v := 0) dX12_joins_215 (by decide) ⟨by decide, by decide⟩ ?_
                          refine r_invv (a := 337) hu ⟨Nat.le_refl _, Nat.le_refl _⟩ dX12_joins_216 kM_X12_500 (ci := 12) rfl kd_337 rfl rfl (by decide) (by decide) [(1, 0)] rfl (sk := []) rfl (Nat.le_of_ble_eq_true rfl) rfl (m_X12_puts hu M7 0) (fun r70 M71 => ?_)
                          refine r_goto (tgt := 289) dX12_joins_219 rfl ?_
                          exact r_vret rfl rfl dX12_joins_289
                        · refine r_lconst (v := 1) dX12_joins_211 (by decide) ⟨by decide, by decide⟩ ?_
                          refine r_goto (tgt := 216) dX12_joins_212 rfl ?_
                          refine r_invv (a := 337) hu ⟨Nat.le_refl _, Nat.le_refl _⟩ dX12_joins_216 kM_X12_500 (ci := 12) rfl kd_337 rfl rfl (by decide) (by decide) [(1, 1)] rfl (sk := []) rfl (Nat.le_of_ble_eq_true rfl) rfl (m_X12_puts hu M7 1) (fun r72 M73 => ?_)
                          refine r_goto (tgt := 289) dX12_joins_219 rfl ?_
                          exact r_vret rfl rfl dX12_joins_289
                      · refine r_tsw (tgt := 222) 12 dX12_joins_36 ⟨by decide, by decide⟩ rfl rfl (fun h74 => ?_) (fun h75 => ?_)
                        · refine r_aload_n 2 dX12_joins_222 rfl rfl ?_
                          refine r_lload 0 dX12_joins_223 rfl ?_
                          refine r_lload_n 1 dX12_joins_225 rfl rfl ?_
                          refine r_lif_le (tgt := 234) dX12_joins_226 dX12_joins_227 rfl (fun h76 => ?_) (fun h77 => ?_)
                          · refine r_lconst (v := 0) dX12_joins_234 (by decide) ⟨by decide, by decide⟩ ?_
                            refine r_invv (a := 337) hu ⟨Nat.le_refl _, Nat.le_refl _⟩ dX12_joins_235 kM_X12_500 (ci := 12) rfl kd_337 rfl rfl (by decide) (by decide) [(1, 0)] rfl (sk := []) rfl (Nat.le_of_ble_eq_true rfl) rfl (m_X12_puts hu M7 0) (fun r78 M79 => ?_)
                            refine r_goto (tgt := 289) dX12_joins_238 rfl ?_
                            exact r_vret rfl rfl dX12_joins_289
                          · refine r_lconst (v := 1) dX12_joins_230 (by decide) ⟨by decide, by decide⟩ ?_
                            refine r_goto (tgt := 235) dX12_joins_231 rfl ?_
                            refine r_invv (a := 337) hu ⟨Nat.le_refl _, Nat.le_refl _⟩ dX12_joins_235 kM_X12_500 (ci := 12) rfl kd_337 rfl rfl (by decide) (by decide) [(1, 1)] rfl (sk := []) rfl (Nat.le_of_ble_eq_true rfl) rfl (m_X12_puts hu M7 1) (fun r80 M81 => ?_)
                            refine r_goto (tgt := 289) dX12_joins_238 rfl ?_
                            exact r_vret rfl rfl dX12_joins_289
                        · refine r_tsw (tgt := 241) 13 dX12_joins_36 ⟨by decide, by decide⟩ rfl rfl (fun h82 => ?_) (fun h83 => ?_)
                          · refine r_aload_n 2 dX12_joins_241 rfl rfl ?_
                            refine r_lload 0 dX12_joins_242 rfl ?_
                            refine r_lload_n 1 dX12_joins_244 rfl rfl ?_
                            refine r_lif_ne (tgt := 253) dX12_joins_245 dX12_joins_246 rfl (fun h84 => ?_) (fun h85 => ?_)
                            · refine r_lconst (v := 1) dX12_joins_249 (by decide) ⟨by decide, by decide⟩ ?_
                              refine r_goto (tgt := 254) dX12_joins_250 rfl ?_
                              refine r_invv (a := 337) hu ⟨Nat.le_refl _, Nat.le_refl _⟩ dX12_joins_254 kM_X12_500 (ci := 12) rfl kd_337 rfl rfl (by decide) (by decide) [(1, 1)] rfl (sk := []) rfl (Nat.le_of_ble_eq_true rfl) rfl (m_X12_puts hu M7 1) (fun r86 M87 => ?_)
                              refine r_goto (tgt := 289) dX12_joins_257 rfl ?_
                              exact r_vret rfl rfl dX12_joins_289
                            · refine r_lconst (v := 0) dX12_joins_253 (by decide) ⟨by decide, by decide⟩ ?_
                              refine r_invv (a := 337) hu ⟨Nat.le_refl _, Nat.le_refl _⟩ dX12_joins_254 kM_X12_500 (ci := 12) rfl kd_337 rfl rfl (by decide) (by decide) [(1, 0)] rfl (sk := []) rfl (Nat.le_of_ble_eq_true rfl) rfl (m_X12_puts hu M7 0) (fun r88 M89 => ?_)
                              refine r_goto (tgt := 289) dX12_joins_257 rfl ?_
                              exact r_vret rfl rfl dX12_joins_289
                          · refine r_tsw (tgt := 260) 14 dX12_joins_36 ⟨by decide, by decide⟩ rfl rfl (fun h90 => ?_) (fun h91 => ?_)
                            · refine r_aload_n 2 dX12_joins_260 rfl rfl ?_
                              refine r_lload 0 dX12_joins_261 rfl ?_
                              refine r_lload_n 1 dX12_joins_263 rfl rfl ?_
                              refine r_ok (fun h92 => ?_)
                              refine r_lmul dX12_joins_264 h92 ?_
                              refine r_invv (a := 337) hu ⟨Nat.le_refl _, Nat.le_refl _⟩ dX12_joins_265 kM_X12_500 (ci := 12) rfl kd_337 rfl rfl (by decide) (by decide) [(1, y6 * y3)] rfl (sk := []) rfl (Nat.le_of_ble_eq_true rfl) rfl (m_X12_puts hu M7 (y6 * y3)) (fun r93 M94 => ?_)
                              refine r_goto (tgt := 289) dX12_joins_268 rfl ?_
                              exact r_vret rfl rfl dX12_joins_289
                            · refine r_tswd (tgt := 271) dX12_joins_36 (by omega) rfl ?_
                              refine r_sub [2, 1, 0] (ls' := [(0, 2, 337), (2, 1, y3), (4, 1, y6)]) rfl ?_
                              exact tj_X12_joins_271 hu M7 y3 y6
theorem dX12_tells_0 : decode cX12_tells 0 = .ok (.aload_n 0, 1) := by decide +kernel
theorem dX12_tells_1 : decode cX12_tells 1 = .ok (.iconst 0, 1) := by decide +kernel
theorem dX12_tells_2 : decode cX12_tells 2 = .ok (.putfield 494, 3) := by decide +kernel
theorem dX12_tells_5 : decode cX12_tells 5 = .ok (.iload_n 1, 1) := by decide +kernel
theorem dX12_tells_6 : decode cX12_tells 6 = .ok (.istore_n 3, 1) := by decide +kernel
theorem dX12_tells_7 : decode cX12_tells 7 = .ok (.iload_n 3, 1) := by decide +kernel
theorem dX12_tells_8 : decode cX12_tells 8 = .ok (.iload_n 2, 1) := by decide +kernel
theorem dX12_tells_9 : decode cX12_tells 9 = .ok (.if_icmp .ge 208, 3) := by decide +kernel
theorem dX12_tells_12 : decode cX12_tells 12 = .ok (.aload_n 0, 1) := by decide +kernel
theorem dX12_tells_13 : decode cX12_tells 13 = .ok (.getfield 81, 3) := by decide +kernel
theorem dX12_tells_16 : decode cX12_tells 16 = .ok (.iload_n 3, 1) := by decide +kernel
theorem dX12_tells_17 : decode cX12_tells 17 = .ok (.iaload, 1) := by decide +kernel
theorem dX12_tells_18 : decode cX12_tells 18 = .ok (.istore 4, 2) := by decide +kernel
theorem dX12_tells_20 : decode cX12_tells 20 = .ok (.iload 4, 2) := by decide +kernel
theorem dX12_tells_22 : decode cX12_tells 22 = .ok (.sipush 1000, 3) := by decide +kernel
theorem dX12_tells_25 : decode cX12_tells 25 = .ok (.if_icmp .lt 17, 3) := by decide +kernel
theorem dX12_tells_28 : decode cX12_tells 28 = .ok (.aload_n 0, 1) := by decide +kernel
theorem dX12_tells_29 : decode cX12_tells 29 = .ok (.iload 4, 2) := by decide +kernel
theorem dX12_tells_31 : decode cX12_tells 31 = .ok (.sipush 1000, 3) := by decide +kernel
theorem dX12_tells_34 : decode cX12_tells 34 = .ok (.isub, 1) := by decide +kernel
theorem dX12_tells_35 : decode cX12_tells 35 = .ok (.i2l, 1) := by decide +kernel
theorem dX12_tells_36 : decode cX12_tells 36 = .ok (.invokevirtual 500, 3) := by decide +kernel
theorem dX12_tells_39 : decode cX12_tells 39 = .ok (.goto 172, 3) := by decide +kernel
theorem dX12_tells_42 : decode cX12_tells 42 = .ok (.iload 4, 2) := by decide +kernel
theorem dX12_tells_44 : decode cX12_tells 44 = .ok (.bipush 7, 2) := by decide +kernel
theorem dX12_tells_46 : decode cX12_tells 46 = .ok (.if_icmp .ne 15, 3) := by decide +kernel
theorem dX12_tells_49 : decode cX12_tells 49 = .ok (.aload_n 0, 1) := by decide +kernel
theorem dX12_tells_50 : decode cX12_tells 50 = .ok (.aload_n 0, 1) := by decide +kernel
theorem dX12_tells_51 : decode cX12_tells 51 = .ok (.getfield 407, 3) := by decide +kernel
theorem dX12_tells_54 : decode cX12_tells 54 = .ok (.i2l, 1) := by decide +kernel
theorem dX12_tells_55 : decode cX12_tells 55 = .ok (.invokevirtual 500, 3) := by decide +kernel
theorem dX12_tells_58 : decode cX12_tells 58 = .ok (.goto 153, 3) := by decide +kernel
theorem dX12_tells_61 : decode cX12_tells 61 = .ok (.iload 4, 2) := by decide +kernel
theorem dX12_tells_63 : decode cX12_tells 63 = .ok (.bipush 8, 2) := by decide +kernel
theorem dX12_tells_65 : decode cX12_tells 65 = .ok (.if_icmp .ne 15, 3) := by decide +kernel
theorem dX12_tells_68 : decode cX12_tells 68 = .ok (.aload_n 0, 1) := by decide +kernel
theorem dX12_tells_69 : decode cX12_tells 69 = .ok (.aload_n 0, 1) := by decide +kernel
theorem dX12_tells_70 : decode cX12_tells 70 = .ok (.getfield 410, 3) := by decide +kernel
theorem dX12_tells_73 : decode cX12_tells 73 = .ok (.i2l, 1) := by decide +kernel
theorem dX12_tells_74 : decode cX12_tells 74 = .ok (.invokevirtual 500, 3) := by decide +kernel
theorem dX12_tells_77 : decode cX12_tells 77 = .ok (.goto 134, 3) := by decide +kernel
theorem dX12_tells_80 : decode cX12_tells 80 = .ok (.iload 4, 2) := by decide +kernel
theorem dX12_tells_82 : decode cX12_tells 82 = .ok (.bipush 9, 2) := by decide +kernel
theorem dX12_tells_84 : decode cX12_tells 84 = .ok (.if_icmp .ne 15, 3) := by decide +kernel
theorem dX12_tells_87 : decode cX12_tells 87 = .ok (.aload_n 0, 1) := by decide +kernel
theorem dX12_tells_88 : decode cX12_tells 88 = .ok (.aload_n 0, 1) := by decide +kernel
theorem dX12_tells_89 : decode cX12_tells 89 = .ok (.getfield 413, 3) := by decide +kernel
theorem dX12_tells_92 : decode cX12_tells 92 = .ok (.i2l, 1) := by decide +kernel
theorem dX12_tells_93 : decode cX12_tells 93 = .ok (.invokevirtual 500, 3) := by decide +kernel
theorem dX12_tells_96 : decode cX12_tells 96 = .ok (.goto 115, 3) := by decide +kernel
theorem dX12_tells_99 : decode cX12_tells 99 = .ok (.iload 4, 2) := by decide +kernel
theorem dX12_tells_101 : decode cX12_tells 101 = .ok (.bipush 10, 2) := by decide +kernel
theorem dX12_tells_103 : decode cX12_tells 103 = .ok (.if_icmp .ne 15, 3) := by decide +kernel
theorem dX12_tells_106 : decode cX12_tells 106 = .ok (.aload_n 0, 1) := by decide +kernel
theorem dX12_tells_107 : decode cX12_tells 107 = .ok (.aload_n 0, 1) := by decide +kernel
theorem dX12_tells_108 : decode cX12_tells 108 = .ok (.getfield 416, 3) := by decide +kernel
theorem dX12_tells_111 : decode cX12_tells 111 = .ok (.i2l, 1) := by decide +kernel
theorem dX12_tells_112 : decode cX12_tells 112 = .ok (.invokevirtual 500, 3) := by decide +kernel
theorem dX12_tells_115 : decode cX12_tells 115 = .ok (.goto 96, 3) := by decide +kernel
theorem dX12_tells_118 : decode cX12_tells 118 = .ok (.iload 4, 2) := by decide +kernel
theorem dX12_tells_120 : decode cX12_tells 120 = .ok (.bipush 18, 2) := by decide +kernel
theorem dX12_tells_122 : decode cX12_tells 122 = .ok (.if_icmp .ne 15, 3) := by decide +kernel
theorem dX12_tells_125 : decode cX12_tells 125 = .ok (.aload_n 0, 1) := by decide +kernel
theorem dX12_tells_126 : decode cX12_tells 126 = .ok (.aload_n 0, 1) := by decide +kernel
theorem dX12_tells_127 : decode cX12_tells 127 = .ok (.getfield 419, 3) := by decide +kernel
theorem dX12_tells_130 : decode cX12_tells 130 = .ok (.i2l, 1) := by decide +kernel
theorem dX12_tells_131 : decode cX12_tells 131 = .ok (.invokevirtual 500, 3) := by decide +kernel
theorem dX12_tells_134 : decode cX12_tells 134 = .ok (.goto 77, 3) := by decide +kernel
theorem dX12_tells_137 : decode cX12_tells 137 = .ok (.iload 4, 2) := by decide +kernel
theorem dX12_tells_139 : decode cX12_tells 139 = .ok (.bipush 30, 2) := by decide +kernel
theorem dX12_tells_141 : decode cX12_tells 141 = .ok (.if_icmp .ne 15, 3) := by decide +kernel
theorem dX12_tells_144 : decode cX12_tells 144 = .ok (.aload_n 0, 1) := by decide +kernel
theorem dX12_tells_145 : decode cX12_tells 145 = .ok (.aload_n 0, 1) := by decide +kernel
theorem dX12_tells_146 : decode cX12_tells 146 = .ok (.getfield 422, 3) := by decide +kernel
theorem dX12_tells_149 : decode cX12_tells 149 = .ok (.i2l, 1) := by decide +kernel
theorem dX12_tells_150 : decode cX12_tells 150 = .ok (.invokevirtual 500, 3) := by decide +kernel
theorem dX12_tells_153 : decode cX12_tells 153 = .ok (.goto 58, 3) := by decide +kernel
theorem dX12_tells_156 : decode cX12_tells 156 = .ok (.iload 4, 2) := by decide +kernel
theorem dX12_tells_158 : decode cX12_tells 158 = .ok (.bipush 17, 2) := by decide +kernel
theorem dX12_tells_160 : decode cX12_tells 160 = .ok (.if_icmp .ne 11, 3) := by decide +kernel
theorem dX12_tells_163 : decode cX12_tells 163 = .ok (.aload_n 0, 1) := by decide +kernel
theorem dX12_tells_164 : decode cX12_tells 164 = .ok (.lconst 1, 1) := by decide +kernel
theorem dX12_tells_165 : decode cX12_tells 165 = .ok (.invokevirtual 500, 3) := by decide +kernel
theorem dX12_tells_168 : decode cX12_tells 168 = .ok (.goto 43, 3) := by decide +kernel
theorem dX12_tells_171 : decode cX12_tells 171 = .ok (.iload 4, 2) := by decide +kernel
theorem dX12_tells_173 : decode cX12_tells 173 = .ok (.bipush 16, 2) := by decide +kernel
theorem dX12_tells_175 : decode cX12_tells 175 = .ok (.if_icmp .ne 30, 3) := by decide +kernel
theorem dX12_tells_178 : decode cX12_tells 178 = .ok (.aload_n 0, 1) := by decide +kernel
theorem dX12_tells_179 : decode cX12_tells 179 = .ok (.getfield 164, 3) := by decide +kernel
theorem dX12_tells_182 : decode cX12_tells 182 = .ok (.aload_n 0, 1) := by decide +kernel
theorem dX12_tells_183 : decode cX12_tells 183 = .ok (.getfield 494, 3) := by decide +kernel
theorem dX12_tells_186 : decode cX12_tells 186 = .ok (.iconst 1, 1) := by decide +kernel
theorem dX12_tells_187 : decode cX12_tells 187 = .ok (.isub, 1) := by decide +kernel
theorem dX12_tells_188 : decode cX12_tells 188 = .ok (.lconst 1, 1) := by decide +kernel
theorem dX12_tells_189 : decode cX12_tells 189 = .ok (.aload_n 0, 1) := by decide +kernel
theorem dX12_tells_190 : decode cX12_tells 190 = .ok (.getfield 164, 3) := by decide +kernel
theorem dX12_tells_193 : decode cX12_tells 193 = .ok (.aload_n 0, 1) := by decide +kernel
theorem dX12_tells_194 : decode cX12_tells 194 = .ok (.getfield 494, 3) := by decide +kernel
theorem dX12_tells_197 : decode cX12_tells 197 = .ok (.iconst 1, 1) := by decide +kernel
theorem dX12_tells_198 : decode cX12_tells 198 = .ok (.isub, 1) := by decide +kernel
theorem dX12_tells_199 : decode cX12_tells 199 = .ok (.laload, 1) := by decide +kernel
theorem dX12_tells_200 : decode cX12_tells 200 = .ok (.lsub, 1) := by decide +kernel
theorem dX12_tells_201 : decode cX12_tells 201 = .ok (.lastore, 1) := by decide +kernel
theorem dX12_tells_202 : decode cX12_tells 202 = .ok (.goto 9, 3) := by decide +kernel
theorem dX12_tells_205 : decode cX12_tells 205 = .ok (.aload_n 0, 1) := by decide +kernel
theorem dX12_tells_206 : decode cX12_tells 206 = .ok (.iload 4, 2) := by decide +kernel
theorem dX12_tells_208 : decode cX12_tells 208 = .ok (.invokevirtual 508, 3) := by decide +kernel
theorem dX12_tells_211 : decode cX12_tells 211 = .ok (.iinc 3 1, 3) := by decide +kernel
theorem dX12_tells_214 : decode cX12_tells 214 = .ok (.goto (-207), 3) := by decide +kernel
theorem dX12_tells_217 : decode cX12_tells 217 = .ok (.aload_n 0, 1) := by decide +kernel
theorem dX12_tells_218 : decode cX12_tells 218 = .ok (.getfield 164, 3) := by decide +kernel
theorem dX12_tells_221 : decode cX12_tells 221 = .ok (.iconst 0, 1) := by decide +kernel
theorem dX12_tells_222 : decode cX12_tells 222 = .ok (.laload, 1) := by decide +kernel
theorem dX12_tells_223 : decode cX12_tells 223 = .ok (.lreturn, 1) := by decide +kernel
set_option maxRecDepth 100000 in
theorem tb_X12_tells_7 {g : GT} {n nf : Int} (hu : Up false nf n) (a2 : Int) (w7 : Mem → Int → Res) (hw7 : ∀ (M : Mem) (x3 : Int), AW g false RX12 cX12_tells 5 (some .long) (2) n n nf 7 [(0, 2, 337), (2, 0, a2), (3, 0, x3)] [] n M (w7 M x3)) (M : Mem) (x3 : Int) : AW g false RX12 cX12_tells 5 (some .long) (2) n n nf 7 [(0, 2, 337), (2, 0, a2), (3, 0, x3)] [] n M (b_X12_tells_7 a2 w7 M x3) := by
  unfold b_X12_tells_7
  refine r_iload_n 2 dX12_tells_7 rfl rfl ?_
  refine r_iload_n 1 dX12_tells_8 rfl rfl ?_
  refine r_icmp_ge (tgt := 217) dX12_tells_9 rfl (fun h2 => ?_) (fun h3 => ?_)
  · refine r_aload_n 0 dX12_tells_217 rfl rfl ?_
    refine r_gx (kz := 66) rfl hu dX12_tells_218 kF_X12_164 kd_337 rfl rfl rfl fx_337_66 ?_
    refine r_iconst dX12_tells_221 ⟨by decide, by decide⟩ ?_
    refine r_lald hu dX12_tells_222 kd_387 rfl rfl rfl ln_387 ⟨by decide, by decide⟩ ?_
    exact r_lret rfl rfl dX12_tells_223
  · refine r_aload_n 0 dX12_tells_12 rfl rfl ?_
    refine r_gx (kz := 31) rfl hu dX12_tells_13 kF_X12_81 kd_337 rfl rfl rfl fx_337_31 ?_
    refine r_iload_n 2 dX12_tells_16 rfl rfl ?_
    refine r_ok (fun h4 => ?_)
    refine r_iald hu dX12_tells_17 kd_360 rfl (Or.inl rfl) rfl ln_360 h4 ?_
    refine r_istoreB dX12_tells_18 (by decide) (lf := fun y5 => [(4, 0, y5), (0, 2, 337), (2, 0, a2), (3, 0, x3)]) (fun _ => rfl) (fun y5 ey5 => ?_)
    refine r_iload 0 dX12_tells_20 rfl ?_
    refine r_sipush dX12_tells_22 (by decide) ⟨by decide, by decide⟩ ?_
    refine r_icmp_lt (tgt := 42) dX12_tells_25 rfl (fun h6 => ?_) (fun h7 => ?_)
    · refine r_iload 0 dX12_tells_42 rfl ?_
      refine r_bipush dX12_tells_44 (by decide) ⟨by decide, by decide⟩ ?_
      refine r_icmp_ne (tgt := 61) dX12_tells_46 rfl (fun h8 => ?_) (fun h9 => ?_)
      · refine r_aload_n 1 dX12_tells_49 rfl rfl ?_
        refine r_aload_n 1 dX12_tells_50 rfl rfl ?_
        refine r_gf (t := 0) (kz := 68) rfl hu dX12_tells_51 kF_X12_407 kd_337 rfl rfl rfl ?_
        refine r_i2l dX12_tells_54 ?_
        refine r_invv (a := 337) hu ⟨Nat.le_refl _, Nat.le_refl _⟩ dX12_tells_55 kM_X12_500 (ci := 12) rfl kd_337 rfl rfl (by decide) (by decide) [(1, M 337 68)] rfl (sk := []) rfl (Nat.le_of_ble_eq_true rfl) rfl (m_X12_puts hu M (M 337 68)) (fun r10 M11 => ?_)
        refine r_goto (tgt := 211) dX12_tells_58 rfl ?_
        refine r_iincB 3 dX12_tells_211 rfl ⟨by have := h4; omega, by have := h4; omega⟩ (by decide) (lf := fun y12 => [(3, 0, y12), (4, 0, y5), (0, 2, 337), (2, 0, a2)]) (fun _ => rfl) (fun y12 ey12 => ?_)
        refine r_goto (tgt := 7) dX12_tells_214 rfl ?_
        refine r_sub [2, 3, 0] (ls' := [(0, 2, 337), (2, 0, a2), (3, 0, y12)]) rfl ?_
        exact hw7 M11 y12
      · refine r_iload 0 dX12_tells_61 rfl ?_
        refine r_bipush dX12_tells_63 (by decide) ⟨by decide, by decide⟩ ?_
        refine r_icmp_ne (tgt := 80) dX12_tells_65 rfl (fun h13 => ?_) (fun h14 => ?_)
        · refine r_aload_n 1 dX12_tells_68 rfl rfl ?_
          refine r_aload_n 1 dX12_tells_69 rfl rfl ?_
          refine r_gf (t := 0) (kz := 69) rfl hu dX12_tells_70 kF_X12_410 kd_337 rfl rfl rfl ?_
          refine r_i2l dX12_tells_73 ?_
          refine r_invv (a := 337) hu ⟨Nat.le_refl _, Nat.le_refl _⟩ dX12_tells_74 kM_X12_500 (ci := 12) rfl kd_337 rfl rfl (by decide) (by decide) [(1, M 337 69)] rfl (sk := []) rfl (Nat.le_of_ble_eq_true rfl) rfl (m_X12_puts hu M (M 337 69)) (fun r15 M16 => ?_)
          refine r_goto (tgt := 211) dX12_tells_77 rfl ?_
          refine r_iincB 3 dX12_tells_211 rfl ⟨by have := h4; omega, by have := h4; omega⟩ (by decide) (lf := fun y17 => [(3, 0, y17), (4, 0, y5), (0, 2, 337), (2, 0, a2)]) (fun _ => rfl) (fun y17 ey17 => ?_)
          refine r_goto (tgt := 7) dX12_tells_214 rfl ?_
          refine r_sub [2, 3, 0] (ls' := [(0, 2, 337), (2, 0, a2), (3, 0, y17)]) rfl ?_
          exact hw7 M16 y17
        · refine r_iload 0 dX12_tells_80 rfl ?_
          refine r_bipush dX12_tells_82 (by decide) ⟨by decide, by decide⟩ ?_
          refine r_icmp_ne (tgt := 99) dX12_tells_84 rfl (fun h18 => ?_) (fun h19 => ?_)
          · refine r_aload_n 1 dX12_tells_87 rfl rfl ?_
            refine r_aload_n 1 dX12_tells_88 rfl rfl ?_
            refine r_gf (t := 0) (kz := 70) rfl hu dX12_tells_89 kF_X12_413 kd_337 rfl rfl rfl ?_
            refine r_i2l dX12_tells_92 ?_
            refine r_invv (a := 337) hu ⟨Nat.le_refl _, Nat.le_refl _⟩ dX12_tells_93 kM_X12_500 (ci := 12) rfl kd_337 rfl rfl (by decide) (by decide) [(1, M 337 70)] rfl (sk := []) rfl (Nat.le_of_ble_eq_true rfl) rfl (m_X12_puts hu M (M 337 70)) (fun r20 M21 => ?_)
            refine r_goto (tgt := 211) dX12_tells_96 rfl ?_
            refine r_iincB 3 dX12_tells_211 rfl ⟨by have := h4; omega, by have := h4; omega⟩ (by decide) (lf := fun y22 => [(3, 0, y22), (4, 0, y5), (0, 2, 337), (2, 0, a2)]) (fun _ => rfl) (fun y22 ey22 => ?_)
            refine r_goto (tgt := 7) dX12_tells_214 rfl ?_
            refine r_sub [2, 3, 0] (ls' := [(0, 2, 337), (2, 0, a2), (3, 0, y22)]) rfl ?_
            exact hw7 M21 y22
          · refine r_iload 0 dX12_tells_99 rfl ?_
            refine r_bipush dX12_tells_101 (by decide) ⟨by decide, by decide⟩ ?_
            refine r_icmp_ne (tgt := 118) dX12_tells_103 rfl (fun h23 => ?_) (fun h24 => ?_)
            · refine r_aload_n 1 dX12_tells_106 rfl rfl ?_
              refine r_aload_n 1 dX12_tells_107 rfl rfl ?_
              refine r_gf (t := 0) (kz := 71) rfl hu dX12_tells_108 kF_X12_416 kd_337 rfl rfl rfl ?_
              refine r_i2l dX12_tells_111 ?_
              refine r_invv (a := 337) hu ⟨Nat.le_refl _, Nat.le_refl _⟩ dX12_tells_112 kM_X12_500 (ci := 12) rfl kd_337 rfl rfl (by decide) (by decide) [(1, M 337 71)] rfl (sk := []) rfl (Nat.le_of_ble_eq_true rfl) rfl (m_X12_puts hu M (M 337 71)) (fun r25 M26 => ?_)
              refine r_goto (tgt := 211) dX12_tells_115 rfl ?_
              refine r_iincB 3 dX12_tells_211 rfl ⟨by have := h4; omega, by have := h4; omega⟩ (by decide) (lf := fun y27 => [(3, 0, y27), (4, 0, y5), (0, 2, 337), (2, 0, a2)]) (fun _ => rfl) (fun y27 ey27 => ?_)
              refine r_goto (tgt := 7) dX12_tells_214 rfl ?_
              refine r_sub [2, 3, 0] (ls' := [(0, 2, 337), (2, 0, a2), (3, 0, y27)]) rfl ?_
              exact hw7 M26 y27
            · refine r_iload 0 dX12_tells_118 rfl ?_
              refine r_bipush dX12_tells_120 (by decide) ⟨by decide, by decide⟩ ?_
              refine r_icmp_ne (tgt := 137) dX12_tells_122 rfl (fun h28 => ?_) (fun h29 => ?_)
              · refine r_aload_n 1 dX12_tells_125 rfl rfl ?_
                refine r_aload_n 1 dX12_tells_126 rfl rfl ?_
                refine r_gf (t := 0) (kz := 72) rfl hu dX12_tells_127 kF_X12_419 kd_337 rfl rfl rfl ?_
                refine r_i2l dX12_tells_130 ?_
                refine r_invv (a := 337) hu ⟨Nat.le_refl _, Nat.le_refl _⟩ dX12_tells_131 kM_X12_500 (ci := 12) rfl kd_337 rfl rfl (by decide) (by decide) [(1, M 337 72)] rfl (sk := []) rfl (Nat.le_of_ble_eq_true rfl) rfl (m_X12_puts hu M (M 337 72)) (fun r30 M31 => ?_)
                refine r_goto (tgt := 211) dX12_tells_134 rfl ?_
                refine r_iincB 3 dX12_tells_211 rfl ⟨by have := h4; omega, by have := h4; omega⟩ (by decide) (lf := fun y32 => [(3, 0, y32), (4, 0, y5), (0, 2, 337), (2, 0, a2)]) (fun _ => rfl) (fun y32 ey32 => ?_)
                refine r_goto (tgt := 7) dX12_tells_214 rfl ?_
                refine r_sub [2, 3, 0] (ls' := [(0, 2, 337), (2, 0, a2), (3, 0, y32)]) rfl ?_
                exact hw7 M31 y32
              · refine r_iload 0 dX12_tells_137 rfl ?_
                refine r_bipush dX12_tells_139 (by decide) ⟨by decide, by decide⟩ ?_
                refine r_icmp_ne (tgt := 156) dX12_tells_141 rfl (fun h33 => ?_) (fun h34 => ?_)
                · refine r_aload_n 1 dX12_tells_144 rfl rfl ?_
                  refine r_aload_n 1 dX12_tells_145 rfl rfl ?_
                  refine r_gf (t := 0) (kz := 73) rfl hu dX12_tells_146 kF_X12_422 kd_337 rfl rfl rfl ?_
                  refine r_i2l dX12_tells_149 ?_
                  refine r_invv (a := 337) hu ⟨Nat.le_refl _, Nat.le_refl _⟩ dX12_tells_150 kM_X12_500 (ci := 12) rfl kd_337 rfl rfl (by decide) (by decide) [(1, M 337 73)] rfl (sk := []) rfl (Nat.le_of_ble_eq_true rfl) rfl (m_X12_puts hu M (M 337 73)) (fun r35 M36 => ?_)
                  refine r_goto (tgt := 211) dX12_tells_153 rfl ?_
                  refine r_iincB 3 dX12_tells_211 rfl ⟨by have := h4; omega, by have := h4; omega⟩ (by decide) (lf := fun y37 => [(3, 0, y37), (4, 0, y5), (0, 2, 337), (2, 0, a2)]) (fun _ => rfl) (fun y37 ey37 => ?_)
                  refine r_goto (tgt := 7) dX12_tells_214 rfl ?_
                  refine r_sub [2, 3, 0] (ls' := [(0, 2, 337), (2, 0, a2), (3, 0, y37)]) rfl ?_
                  exact hw7 M36 y37
                · refine r_iload 0 dX12_tells_156 rfl ?_
                  refine r_bipush dX12_tells_158 (by decide) ⟨by decide, by decide⟩ ?_
                  refine r_icmp_ne (tgt := 171) dX12_tells_160 rfl (fun h38 => ?_) (fun h39 => ?_)
                  · refine r_aload_n 1 dX12_tells_163 rfl rfl ?_
                    refine r_lconst (v := 1) dX12_tells_164 (by decide) ⟨by decide, by decide⟩ ?_
                    refine r_invv (a := 337) hu ⟨Nat.le_refl _, Nat.le_refl _⟩ dX12_tells_165 kM_X12_500 (ci := 12) rfl kd_337 rfl rfl (by decide) (by decide) [(1, 1)] rfl (sk := []) rfl (Nat.le_of_ble_eq_true rfl) rfl (m_X12_puts hu M 1) (fun r40 M41 => ?_)
                    refine r_goto (tgt := 211) dX12_tells_168 rfl ?_
                    refine r_iincB 3 dX12_tells_211 rfl ⟨by have := h4; omega, by have := h4; omega⟩ (by decide) (lf := fun y42 => [(3, 0, y42), (4, 0, y5), (0, 2, 337), (2, 0, a2)]) (fun _ => rfl) (fun y42 ey42 => ?_)
                    refine r_goto (tgt := 7) dX12_tells_214 rfl ?_
                    refine r_sub [2, 3, 0] (ls' := [(0, 2, 337), (2, 0, a2), (3, 0, y42)]) rfl ?_
                    exact hw7 M41 y42
                  · refine r_iload 0 dX12_tells_171 rfl ?_
                    refine r_bipush dX12_tells_173 (by decide) ⟨by decide, by decide⟩ ?_
                    refine r_icmp_ne (tgt := 205) dX12_tells_175 rfl (fun h43 => ?_) (fun h44 => ?_)
                    · refine r_aload_n 1 dX12_tells_178 rfl rfl ?_
                      refine r_gx (kz := 66) rfl hu dX12_tells_179 kF_X12_164 kd_337 rfl rfl rfl fx_337_66 ?_
                      refine r_aload_n 1 dX12_tells_182 rfl rfl ?_
                      refine r_gf (t := 0) (kz := 67) rfl hu dX12_tells_183 kF_X12_494 kd_337 rfl rfl rfl ?_
                      refine r_iconst dX12_tells_186 ⟨by decide, by decide⟩ ?_
                      refine r_ok (fun h45 => ?_)
                      refine r_isub dX12_tells_187 h45 ?_
                      refine r_lconst (v := 1) dX12_tells_188 (by decide) ⟨by decide, by decide⟩ ?_
                      refine r_aload_n 1 dX12_tells_189 rfl rfl ?_
                      refine r_gx (kz := 66) rfl hu dX12_tells_190 kF_X12_164 kd_337 rfl rfl rfl fx_337_66 ?_
                      refine r_aload_n 1 dX12_tells_193 rfl rfl ?_
                      refine r_gf (t := 0) (kz := 67) rfl hu dX12_tells_194 kF_X12_494 kd_337 rfl rfl rfl ?_
                      refine r_iconst dX12_tells_197 ⟨by decide, by decide⟩ ?_
                      refine r_isub dX12_tells_198 h45 ?_
                      refine r_ok (fun h46 => ?_)
                      refine r_lald hu dX12_tells_199 kd_387 rfl rfl rfl ln_387 h46 ?_
                      refine r_ok (fun h47 => ?_)
                      refine r_lsub dX12_tells_200 h47 ?_
                      refine r_last hu dX12_tells_201 kd_387 rfl rfl rfl ln_387 h46 rfl (fun M48 eM48 => ?_)
                      refine r_goto (tgt := 211) dX12_tells_202 rfl ?_
                      refine r_iincB 3 dX12_tells_211 rfl ⟨by have := h4; omega, by have := h4; omega⟩ (by decide) (lf := fun y49 => [(3, 0, y49), (4, 0, y5), (0, 2, 337), (2, 0, a2)]) (fun _ => rfl) (fun y49 ey49 => ?_)
                      refine r_goto (tgt := 7) dX12_tells_214 rfl ?_
                      refine r_sub [2, 3, 0] (ls' := [(0, 2, 337), (2, 0, a2), (3, 0, y49)]) rfl ?_
                      exact hw7 M48 y49
                    · refine r_aload_n 1 dX12_tells_205 rfl rfl ?_
                      refine r_iload 0 dX12_tells_206 rfl ?_
                      refine r_invv (a := 337) hu ⟨Nat.le_refl _, Nat.le_refl _⟩ dX12_tells_208 kM_X12_508 (ci := 12) rfl kd_337 rfl rfl (by decide) (by decide) [(0, y5)] rfl (sk := []) rfl (Nat.le_of_ble_eq_true rfl) rfl (m_X12_joins hu M y5) (fun r50 M51 => ?_)
                      refine r_iincB 3 dX12_tells_211 rfl ⟨by have := h4; omega, by have := h4; omega⟩ (by decide) (lf := fun y52 => [(3, 0, y52), (4, 0, y5), (0, 2, 337), (2, 0, a2)]) (fun _ => rfl) (fun y52 ey52 => ?_)
                      refine r_goto (tgt := 7) dX12_tells_214 rfl ?_
                      refine r_sub [2, 3, 0] (ls' := [(0, 2, 337), (2, 0, a2), (3, 0, y52)]) rfl ?_
                      exact hw7 M51 y52
    · refine r_aload_n 1 dX12_tells_28 rfl rfl ?_
      refine r_iload 0 dX12_tells_29 rfl ?_
      refine r_sipush dX12_tells_31 (by decide) ⟨by decide, by decide⟩ ?_
      refine r_ok (fun h53 => ?_)
      refine r_isub dX12_tells_34 h53 ?_
      refine r_i2l dX12_tells_35 ?_
      refine r_invv (a := 337) hu ⟨Nat.le_refl _, Nat.le_refl _⟩ dX12_tells_36 kM_X12_500 (ci := 12) rfl kd_337 rfl rfl (by decide) (by decide) [(1, y5 - 1000)] rfl (sk := []) rfl (Nat.le_of_ble_eq_true rfl) rfl (m_X12_puts hu M (y5 - 1000)) (fun r54 M55 => ?_)
      refine r_goto (tgt := 211) dX12_tells_39 rfl ?_
      refine r_iincB 3 dX12_tells_211 rfl ⟨by have := h4; omega, by have := h4; omega⟩ (by decide) (lf := fun y56 => [(3, 0, y56), (4, 0, y5), (0, 2, 337), (2, 0, a2)]) (fun _ => rfl) (fun y56 ey56 => ?_)
      refine r_goto (tgt := 7) dX12_tells_214 rfl ?_
      refine r_sub [2, 3, 0] (ls' := [(0, 2, 337), (2, 0, a2), (3, 0, y56)]) rfl ?_
      exact hw7 M55 y56
set_option maxRecDepth 100000 in
theorem m_X12_tells {g : GT} {n nf : Int} (hu : Up false nf n) (M : Mem) (a1 a2 : Int) : AM g false yX12_tells cX12_tells 5 (some .long) (2) n n nf [(2, 337), (0, a1), (0, a2)] M (f_X12_tells M a1 a2) := by
  refine AM_of (by decide +kernel) (Nat.le_of_ble_eq_true rfl) (fun h => absurd h (Int.lt_irrefl n)) ?_
  show AW g false RX12 cX12_tells 5 (some .long) (2) n n nf 0 [(0, 2, 337), (1, 0, a1), (2, 0, a2)] [] n M (f_X12_tells M a1 a2)
  unfold f_X12_tells
  refine r_aload_n 0 dX12_tells_0 rfl rfl ?_
  refine r_iconst dX12_tells_1 ⟨by decide, by decide⟩ ?_
  refine r_pf (t := 0) (kz := 67) rfl hu dX12_tells_2 kF_X12_494 kd_337 rfl rfl rfl (fun h => absurd h (by decide)) rfl kX_12_67 (fun M1 eM1 => ?_)
  refine r_iload_n 1 dX12_tells_5 rfl rfl ?_
  refine r_istore_n dX12_tells_6 rfl (by decide) (ls' := [(3, 0, a1), (0, 2, 337), (1, 0, a1), (2, 0, a2)]) rfl ?_
  refine r_sub [1, 3, 0] (ls' := [(0, 2, 337), (2, 0, a2), (3, 0, a1)]) rfl ?_
  exact wl1_aw (P := fun M x3 o => AW g false RX12 cX12_tells 5 (some .long) (2) n n nf 7 [(0, 2, 337), (2, 0, a2), (3, 0, x3)] [] n M (o)) (fun M x3 => aw_none) (fun w hw M x3 => tb_X12_tells_7 hu a2 w hw M x3) FU M1 a1
theorem dX12_lightAt_0 : decode cX12_lightAt 0 = .ok (.iconst 0, 1) := by decide +kernel
theorem dX12_lightAt_1 : decode cX12_lightAt 1 = .ok (.istore_n 3, 1) := by decide +kernel
theorem dX12_lightAt_2 : decode cX12_lightAt 2 = .ok (.iconst 0, 1) := by decide +kernel
theorem dX12_lightAt_3 : decode cX12_lightAt 3 = .ok (.istore 4, 2) := by decide +kernel
theorem dX12_lightAt_5 : decode cX12_lightAt 5 = .ok (.iload 4, 2) := by decide +kernel
theorem dX12_lightAt_7 : decode cX12_lightAt 7 = .ok (.bipush 96, 2) := by decide +kernel
theorem dX12_lightAt_9 : decode cX12_lightAt 9 = .ok (.if_icmp .ge 89, 3) := by decide +kernel
theorem dX12_lightAt_12 : decode cX12_lightAt 12 = .ok (.iload 4, 2) := by decide +kernel
theorem dX12_lightAt_14 : decode cX12_lightAt 14 = .ok (.iload_n 1, 1) := by decide +kernel
theorem dX12_lightAt_15 : decode cX12_lightAt 15 = .ok (.if_icmp .eq 77, 3) := by decide +kernel
theorem dX12_lightAt_18 : decode cX12_lightAt 18 = .ok (.aload_n 0, 1) := by decide +kernel
theorem dX12_lightAt_19 : decode cX12_lightAt 19 = .ok (.getfield 167, 3) := by decide +kernel
theorem dX12_lightAt_22 : decode cX12_lightAt 22 = .ok (.iload 4, 2) := by decide +kernel
theorem dX12_lightAt_24 : decode cX12_lightAt 24 = .ok (.iaload, 1) := by decide +kernel
theorem dX12_lightAt_25 : decode cX12_lightAt 25 = .ok (.ifCond .ne 6, 3) := by decide +kernel
theorem dX12_lightAt_28 : decode cX12_lightAt 28 = .ok (.goto 64, 3) := by decide +kernel
theorem dX12_lightAt_31 : decode cX12_lightAt 31 = .ok (.iload 4, 2) := by decide +kernel
theorem dX12_lightAt_33 : decode cX12_lightAt 33 = .ok (.bipush 12, 2) := by decide +kernel
theorem dX12_lightAt_35 : decode cX12_lightAt 35 = .ok (.irem, 1) := by decide +kernel
theorem dX12_lightAt_36 : decode cX12_lightAt 36 = .ok (.iload_n 1, 1) := by decide +kernel
theorem dX12_lightAt_37 : decode cX12_lightAt 37 = .ok (.bipush 12, 2) := by decide +kernel
theorem dX12_lightAt_39 : decode cX12_lightAt 39 = .ok (.irem, 1) := by decide +kernel
theorem dX12_lightAt_40 : decode cX12_lightAt 40 = .ok (.isub, 1) := by decide +kernel
theorem dX12_lightAt_41 : decode cX12_lightAt 41 = .ok (.istore 5, 2) := by decide +kernel
theorem dX12_lightAt_43 : decode cX12_lightAt 43 = .ok (.iload 4, 2) := by decide +kernel
theorem dX12_lightAt_45 : decode cX12_lightAt 45 = .ok (.bipush 12, 2) := by decide +kernel
theorem dX12_lightAt_47 : decode cX12_lightAt 47 = .ok (.idiv, 1) := by decide +kernel
theorem dX12_lightAt_48 : decode cX12_lightAt 48 = .ok (.iload_n 1, 1) := by decide +kernel
theorem dX12_lightAt_49 : decode cX12_lightAt 49 = .ok (.bipush 12, 2) := by decide +kernel
theorem dX12_lightAt_51 : decode cX12_lightAt 51 = .ok (.idiv, 1) := by decide +kernel
theorem dX12_lightAt_52 : decode cX12_lightAt 52 = .ok (.isub, 1) := by decide +kernel
theorem dX12_lightAt_53 : decode cX12_lightAt 53 = .ok (.istore 6, 2) := by decide +kernel
theorem dX12_lightAt_55 : decode cX12_lightAt 55 = .ok (.iload_n 2, 1) := by decide +kernel
theorem dX12_lightAt_56 : decode cX12_lightAt 56 = .ok (.aload_n 0, 1) := by decide +kernel
theorem dX12_lightAt_57 : decode cX12_lightAt 57 = .ok (.getfield 167, 3) := by decide +kernel
theorem dX12_lightAt_60 : decode cX12_lightAt 60 = .ok (.iload 4, 2) := by decide +kernel
theorem dX12_lightAt_62 : decode cX12_lightAt 62 = .ok (.iaload, 1) := by decide +kernel
theorem dX12_lightAt_63 : decode cX12_lightAt 63 = .ok (.imul, 1) := by decide +kernel
theorem dX12_lightAt_64 : decode cX12_lightAt 64 = .ok (.bipush 9, 2) := by decide +kernel
theorem dX12_lightAt_66 : decode cX12_lightAt 66 = .ok (.iconst 1, 1) := by decide +kernel
theorem dX12_lightAt_67 : decode cX12_lightAt 67 = .ok (.iload 5, 2) := by decide +kernel
theorem dX12_lightAt_69 : decode cX12_lightAt 69 = .ok (.iload 5, 2) := by decide +kernel
theorem dX12_lightAt_71 : decode cX12_lightAt 71 = .ok (.imul, 1) := by decide +kernel
theorem dX12_lightAt_72 : decode cX12_lightAt 72 = .ok (.iadd, 1) := by decide +kernel
theorem dX12_lightAt_73 : decode cX12_lightAt 73 = .ok (.iload 6, 2) := by decide +kernel
theorem dX12_lightAt_75 : decode cX12_lightAt 75 = .ok (.iload 6, 2) := by decide +kernel
theorem dX12_lightAt_77 : decode cX12_lightAt 77 = .ok (.imul, 1) := by decide +kernel
theorem dX12_lightAt_78 : decode cX12_lightAt 78 = .ok (.iadd, 1) := by decide +kernel
theorem dX12_lightAt_79 : decode cX12_lightAt 79 = .ok (.imul, 1) := by decide +kernel
theorem dX12_lightAt_80 : decode cX12_lightAt 80 = .ok (.idiv, 1) := by decide +kernel
theorem dX12_lightAt_81 : decode cX12_lightAt 81 = .ok (.istore 7, 2) := by decide +kernel
theorem dX12_lightAt_83 : decode cX12_lightAt 83 = .ok (.iload 7, 2) := by decide +kernel
theorem dX12_lightAt_85 : decode cX12_lightAt 85 = .ok (.iload_n 3, 1) := by decide +kernel
theorem dX12_lightAt_86 : decode cX12_lightAt 86 = .ok (.if_icmp .le 6, 3) := by decide +kernel
theorem dX12_lightAt_89 : decode cX12_lightAt 89 = .ok (.iload 7, 2) := by decide +kernel
theorem dX12_lightAt_91 : decode cX12_lightAt 91 = .ok (.istore_n 3, 1) := by decide +kernel
theorem dX12_lightAt_92 : decode cX12_lightAt 92 = .ok (.iinc 4 1, 3) := by decide +kernel
theorem dX12_lightAt_95 : decode cX12_lightAt 95 = .ok (.goto (-90), 3) := by decide +kernel
theorem dX12_lightAt_98 : decode cX12_lightAt 98 = .ok (.iload_n 3, 1) := by decide +kernel
theorem dX12_lightAt_99 : decode cX12_lightAt 99 = .ok (.ireturn, 1) := by decide +kernel
set_option maxRecDepth 100000 in
theorem tb_X12_lightAt_5 {g : GT} {n nf : Int} (hu : Up false nf n) (a1 a2 : Int) (w5 : Mem → Int → Int → Res) (hw5 : ∀ (M : Mem) (x3 x4 : Int), AW g false RX12 cX12_lightAt 8 (some .int) (0) n n nf 5 [(0, 2, 337), (1, 0, a1), (2, 0, a2), (3, 0, x3), (4, 0, x4)] [] n M (w5 M x3 x4)) (M : Mem) (x3 x4 : Int) : AW g false RX12 cX12_lightAt 8 (some .int) (0) n n nf 5 [(0, 2, 337), (1, 0, a1), (2, 0, a2), (3, 0, x3), (4, 0, x4)] [] n M (b_X12_lightAt_5 a1 a2 w5 M x3 x4) := by
  unfold b_X12_lightAt_5
  refine r_iload 4 dX12_lightAt_5 rfl ?_
  refine r_bipush dX12_lightAt_7 (by decide) ⟨by decide, by decide⟩ ?_
  refine r_icmp_ge (tgt := 98) dX12_lightAt_9 rfl (fun h1 => ?_) (fun h2 => ?_)
  · refine r_iload_n 3 dX12_lightAt_98 rfl rfl ?_
    exact r_iret rfl rfl (Or.inl rfl) dX12_lightAt_99
  · refine r_iload 4 dX12_lightAt_12 rfl ?_
    refine r_iload_n 1 dX12_lightAt_14 rfl rfl ?_
    refine r_icmp_eq (tgt := 92) dX12_lightAt_15 rfl (fun h3 => ?_) (fun h4 => ?_)
    · refine r_ok (fun h5 => ?_)
      refine r_iincB 4 dX12_lightAt_92 rfl h5 (by decide) (lf := fun y6 => [(4, 0, y6), (0, 2, 337), (1, 0, a1), (2, 0, a2), (3, 0, x3)]) (fun _ => rfl) (fun y6 ey6 => ?_)
      refine r_goto (tgt := 5) dX12_lightAt_95 rfl ?_
      refine r_sub [1, 2, 3, 4, 0] (ls' := [(0, 2, 337), (1, 0, a1), (2, 0, a2), (3, 0, x3), (4, 0, y6)]) rfl ?_
      exact hw5 M x3 y6
    · refine r_aload_n 0 dX12_lightAt_18 rfl rfl ?_
      refine r_gx (kz := 74) rfl hu dX12_lightAt_19 kF_X12_167 kd_337 rfl rfl rfl fx_337_74 ?_
      refine r_iload 4 dX12_lightAt_22 rfl ?_
      refine r_ok (fun h7 => ?_)
      refine r_iald hu dX12_lightAt_24 kd_388 rfl (Or.inl rfl) rfl ln_388 h7 ?_
      refine r_if_ne (tgt := 31) dX12_lightAt_25 rfl (fun h8 => ?_) (fun h9 => ?_)
      · refine r_goto (tgt := 92) dX12_lightAt_28 rfl ?_
        refine r_iincB 4 dX12_lightAt_92 rfl ⟨by have := h7; omega, by have := h7; omega⟩ (by decide) (lf := fun y10 => [(4, 0, y10), (0, 2, 337), (1, 0, a1), (2, 0, a2), (3, 0, x3)]) (fun _ => rfl) (fun y10 ey10 => ?_)
        refine r_goto (tgt := 5) dX12_lightAt_95 rfl ?_
        refine r_sub [1, 2, 3, 4, 0] (ls' := [(0, 2, 337), (1, 0, a1), (2, 0, a2), (3, 0, x3), (4, 0, y10)]) rfl ?_
        exact hw5 M x3 y10
      · refine r_iload 4 dX12_lightAt_31 rfl ?_
        refine r_bipush dX12_lightAt_33 (by decide) ⟨by decide, by decide⟩ ?_
        refine r_iremP dX12_lightAt_35 ⟨h7.1, by decide⟩ ?_
        refine r_iload_n 1 dX12_lightAt_36 rfl rfl ?_
        refine r_bipush dX12_lightAt_37 (by decide) ⟨by decide, by decide⟩ ?_
        refine r_ok (fun h11 => ?_)
        refine r_iremP dX12_lightAt_39 ⟨h11, by decide⟩ ?_
        refine r_ok (fun h12 => ?_)
        refine r_isub dX12_lightAt_40 h12 ?_
        refine r_istoreB dX12_lightAt_41 (by decide) (lf := fun y13 => [(5, 0, y13), (0, 2, 337), (1, 0, a1), (2, 0, a2), (3, 0, x3), (4, 0, x4)]) (fun _ => rfl) (fun y13 ey13 => ?_)
        refine r_iload 5 dX12_lightAt_43 rfl ?_
        refine r_bipush dX12_lightAt_45 (by decide) ⟨by decide, by decide⟩ ?_
        refine r_idivP dX12_lightAt_47 ⟨h7.1, by decide⟩ ?_
        refine r_iload_n 2 dX12_lightAt_48 rfl rfl ?_
        refine r_bipush dX12_lightAt_49 (by decide) ⟨by decide, by decide⟩ ?_
        refine r_idivP dX12_lightAt_51 ⟨h11, by decide⟩ ?_
        refine r_ok (fun h14 => ?_)
        refine r_isub dX12_lightAt_52 h14 ?_
        refine r_istoreB dX12_lightAt_53 (by decide) (lf := fun y15 => [(6, 0, y15), (5, 0, y13), (0, 2, 337), (1, 0, a1), (2, 0, a2), (3, 0, x3), (4, 0, x4)]) (fun _ => rfl) (fun y15 ey15 => ?_)
        refine r_iload_n 4 dX12_lightAt_55 rfl rfl ?_
        refine r_aload_n 2 dX12_lightAt_56 rfl rfl ?_
        refine r_gx (kz := 74) rfl hu dX12_lightAt_57 kF_X12_167 kd_337 rfl rfl rfl fx_337_74 ?_
        refine r_iload 6 dX12_lightAt_60 rfl ?_
        refine r_iald hu dX12_lightAt_62 kd_388 rfl (Or.inl rfl) rfl ln_388 h7 ?_
        refine r_ok (fun h16 => ?_)
        refine r_imul dX12_lightAt_63 h16 ?_
        refine r_bipush dX12_lightAt_64 (by decide) ⟨by decide, by decide⟩ ?_
        refine r_iconst dX12_lightAt_66 ⟨by decide, by decide⟩ ?_
        refine r_iload 1 dX12_lightAt_67 rfl ?_
        refine r_iload 1 dX12_lightAt_69 rfl ?_
        refine r_ok (fun h17 => ?_)
        refine r_imul dX12_lightAt_71 h17 ?_
        refine r_ok (fun h18 => ?_)
        refine r_iadd dX12_lightAt_72 h18 ?_
        refine r_iload 0 dX12_lightAt_73 rfl ?_
        refine r_iload 0 dX12_lightAt_75 rfl ?_
        refine r_ok (fun h19 => ?_)
        refine r_imul dX12_lightAt_77 h19 ?_
        refine r_ok (fun h20 => ?_)
        refine r_iadd dX12_lightAt_78 h20 ?_
        refine r_ok (fun h21 => ?_)
        refine r_imul dX12_lightAt_79 h21 ?_
        refine r_ok (fun h22 => ?_)
        refine r_idivP dX12_lightAt_80 h22 ?_
        refine r_istoreB dX12_lightAt_81 (by decide) (lf := fun y23 => [(7, 0, y23), (6, 0, y15), (5, 0, y13), (0, 2, 337), (1, 0, a1), (2, 0, a2), (3, 0, x3), (4, 0, x4)]) (fun _ => rfl) (fun y23 ey23 => ?_)
        refine r_iload 0 dX12_lightAt_83 rfl ?_
        refine r_iload_n 6 dX12_lightAt_85 rfl rfl ?_
        refine r_icmp_le (tgt := 92) dX12_lightAt_86 rfl (fun h24 => ?_) (fun h25 => ?_)
        · refine r_iincB 7 dX12_lightAt_92 rfl ⟨by have := h7; omega, by have := h7; omega⟩ (by decide) (lf := fun y26 => [(4, 0, y26), (7, 0, y23), (6, 0, y15), (5, 0, y13), (0, 2, 337), (1, 0, a1), (2, 0, a2), (3, 0, x3)]) (fun _ => rfl) (fun y26 ey26 => ?_)
          refine r_goto (tgt := 5) dX12_lightAt_95 rfl ?_
          refine r_sub [4, 5, 6, 7, 0] (ls' := [(0, 2, 337), (1, 0, a1), (2, 0, a2), (3, 0, x3), (4, 0, y26)]) rfl ?_
          exact hw5 M x3 y26
        · refine r_iload 0 dX12_lightAt_89 rfl ?_
          refine r_istore_n dX12_lightAt_91 rfl (by decide) (ls' := [(3, 0, y23), (7, 0, y23), (6, 0, y15), (5, 0, y13), (0, 2, 337), (1, 0, a1), (2, 0, a2), (4, 0, x4)]) rfl ?_
          refine r_iincB 7 dX12_lightAt_92 rfl ⟨by have := h7; omega, by have := h7; omega⟩ (by decide) (lf := fun y27 => [(4, 0, y27), (3, 0, y23), (7, 0, y23), (6, 0, y15), (5, 0, y13), (0, 2, 337), (1, 0, a1), (2, 0, a2)]) (fun _ => rfl) (fun y27 ey27 => ?_)
          refine r_goto (tgt := 5) dX12_lightAt_95 rfl ?_
          refine r_sub [5, 6, 7, 1, 0] (ls' := [(0, 2, 337), (1, 0, a1), (2, 0, a2), (3, 0, y23), (4, 0, y27)]) rfl ?_
          exact hw5 M y23 y27
set_option maxRecDepth 100000 in
theorem m_X12_lightAt {g : GT} {n nf : Int} (hu : Up false nf n) (M : Mem) (a1 a2 : Int) : AM g false yX12_lightAt cX12_lightAt 8 (some .int) (0) n n nf [(2, 337), (0, a1), (0, a2)] M (f_X12_lightAt M a1 a2) := by
  refine AM_of (by decide +kernel) (Nat.le_of_ble_eq_true rfl) (fun h => absurd h (Int.lt_irrefl n)) ?_
  show AW g false RX12 cX12_lightAt 8 (some .int) (0) n n nf 0 [(0, 2, 337), (1, 0, a1), (2, 0, a2)] [] n M (f_X12_lightAt M a1 a2)
  unfold f_X12_lightAt
  refine r_iconst dX12_lightAt_0 ⟨by decide, by decide⟩ ?_
  refine r_istore_n dX12_lightAt_1 rfl (by decide) (ls' := [(3, 0, 0), (0, 2, 337), (1, 0, a1), (2, 0, a2)]) rfl ?_
  refine r_iconst dX12_lightAt_2 ⟨by decide, by decide⟩ ?_
  refine r_istore dX12_lightAt_3 (by decide) (ls' := [(4, 0, 0), (3, 0, 0), (0, 2, 337), (1, 0, a1), (2, 0, a2)]) rfl ?_
  refine r_sub [2, 3, 4, 1, 0] (ls' := [(0, 2, 337), (1, 0, a1), (2, 0, a2), (3, 0, 0), (4, 0, 0)]) rfl ?_
  exact wl2_aw (P := fun M x3 x4 o => AW g false RX12 cX12_lightAt 8 (some .int) (0) n n nf 5 [(0, 2, 337), (1, 0, a1), (2, 0, a2), (3, 0, x3), (4, 0, x4)] [] n M (o)) (fun M x3 x4 => aw_none) (fun w hw M x3 x4 => tb_X12_lightAt_5 hu a1 a2 w hw M x3 x4) FU M 0 0
theorem dX12_shows_0 : decode cX12_shows 0 = .ok (.aload_n 0, 1) := by decide +kernel
theorem dX12_shows_1 : decode cX12_shows 1 = .ok (.iload_n 2, 1) := by decide +kernel
theorem dX12_shows_2 : decode cX12_shows 2 = .ok (.bipush 12, 2) := by decide +kernel
theorem dX12_shows_4 : decode cX12_shows 4 = .ok (.irem, 1) := by decide +kernel
theorem dX12_shows_5 : decode cX12_shows 5 = .ok (.putfield 407, 3) := by decide +kernel
theorem dX12_shows_8 : decode cX12_shows 8 = .ok (.aload_n 0, 1) := by decide +kernel
theorem dX12_shows_9 : decode cX12_shows 9 = .ok (.iload_n 2, 1) := by decide +kernel
theorem dX12_shows_10 : decode cX12_shows 10 = .ok (.bipush 12, 2) := by decide +kernel
theorem dX12_shows_12 : decode cX12_shows 12 = .ok (.idiv, 1) := by decide +kernel
theorem dX12_shows_13 : decode cX12_shows 13 = .ok (.putfield 410, 3) := by decide +kernel
theorem dX12_shows_16 : decode cX12_shows 16 = .ok (.aload_n 0, 1) := by decide +kernel
theorem dX12_shows_17 : decode cX12_shows 17 = .ok (.iload_n 3, 1) := by decide +kernel
theorem dX12_shows_18 : decode cX12_shows 18 = .ok (.putfield 413, 3) := by decide +kernel
theorem dX12_shows_21 : decode cX12_shows 21 = .ok (.aload_n 0, 1) := by decide +kernel
theorem dX12_shows_22 : decode cX12_shows 22 = .ok (.aload_n 0, 1) := by decide +kernel
theorem dX12_shows_23 : decode cX12_shows 23 = .ok (.getfield 167, 3) := by decide +kernel
theorem dX12_shows_26 : decode cX12_shows 26 = .ok (.iload_n 2, 1) := by decide +kernel
theorem dX12_shows_27 : decode cX12_shows 27 = .ok (.iaload, 1) := by decide +kernel
theorem dX12_shows_28 : decode cX12_shows 28 = .ok (.putfield 416, 3) := by decide +kernel
theorem dX12_shows_31 : decode cX12_shows 31 = .ok (.aload_n 0, 1) := by decide +kernel
theorem dX12_shows_32 : decode cX12_shows 32 = .ok (.aload_n 0, 1) := by decide +kernel
theorem dX12_shows_33 : decode cX12_shows 33 = .ok (.iload_n 2, 1) := by decide +kernel
theorem dX12_shows_34 : decode cX12_shows 34 = .ok (.iload_n 3, 1) := by decide +kernel
theorem dX12_shows_35 : decode cX12_shows 35 = .ok (.invokevirtual 531, 3) := by decide +kernel
theorem dX12_shows_38 : decode cX12_shows 38 = .ok (.putfield 419, 3) := by decide +kernel
theorem dX12_shows_41 : decode cX12_shows 41 = .ok (.aload_n 0, 1) := by decide +kernel
theorem dX12_shows_42 : decode cX12_shows 42 = .ok (.iload_n 1, 1) := by decide +kernel
theorem dX12_shows_43 : decode cX12_shows 43 = .ok (.putfield 422, 3) := by decide +kernel
theorem dX12_shows_46 : decode cX12_shows 46 = .ok (.return_, 1) := by decide +kernel
set_option maxRecDepth 100000 in
theorem m_X12_shows {g : GT} {n nf : Int} (hu : Up false nf n) (M : Mem) (a1 a2 a3 : Int) : AM g false yX12_shows cX12_shows 4 none (1) n n nf [(2, 337), (0, a1), (0, a2), (0, a3)] M (f_X12_shows M a1 a2 a3) := by
  refine AM_of (by decide +kernel) (Nat.le_of_ble_eq_true rfl) (fun h => absurd h (Int.lt_irrefl n)) ?_
  show AW g false RX12 cX12_shows 4 none (1) n n nf 0 [(0, 2, 337), (1, 0, a1), (2, 0, a2), (3, 0, a3)] [] n M (f_X12_shows M a1 a2 a3)
  unfold f_X12_shows
  refine r_aload_n 0 dX12_shows_0 rfl rfl ?_
  refine r_iload_n 2 dX12_shows_1 rfl rfl ?_
  refine r_bipush dX12_shows_2 (by decide) ⟨by decide, by decide⟩ ?_
  refine r_ok (fun h1 => ?_)
  refine r_iremP dX12_shows_4 ⟨h1, by decide⟩ ?_
  refine r_pf (t := 0) (kz := 68) rfl hu dX12_shows_5 kF_X12_407 kd_337 rfl rfl rfl (fun h => absurd h (by decide)) rfl kX_12_68 (fun M2 eM2 => ?_)
  refine r_aload_n 0 dX12_shows_8 rfl rfl ?_
  refine r_iload_n 2 dX12_shows_9 rfl rfl ?_
  refine r_bipush dX12_shows_10 (by decide) ⟨by decide, by decide⟩ ?_
  refine r_idivP dX12_shows_12 ⟨h1, by decide⟩ ?_
  refine r_pf (t := 0) (kz := 69) rfl hu dX12_shows_13 kF_X12_410 kd_337 rfl rfl rfl (fun h => absurd h (by decide)) rfl kX_12_69 (fun M3 eM3 => ?_)
  refine r_aload_n 0 dX12_shows_16 rfl rfl ?_
  refine r_iload_n 3 dX12_shows_17 rfl rfl ?_
  refine r_pf (t := 0) (kz := 70) rfl hu dX12_shows_18 kF_X12_413 kd_337 rfl rfl rfl (fun h => absurd h (by decide)) rfl kX_12_70 (fun M4 eM4 => ?_)
  refine r_aload_n 0 dX12_shows_21 rfl rfl ?_
  refine r_aload_n 0 dX12_shows_22 rfl rfl ?_
  refine r_gx (kz := 74) rfl hu dX12_shows_23 kF_X12_167 kd_337 rfl rfl rfl fx_337_74 ?_
  refine r_iload_n 2 dX12_shows_26 rfl rfl ?_
  refine r_ok (fun h5 => ?_)
  refine r_iald hu dX12_shows_27 kd_388 rfl (Or.inl rfl) rfl ln_388 h5 ?_
  refine r_pf (t := 0) (kz := 71) rfl hu dX12_shows_28 kF_X12_416 kd_337 rfl rfl rfl (fun h => absurd h (by decide)) rfl kX_12_71 (fun M6 eM6 => ?_)
  refine r_aload_n 0 dX12_shows_31 rfl rfl ?_
  refine r_aload_n 0 dX12_shows_32 rfl rfl ?_
  refine r_iload_n 2 dX12_shows_33 rfl rfl ?_
  refine r_iload_n 3 dX12_shows_34 rfl rfl ?_
  refine r_inv (a := 337) hu ⟨Nat.le_refl _, Nat.le_refl _⟩ dX12_shows_35 kM_X12_531 (ci := 12) rfl kd_337 rfl rfl (by decide) (by decide) [(0, a2), (0, a3)] rfl (sk := [(2, 337)]) rfl (Nat.le_of_ble_eq_true rfl) rfl rfl (m_X12_lightAt hu M6 a2 a3) (fun r7 M8 => ?_)
  refine r_pf (t := 0) (kz := 72) rfl hu dX12_shows_38 kF_X12_419 kd_337 rfl rfl rfl (fun h => absurd h (by decide)) rfl kX_12_72 (fun M9 eM9 => ?_)
  refine r_aload_n 0 dX12_shows_41 rfl rfl ?_
  refine r_iload_n 1 dX12_shows_42 rfl rfl ?_
  refine r_pf (t := 0) (kz := 73) rfl hu dX12_shows_43 kF_X12_422 kd_337 rfl rfl rfl (fun h => absurd h (by decide)) rfl kX_12_73 (fun M10 eM10 => ?_)
  exact r_vret rfl rfl dX12_shows_46
theorem dX12_carriedBy_0 : decode cX12_carriedBy 0 = .ok (.iconst 5, 1) := by decide +kernel
theorem dX12_carriedBy_1 : decode cX12_carriedBy 1 = .ok (.iconst 2, 1) := by decide +kernel
theorem dX12_carriedBy_2 : decode cX12_carriedBy 2 = .ok (.iload_n 1, 1) := by decide +kernel
theorem dX12_carriedBy_3 : decode cX12_carriedBy 3 = .ok (.iadd, 1) := by decide +kernel
theorem dX12_carriedBy_4 : decode cX12_carriedBy 4 = .ok (.imul, 1) := by decide +kernel
theorem dX12_carriedBy_5 : decode cX12_carriedBy 5 = .ok (.iload_n 2, 1) := by decide +kernel
theorem dX12_carriedBy_6 : decode cX12_carriedBy 6 = .ok (.iadd, 1) := by decide +kernel
theorem dX12_carriedBy_7 : decode cX12_carriedBy 7 = .ok (.istore_n 3, 1) := by decide +kernel
theorem dX12_carriedBy_8 : decode cX12_carriedBy 8 = .ok (.aload_n 0, 1) := by decide +kernel
theorem dX12_carriedBy_9 : decode cX12_carriedBy 9 = .ok (.getfield 413, 3) := by decide +kernel
theorem dX12_carriedBy_12 : decode cX12_carriedBy 12 = .ok (.ifCond .eq 24, 3) := by decide +kernel
theorem dX12_carriedBy_15 : decode cX12_carriedBy 15 = .ok (.aload_n 0, 1) := by decide +kernel
theorem dX12_carriedBy_16 : decode cX12_carriedBy 16 = .ok (.aload_n 0, 1) := by decide +kernel
theorem dX12_carriedBy_17 : decode cX12_carriedBy 17 = .ok (.getfield 113, 3) := by decide +kernel
theorem dX12_carriedBy_20 : decode cX12_carriedBy 20 = .ok (.iload_n 3, 1) := by decide +kernel
theorem dX12_carriedBy_21 : decode cX12_carriedBy 21 = .ok (.iaload, 1) := by decide +kernel
theorem dX12_carriedBy_22 : decode cX12_carriedBy 22 = .ok (.aload_n 0, 1) := by decide +kernel
theorem dX12_carriedBy_23 : decode cX12_carriedBy 23 = .ok (.getfield 116, 3) := by decide +kernel
theorem dX12_carriedBy_26 : decode cX12_carriedBy 26 = .ok (.iload_n 3, 1) := by decide +kernel
theorem dX12_carriedBy_27 : decode cX12_carriedBy 27 = .ok (.iaload, 1) := by decide +kernel
theorem dX12_carriedBy_28 : decode cX12_carriedBy 28 = .ok (.invokevirtual 425, 3) := by decide +kernel
theorem dX12_carriedBy_31 : decode cX12_carriedBy 31 = .ok (.lconst 1, 1) := by decide +kernel
theorem dX12_carriedBy_32 : decode cX12_carriedBy 32 = .ok (.lcmp, 1) := by decide +kernel
theorem dX12_carriedBy_33 : decode cX12_carriedBy 33 = .ok (.ifCond .eq 5, 3) := by decide +kernel
theorem dX12_carriedBy_36 : decode cX12_carriedBy 36 = .ok (.iconst 0, 1) := by decide +kernel
theorem dX12_carriedBy_37 : decode cX12_carriedBy 37 = .ok (.ireturn, 1) := by decide +kernel
theorem dX12_carriedBy_38 : decode cX12_carriedBy 38 = .ok (.aload_n 0, 1) := by decide +kernel
theorem dX12_carriedBy_39 : decode cX12_carriedBy 39 = .ok (.aload_n 0, 1) := by decide +kernel
theorem dX12_carriedBy_40 : decode cX12_carriedBy 40 = .ok (.getfield 110, 3) := by decide +kernel
theorem dX12_carriedBy_43 : decode cX12_carriedBy 43 = .ok (.iload_n 3, 1) := by decide +kernel
theorem dX12_carriedBy_44 : decode cX12_carriedBy 44 = .ok (.iaload, 1) := by decide +kernel
theorem dX12_carriedBy_45 : decode cX12_carriedBy 45 = .ok (.aload_n 0, 1) := by decide +kernel
theorem dX12_carriedBy_46 : decode cX12_carriedBy 46 = .ok (.getfield 113, 3) := by decide +kernel
theorem dX12_carriedBy_49 : decode cX12_carriedBy 49 = .ok (.iload_n 3, 1) := by decide +kernel
theorem dX12_carriedBy_50 : decode cX12_carriedBy 50 = .ok (.iaload, 1) := by decide +kernel
theorem dX12_carriedBy_51 : decode cX12_carriedBy 51 = .ok (.invokevirtual 425, 3) := by decide +kernel
theorem dX12_carriedBy_54 : decode cX12_carriedBy 54 = .ok (.lstore 4, 2) := by decide +kernel
theorem dX12_carriedBy_56 : decode cX12_carriedBy 56 = .ok (.lload 4, 2) := by decide +kernel
theorem dX12_carriedBy_58 : decode cX12_carriedBy 58 = .ok (.lconst 0, 1) := by decide +kernel
theorem dX12_carriedBy_59 : decode cX12_carriedBy 59 = .ok (.lcmp, 1) := by decide +kernel
theorem dX12_carriedBy_60 : decode cX12_carriedBy 60 = .ok (.ifCond .ge 7, 3) := by decide +kernel
theorem dX12_carriedBy_63 : decode cX12_carriedBy 63 = .ok (.iconst 0, 1) := by decide +kernel
theorem dX12_carriedBy_64 : decode cX12_carriedBy 64 = .ok (.goto 20, 3) := by decide +kernel
theorem dX12_carriedBy_67 : decode cX12_carriedBy 67 = .ok (.lload 4, 2) := by decide +kernel
theorem dX12_carriedBy_69 : decode cX12_carriedBy 69 = .ok (.ldc2_w 450, 3) := by decide +kernel
theorem dX12_carriedBy_72 : decode cX12_carriedBy 72 = .ok (.lcmp, 1) := by decide +kernel
theorem dX12_carriedBy_73 : decode cX12_carriedBy 73 = .ok (.ifCond .le 8, 3) := by decide +kernel
theorem dX12_carriedBy_76 : decode cX12_carriedBy 76 = .ok (.bipush 100, 2) := by decide +kernel
theorem dX12_carriedBy_78 : decode cX12_carriedBy 78 = .ok (.goto 6, 3) := by decide +kernel
theorem dX12_carriedBy_81 : decode cX12_carriedBy 81 = .ok (.lload 4, 2) := by decide +kernel
theorem dX12_carriedBy_83 : decode cX12_carriedBy 83 = .ok (.l2i, 1) := by decide +kernel
theorem dX12_carriedBy_84 : decode cX12_carriedBy 84 = .ok (.ireturn, 1) := by decide +kernel
set_option maxRecDepth 100000 in
theorem m_X12_carriedBy {g : GT} {n nf : Int} (hu : Up false nf n) (M : Mem) (a1 a2 : Int) : AM g false yX12_carriedBy cX12_carriedBy 6 (some .int) (3) n n nf [(2, 337), (0, a1), (0, a2)] M (f_X12_carriedBy M a1 a2) := by
  refine AM_of (by decide +kernel) (Nat.le_of_ble_eq_true rfl) (fun h => absurd h (Int.lt_irrefl n)) ?_
  show AW g false RX12 cX12_carriedBy 6 (some .int) (3) n n nf 0 [(0, 2, 337), (1, 0, a1), (2, 0, a2)] [] n M (f_X12_carriedBy M a1 a2)
  unfold f_X12_carriedBy
  refine r_iconst dX12_carriedBy_0 ⟨by decide, by decide⟩ ?_
  refine r_iconst dX12_carriedBy_1 ⟨by decide, by decide⟩ ?_
  refine r_iload_n 1 dX12_carriedBy_2 rfl rfl ?_
  refine r_ok (fun h1 => ?_)
  refine r_iadd dX12_carriedBy_3 h1 ?_
  refine r_ok (fun h2 => ?_)
  refine r_imul dX12_carriedBy_4 h2 ?_
  refine r_iload_n 2 dX12_carriedBy_5 rfl rfl ?_
  refine r_ok (fun h3 => ?_)
  refine r_iadd dX12_carriedBy_6 h3 ?_
  refine r_istore_nB dX12_carriedBy_7 rfl (by decide) (lf := fun y4 => [(3, 0, y4), (0, 2, 337), (1, 0, a1), (2, 0, a2)]) (fun _ => rfl) (fun y4 ey4 => ?_)
  refine r_aload_n 1 dX12_carriedBy_8 rfl rfl ?_
  refine r_gf (t := 0) (kz := 70) rfl hu dX12_carriedBy_9 kF_X12_413 kd_337 rfl rfl rfl ?_
  refine r_if_eq (tgt := 36) dX12_carriedBy_12 rfl (fun h5 => ?_) (fun h6 => ?_)
  · refine r_iconst dX12_carriedBy_36 ⟨by decide, by decide⟩ ?_
    exact r_iret rfl rfl (Or.inl rfl) dX12_carriedBy_37
  · refine r_aload_n 1 dX12_carriedBy_15 rfl rfl ?_
    refine r_aload_n 1 dX12_carriedBy_16 rfl rfl ?_
    refine r_gx (kz := 45) rfl hu dX12_carriedBy_17 kF_X12_113 kd_337 rfl rfl rfl fx_337_45 ?_
    refine r_iload_n 0 dX12_carriedBy_20 rfl rfl ?_
    refine r_ok (fun h7 => ?_)
    refine r_iald hu dX12_carriedBy_21 kd_370 rfl (Or.inl rfl) rfl ln_370 h7 ?_
    refine r_aload_n 1 dX12_carriedBy_22 rfl rfl ?_
    refine r_gx (kz := 46) rfl hu dX12_carriedBy_23 kF_X12_116 kd_337 rfl rfl rfl fx_337_46 ?_
    refine r_iload_n 0 dX12_carriedBy_26 rfl rfl ?_
    refine r_iald hu dX12_carriedBy_27 kd_371 rfl (Or.inl rfl) rfl ln_371 h7 ?_
    refine r_inv (a := 337) hu ⟨Nat.le_refl _, Nat.le_refl _⟩ dX12_carriedBy_28 kM_X12_425 (ci := 12) rfl kd_337 rfl rfl (by decide) (by decide) [(0, M 370 y4), (0, M 371 y4)] rfl (sk := []) rfl (Nat.le_of_ble_eq_true rfl) rfl rfl (m_X12_tells hu M (M 370 y4) (M 371 y4)) (fun r8 M9 => ?_)
    refine r_lconst (v := 1) dX12_carriedBy_31 (by decide) ⟨by decide, by decide⟩ ?_
    refine r_lif_eq (tgt := 38) dX12_carriedBy_32 dX12_carriedBy_33 rfl (fun h10 => ?_) (fun h11 => ?_)
    · refine r_aload_n 1 dX12_carriedBy_38 rfl rfl ?_
      refine r_aload_n 1 dX12_carriedBy_39 rfl rfl ?_
      refine r_gx (kz := 44) rfl hu dX12_carriedBy_40 kF_X12_110 kd_337 rfl rfl rfl fx_337_44 ?_
      refine r_iload_n 0 dX12_carriedBy_43 rfl rfl ?_
      refine r_iald hu dX12_carriedBy_44 kd_369 rfl (Or.inl rfl) rfl ln_369 h7 ?_
      refine r_aload_n 1 dX12_carriedBy_45 rfl rfl ?_
      refine r_gx (kz := 45) rfl hu dX12_carriedBy_46 kF_X12_113 kd_337 rfl rfl rfl fx_337_45 ?_
      refine r_iload_n 0 dX12_carriedBy_49 rfl rfl ?_
      refine r_iald hu dX12_carriedBy_50 kd_370 rfl (Or.inl rfl) rfl ln_370 h7 ?_
      refine r_inv (a := 337) hu ⟨Nat.le_refl _, Nat.le_refl _⟩ dX12_carriedBy_51 kM_X12_425 (ci := 12) rfl kd_337 rfl rfl (by decide) (by decide) [(0, M9 369 y4), (0, M9 370 y4)] rfl (sk := []) rfl (Nat.le_of_ble_eq_true rfl) rfl rfl (m_X12_tells hu M9 (M9 369 y4) (M9 370 y4)) (fun r12 M13 => ?_)
      refine r_lstore dX12_carriedBy_54 (by decide) (ls' := [(4, 1, r12), (3, 0, y4), (0, 2, 337), (1, 0, a1), (2, 0, a2)]) rfl ?_
      refine r_lload 0 dX12_carriedBy_56 rfl ?_
      refine r_lconst (v := 0) dX12_carriedBy_58 (by decide) ⟨by decide, by decide⟩ ?_
      refine r_lif_ge (tgt := 67) dX12_carriedBy_59 dX12_carriedBy_60 rfl (fun h14 => ?_) (fun h15 => ?_)
      · refine r_lload 0 dX12_carriedBy_67 rfl ?_
        refine r_ldc2 (v := 100) dX12_carriedBy_69 kC_X12_450 rfl ⟨by decide, by decide⟩ ?_
        refine r_lif_le (tgt := 81) dX12_carriedBy_72 dX12_carriedBy_73 rfl (fun h16 => ?_) (fun h17 => ?_)
        · refine r_lload 0 dX12_carriedBy_81 rfl ?_
          refine r_ok (fun h18 => ?_)
          refine r_l2i dX12_carriedBy_83 h18 ?_
          exact r_iret rfl rfl (Or.inl rfl) dX12_carriedBy_84
        · refine r_bipush dX12_carriedBy_76 (by decide) ⟨by decide, by decide⟩ ?_
          refine r_goto (tgt := 84) dX12_carriedBy_78 rfl ?_
          exact r_iret rfl rfl (Or.inl rfl) dX12_carriedBy_84
      · refine r_iconst dX12_carriedBy_63 ⟨by decide, by decide⟩ ?_
        refine r_goto (tgt := 84) dX12_carriedBy_64 rfl ?_
        exact r_iret rfl rfl (Or.inl rfl) dX12_carriedBy_84
    · refine r_iconst dX12_carriedBy_36 ⟨by decide, by decide⟩ ?_
      exact r_iret rfl rfl (Or.inl rfl) dX12_carriedBy_37
theorem dX12_carried_0 : decode cX12_carried 0 = .ok (.iconst 0, 1) := by decide +kernel
theorem dX12_carried_1 : decode cX12_carried 1 = .ok (.istore_n 3, 1) := by decide +kernel
theorem dX12_carried_2 : decode cX12_carried 2 = .ok (.iconst 0, 1) := by decide +kernel
theorem dX12_carried_3 : decode cX12_carried 3 = .ok (.istore 4, 2) := by decide +kernel
theorem dX12_carried_5 : decode cX12_carried 5 = .ok (.iload 4, 2) := by decide +kernel
theorem dX12_carried_7 : decode cX12_carried 7 = .ok (.aload_n 0, 1) := by decide +kernel
theorem dX12_carried_8 : decode cX12_carried 8 = .ok (.getfield 99, 3) := by decide +kernel
theorem dX12_carried_11 : decode cX12_carried 11 = .ok (.iconst 2, 1) := by decide +kernel
theorem dX12_carried_12 : decode cX12_carried 12 = .ok (.iload_n 1, 1) := by decide +kernel
theorem dX12_carried_13 : decode cX12_carried 13 = .ok (.iadd, 1) := by decide +kernel
theorem dX12_carried_14 : decode cX12_carried 14 = .ok (.iaload, 1) := by decide +kernel
theorem dX12_carried_15 : decode cX12_carried 15 = .ok (.if_icmp .ge 51, 3) := by decide +kernel
theorem dX12_carried_18 : decode cX12_carried 18 = .ok (.iload_n 2, 1) := by decide +kernel
theorem dX12_carried_19 : decode cX12_carried 19 = .ok (.ifCond .eq 23, 3) := by decide +kernel
theorem dX12_carried_22 : decode cX12_carried 22 = .ok (.aload_n 0, 1) := by decide +kernel
theorem dX12_carried_23 : decode cX12_carried 23 = .ok (.getfield 106, 3) := by decide +kernel
theorem dX12_carried_26 : decode cX12_carried 26 = .ok (.iconst 5, 1) := by decide +kernel
theorem dX12_carried_27 : decode cX12_carried 27 = .ok (.iconst 2, 1) := by decide +kernel
theorem dX12_carried_28 : decode cX12_carried 28 = .ok (.iload_n 1, 1) := by decide +kernel
theorem dX12_carried_29 : decode cX12_carried 29 = .ok (.iadd, 1) := by decide +kernel
theorem dX12_carried_30 : decode cX12_carried 30 = .ok (.imul, 1) := by decide +kernel
theorem dX12_carried_31 : decode cX12_carried 31 = .ok (.iload 4, 2) := by decide +kernel
theorem dX12_carried_33 : decode cX12_carried 33 = .ok (.iadd, 1) := by decide +kernel
theorem dX12_carried_34 : decode cX12_carried 34 = .ok (.baload, 1) := by decide +kernel
theorem dX12_carried_35 : decode cX12_carried 35 = .ok (.ifCond .ne 7, 3) := by decide +kernel
theorem dX12_carried_38 : decode cX12_carried 38 = .ok (.iconst 0, 1) := by decide +kernel
theorem dX12_carried_39 : decode cX12_carried 39 = .ok (.goto 10, 3) := by decide +kernel
theorem dX12_carried_42 : decode cX12_carried 42 = .ok (.aload_n 0, 1) := by decide +kernel
theorem dX12_carried_43 : decode cX12_carried 43 = .ok (.iload_n 1, 1) := by decide +kernel
theorem dX12_carried_44 : decode cX12_carried 44 = .ok (.iload 4, 2) := by decide +kernel
theorem dX12_carried_46 : decode cX12_carried 46 = .ok (.invokevirtual 534, 3) := by decide +kernel
theorem dX12_carried_49 : decode cX12_carried 49 = .ok (.istore 5, 2) := by decide +kernel
theorem dX12_carried_51 : decode cX12_carried 51 = .ok (.iload 5, 2) := by decide +kernel
theorem dX12_carried_53 : decode cX12_carried 53 = .ok (.iload_n 3, 1) := by decide +kernel
theorem dX12_carried_54 : decode cX12_carried 54 = .ok (.if_icmp .le 6, 3) := by decide +kernel
theorem dX12_carried_57 : decode cX12_carried 57 = .ok (.iload 5, 2) := by decide +kernel
theorem dX12_carried_59 : decode cX12_carried 59 = .ok (.istore_n 3, 1) := by decide +kernel
theorem dX12_carried_60 : decode cX12_carried 60 = .ok (.iinc 4 1, 3) := by decide +kernel
theorem dX12_carried_63 : decode cX12_carried 63 = .ok (.goto (-58), 3) := by decide +kernel
theorem dX12_carried_66 : decode cX12_carried 66 = .ok (.iload_n 3, 1) := by decide +kernel
theorem dX12_carried_67 : decode cX12_carried 67 = .ok (.ireturn, 1) := by decide +kernel
set_option maxRecDepth 100000 in
theorem tj_X12_carried_49 {g : GT} {n nf : Int} (hu : Up false nf n) (a1 a2 : Int) (w5 : Mem → Int → Int → Res) (hw5 : ∀ (M : Mem) (x3 x4 : Int), AW g false RX12 cX12_carried 6 (some .int) (4) n n nf 5 [(0, 2, 337), (1, 0, a1), (2, 0, a2), (3, 0, x3), (4, 0, x4)] [] n M (w5 M x3 x4)) (M : Mem) (x3 x4 s0 : Int) : AW g false RX12 cX12_carried 6 (some .int) (4) n n nf 49 [(0, 2, 337), (1, 0, a1), (2, 0, a2), (3, 0, x3), (4, 0, x4)] [(0, s0)] n M (j_X12_carried_49 a1 a2 w5 M x3 x4 s0) := by
  unfold j_X12_carried_49
  refine r_istore dX12_carried_49 (by decide) (ls' := [(5, 0, s0), (0, 2, 337), (1, 0, a1), (2, 0, a2), (3, 0, x3), (4, 0, x4)]) rfl ?_
  refine r_iload 0 dX12_carried_51 rfl ?_
  refine r_iload_n 4 dX12_carried_53 rfl rfl ?_
  refine r_icmp_le (tgt := 60) dX12_carried_54 rfl (fun h9 => ?_) (fun h10 => ?_)
  · refine r_ok (fun h11 => ?_)
    refine r_iincB 5 dX12_carried_60 rfl h11 (by decide) (lf := fun y12 => [(4, 0, y12), (5, 0, s0), (0, 2, 337), (1, 0, a1), (2, 0, a2), (3, 0, x3)]) (fun _ => rfl) (fun y12 ey12 => ?_)
    refine r_goto (tgt := 5) dX12_carried_63 rfl ?_
    refine r_sub [2, 3, 4, 5, 0] (ls' := [(0, 2, 337), (1, 0, a1), (2, 0, a2), (3, 0, x3), (4, 0, y12)]) rfl ?_
    exact hw5 M x3 y12
  · refine r_iload 0 dX12_carried_57 rfl ?_
    refine r_istore_n dX12_carried_59 rfl (by decide) (ls' := [(3, 0, s0), (5, 0, s0), (0, 2, 337), (1, 0, a1), (2, 0, a2), (4, 0, x4)]) rfl ?_
    refine r_ok (fun h13 => ?_)
    refine r_iincB 5 dX12_carried_60 rfl h13 (by decide) (lf := fun y14 => [(4, 0, y14), (3, 0, s0), (5, 0, s0), (0, 2, 337), (1, 0, a1), (2, 0, a2)]) (fun _ => rfl) (fun y14 ey14 => ?_)
    refine r_goto (tgt := 5) dX12_carried_63 rfl ?_
    refine r_sub [3, 4, 5, 1, 0] (ls' := [(0, 2, 337), (1, 0, a1), (2, 0, a2), (3, 0, s0), (4, 0, y14)]) rfl ?_
    exact hw5 M s0 y14
set_option maxRecDepth 100000 in
theorem tj_X12_carried_42 {g : GT} {n nf : Int} (hu : Up false nf n) (a1 a2 : Int) (w5 : Mem → Int → Int → Res) (hw5 : ∀ (M : Mem) (x3 x4 : Int), AW g false RX12 cX12_carried 6 (some .int) (4) n n nf 5 [(0, 2, 337), (1, 0, a1), (2, 0, a2), (3, 0, x3), (4, 0, x4)] [] n M (w5 M x3 x4)) (M : Mem) (x3 x4 : Int) : AW g false RX12 cX12_carried 6 (some .int) (4) n n nf 42 [(0, 2, 337), (1, 0, a1), (2, 0, a2), (3, 0, x3), (4, 0, x4)] [] n M (j_X12_carried_42 a1 a2 w5 M x3 x4) := by
  unfold j_X12_carried_42
  refine r_aload_n 0 dX12_carried_42 rfl rfl ?_
  refine r_iload_n 1 dX12_carried_43 rfl rfl ?_
  refine r_iload 4 dX12_carried_44 rfl ?_
  refine r_inv (a := 337) hu ⟨Nat.le_refl _, Nat.le_refl _⟩ dX12_carried_46 kM_X12_534 (ci := 12) rfl kd_337 rfl rfl (by decide) (by decide) [(0, a1), (0, x4)] rfl (sk := []) rfl (Nat.le_of_ble_eq_true rfl) rfl rfl (m_X12_carriedBy hu M a1 x4) (fun r7 M8 => ?_)
  exact tj_X12_carried_49 hu a1 a2 w5 hw5 M8 x3 x4 r7
set_option maxRecDepth 100000 in
theorem tb_X12_carried_5 {g : GT} {n nf : Int} (hu : Up false nf n) (a1 a2 : Int) (w5 : Mem → Int → Int → Res) (hw5 : ∀ (M : Mem) (x3 x4 : Int), AW g false RX12 cX12_carried 6 (some .int) (4) n n nf 5 [(0, 2, 337), (1, 0, a1), (2, 0, a2), (3, 0, x3), (4, 0, x4)] [] n M (w5 M x3 x4)) (M : Mem) (x3 x4 : Int) : AW g false RX12 cX12_carried 6 (some .int) (4) n n nf 5 [(0, 2, 337), (1, 0, a1), (2, 0, a2), (3, 0, x3), (4, 0, x4)] [] n M (b_X12_carried_5 a1 a2 w5 M x3 x4) := by
  unfold b_X12_carried_5
  refine r_iload 4 dX12_carried_5 rfl ?_
  refine r_aload_n 0 dX12_carried_7 rfl rfl ?_
  refine r_gx (kz := 41) rfl hu dX12_carried_8 kF_X12_99 kd_337 rfl rfl rfl fx_337_41 ?_
  refine r_iconst dX12_carried_11 ⟨by decide, by decide⟩ ?_
  refine r_iload_n 1 dX12_carried_12 rfl rfl ?_
  refine r_ok (fun h1 => ?_)
  refine r_iadd dX12_carried_13 h1 ?_
  refine r_ok (fun h2 => ?_)
  refine r_iald hu dX12_carried_14 kd_366 rfl (Or.inl rfl) rfl ln_366 h2 ?_
  refine r_icmp_ge (tgt := 66) dX12_carried_15 rfl (fun h3 => ?_) (fun h4 => ?_)
  · refine r_iload_n 3 dX12_carried_66 rfl rfl ?_
    exact r_iret rfl rfl (Or.inl rfl) dX12_carried_67
  · refine r_iload_n 2 dX12_carried_18 rfl rfl ?_
    refine r_if_eq (tgt := 42) dX12_carried_19 rfl (fun h5 => ?_) (fun h6 => ?_)
    · exact tj_X12_carried_42 hu a1 a2 w5 hw5 M x3 x4
    · refine r_aload_n 0 dX12_carried_22 rfl rfl ?_
      refine r_gx (kz := 43) rfl hu dX12_carried_23 kF_X12_106 kd_337 rfl rfl rfl fx_337_43 ?_
      refine r_iconst dX12_carried_26 ⟨by decide, by decide⟩ ?_
      refine r_iconst dX12_carried_27 ⟨by decide, by decide⟩ ?_
      refine r_iload_n 1 dX12_carried_28 rfl rfl ?_
      refine r_iadd dX12_carried_29 h1 ?_
      refine r_ok (fun h15 => ?_)
      refine r_imul dX12_carried_30 h15 ?_
      refine r_iload 4 dX12_carried_31 rfl ?_
      refine r_ok (fun h16 => ?_)
      refine r_iadd dX12_carried_33 h16 ?_
      refine r_ok (fun h17 => ?_)
      refine r_zald hu dX12_carried_34 kd_368 rfl rfl rfl ln_368 h17 ?_
      refine r_if_ne (tgt := 42) dX12_carried_35 rfl (fun h18 => ?_) (fun h19 => ?_)
      · refine r_iconst dX12_carried_38 ⟨by decide, by decide⟩ ?_
        refine r_goto (tgt := 49) dX12_carried_39 rfl ?_
        exact tj_X12_carried_49 hu a1 a2 w5 hw5 M x3 x4 0
      · exact tj_X12_carried_42 hu a1 a2 w5 hw5 M x3 x4
set_option maxRecDepth 100000 in
theorem m_X12_carried {g : GT} {n nf : Int} (hu : Up false nf n) (M : Mem) (a1 a2 : Int) : AM g false yX12_carried cX12_carried 6 (some .int) (4) n n nf [(2, 337), (0, a1), (0, a2)] M (f_X12_carried M a1 a2) := by
  refine AM_of (by decide +kernel) (Nat.le_of_ble_eq_true rfl) (fun h => absurd h (Int.lt_irrefl n)) ?_
  show AW g false RX12 cX12_carried 6 (some .int) (4) n n nf 0 [(0, 2, 337), (1, 0, a1), (2, 0, a2)] [] n M (f_X12_carried M a1 a2)
  unfold f_X12_carried
  refine r_iconst dX12_carried_0 ⟨by decide, by decide⟩ ?_
  refine r_istore_n dX12_carried_1 rfl (by decide) (ls' := [(3, 0, 0), (0, 2, 337), (1, 0, a1), (2, 0, a2)]) rfl ?_
  refine r_iconst dX12_carried_2 ⟨by decide, by decide⟩ ?_
  refine r_istore dX12_carried_3 (by decide) (ls' := [(4, 0, 0), (3, 0, 0), (0, 2, 337), (1, 0, a1), (2, 0, a2)]) rfl ?_
  refine r_sub [2, 3, 4, 1, 0] (ls' := [(0, 2, 337), (1, 0, a1), (2, 0, a2), (3, 0, 0), (4, 0, 0)]) rfl ?_
  exact wl2_aw (P := fun M x3 x4 o => AW g false RX12 cX12_carried 6 (some .int) (4) n n nf 5 [(0, 2, 337), (1, 0, a1), (2, 0, a2), (3, 0, x3), (4, 0, x4)] [] n M (o)) (fun M x3 x4 => aw_none) (fun w hw M x3 x4 => tb_X12_carried_5 hu a1 a2 w hw M x3 x4) FU M 0 0
theorem dX12_ruled_0 : decode cX12_ruled 0 = .ok (.bipush 40, 2) := by decide +kernel
theorem dX12_ruled_2 : decode cX12_ruled 2 = .ok (.iload_n 1, 1) := by decide +kernel
theorem dX12_ruled_3 : decode cX12_ruled 3 = .ok (.imul, 1) := by decide +kernel
theorem dX12_ruled_4 : decode cX12_ruled 4 = .ok (.istore 4, 2) := by decide +kernel
theorem dX12_ruled_6 : decode cX12_ruled 6 = .ok (.iload 4, 2) := by decide +kernel
theorem dX12_ruled_8 : decode cX12_ruled 8 = .ok (.bipush 40, 2) := by decide +kernel
theorem dX12_ruled_10 : decode cX12_ruled 10 = .ok (.iload_n 1, 1) := by decide +kernel
theorem dX12_ruled_11 : decode cX12_ruled 11 = .ok (.imul, 1) := by decide +kernel
theorem dX12_ruled_12 : decode cX12_ruled 12 = .ok (.aload_n 0, 1) := by decide +kernel
theorem dX12_ruled_13 : decode cX12_ruled 13 = .ok (.getfield 87, 3) := by decide +kernel
theorem dX12_ruled_16 : decode cX12_ruled 16 = .ok (.iload_n 1, 1) := by decide +kernel
theorem dX12_ruled_17 : decode cX12_ruled 17 = .ok (.iaload, 1) := by decide +kernel
theorem dX12_ruled_18 : decode cX12_ruled 18 = .ok (.iadd, 1) := by decide +kernel
theorem dX12_ruled_19 : decode cX12_ruled 19 = .ok (.if_icmp .ge 82, 3) := by decide +kernel
theorem dX12_ruled_22 : decode cX12_ruled 22 = .ok (.aload_n 0, 1) := by decide +kernel
theorem dX12_ruled_23 : decode cX12_ruled 23 = .ok (.aload_n 0, 1) := by decide +kernel
theorem dX12_ruled_24 : decode cX12_ruled 24 = .ok (.getfield 93, 3) := by decide +kernel
theorem dX12_ruled_27 : decode cX12_ruled 27 = .ok (.iload 4, 2) := by decide +kernel
theorem dX12_ruled_29 : decode cX12_ruled 29 = .ok (.iaload, 1) := by decide +kernel
theorem dX12_ruled_30 : decode cX12_ruled 30 = .ok (.aload_n 0, 1) := by decide +kernel
theorem dX12_ruled_31 : decode cX12_ruled 31 = .ok (.getfield 96, 3) := by decide +kernel
theorem dX12_ruled_34 : decode cX12_ruled 34 = .ok (.iload 4, 2) := by decide +kernel
theorem dX12_ruled_36 : decode cX12_ruled 36 = .ok (.iaload, 1) := by decide +kernel
theorem dX12_ruled_37 : decode cX12_ruled 37 = .ok (.invokevirtual 425, 3) := by decide +kernel
theorem dX12_ruled_40 : decode cX12_ruled 40 = .ok (.lconst 1, 1) := by decide +kernel
theorem dX12_ruled_41 : decode cX12_ruled 41 = .ok (.lcmp, 1) := by decide +kernel
theorem dX12_ruled_42 : decode cX12_ruled 42 = .ok (.ifCond .eq 6, 3) := by decide +kernel
theorem dX12_ruled_45 : decode cX12_ruled 45 = .ok (.goto 50, 3) := by decide +kernel
theorem dX12_ruled_48 : decode cX12_ruled 48 = .ok (.aload_n 0, 1) := by decide +kernel
theorem dX12_ruled_49 : decode cX12_ruled 49 = .ok (.aload_n 0, 1) := by decide +kernel
theorem dX12_ruled_50 : decode cX12_ruled 50 = .ok (.getfield 90, 3) := by decide +kernel
theorem dX12_ruled_53 : decode cX12_ruled 53 = .ok (.iload 4, 2) := by decide +kernel
theorem dX12_ruled_55 : decode cX12_ruled 55 = .ok (.iaload, 1) := by decide +kernel
theorem dX12_ruled_56 : decode cX12_ruled 56 = .ok (.aload_n 0, 1) := by decide +kernel
theorem dX12_ruled_57 : decode cX12_ruled 57 = .ok (.getfield 93, 3) := by decide +kernel
theorem dX12_ruled_60 : decode cX12_ruled 60 = .ok (.iload 4, 2) := by decide +kernel
theorem dX12_ruled_62 : decode cX12_ruled 62 = .ok (.iaload, 1) := by decide +kernel
theorem dX12_ruled_63 : decode cX12_ruled 63 = .ok (.invokevirtual 425, 3) := by decide +kernel
theorem dX12_ruled_66 : decode cX12_ruled 66 = .ok (.lstore 5, 2) := by decide +kernel
theorem dX12_ruled_68 : decode cX12_ruled 68 = .ok (.lload 5, 2) := by decide +kernel
theorem dX12_ruled_70 : decode cX12_ruled 70 = .ok (.lconst 0, 1) := by decide +kernel
theorem dX12_ruled_71 : decode cX12_ruled 71 = .ok (.lcmp, 1) := by decide +kernel
theorem dX12_ruled_72 : decode cX12_ruled 72 = .ok (.ifCond .ge 7, 3) := by decide +kernel
theorem dX12_ruled_75 : decode cX12_ruled 75 = .ok (.iconst 0, 1) := by decide +kernel
theorem dX12_ruled_76 : decode cX12_ruled 76 = .ok (.goto 18, 3) := by decide +kernel
theorem dX12_ruled_79 : decode cX12_ruled 79 = .ok (.lload 5, 2) := by decide +kernel
theorem dX12_ruled_81 : decode cX12_ruled 81 = .ok (.iload_n 2, 1) := by decide +kernel
theorem dX12_ruled_82 : decode cX12_ruled 82 = .ok (.i2l, 1) := by decide +kernel
theorem dX12_ruled_83 : decode cX12_ruled 83 = .ok (.lcmp, 1) := by decide +kernel
theorem dX12_ruled_84 : decode cX12_ruled 84 = .ok (.ifCond .le 7, 3) := by decide +kernel
theorem dX12_ruled_87 : decode cX12_ruled 87 = .ok (.iload_n 2, 1) := by decide +kernel
theorem dX12_ruled_88 : decode cX12_ruled 88 = .ok (.goto 6, 3) := by decide +kernel
theorem dX12_ruled_91 : decode cX12_ruled 91 = .ok (.lload 5, 2) := by decide +kernel
theorem dX12_ruled_93 : decode cX12_ruled 93 = .ok (.l2i, 1) := by decide +kernel
theorem dX12_ruled_94 : decode cX12_ruled 94 = .ok (.ireturn, 1) := by decide +kernel
theorem dX12_ruled_95 : decode cX12_ruled 95 = .ok (.iinc 4 1, 3) := by decide +kernel
theorem dX12_ruled_98 : decode cX12_ruled 98 = .ok (.goto (-92), 3) := by decide +kernel
theorem dX12_ruled_101 : decode cX12_ruled 101 = .ok (.iload_n 3, 1) := by decide +kernel
theorem dX12_ruled_102 : decode cX12_ruled 102 = .ok (.ireturn, 1) := by decide +kernel
set_option maxRecDepth 100000 in
theorem tb_X12_ruled_6 {g : GT} {n nf : Int} (hu : Up false nf n) (a1 a2 a3 : Int) (w6 : Mem → Int → Res) (hw6 : ∀ (M : Mem) (x4 : Int), AW g false RX12 cX12_ruled 7 (some .int) (3) n n nf 6 [(0, 2, 337), (1, 0, a1), (2, 0, a2), (3, 0, a3), (4, 0, x4)] [] n M (w6 M x4)) (M : Mem) (x4 : Int) : AW g false RX12 cX12_ruled 7 (some .int) (3) n n nf 6 [(0, 2, 337), (1, 0, a1), (2, 0, a2), (3, 0, a3), (4, 0, x4)] [] n M (b_X12_ruled_6 a1 a2 a3 w6 M x4) := by
  unfold b_X12_ruled_6
  refine r_iload 4 dX12_ruled_6 rfl ?_
  refine r_bipush dX12_ruled_8 (by decide) ⟨by decide, by decide⟩ ?_
  refine r_iload_n 1 dX12_ruled_10 rfl rfl ?_
  refine r_ok (fun h3 => ?_)
  refine r_imul dX12_ruled_11 h3 ?_
  refine r_aload_n 0 dX12_ruled_12 rfl rfl ?_
  refine r_gx (kz := 37) rfl hu dX12_ruled_13 kF_X12_87 kd_337 rfl rfl rfl fx_337_37 ?_
  refine r_iload_n 1 dX12_ruled_16 rfl rfl ?_
  refine r_ok (fun h4 => ?_)
  refine r_iald hu dX12_ruled_17 kd_362 rfl (Or.inl rfl) rfl ln_362 h4 ?_
  refine r_ok (fun h5 => ?_)
  refine r_iadd dX12_ruled_18 h5 ?_
  refine r_icmp_ge (tgt := 101) dX12_ruled_19 rfl (fun h6 => ?_) (fun h7 => ?_)
  · refine r_iload_n 3 dX12_ruled_101 rfl rfl ?_
    exact r_iret rfl rfl (Or.inl rfl) dX12_ruled_102
  · refine r_aload_n 0 dX12_ruled_22 rfl rfl ?_
    refine r_aload_n 0 dX12_ruled_23 rfl rfl ?_
    refine r_gx (kz := 39) rfl hu dX12_ruled_24 kF_X12_93 kd_337 rfl rfl rfl fx_337_39 ?_
    refine r_iload 4 dX12_ruled_27 rfl ?_
    refine r_ok (fun h8 => ?_)
    refine r_iald hu dX12_ruled_29 kd_364 rfl (Or.inl rfl) rfl ln_364 h8 ?_
    refine r_aload_n 0 dX12_ruled_30 rfl rfl ?_
    refine r_gx (kz := 40) rfl hu dX12_ruled_31 kF_X12_96 kd_337 rfl rfl rfl fx_337_40 ?_
    refine r_iload 4 dX12_ruled_34 rfl ?_
    refine r_iald hu dX12_ruled_36 kd_365 rfl (Or.inl rfl) rfl ln_365 h8 ?_
    refine r_inv (a := 337) hu ⟨Nat.le_refl _, Nat.le_refl _⟩ dX12_ruled_37 kM_X12_425 (ci := 12) rfl kd_337 rfl rfl (by decide) (by decide) [(0, M 364 x4), (0, M 365 x4)] rfl (sk := []) rfl (Nat.le_of_ble_eq_true rfl) rfl rfl (m_X12_tells hu M (M 364 x4) (M 365 x4)) (fun r9 M10 => ?_)
    refine r_lconst (v := 1) dX12_ruled_40 (by decide) ⟨by decide, by decide⟩ ?_
    refine r_lif_eq (tgt := 48) dX12_ruled_41 dX12_ruled_42 rfl (fun h11 => ?_) (fun h12 => ?_)
    · refine r_aload_n 0 dX12_ruled_48 rfl rfl ?_
      refine r_aload_n 0 dX12_ruled_49 rfl rfl ?_
      refine r_gx (kz := 38) rfl hu dX12_ruled_50 kF_X12_90 kd_337 rfl rfl rfl fx_337_38 ?_
      refine r_iload 4 dX12_ruled_53 rfl ?_
      refine r_iald hu dX12_ruled_55 kd_363 rfl (Or.inl rfl) rfl ln_363 h8 ?_
      refine r_aload_n 0 dX12_ruled_56 rfl rfl ?_
      refine r_gx (kz := 39) rfl hu dX12_ruled_57 kF_X12_93 kd_337 rfl rfl rfl fx_337_39 ?_
      refine r_iload 4 dX12_ruled_60 rfl ?_
      refine r_iald hu dX12_ruled_62 kd_364 rfl (Or.inl rfl) rfl ln_364 h8 ?_
      refine r_inv (a := 337) hu ⟨Nat.le_refl _, Nat.le_refl _⟩ dX12_ruled_63 kM_X12_425 (ci := 12) rfl kd_337 rfl rfl (by decide) (by decide) [(0, M10 363 x4), (0, M10 364 x4)] rfl (sk := []) rfl (Nat.le_of_ble_eq_true rfl) rfl rfl (m_X12_tells hu M10 (M10 363 x4) (M10 364 x4)) (fun r13 M14 => ?_)
      refine r_lstore dX12_ruled_66 (by decide) (ls' := [(5, 1, r13), (0, 2, 337), (1, 0, a1), (2, 0, a2), (3, 0, a3), (4, 0, x4)]) rfl ?_
      refine r_lload 0 dX12_ruled_68 rfl ?_
      refine r_lconst (v := 0) dX12_ruled_70 (by decide) ⟨by decide, by decide⟩ ?_
      refine r_lif_ge (tgt := 79) dX12_ruled_71 dX12_ruled_72 rfl (fun h15 => ?_) (fun h16 => ?_)
      · refine r_lload 0 dX12_ruled_79 rfl ?_
        refine r_iload_n 3 dX12_ruled_81 rfl rfl ?_
        refine r_i2l dX12_ruled_82 ?_
        refine r_lif_le (tgt := 91) dX12_ruled_83 dX12_ruled_84 rfl (fun h17 => ?_) (fun h18 => ?_)
        · refine r_lload 0 dX12_ruled_91 rfl ?_
          refine r_ok (fun h19 => ?_)
          refine r_l2i dX12_ruled_93 h19 ?_
          exact r_iret rfl rfl (Or.inl rfl) dX12_ruled_94
        · refine r_iload_n 3 dX12_ruled_87 rfl rfl ?_
          refine r_goto (tgt := 94) dX12_ruled_88 rfl ?_
          exact r_iret rfl rfl (Or.inl rfl) dX12_ruled_94
      · refine r_iconst dX12_ruled_75 ⟨by decide, by decide⟩ ?_
        refine r_goto (tgt := 94) dX12_ruled_76 rfl ?_
        exact r_iret rfl rfl (Or.inl rfl) dX12_ruled_94
    · refine r_goto (tgt := 95) dX12_ruled_45 rfl ?_
      refine r_iincB 4 dX12_ruled_95 rfl ⟨by have := h8; omega, by have := h8; omega⟩ (by decide) (lf := fun y20 => [(4, 0, y20), (0, 2, 337), (1, 0, a1), (2, 0, a2), (3, 0, a3)]) (fun _ => rfl) (fun y20 ey20 => ?_)
      refine r_goto (tgt := 6) dX12_ruled_98 rfl ?_
      refine r_sub [1, 2, 3, 4, 0] (ls' := [(0, 2, 337), (1, 0, a1), (2, 0, a2), (3, 0, a3), (4, 0, y20)]) rfl ?_
      exact hw6 M10 y20
set_option maxRecDepth 100000 in
theorem m_X12_ruled {g : GT} {n nf : Int} (hu : Up false nf n) (M : Mem) (a1 a2 a3 : Int) : AM g false yX12_ruled cX12_ruled 7 (some .int) (3) n n nf [(2, 337), (0, a1), (0, a2), (0, a3)] M (f_X12_ruled M a1 a2 a3) := by
  refine AM_of (by decide +kernel) (Nat.le_of_ble_eq_true rfl) (fun h => absurd h (Int.lt_irrefl n)) ?_
  show AW g false RX12 cX12_ruled 7 (some .int) (3) n n nf 0 [(0, 2, 337), (1, 0, a1), (2, 0, a2), (3, 0, a3)] [] n M (f_X12_ruled M a1 a2 a3)
  unfold f_X12_ruled
  refine r_bipush dX12_ruled_0 (by decide) ⟨by decide, by decide⟩ ?_
  refine r_iload_n 1 dX12_ruled_2 rfl rfl ?_
  refine r_ok (fun h1 => ?_)
  refine r_imul dX12_ruled_3 h1 ?_
  refine r_istoreB dX12_ruled_4 (by decide) (lf := fun y2 => [(4, 0, y2), (0, 2, 337), (1, 0, a1), (2, 0, a2), (3, 0, a3)]) (fun _ => rfl) (fun y2 ey2 => ?_)
  refine r_sub [1, 2, 3, 4, 0] (ls' := [(0, 2, 337), (1, 0, a1), (2, 0, a2), (3, 0, a3), (4, 0, y2)]) rfl ?_
  exact wl1_aw (P := fun M x4 o => AW g false RX12 cX12_ruled 7 (some .int) (3) n n nf 6 [(0, 2, 337), (1, 0, a1), (2, 0, a2), (3, 0, a3), (4, 0, x4)] [] n M (o)) (fun M x4 => aw_none) (fun w hw M x4 => tb_X12_ruled_6 hu a1 a2 a3 w hw M x4) FU M y2
theorem dX12_lineOf_0 : decode cX12_lineOf 0 = .ok (.aload_n 0, 1) := by decide +kernel
theorem dX12_lineOf_1 : decode cX12_lineOf 1 = .ok (.iconst 2, 1) := by decide +kernel
theorem dX12_lineOf_2 : decode cX12_lineOf 2 = .ok (.iload_n 1, 1) := by decide +kernel
theorem dX12_lineOf_3 : decode cX12_lineOf 3 = .ok (.iadd, 1) := by decide +kernel
theorem dX12_lineOf_4 : decode cX12_lineOf 4 = .ok (.bipush 101, 2) := by decide +kernel
theorem dX12_lineOf_6 : decode cX12_lineOf 6 = .ok (.bipush 101, 2) := by decide +kernel
theorem dX12_lineOf_8 : decode cX12_lineOf 8 = .ok (.invokevirtual 511, 3) := by decide +kernel
theorem dX12_lineOf_11 : decode cX12_lineOf 11 = .ok (.ireturn, 1) := by decide +kernel
set_option maxRecDepth 100000 in
theorem m_X12_lineOf {g : GT} {n nf : Int} (hu : Up false nf n) (M : Mem) (a1 : Int) : AM g false yX12_lineOf cX12_lineOf 2 (some .int) (4) n n nf [(2, 337), (0, a1)] M (f_X12_lineOf M a1) := by
  refine AM_of (by decide +kernel) (Nat.le_of_ble_eq_true rfl) (fun h => absurd h (Int.lt_irrefl n)) ?_
  show AW g false RX12 cX12_lineOf 2 (some .int) (4) n n nf 0 [(0, 2, 337), (1, 0, a1)] [] n M (f_X12_lineOf M a1)
  unfold f_X12_lineOf
  refine r_aload_n 0 dX12_lineOf_0 rfl rfl ?_
  refine r_iconst dX12_lineOf_1 ⟨by decide, by decide⟩ ?_
  refine r_iload_n 1 dX12_lineOf_2 rfl rfl ?_
  refine r_ok (fun h1 => ?_)
  refine r_iadd dX12_lineOf_3 h1 ?_
  refine r_bipush dX12_lineOf_4 (by decide) ⟨by decide, by decide⟩ ?_
  refine r_bipush dX12_lineOf_6 (by decide) ⟨by decide, by decide⟩ ?_
  refine r_inv (a := 337) hu ⟨Nat.le_refl _, Nat.le_refl _⟩ dX12_lineOf_8 kM_X12_511 (ci := 12) rfl kd_337 rfl rfl (by decide) (by decide) [(0, 2 + a1), (0, 101), (0, 101)] rfl (sk := []) rfl (Nat.le_of_ble_eq_true rfl) rfl rfl (m_X12_ruled hu M (2 + a1) 101 101) (fun r2 M3 => ?_)
  exact r_iret rfl rfl (Or.inl rfl) dX12_lineOf_11
theorem dX12_isSaid_0 : decode cX12_isSaid 0 = .ok (.aload_n 0, 1) := by decide +kernel
theorem dX12_isSaid_1 : decode cX12_isSaid 1 = .ok (.iload_n 1, 1) := by decide +kernel
theorem dX12_isSaid_2 : decode cX12_isSaid 2 = .ok (.iconst 1, 1) := by decide +kernel
theorem dX12_isSaid_3 : decode cX12_isSaid 3 = .ok (.invokevirtual 435, 3) := by decide +kernel
theorem dX12_isSaid_6 : decode cX12_isSaid 6 = .ok (.aload_n 0, 1) := by decide +kernel
theorem dX12_isSaid_7 : decode cX12_isSaid 7 = .ok (.iload_n 1, 1) := by decide +kernel
theorem dX12_isSaid_8 : decode cX12_isSaid 8 = .ok (.invokevirtual 537, 3) := by decide +kernel
theorem dX12_isSaid_11 : decode cX12_isSaid 11 = .ok (.if_icmp .lt 7, 3) := by decide +kernel
theorem dX12_isSaid_14 : decode cX12_isSaid 14 = .ok (.iconst 1, 1) := by decide +kernel
theorem dX12_isSaid_15 : decode cX12_isSaid 15 = .ok (.goto 4, 3) := by decide +kernel
theorem dX12_isSaid_18 : decode cX12_isSaid 18 = .ok (.iconst 0, 1) := by decide +kernel
theorem dX12_isSaid_19 : decode cX12_isSaid 19 = .ok (.ireturn, 1) := by decide +kernel
set_option maxRecDepth 100000 in
theorem m_X12_isSaid {g : GT} {n nf : Int} (hu : Up false nf n) (M : Mem) (a1 : Int) : AM g false yX12_isSaid cX12_isSaid 2 (some .boolean) (5) n n nf [(2, 337), (0, a1)] M (f_X12_isSaid M a1) := by
  refine AM_of (by decide +kernel) (Nat.le_of_ble_eq_true rfl) (fun h => absurd h (Int.lt_irrefl n)) ?_
  show AW g false RX12 cX12_isSaid 2 (some .boolean) (5) n n nf 0 [(0, 2, 337), (1, 0, a1)] [] n M (f_X12_isSaid M a1)
  unfold f_X12_isSaid
  refine r_aload_n 0 dX12_isSaid_0 rfl rfl ?_
  refine r_iload_n 1 dX12_isSaid_1 rfl rfl ?_
  refine r_iconst dX12_isSaid_2 ⟨by decide, by decide⟩ ?_
  refine r_inv (a := 337) hu ⟨Nat.le_refl _, Nat.le_refl _⟩ dX12_isSaid_3 kM_X12_435 (ci := 12) rfl kd_337 rfl rfl (by decide) (by decide) [(0, a1), (0, 1)] rfl (sk := []) rfl (Nat.le_of_ble_eq_true rfl) rfl rfl (m_X12_carried hu M a1 1) (fun r1 M2 => ?_)
  refine r_aload_n 0 dX12_isSaid_6 rfl rfl ?_
  refine r_iload_n 1 dX12_isSaid_7 rfl rfl ?_
  refine r_inv (a := 337) hu ⟨Nat.le_refl _, Nat.le_refl _⟩ dX12_isSaid_8 kM_X12_537 (ci := 12) rfl kd_337 rfl rfl (by decide) (by decide) [(0, a1)] rfl (sk := [(0, r1)]) rfl (Nat.le_of_ble_eq_true rfl) rfl rfl (m_X12_lineOf hu M2 a1) (fun r3 M4 => ?_)
  refine r_icmp_lt (tgt := 18) dX12_isSaid_11 rfl (fun h5 => ?_) (fun h6 => ?_)
  · refine r_iconst dX12_isSaid_18 ⟨by decide, by decide⟩ ?_
    exact r_iret rfl rfl (Or.inr ⟨rfl, Or.inl rfl⟩) dX12_isSaid_19
  · refine r_iconst dX12_isSaid_14 ⟨by decide, by decide⟩ ?_
    refine r_goto (tgt := 19) dX12_isSaid_15 rfl ?_
    exact r_iret rfl rfl (Or.inr ⟨rfl, Or.inr rfl⟩) dX12_isSaid_19
theorem dX12_goesOn__0 : decode cX12_goesOn_ 0 = .ok (.ldc2_w 554, 3) := by decide +kernel
theorem dX12_goesOn__3 : decode cX12_goesOn_ 3 = .ok (.lload_n 0, 1) := by decide +kernel
theorem dX12_goesOn__4 : decode cX12_goesOn_ 4 = .ok (.lmul, 1) := by decide +kernel
theorem dX12_goesOn__5 : decode cX12_goesOn_ 5 = .ok (.ldc2_w 556, 3) := by decide +kernel
theorem dX12_goesOn__8 : decode cX12_goesOn_ 8 = .ok (.ladd, 1) := by decide +kernel
theorem dX12_goesOn__9 : decode cX12_goesOn_ 9 = .ok (.ldc2_w 558, 3) := by decide +kernel
theorem dX12_goesOn__12 : decode cX12_goesOn_ 12 = .ok (.lrem, 1) := by decide +kernel
theorem dX12_goesOn__13 : decode cX12_goesOn_ 13 = .ok (.lreturn, 1) := by decide +kernel
set_option maxRecDepth 100000 in
theorem m_X12_goesOn_ {g : GT} {n nf : Int} (hu : Up false nf n) (M : Mem) (a0 : Int) : AM g false yX12_goesOn_ cX12_goesOn_ 2 (some .long) (0) n n nf [(1, a0)] M (f_X12_goesOn_ M a0) := by
  refine AM_of (by decide +kernel) (Nat.le_of_ble_eq_true rfl) (fun h => absurd h (Int.lt_irrefl n)) ?_
  show AW g false RX12 cX12_goesOn_ 2 (some .long) (0) n n nf 0 [(0, 1, a0)] [] n M (f_X12_goesOn_ M a0)
  unfold f_X12_goesOn_
  refine r_ldc2 (v := 1103515245) dX12_goesOn__0 kC_X12_554 rfl ⟨by decide, by decide⟩ ?_
  refine r_lload_n 0 dX12_goesOn__3 rfl rfl ?_
  refine r_ok (fun h1 => ?_)
  refine r_lmul dX12_goesOn__4 h1 ?_
  refine r_ldc2 (v := 12345) dX12_goesOn__5 kC_X12_556 rfl ⟨by decide, by decide⟩ ?_
  refine r_ok (fun h2 => ?_)
  refine r_ladd dX12_goesOn__8 h2 ?_
  refine r_ldc2 (v := 2147483648) dX12_goesOn__9 kC_X12_558 rfl ⟨by decide, by decide⟩ ?_
  refine r_ok (fun h3 => ?_)
  refine r_lremP dX12_goesOn__12 ⟨h3, by decide⟩ ?_
  exact r_lret rfl rfl dX12_goesOn__13
theorem dX12_lays_0 : decode cX12_lays 0 = .ok (.aload_n 0, 1) := by decide +kernel
theorem dX12_lays_1 : decode cX12_lays 1 = .ok (.getfield 179, 3) := by decide +kernel
theorem dX12_lays_4 : decode cX12_lays 4 = .ok (.iload_n 1, 1) := by decide +kernel
theorem dX12_lays_5 : decode cX12_lays 5 = .ok (.iload_n 2, 1) := by decide +kernel
theorem dX12_lays_6 : decode cX12_lays 6 = .ok (.iastore, 1) := by decide +kernel
theorem dX12_lays_7 : decode cX12_lays 7 = .ok (.aload_n 0, 1) := by decide +kernel
theorem dX12_lays_8 : decode cX12_lays 8 = .ok (.getfield 182, 3) := by decide +kernel
theorem dX12_lays_11 : decode cX12_lays 11 = .ok (.iload_n 1, 1) := by decide +kernel
theorem dX12_lays_12 : decode cX12_lays 12 = .ok (.iload_n 3, 1) := by decide +kernel
theorem dX12_lays_13 : decode cX12_lays 13 = .ok (.iastore, 1) := by decide +kernel
theorem dX12_lays_14 : decode cX12_lays 14 = .ok (.aload_n 0, 1) := by decide +kernel
theorem dX12_lays_15 : decode cX12_lays 15 = .ok (.getfield 185, 3) := by decide +kernel
theorem dX12_lays_18 : decode cX12_lays 18 = .ok (.iload_n 1, 1) := by decide +kernel
theorem dX12_lays_19 : decode cX12_lays 19 = .ok (.iload 4, 2) := by decide +kernel
theorem dX12_lays_21 : decode cX12_lays 21 = .ok (.iastore, 1) := by decide +kernel
theorem dX12_lays_22 : decode cX12_lays 22 = .ok (.aload_n 0, 1) := by decide +kernel
theorem dX12_lays_23 : decode cX12_lays 23 = .ok (.getfield 188, 3) := by decide +kernel
theorem dX12_lays_26 : decode cX12_lays 26 = .ok (.iload_n 1, 1) := by decide +kernel
theorem dX12_lays_27 : decode cX12_lays 27 = .ok (.iload 5, 2) := by decide +kernel
theorem dX12_lays_29 : decode cX12_lays 29 = .ok (.iastore, 1) := by decide +kernel
theorem dX12_lays_30 : decode cX12_lays 30 = .ok (.aload_n 0, 1) := by decide +kernel
theorem dX12_lays_31 : decode cX12_lays 31 = .ok (.getfield 191, 3) := by decide +kernel
theorem dX12_lays_34 : decode cX12_lays 34 = .ok (.iload_n 1, 1) := by decide +kernel
theorem dX12_lays_35 : decode cX12_lays 35 = .ok (.iload 6, 2) := by decide +kernel
theorem dX12_lays_37 : decode cX12_lays 37 = .ok (.iastore, 1) := by decide +kernel
theorem dX12_lays_38 : decode cX12_lays 38 = .ok (.aload_n 0, 1) := by decide +kernel
theorem dX12_lays_39 : decode cX12_lays 39 = .ok (.getfield 194, 3) := by decide +kernel
theorem dX12_lays_42 : decode cX12_lays 42 = .ok (.iload_n 1, 1) := by decide +kernel
theorem dX12_lays_43 : decode cX12_lays 43 = .ok (.iload 7, 2) := by decide +kernel
theorem dX12_lays_45 : decode cX12_lays 45 = .ok (.bastore, 1) := by decide +kernel
theorem dX12_lays_46 : decode cX12_lays 46 = .ok (.aload_n 0, 1) := by decide +kernel
theorem dX12_lays_47 : decode cX12_lays 47 = .ok (.getfield 203, 3) := by decide +kernel
theorem dX12_lays_50 : decode cX12_lays 50 = .ok (.iload_n 1, 1) := by decide +kernel
theorem dX12_lays_51 : decode cX12_lays 51 = .ok (.iload 8, 2) := by decide +kernel
theorem dX12_lays_53 : decode cX12_lays 53 = .ok (.iastore, 1) := by decide +kernel
theorem dX12_lays_54 : decode cX12_lays 54 = .ok (.aload_n 0, 1) := by decide +kernel
theorem dX12_lays_55 : decode cX12_lays 55 = .ok (.getfield 197, 3) := by decide +kernel
theorem dX12_lays_58 : decode cX12_lays 58 = .ok (.iload_n 1, 1) := by decide +kernel
theorem dX12_lays_59 : decode cX12_lays 59 = .ok (.iconst 0, 1) := by decide +kernel
theorem dX12_lays_60 : decode cX12_lays 60 = .ok (.bastore, 1) := by decide +kernel
theorem dX12_lays_61 : decode cX12_lays 61 = .ok (.aload_n 0, 1) := by decide +kernel
theorem dX12_lays_62 : decode cX12_lays 62 = .ok (.getfield 200, 3) := by decide +kernel
theorem dX12_lays_65 : decode cX12_lays 65 = .ok (.iload_n 1, 1) := by decide +kernel
theorem dX12_lays_66 : decode cX12_lays 66 = .ok (.iconst (-1), 1) := by decide +kernel
theorem dX12_lays_67 : decode cX12_lays 67 = .ok (.iastore, 1) := by decide +kernel
theorem dX12_lays_68 : decode cX12_lays 68 = .ok (.return_, 1) := by decide +kernel
set_option maxRecDepth 100000 in
theorem m_X12_lays {g : GT} {n nf : Int} (hu : Up false nf n) (M : Mem) (a1 a2 a3 a4 a5 a6 a7 a8 : Int) : AM g false yX12_lays cX12_lays 9 none (0) n n nf [(2, 337), (0, a1), (0, a2), (0, a3), (0, a4), (0, a5), (0, a6), (0, a7), (0, a8)] M (f_X12_lays M a1 a2 a3 a4 a5 a6 a7 a8) := by
  refine AM_of (by decide +kernel) (Nat.le_of_ble_eq_true rfl) (fun h => absurd h (Int.lt_irrefl n)) ?_
  show AW g false RX12 cX12_lays 9 none (0) n n nf 0 [(0, 2, 337), (1, 0, a1), (2, 0, a2), (3, 0, a3), (4, 0, a4), (5, 0, a5), (6, 0, a6), (7, 0, a7), (8, 0, a8)] [] n M (f_X12_lays M a1 a2 a3 a4 a5 a6 a7 a8)
  unfold f_X12_lays
  refine r_aload_n 0 dX12_lays_0 rfl rfl ?_
  refine r_gx (kz := 80) rfl hu dX12_lays_1 kF_X12_179 kd_337 rfl rfl rfl fx_337_80 ?_
  refine r_iload_n 1 dX12_lays_4 rfl rfl ?_
  refine r_iload_n 2 dX12_lays_5 rfl rfl ?_
  refine r_ok (fun h1 => ?_)
  refine r_iast hu dX12_lays_6 kd_392 rfl (Or.inl rfl) rfl ln_392 h1 rfl (fun M2 eM2 => ?_)
  refine r_aload_n 0 dX12_lays_7 rfl rfl ?_
  refine r_gx (kz := 81) rfl hu dX12_lays_8 kF_X12_182 kd_337 rfl rfl rfl fx_337_81 ?_
  refine r_iload_n 1 dX12_lays_11 rfl rfl ?_
  refine r_iload_n 3 dX12_lays_12 rfl rfl ?_
  refine r_iast hu dX12_lays_13 kd_393 rfl (Or.inl rfl) rfl ln_393 h1 rfl (fun M3 eM3 => ?_)
  refine r_aload_n 0 dX12_lays_14 rfl rfl ?_
  refine r_gx (kz := 82) rfl hu dX12_lays_15 kF_X12_185 kd_337 rfl rfl rfl fx_337_82 ?_
  refine r_iload_n 1 dX12_lays_18 rfl rfl ?_
  refine r_iload 4 dX12_lays_19 rfl ?_
  refine r_iast hu dX12_lays_21 kd_394 rfl (Or.inl rfl) rfl ln_394 h1 rfl (fun M4 eM4 => ?_)
  refine r_aload_n 0 dX12_lays_22 rfl rfl ?_
  refine r_gx (kz := 83) rfl hu dX12_lays_23 kF_X12_188 kd_337 rfl rfl rfl fx_337_83 ?_
  refine r_iload_n 1 dX12_lays_26 rfl rfl ?_
  refine r_iload 5 dX12_lays_27 rfl ?_
  refine r_iast hu dX12_lays_29 kd_395 rfl (Or.inl rfl) rfl ln_395 h1 rfl (fun M5 eM5 => ?_)
  refine r_aload_n 0 dX12_lays_30 rfl rfl ?_
  refine r_gx (kz := 84) rfl hu dX12_lays_31 kF_X12_191 kd_337 rfl rfl rfl fx_337_84 ?_
  refine r_iload_n 1 dX12_lays_34 rfl rfl ?_
  refine r_iload 6 dX12_lays_35 rfl ?_
  refine r_iast hu dX12_lays_37 kd_396 rfl (Or.inl rfl) rfl ln_396 h1 rfl (fun M6 eM6 => ?_)
  refine r_aload_n 0 dX12_lays_38 rfl rfl ?_
  refine r_gx (kz := 85) rfl hu dX12_lays_39 kF_X12_194 kd_337 rfl rfl rfl fx_337_85 ?_
  refine r_iload_n 1 dX12_lays_42 rfl rfl ?_
  refine r_iload 7 dX12_lays_43 rfl ?_
  refine r_ok (fun h7 => ?_)
  refine r_zast hu dX12_lays_45 kd_397 rfl rfl rfl ln_397 h1 h7 rfl (fun M8 eM8 => ?_)
  refine r_aload_n 0 dX12_lays_46 rfl rfl ?_
  refine r_gx (kz := 88) rfl hu dX12_lays_47 kF_X12_203 kd_337 rfl rfl rfl fx_337_88 ?_
  refine r_iload_n 1 dX12_lays_50 rfl rfl ?_
  refine r_iload 8 dX12_lays_51 rfl ?_
  refine r_iast hu dX12_lays_53 kd_400 rfl (Or.inl rfl) rfl ln_400 h1 rfl (fun M9 eM9 => ?_)
  refine r_aload_n 0 dX12_lays_54 rfl rfl ?_
  refine r_gx (kz := 86) rfl hu dX12_lays_55 kF_X12_197 kd_337 rfl rfl rfl fx_337_86 ?_
  refine r_iload_n 1 dX12_lays_58 rfl rfl ?_
  refine r_iconst dX12_lays_59 ⟨by decide, by decide⟩ ?_
  refine r_zast hu dX12_lays_60 kd_398 rfl rfl rfl ln_398 h1 (Or.inl rfl) rfl (fun M10 eM10 => ?_)
  refine r_aload_n 0 dX12_lays_61 rfl rfl ?_
  refine r_gx (kz := 87) rfl hu dX12_lays_62 kF_X12_200 kd_337 rfl rfl rfl fx_337_87 ?_
  refine r_iload_n 1 dX12_lays_65 rfl rfl ?_
  refine r_iconst dX12_lays_66 ⟨by decide, by decide⟩ ?_
  refine r_iast hu dX12_lays_67 kd_399 rfl (Or.inl rfl) rfl ln_399 h1 rfl (fun M11 eM11 => ?_)
  exact r_vret rfl rfl dX12_lays_68
