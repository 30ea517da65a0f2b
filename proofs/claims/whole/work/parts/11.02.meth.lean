theorem dX5_readTimes_0 : decode cX5_readTimes 0 = .ok (.aload_n 0, 1) := by decide +kernel
theorem dX5_readTimes_1 : decode cX5_readTimes 1 = .ok (.aload_n 1, 1) := by decide +kernel
theorem dX5_readTimes_2 : decode cX5_readTimes 2 = .ok (.iconst 1, 1) := by decide +kernel
theorem dX5_readTimes_3 : decode cX5_readTimes 3 = .ok (.bipush 9, 2) := by decide +kernel
theorem dX5_readTimes_5 : decode cX5_readTimes 5 = .ok (.invokevirtual 122, 3) := by decide +kernel
theorem dX5_readTimes_8 : decode cX5_readTimes 8 = .ok (.ifCond .ne 5, 3) := by decide +kernel
theorem dX5_readTimes_11 : decode cX5_readTimes 11 = .ok (.iconst 0, 1) := by decide +kernel
theorem dX5_readTimes_12 : decode cX5_readTimes 12 = .ok (.ireturn, 1) := by decide +kernel
theorem dX5_readTimes_13 : decode cX5_readTimes 13 = .ok (.aload_n 0, 1) := by decide +kernel
theorem dX5_readTimes_14 : decode cX5_readTimes 14 = .ok (.bipush 91, 2) := by decide +kernel
theorem dX5_readTimes_16 : decode cX5_readTimes 16 = .ok (.invokevirtual 84, 3) := by decide +kernel
theorem dX5_readTimes_19 : decode cX5_readTimes 19 = .ok (.ifCond .ne 13, 3) := by decide +kernel
theorem dX5_readTimes_22 : decode cX5_readTimes 22 = .ok (.aload_n 0, 1) := by decide +kernel
theorem dX5_readTimes_23 : decode cX5_readTimes 23 = .ok (.iconst 1, 1) := by decide +kernel
theorem dX5_readTimes_24 : decode cX5_readTimes 24 = .ok (.aload_n 0, 1) := by decide +kernel
theorem dX5_readTimes_25 : decode cX5_readTimes 25 = .ok (.getfield 78, 3) := by decide +kernel
theorem dX5_readTimes_28 : decode cX5_readTimes 28 = .ok (.invokevirtual 89, 3) := by decide +kernel
theorem dX5_readTimes_31 : decode cX5_readTimes 31 = .ok (.ireturn, 1) := by decide +kernel
theorem dX5_readTimes_32 : decode cX5_readTimes 32 = .ok (.iload_n 2, 1) := by decide +kernel
theorem dX5_readTimes_33 : decode cX5_readTimes 33 = .ok (.bipush 6, 2) := by decide +kernel
theorem dX5_readTimes_35 : decode cX5_readTimes 35 = .ok (.if_icmp .lt 13, 3) := by decide +kernel
theorem dX5_readTimes_38 : decode cX5_readTimes 38 = .ok (.aload_n 0, 1) := by decide +kernel
theorem dX5_readTimes_39 : decode cX5_readTimes 39 = .ok (.iconst 4, 1) := by decide +kernel
theorem dX5_readTimes_40 : decode cX5_readTimes 40 = .ok (.aload_n 0, 1) := by decide +kernel
theorem dX5_readTimes_41 : decode cX5_readTimes 41 = .ok (.getfield 78, 3) := by decide +kernel
theorem dX5_readTimes_44 : decode cX5_readTimes 44 = .ok (.invokevirtual 89, 3) := by decide +kernel
theorem dX5_readTimes_47 : decode cX5_readTimes 47 = .ok (.ireturn, 1) := by decide +kernel
theorem dX5_readTimes_48 : decode cX5_readTimes 48 = .ok (.aload_n 0, 1) := by decide +kernel
theorem dX5_readTimes_49 : decode cX5_readTimes 49 = .ok (.invokevirtual 48, 3) := by decide +kernel
theorem dX5_readTimes_52 : decode cX5_readTimes 52 = .ok (.aload_n 0, 1) := by decide +kernel
theorem dX5_readTimes_53 : decode cX5_readTimes 53 = .ok (.iload_n 2, 1) := by decide +kernel
theorem dX5_readTimes_54 : decode cX5_readTimes 54 = .ok (.iconst 1, 1) := by decide +kernel
theorem dX5_readTimes_55 : decode cX5_readTimes 55 = .ok (.iadd, 1) := by decide +kernel
theorem dX5_readTimes_56 : decode cX5_readTimes 56 = .ok (.invokevirtual 51, 3) := by decide +kernel
theorem dX5_readTimes_59 : decode cX5_readTimes 59 = .ok (.ifCond .eq 16, 3) := by decide +kernel
theorem dX5_readTimes_62 : decode cX5_readTimes 62 = .ok (.aload_n 0, 1) := by decide +kernel
theorem dX5_readTimes_63 : decode cX5_readTimes 63 = .ok (.bipush 93, 2) := by decide +kernel
theorem dX5_readTimes_65 : decode cX5_readTimes 65 = .ok (.invokevirtual 100, 3) := by decide +kernel
theorem dX5_readTimes_68 : decode cX5_readTimes 68 = .ok (.ifCond .eq 7, 3) := by decide +kernel
theorem dX5_readTimes_71 : decode cX5_readTimes 71 = .ok (.iconst 1, 1) := by decide +kernel
theorem dX5_readTimes_72 : decode cX5_readTimes 72 = .ok (.goto 4, 3) := by decide +kernel
theorem dX5_readTimes_75 : decode cX5_readTimes 75 = .ok (.iconst 0, 1) := by decide +kernel
theorem dX5_readTimes_76 : decode cX5_readTimes 76 = .ok (.istore_n 3, 1) := by decide +kernel
theorem dX5_readTimes_77 : decode cX5_readTimes 77 = .ok (.aload_n 1, 1) := by decide +kernel
theorem dX5_readTimes_78 : decode cX5_readTimes 78 = .ok (.aload_n 0, 1) := by decide +kernel
theorem dX5_readTimes_79 : decode cX5_readTimes 79 = .ok (.getfield 27, 3) := by decide +kernel
theorem dX5_readTimes_82 : decode cX5_readTimes 82 = .ok (.getfield 88, 3) := by decide +kernel
theorem dX5_readTimes_85 : decode cX5_readTimes 85 = .ok (.putfield 164, 3) := by decide +kernel
theorem dX5_readTimes_88 : decode cX5_readTimes 88 = .ok (.iload_n 3, 1) := by decide +kernel
theorem dX5_readTimes_89 : decode cX5_readTimes 89 = .ok (.ireturn, 1) := by decide +kernel
set_option maxRecDepth 100000 in
theorem m_X5_readTimes {g : GT} {n nf : Int} (hu : Up true nf n) (S : Mem → Int → Res) {dS : Nat} (hdS : 63 ≤ dS) (hS : ∀ (M : Mem) (a1 : Int), AM g true yX5_readStatements cX5_readStatements 3 (some .boolean) dS n n nf [(2, 4), (0, a1)] M (S M a1)) (M : Mem) (a1 a2 : Int) (hk1 : kd a1 = 18) : AM g true yX5_readTimes cX5_readTimes 4 (some .boolean) (dS + 1) n n nf [(2, 4), (2, a1), (0, a2)] M (f_X5_readTimes S M a1 a2) := by
  refine AM_of (by decide +kernel) (Nat.le_of_ble_eq_true rfl) (fun h => absurd h (Int.lt_irrefl n)) ?_
  show AW g true RX5 cX5_readTimes 4 (some .boolean) (dS + 1) n n nf 0 [(0, 2, 4), (1, 2, a1), (2, 0, a2)] [] n M (f_X5_readTimes S M a1 a2)
  unfold f_X5_readTimes
  refine r_aload_n 0 dX5_readTimes_0 rfl rfl ?_
  refine r_aload_n 1 dX5_readTimes_1 rfl rfl ?_
  refine r_iconst dX5_readTimes_2 ⟨by decide, by decide⟩ ?_
  refine r_bipush dX5_readTimes_3 (by decide) ⟨by decide, by decide⟩ ?_
  refine r_inv (a := 4) hu ⟨Nat.le_refl _, Nat.le_refl _⟩ dX5_readTimes_5 kM_X5_122 (ci := 5) rfl kd_4 rfl rfl (by omega) (by decide) [(2, a1), (0, 1), (0, 9)] rfl (sk := []) rfl (Nat.le_of_ble_eq_true rfl) rfl rfl (m_X5_readNumber hu M a1 1 9 hk1) (fun r1 M2 => ?_)
  refine r_if_ne (tgt := 13) dX5_readTimes_8 rfl (fun h3 => ?_) (fun h4 => ?_)
  · refine r_iconst dX5_readTimes_11 ⟨by decide, by decide⟩ ?_
    exact r_iret rfl rfl (Or.inr ⟨rfl, Or.inl rfl⟩) dX5_readTimes_12
  · refine r_aload_n 0 dX5_readTimes_13 rfl rfl ?_
    refine r_bipush dX5_readTimes_14 (by decide) ⟨by decide, by decide⟩ ?_
    refine r_inv (a := 4) hu ⟨Nat.le_refl _, Nat.le_refl _⟩ dX5_readTimes_16 kM_X5_84 (ci := 5) rfl kd_4 rfl rfl (by omega) (by decide) [(0, 91)] rfl (sk := []) rfl (Nat.le_of_ble_eq_true rfl) rfl rfl (m_X5_isSign hu M2 91) (fun r5 M6 => ?_)
    refine r_if_ne (tgt := 32) dX5_readTimes_19 rfl (fun h7 => ?_) (fun h8 => ?_)
    · refine r_aload_n 0 dX5_readTimes_22 rfl rfl ?_
      refine r_iconst dX5_readTimes_23 ⟨by decide, by decide⟩ ?_
      refine r_aload_n 0 dX5_readTimes_24 rfl rfl ?_
      refine r_gf (t := 0) (kz := 9) rfl hu dX5_readTimes_25 kF_X5_78 kd_4 rfl rfl rfl ?_
      refine r_inv (a := 4) hu ⟨Nat.le_refl _, Nat.le_refl _⟩ dX5_readTimes_28 kM_X5_89 (ci := 5) rfl kd_4 rfl rfl (by omega) (by decide) [(0, 1), (0, M6 4 9)] rfl (sk := []) rfl (Nat.le_of_ble_eq_true rfl) rfl rfl (m_X5_refused hu M6 1 (M6 4 9)) (fun r9 M10 => ?_)
      refine r_ok (fun h11 => ?_)
      exact r_iret rfl rfl (Or.inr ⟨rfl, h11⟩) dX5_readTimes_31
    · refine r_iload_n 2 dX5_readTimes_32 rfl rfl ?_
      refine r_bipush dX5_readTimes_33 (by decide) ⟨by decide, by decide⟩ ?_
      refine r_icmp_lt (tgt := 48) dX5_readTimes_35 rfl (fun h12 => ?_) (fun h13 => ?_)
      · refine r_aload_n 0 dX5_readTimes_48 rfl rfl ?_
        refine r_invv (a := 4) hu ⟨Nat.le_refl _, Nat.le_refl _⟩ dX5_readTimes_49 kM_X5_48 (ci := 5) rfl kd_4 rfl rfl (by omega) (by decide) [] rfl (sk := []) rfl (Nat.le_of_ble_eq_true rfl) rfl (m_X5_step hu M6) (fun r14 M15 => ?_)
        refine r_aload_n 0 dX5_readTimes_52 rfl rfl ?_
        refine r_iload_n 2 dX5_readTimes_53 rfl rfl ?_
        refine r_iconst dX5_readTimes_54 ⟨by decide, by decide⟩ ?_
        refine r_ok (fun h16 => ?_)
        refine r_iadd dX5_readTimes_55 h16 ?_
        refine r_inv (a := 4) hu ⟨Nat.le_refl _, Nat.le_refl _⟩ dX5_readTimes_56 kM_X5_51 (ci := 5) rfl kd_4 rfl rfl (by omega) (by decide) [(0, a2 + 1)] rfl (sk := []) rfl (Nat.le_of_ble_eq_true rfl) rfl rfl (hS M15 (a2 + 1)) (fun r17 M18 => ?_)
        refine r_if_eq (tgt := 75) dX5_readTimes_59 rfl (fun h19 => ?_) (fun h20 => ?_)
        · refine r_iconst dX5_readTimes_75 ⟨by decide, by decide⟩ ?_
          refine r_istore_n dX5_readTimes_76 rfl (by decide) (ls' := [(3, 0, 0), (0, 2, 4), (1, 2, a1), (2, 0, a2)]) rfl ?_
          refine r_aload_n 2 dX5_readTimes_77 rfl rfl ?_
          refine r_aload_n 1 dX5_readTimes_78 rfl rfl ?_
          refine r_gf (t := 2) (kz := 1) rfl hu dX5_readTimes_79 kF_X5_27 kd_4 rfl rfl rfl ?_
          refine r_ok (fun h21 => ?_)
          refine r_gf (t := 0) (kz := 1) rfl hu dX5_readTimes_82 kF_X5_88 h21 rfl rfl rfl ?_
          refine r_pf (t := 0) (kz := 9) rfl hu dX5_readTimes_85 kF_X5_164 hk1 rfl rfl rfl (fun h => absurd h (by decide)) rfl kX_8_9 (fun M22 eM22 => ?_)
          refine r_iload_n 0 dX5_readTimes_88 rfl rfl ?_
          exact r_iret rfl rfl (Or.inr ⟨rfl, Or.inl rfl⟩) dX5_readTimes_89
        · refine r_aload_n 0 dX5_readTimes_62 rfl rfl ?_
          refine r_bipush dX5_readTimes_63 (by decide) ⟨by decide, by decide⟩ ?_
          refine r_inv (a := 4) hu ⟨Nat.le_refl _, Nat.le_refl _⟩ dX5_readTimes_65 kM_X5_100 (ci := 5) rfl kd_4 rfl rfl (by omega) (by decide) [(0, 93)] rfl (sk := []) rfl (Nat.le_of_ble_eq_true rfl) rfl rfl (m_X5_readSign hu M18 93) (fun r23 M24 => ?_)
          refine r_if_eq (tgt := 75) dX5_readTimes_68 rfl (fun h25 => ?_) (fun h26 => ?_)
          · refine r_iconst dX5_readTimes_75 ⟨by decide, by decide⟩ ?_
            refine r_istore_n dX5_readTimes_76 rfl (by decide) (ls' := [(3, 0, 0), (0, 2, 4), (1, 2, a1), (2, 0, a2)]) rfl ?_
            refine r_aload_n 2 dX5_readTimes_77 rfl rfl ?_
            refine r_aload_n 1 dX5_readTimes_78 rfl rfl ?_
            refine r_gf (t := 2) (kz := 1) rfl hu dX5_readTimes_79 kF_X5_27 kd_4 rfl rfl rfl ?_
            refine r_ok (fun h27 => ?_)
            refine r_gf (t := 0) (kz := 1) rfl hu dX5_readTimes_82 kF_X5_88 h27 rfl rfl rfl ?_
            refine r_pf (t := 0) (kz := 9) rfl hu dX5_readTimes_85 kF_X5_164 hk1 rfl rfl rfl (fun h => absurd h (by decide)) rfl kX_8_9 (fun M28 eM28 => ?_)
            refine r_iload_n 0 dX5_readTimes_88 rfl rfl ?_
            exact r_iret rfl rfl (Or.inr ⟨rfl, Or.inl rfl⟩) dX5_readTimes_89
          · refine r_iconst dX5_readTimes_71 ⟨by decide, by decide⟩ ?_
            refine r_goto (tgt := 76) dX5_readTimes_72 rfl ?_
            refine r_istore_n dX5_readTimes_76 rfl (by decide) (ls' := [(3, 0, 1), (0, 2, 4), (1, 2, a1), (2, 0, a2)]) rfl ?_
            refine r_aload_n 2 dX5_readTimes_77 rfl rfl ?_
            refine r_aload_n 1 dX5_readTimes_78 rfl rfl ?_
            refine r_gf (t := 2) (kz := 1) rfl hu dX5_readTimes_79 kF_X5_27 kd_4 rfl rfl rfl ?_
            refine r_ok (fun h29 => ?_)
            refine r_gf (t := 0) (kz := 1) rfl hu dX5_readTimes_82 kF_X5_88 h29 rfl rfl rfl ?_
            refine r_pf (t := 0) (kz := 9) rfl hu dX5_readTimes_85 kF_X5_164 hk1 rfl rfl rfl (fun h => absurd h (by decide)) rfl kX_8_9 (fun M30 eM30 => ?_)
            refine r_iload_n 0 dX5_readTimes_88 rfl rfl ?_
            exact r_iret rfl rfl (Or.inr ⟨rfl, Or.inr rfl⟩) dX5_readTimes_89
      · refine r_aload_n 0 dX5_readTimes_38 rfl rfl ?_
        refine r_iconst dX5_readTimes_39 ⟨by decide, by decide⟩ ?_
        refine r_aload_n 0 dX5_readTimes_40 rfl rfl ?_
        refine r_gf (t := 0) (kz := 9) rfl hu dX5_readTimes_41 kF_X5_78 kd_4 rfl rfl rfl ?_
        refine r_inv (a := 4) hu ⟨Nat.le_refl _, Nat.le_refl _⟩ dX5_readTimes_44 kM_X5_89 (ci := 5) rfl kd_4 rfl rfl (by omega) (by decide) [(0, 4), (0, M6 4 9)] rfl (sk := []) rfl (Nat.le_of_ble_eq_true rfl) rfl rfl (m_X5_refused hu M6 4 (M6 4 9)) (fun r31 M32 => ?_)
        refine r_ok (fun h33 => ?_)
        exact r_iret rfl rfl (Or.inr ⟨rfl, h33⟩) dX5_readTimes_47
theorem dX5_readStatement_0 : decode cX5_readStatement 0 = .ok (.aload_n 0, 1) := by decide +kernel
theorem dX5_readStatement_1 : decode cX5_readStatement 1 = .ok (.getfield 81, 3) := by decide +kernel
theorem dX5_readStatement_4 : decode cX5_readStatement 4 = .ok (.iconst 2, 1) := by decide +kernel
theorem dX5_readStatement_5 : decode cX5_readStatement 5 = .ok (.if_icmp .eq 11, 3) := by decide +kernel
theorem dX5_readStatement_8 : decode cX5_readStatement 8 = .ok (.aload_n 0, 1) := by decide +kernel
theorem dX5_readStatement_9 : decode cX5_readStatement 9 = .ok (.getfield 81, 3) := by decide +kernel
theorem dX5_readStatement_12 : decode cX5_readStatement 12 = .ok (.iconst 3, 1) := by decide +kernel
theorem dX5_readStatement_13 : decode cX5_readStatement 13 = .ok (.if_icmp .ne 7, 3) := by decide +kernel
theorem dX5_readStatement_16 : decode cX5_readStatement 16 = .ok (.iconst 1, 1) := by decide +kernel
theorem dX5_readStatement_17 : decode cX5_readStatement 17 = .ok (.goto 4, 3) := by decide +kernel
theorem dX5_readStatement_20 : decode cX5_readStatement 20 = .ok (.iconst 0, 1) := by decide +kernel
theorem dX5_readStatement_21 : decode cX5_readStatement 21 = .ok (.istore_n 2, 1) := by decide +kernel
theorem dX5_readStatement_22 : decode cX5_readStatement 22 = .ok (.iload_n 2, 1) := by decide +kernel
theorem dX5_readStatement_23 : decode cX5_readStatement 23 = .ok (.ifCond .eq 24, 3) := by decide +kernel
theorem dX5_readStatement_26 : decode cX5_readStatement 26 = .ok (.aload_n 0, 1) := by decide +kernel
theorem dX5_readStatement_27 : decode cX5_readStatement 27 = .ok (.getfield 27, 3) := by decide +kernel
theorem dX5_readStatement_30 : decode cX5_readStatement 30 = .ok (.getfield 103, 3) := by decide +kernel
theorem dX5_readStatement_33 : decode cX5_readStatement 33 = .ok (.iconst 5, 1) := by decide +kernel
theorem dX5_readStatement_34 : decode cX5_readStatement 34 = .ok (.if_icmp .lt 13, 3) := by decide +kernel
theorem dX5_readStatement_37 : decode cX5_readStatement 37 = .ok (.aload_n 0, 1) := by decide +kernel
theorem dX5_readStatement_38 : decode cX5_readStatement 38 = .ok (.iconst 5, 1) := by decide +kernel
theorem dX5_readStatement_39 : decode cX5_readStatement 39 = .ok (.aload_n 0, 1) := by decide +kernel
theorem dX5_readStatement_40 : decode cX5_readStatement 40 = .ok (.getfield 78, 3) := by decide +kernel
theorem dX5_readStatement_43 : decode cX5_readStatement 43 = .ok (.invokevirtual 89, 3) := by decide +kernel
theorem dX5_readStatement_46 : decode cX5_readStatement 46 = .ok (.ireturn, 1) := by decide +kernel
theorem dX5_readStatement_47 : decode cX5_readStatement 47 = .ok (.aload_n 0, 1) := by decide +kernel
theorem dX5_readStatement_48 : decode cX5_readStatement 48 = .ok (.getfield 27, 3) := by decide +kernel
theorem dX5_readStatement_51 : decode cX5_readStatement 51 = .ok (.aload_n 0, 1) := by decide +kernel
theorem dX5_readStatement_52 : decode cX5_readStatement 52 = .ok (.getfield 81, 3) := by decide +kernel
theorem dX5_readStatement_55 : decode cX5_readStatement 55 = .ok (.invokevirtual 106, 3) := by decide +kernel
theorem dX5_readStatement_58 : decode cX5_readStatement 58 = .ok (.astore_n 3, 1) := by decide +kernel
theorem dX5_readStatement_59 : decode cX5_readStatement 59 = .ok (.aload_n 0, 1) := by decide +kernel
theorem dX5_readStatement_60 : decode cX5_readStatement 60 = .ok (.invokevirtual 48, 3) := by decide +kernel
theorem dX5_readStatement_63 : decode cX5_readStatement 63 = .ok (.aload_n 3, 1) := by decide +kernel
theorem dX5_readStatement_64 : decode cX5_readStatement 64 = .ok (.getfield 110, 3) := by decide +kernel
theorem dX5_readStatement_67 : decode cX5_readStatement 67 = .ok (.tableswitch 118 1 8 #[45, 51, 75, 118, 118, 118, 104, 111], 45) := by decide +kernel
theorem dX5_readStatement_112 : decode cX5_readStatement 112 = .ok (.aload_n 0, 1) := by decide +kernel
theorem dX5_readStatement_113 : decode cX5_readStatement 113 = .ok (.aload_n 3, 1) := by decide +kernel
theorem dX5_readStatement_114 : decode cX5_readStatement 114 = .ok (.invokevirtual 115, 3) := by decide +kernel
theorem dX5_readStatement_117 : decode cX5_readStatement 117 = .ok (.ireturn, 1) := by decide +kernel
theorem dX5_readStatement_118 : decode cX5_readStatement 118 = .ok (.aload_n 0, 1) := by decide +kernel
theorem dX5_readStatement_119 : decode cX5_readStatement 119 = .ok (.invokevirtual 119, 3) := by decide +kernel
theorem dX5_readStatement_122 : decode cX5_readStatement 122 = .ok (.ifCond .eq 18, 3) := by decide +kernel
theorem dX5_readStatement_125 : decode cX5_readStatement 125 = .ok (.aload_n 0, 1) := by decide +kernel
theorem dX5_readStatement_126 : decode cX5_readStatement 126 = .ok (.aload_n 3, 1) := by decide +kernel
theorem dX5_readStatement_127 : decode cX5_readStatement 127 = .ok (.iconst 2, 1) := by decide +kernel
theorem dX5_readStatement_128 : decode cX5_readStatement 128 = .ok (.bipush 6, 2) := by decide +kernel
theorem dX5_readStatement_130 : decode cX5_readStatement 130 = .ok (.invokevirtual 122, 3) := by decide +kernel
theorem dX5_readStatement_133 : decode cX5_readStatement 133 = .ok (.ifCond .eq 7, 3) := by decide +kernel
theorem dX5_readStatement_136 : decode cX5_readStatement 136 = .ok (.iconst 1, 1) := by decide +kernel
theorem dX5_readStatement_137 : decode cX5_readStatement 137 = .ok (.goto 4, 3) := by decide +kernel
theorem dX5_readStatement_140 : decode cX5_readStatement 140 = .ok (.iconst 0, 1) := by decide +kernel
theorem dX5_readStatement_141 : decode cX5_readStatement 141 = .ok (.ireturn, 1) := by decide +kernel
theorem dX5_readStatement_142 : decode cX5_readStatement 142 = .ok (.aload_n 0, 1) := by decide +kernel
theorem dX5_readStatement_143 : decode cX5_readStatement 143 = .ok (.invokevirtual 119, 3) := by decide +kernel
theorem dX5_readStatement_146 : decode cX5_readStatement 146 = .ok (.ifCond .eq 23, 3) := by decide +kernel
theorem dX5_readStatement_149 : decode cX5_readStatement 149 = .ok (.aload_n 0, 1) := by decide +kernel
theorem dX5_readStatement_150 : decode cX5_readStatement 150 = .ok (.aload_n 3, 1) := by decide +kernel
theorem dX5_readStatement_151 : decode cX5_readStatement 151 = .ok (.invokevirtual 126, 3) := by decide +kernel
theorem dX5_readStatement_154 : decode cX5_readStatement 154 = .ok (.ifCond .eq 15, 3) := by decide +kernel
theorem dX5_readStatement_157 : decode cX5_readStatement 157 = .ok (.aload_n 0, 1) := by decide +kernel
theorem dX5_readStatement_158 : decode cX5_readStatement 158 = .ok (.aload_n 3, 1) := by decide +kernel
theorem dX5_readStatement_159 : decode cX5_readStatement 159 = .ok (.invokevirtual 129, 3) := by decide +kernel
theorem dX5_readStatement_162 : decode cX5_readStatement 162 = .ok (.ifCond .eq 7, 3) := by decide +kernel
theorem dX5_readStatement_165 : decode cX5_readStatement 165 = .ok (.iconst 1, 1) := by decide +kernel
theorem dX5_readStatement_166 : decode cX5_readStatement 166 = .ok (.goto 4, 3) := by decide +kernel
theorem dX5_readStatement_169 : decode cX5_readStatement 169 = .ok (.iconst 0, 1) := by decide +kernel
theorem dX5_readStatement_170 : decode cX5_readStatement 170 = .ok (.ireturn, 1) := by decide +kernel
theorem dX5_readStatement_171 : decode cX5_readStatement 171 = .ok (.aload_n 0, 1) := by decide +kernel
theorem dX5_readStatement_172 : decode cX5_readStatement 172 = .ok (.aload_n 3, 1) := by decide +kernel
theorem dX5_readStatement_173 : decode cX5_readStatement 173 = .ok (.iload_n 1, 1) := by decide +kernel
theorem dX5_readStatement_174 : decode cX5_readStatement 174 = .ok (.invokevirtual 132, 3) := by decide +kernel
theorem dX5_readStatement_177 : decode cX5_readStatement 177 = .ok (.ireturn, 1) := by decide +kernel
theorem dX5_readStatement_178 : decode cX5_readStatement 178 = .ok (.aload_n 0, 1) := by decide +kernel
theorem dX5_readStatement_179 : decode cX5_readStatement 179 = .ok (.aload_n 3, 1) := by decide +kernel
theorem dX5_readStatement_180 : decode cX5_readStatement 180 = .ok (.iload_n 1, 1) := by decide +kernel
theorem dX5_readStatement_181 : decode cX5_readStatement 181 = .ok (.invokevirtual 136, 3) := by decide +kernel
theorem dX5_readStatement_184 : decode cX5_readStatement 184 = .ok (.ireturn, 1) := by decide +kernel
theorem dX5_readStatement_185 : decode cX5_readStatement 185 = .ok (.aload_n 0, 1) := by decide +kernel
theorem dX5_readStatement_186 : decode cX5_readStatement 186 = .ok (.aload_n 3, 1) := by decide +kernel
theorem dX5_readStatement_187 : decode cX5_readStatement 187 = .ok (.invokevirtual 129, 3) := by decide +kernel
theorem dX5_readStatement_190 : decode cX5_readStatement 190 = .ok (.ireturn, 1) := by decide +kernel
set_option maxRecDepth 100000 in
theorem tj_X5_readStatement_185 {g : GT} {n nf : Int} (hu : Up true nf n) (S : Mem → Int → Res) {dS : Nat} (hdS : 63 ≤ dS) (hS : ∀ (M : Mem) (a1 : Int), AM g true yX5_readStatements cX5_readStatements 3 (some .boolean) dS n n nf [(2, 4), (0, a1)] M (S M a1)) (M : Mem) (x3 : Int) : AW g true RX5 cX5_readStatement 4 (some .boolean) (dS + 2) n n nf 185 [(0, 2, 4), (3, 2, x3)] [] n M (j_X5_readStatement_185 S M x3) := by
  unfold j_X5_readStatement_185
  refine r_aload_n 0 dX5_readStatement_185 rfl rfl ?_
  refine r_aload_n 1 dX5_readStatement_186 rfl rfl ?_
  refine r_ok (fun h42 => ?_)
  refine r_inv (a := 4) hu ⟨Nat.le_refl _, Nat.le_refl _⟩ dX5_readStatement_187 kM_X5_129 (ci := 5) rfl kd_4 rfl rfl (by omega) (by decide) [(2, x3)] rfl (sk := []) rfl (Nat.le_of_ble_eq_true rfl) rfl rfl (m_X5_readRule hu M x3 h42) (fun r43 M44 => ?_)
  refine r_ok (fun h45 => ?_)
  exact r_iret rfl rfl (Or.inr ⟨rfl, h45⟩) dX5_readStatement_190
set_option maxRecDepth 100000 in
theorem tj_X5_readStatement_47 {g : GT} {n nf : Int} (hu : Up true nf n) (S : Mem → Int → Res) {dS : Nat} (hdS : 63 ≤ dS) (hS : ∀ (M : Mem) (a1 : Int), AM g true yX5_readStatements cX5_readStatements 3 (some .boolean) dS n n nf [(2, 4), (0, a1)] M (S M a1)) (a1 : Int) (M : Mem) : AW g true RX5 cX5_readStatement 4 (some .boolean) (dS + 2) n n nf 47 [(0, 2, 4), (1, 0, a1)] [] n M (j_X5_readStatement_47 S a1 M) := by
  unfold j_X5_readStatement_47
  refine r_aload_n 0 dX5_readStatement_47 rfl rfl ?_
  refine r_gf (t := 2) (kz := 1) rfl hu dX5_readStatement_48 kF_X5_27 kd_4 rfl rfl rfl ?_
  refine r_aload_n 0 dX5_readStatement_51 rfl rfl ?_
  refine r_gf (t := 0) (kz := 10) rfl hu dX5_readStatement_52 kF_X5_81 kd_4 rfl rfl rfl ?_
  refine r_ok (fun h5 => ?_)
  refine r_inv (a := M 4 1) hu ⟨Nat.le_refl _, Nat.le_refl _⟩ dX5_readStatement_55 kM_X5_106 (ci := 7) rfl h5 rfl rfl (by omega) (by decide) [(0, M 4 10)] rfl (sk := []) rfl (Nat.le_of_ble_eq_true rfl) rfl rfl (m_X7_begun hu M (M 4 1) (M 4 10) h5) (fun r6 M7 => ?_)
  refine r_astore_n dX5_readStatement_58 rfl (by decide) (ls' := [(3, 2, r6), (0, 2, 4), (1, 0, a1)]) rfl ?_
  refine r_aload_n 1 dX5_readStatement_59 rfl rfl ?_
  refine r_invv (a := 4) hu ⟨Nat.le_refl _, Nat.le_refl _⟩ dX5_readStatement_60 kM_X5_48 (ci := 5) rfl kd_4 rfl rfl (by omega) (by decide) [] rfl (sk := []) rfl (Nat.le_of_ble_eq_true rfl) rfl (m_X5_step hu M7) (fun r8 M9 => ?_)
  refine r_aload_n 0 dX5_readStatement_63 rfl rfl ?_
  refine r_ok (fun h10 => ?_)
  refine r_gf (t := 0) (kz := 0) rfl hu dX5_readStatement_64 kF_X5_110 h10 rfl rfl rfl ?_
  refine r_tsw (tgt := 112) 1 dX5_readStatement_67 ⟨by decide, by decide⟩ rfl rfl (fun h11 => ?_) (fun h12 => ?_)
  · refine r_aload_n 1 dX5_readStatement_112 rfl rfl ?_
    refine r_aload_n 0 dX5_readStatement_113 rfl rfl ?_
    refine r_inv (a := 4) hu ⟨Nat.le_refl _, Nat.le_refl _⟩ dX5_readStatement_114 kM_X5_115 (ci := 5) rfl kd_4 rfl rfl (by omega) (by decide) [(2, r6)] rfl (sk := []) rfl (Nat.le_of_ble_eq_true rfl) rfl rfl (m_X5_readSquare hu M9 r6 h10) (fun r13 M14 => ?_)
    refine r_ok (fun h15 => ?_)
    exact r_iret rfl rfl (Or.inr ⟨rfl, h15⟩) dX5_readStatement_117
  · refine r_tsw (tgt := 118) 2 dX5_readStatement_67 ⟨by decide, by decide⟩ rfl rfl (fun h16 => ?_) (fun h17 => ?_)
    · refine r_aload_n 1 dX5_readStatement_118 rfl rfl ?_
      refine r_inv (a := 4) hu ⟨Nat.le_refl _, Nat.le_refl _⟩ dX5_readStatement_119 kM_X5_119 (ci := 5) rfl kd_4 rfl rfl (by omega) (by decide) [] rfl (sk := []) rfl (Nat.le_of_ble_eq_true rfl) rfl rfl (m_X5_readNewName hu M9) (fun r18 M19 => ?_)
      refine r_if_eq (tgt := 140) dX5_readStatement_122 rfl (fun h20 => ?_) (fun h21 => ?_)
      · refine r_iconst dX5_readStatement_140 ⟨by decide, by decide⟩ ?_
        exact r_iret rfl rfl (Or.inr ⟨rfl, Or.inl rfl⟩) dX5_readStatement_141
      · refine r_aload_n 1 dX5_readStatement_125 rfl rfl ?_
        refine r_aload_n 0 dX5_readStatement_126 rfl rfl ?_
        refine r_iconst dX5_readStatement_127 ⟨by decide, by decide⟩ ?_
        refine r_bipush dX5_readStatement_128 (by decide) ⟨by decide, by decide⟩ ?_
        refine r_inv (a := 4) hu ⟨Nat.le_refl _, Nat.le_refl _⟩ dX5_readStatement_130 kM_X5_122 (ci := 5) rfl kd_4 rfl rfl (by omega) (by decide) [(2, r6), (0, 2), (0, 6)] rfl (sk := []) rfl (Nat.le_of_ble_eq_true rfl) rfl rfl (m_X5_readNumber hu M19 r6 2 6 h10) (fun r22 M23 => ?_)
        refine r_if_eq (tgt := 140) dX5_readStatement_133 rfl (fun h24 => ?_) (fun h25 => ?_)
        · refine r_iconst dX5_readStatement_140 ⟨by decide, by decide⟩ ?_
          exact r_iret rfl rfl (Or.inr ⟨rfl, Or.inl rfl⟩) dX5_readStatement_141
        · refine r_iconst dX5_readStatement_136 ⟨by decide, by decide⟩ ?_
          refine r_goto (tgt := 141) dX5_readStatement_137 rfl ?_
          exact r_iret rfl rfl (Or.inr ⟨rfl, Or.inr rfl⟩) dX5_readStatement_141
    · refine r_tsw (tgt := 142) 3 dX5_readStatement_67 ⟨by decide, by decide⟩ rfl rfl (fun h26 => ?_) (fun h27 => ?_)
      · refine r_aload_n 1 dX5_readStatement_142 rfl rfl ?_
        refine r_inv (a := 4) hu ⟨Nat.le_refl _, Nat.le_refl _⟩ dX5_readStatement_143 kM_X5_119 (ci := 5) rfl kd_4 rfl rfl (by omega) (by decide) [] rfl (sk := []) rfl (Nat.le_of_ble_eq_true rfl) rfl rfl (m_X5_readNewName hu M9) (fun r28 M29 => ?_)
        refine r_if_eq (tgt := 169) dX5_readStatement_146 rfl (fun h30 => ?_) (fun h31 => ?_)
        · refine r_iconst dX5_readStatement_169 ⟨by decide, by decide⟩ ?_
          exact r_iret rfl rfl (Or.inr ⟨rfl, Or.inl rfl⟩) dX5_readStatement_170
        · refine r_aload_n 1 dX5_readStatement_149 rfl rfl ?_
          refine r_aload_n 0 dX5_readStatement_150 rfl rfl ?_
          refine r_inv (a := 4) hu ⟨Nat.le_refl _, Nat.le_refl _⟩ dX5_readStatement_151 kM_X5_126 (ci := 5) rfl kd_4 rfl rfl (by omega) (by decide) [(2, r6)] rfl (sk := []) rfl (Nat.le_of_ble_eq_true rfl) rfl rfl (m_X5_readKnows hu M29 r6 h10) (fun r32 M33 => ?_)
          refine r_if_eq (tgt := 169) dX5_readStatement_154 rfl (fun h34 => ?_) (fun h35 => ?_)
          · refine r_iconst dX5_readStatement_169 ⟨by decide, by decide⟩ ?_
            exact r_iret rfl rfl (Or.inr ⟨rfl, Or.inl rfl⟩) dX5_readStatement_170
          · refine r_aload_n 1 dX5_readStatement_157 rfl rfl ?_
            refine r_aload_n 0 dX5_readStatement_158 rfl rfl ?_
            refine r_inv (a := 4) hu ⟨Nat.le_refl _, Nat.le_refl _⟩ dX5_readStatement_159 kM_X5_129 (ci := 5) rfl kd_4 rfl rfl (by omega) (by decide) [(2, r6)] rfl (sk := []) rfl (Nat.le_of_ble_eq_true rfl) rfl rfl (m_X5_readRule hu M33 r6 h10) (fun r36 M37 => ?_)
            refine r_if_eq (tgt := 169) dX5_readStatement_162 rfl (fun h38 => ?_) (fun h39 => ?_)
            · refine r_iconst dX5_readStatement_169 ⟨by decide, by decide⟩ ?_
              exact r_iret rfl rfl (Or.inr ⟨rfl, Or.inl rfl⟩) dX5_readStatement_170
            · refine r_iconst dX5_readStatement_165 ⟨by decide, by decide⟩ ?_
              refine r_goto (tgt := 170) dX5_readStatement_166 rfl ?_
              exact r_iret rfl rfl (Or.inr ⟨rfl, Or.inr rfl⟩) dX5_readStatement_170
      · refine r_tsw (tgt := 185) 4 dX5_readStatement_67 ⟨by decide, by decide⟩ rfl rfl (fun h40 => ?_) (fun h41 => ?_)
        · refine r_sub [1, 0] (ls' := [(0, 2, 4), (3, 2, r6)]) rfl ?_
          exact tj_X5_readStatement_185 hu S hdS hS M9 r6
        · refine r_tsw (tgt := 185) 5 dX5_readStatement_67 ⟨by decide, by decide⟩ rfl rfl (fun h46 => ?_) (fun h47 => ?_)
          · refine r_sub [1, 0] (ls' := [(0, 2, 4), (3, 2, r6)]) rfl ?_
            exact tj_X5_readStatement_185 hu S hdS hS M9 r6
          · refine r_tsw (tgt := 185) 6 dX5_readStatement_67 ⟨by decide, by decide⟩ rfl rfl (fun h48 => ?_) (fun h49 => ?_)
            · refine r_sub [1, 0] (ls' := [(0, 2, 4), (3, 2, r6)]) rfl ?_
              exact tj_X5_readStatement_185 hu S hdS hS M9 r6
            · refine r_tsw (tgt := 171) 7 dX5_readStatement_67 ⟨by decide, by decide⟩ rfl rfl (fun h50 => ?_) (fun h51 => ?_)
              · refine r_aload_n 1 dX5_readStatement_171 rfl rfl ?_
                refine r_aload_n 0 dX5_readStatement_172 rfl rfl ?_
                refine r_iload_n 2 dX5_readStatement_173 rfl rfl ?_
                refine r_inv (a := 4) hu ⟨Nat.le_refl _, Nat.le_refl _⟩ dX5_readStatement_174 kM_X5_132 (ci := 5) rfl kd_4 rfl rfl (by omega) (by decide) [(2, r6), (0, a1)] rfl (sk := []) rfl (Nat.le_of_ble_eq_true rfl) rfl rfl (m_X5_readShow hu M9 r6 a1 h10) (fun r52 M53 => ?_)
                refine r_ok (fun h54 => ?_)
                exact r_iret rfl rfl (Or.inr ⟨rfl, h54⟩) dX5_readStatement_177
              · refine r_tsw (tgt := 178) 8 dX5_readStatement_67 ⟨by decide, by decide⟩ rfl rfl (fun h55 => ?_) (fun h56 => ?_)
                · refine r_aload_n 1 dX5_readStatement_178 rfl rfl ?_
                  refine r_aload_n 0 dX5_readStatement_179 rfl rfl ?_
                  refine r_iload_n 2 dX5_readStatement_180 rfl rfl ?_
                  refine r_inv (a := 4) hu ⟨Nat.le_refl _, Nat.le_refl _⟩ dX5_readStatement_181 kM_X5_136 (ci := 5) rfl kd_4 rfl rfl (by omega) (by decide) [(2, r6), (0, a1)] rfl (sk := []) rfl (Nat.le_of_ble_eq_true rfl) rfl rfl (m_X5_readTimes hu S hdS hS M9 r6 a1 h10) (fun r57 M58 => ?_)
                  refine r_ok (fun h59 => ?_)
                  exact r_iret rfl rfl (Or.inr ⟨rfl, h59⟩) dX5_readStatement_184
                · refine r_tswd (tgt := 185) dX5_readStatement_67 (by omega) rfl ?_
                  refine r_sub [1, 0] (ls' := [(0, 2, 4), (3, 2, r6)]) rfl ?_
                  exact tj_X5_readStatement_185 hu S hdS hS M9 r6
set_option maxRecDepth 100000 in
theorem tj_X5_readStatement_21 {g : GT} {n nf : Int} (hu : Up true nf n) (S : Mem → Int → Res) {dS : Nat} (hdS : 63 ≤ dS) (hS : ∀ (M : Mem) (a1 : Int), AM g true yX5_readStatements cX5_readStatements 3 (some .boolean) dS n n nf [(2, 4), (0, a1)] M (S M a1)) (a1 : Int) (M : Mem) (s0 : Int) : AW g true RX5 cX5_readStatement 4 (some .boolean) (dS + 2) n n nf 21 [(0, 2, 4), (1, 0, a1)] [(0, s0)] n M (j_X5_readStatement_21 S a1 M s0) := by
  unfold j_X5_readStatement_21
  refine r_istore_n dX5_readStatement_21 rfl (by decide) (ls' := [(2, 0, s0), (0, 2, 4), (1, 0, a1)]) rfl ?_
  refine r_iload_n 0 dX5_readStatement_22 rfl rfl ?_
  refine r_if_eq (tgt := 47) dX5_readStatement_23 rfl (fun h3 => ?_) (fun h4 => ?_)
  · refine r_sub [1, 2] (ls' := [(0, 2, 4), (1, 0, a1)]) rfl ?_
    exact tj_X5_readStatement_47 hu S hdS hS a1 M
  · refine r_aload_n 1 dX5_readStatement_26 rfl rfl ?_
    refine r_gf (t := 2) (kz := 1) rfl hu dX5_readStatement_27 kF_X5_27 kd_4 rfl rfl rfl ?_
    refine r_ok (fun h60 => ?_)
    refine r_gf (t := 0) (kz := 3) rfl hu dX5_readStatement_30 kF_X5_103 h60 rfl rfl rfl ?_
    refine r_iconst dX5_readStatement_33 ⟨by decide, by decide⟩ ?_
    refine r_icmp_lt (tgt := 47) dX5_readStatement_34 rfl (fun h61 => ?_) (fun h62 => ?_)
    · refine r_sub [1, 2] (ls' := [(0, 2, 4), (1, 0, a1)]) rfl ?_
      exact tj_X5_readStatement_47 hu S hdS hS a1 M
    · refine r_aload_n 1 dX5_readStatement_37 rfl rfl ?_
      refine r_iconst dX5_readStatement_38 ⟨by decide, by decide⟩ ?_
      refine r_aload_n 1 dX5_readStatement_39 rfl rfl ?_
      refine r_gf (t := 0) (kz := 9) rfl hu dX5_readStatement_40 kF_X5_78 kd_4 rfl rfl rfl ?_
      refine r_inv (a := 4) hu ⟨Nat.le_refl _, Nat.le_refl _⟩ dX5_readStatement_43 kM_X5_89 (ci := 5) rfl kd_4 rfl rfl (by omega) (by decide) [(0, 5), (0, M 4 9)] rfl (sk := []) rfl (Nat.le_of_ble_eq_true rfl) rfl rfl (m_X5_refused hu M 5 (M 4 9)) (fun r63 M64 => ?_)
      refine r_ok (fun h65 => ?_)
      exact r_iret rfl rfl (Or.inr ⟨rfl, h65⟩) dX5_readStatement_46
set_option maxRecDepth 100000 in
theorem tj_X5_readStatement_16 {g : GT} {n nf : Int} (hu : Up true nf n) (S : Mem → Int → Res) {dS : Nat} (hdS : 63 ≤ dS) (hS : ∀ (M : Mem) (a1 : Int), AM g true yX5_readStatements cX5_readStatements 3 (some .boolean) dS n n nf [(2, 4), (0, a1)] M (S M a1)) (a1 : Int) (M : Mem) : AW g true RX5 cX5_readStatement 4 (some .boolean) (dS + 2) n n nf 16 [(0, 2, 4), (1, 0, a1)] [] n M (j_X5_readStatement_16 S a1 M) := by
  unfold j_X5_readStatement_16
  refine r_iconst dX5_readStatement_16 ⟨by decide, by decide⟩ ?_
  refine r_goto (tgt := 21) dX5_readStatement_17 rfl ?_
  exact tj_X5_readStatement_21 hu S hdS hS a1 M 1
set_option maxRecDepth 100000 in
theorem m_X5_readStatement {g : GT} {n nf : Int} (hu : Up true nf n) (S : Mem → Int → Res) {dS : Nat} (hdS : 63 ≤ dS) (hS : ∀ (M : Mem) (a1 : Int), AM g true yX5_readStatements cX5_readStatements 3 (some .boolean) dS n n nf [(2, 4), (0, a1)] M (S M a1)) (M : Mem) (a1 : Int) : AM g true yX5_readStatement cX5_readStatement 4 (some .boolean) (dS + 2) n n nf [(2, 4), (0, a1)] M (f_X5_readStatement S M a1) := by
  refine AM_of (by decide +kernel) (Nat.le_of_ble_eq_true rfl) (fun h => absurd h (Int.lt_irrefl n)) ?_
  show AW g true RX5 cX5_readStatement 4 (some .boolean) (dS + 2) n n nf 0 [(0, 2, 4), (1, 0, a1)] [] n M (f_X5_readStatement S M a1)
  unfold f_X5_readStatement
  refine r_aload_n 0 dX5_readStatement_0 rfl rfl ?_
  refine r_gf (t := 0) (kz := 10) rfl hu dX5_readStatement_1 kF_X5_81 kd_4 rfl rfl rfl ?_
  refine r_iconst dX5_readStatement_4 ⟨by decide, by decide⟩ ?_
  refine r_icmp_eq (tgt := 16) dX5_readStatement_5 rfl (fun h1 => ?_) (fun h2 => ?_)
  · exact tj_X5_readStatement_16 hu S hdS hS a1 M
  · refine r_aload_n 0 dX5_readStatement_8 rfl rfl ?_
    refine r_gf (t := 0) (kz := 10) rfl hu dX5_readStatement_9 kF_X5_81 kd_4 rfl rfl rfl ?_
    refine r_iconst dX5_readStatement_12 ⟨by decide, by decide⟩ ?_
    refine r_icmp_ne (tgt := 20) dX5_readStatement_13 rfl (fun h66 => ?_) (fun h67 => ?_)
    · exact tj_X5_readStatement_16 hu S hdS hS a1 M
    · refine r_iconst dX5_readStatement_20 ⟨by decide, by decide⟩ ?_
      exact tj_X5_readStatement_21 hu S hdS hS a1 M 0
theorem dX5_readStatements_0 : decode cX5_readStatements 0 = .ok (.iconst 0, 1) := by decide +kernel
theorem dX5_readStatements_1 : decode cX5_readStatements 1 = .ok (.istore_n 2, 1) := by decide +kernel
theorem dX5_readStatements_2 : decode cX5_readStatements 2 = .ok (.iload_n 2, 1) := by decide +kernel
theorem dX5_readStatements_3 : decode cX5_readStatements 3 = .ok (.bipush 40, 2) := by decide +kernel
theorem dX5_readStatements_5 : decode cX5_readStatements 5 = .ok (.if_icmp .gt 99, 3) := by decide +kernel
theorem dX5_readStatements_8 : decode cX5_readStatements 8 = .ok (.iload_n 1, 1) := by decide +kernel
theorem dX5_readStatements_9 : decode cX5_readStatements 9 = .ok (.ifCond .ne 13, 3) := by decide +kernel
theorem dX5_readStatements_12 : decode cX5_readStatements 12 = .ok (.aload_n 0, 1) := by decide +kernel
theorem dX5_readStatements_13 : decode cX5_readStatements 13 = .ok (.getfield 66, 3) := by decide +kernel
theorem dX5_readStatements_16 : decode cX5_readStatements 16 = .ok (.ifCond .ne 17, 3) := by decide +kernel
theorem dX5_readStatements_19 : decode cX5_readStatements 19 = .ok (.goto 12, 3) := by decide +kernel
theorem dX5_readStatements_22 : decode cX5_readStatements 22 = .ok (.aload_n 0, 1) := by decide +kernel
theorem dX5_readStatements_23 : decode cX5_readStatements 23 = .ok (.bipush 93, 2) := by decide +kernel
theorem dX5_readStatements_25 : decode cX5_readStatements 25 = .ok (.invokevirtual 84, 3) := by decide +kernel
theorem dX5_readStatements_28 : decode cX5_readStatements 28 = .ok (.ifCond .eq 5, 3) := by decide +kernel
theorem dX5_readStatements_31 : decode cX5_readStatements 31 = .ok (.iconst 1, 1) := by decide +kernel
theorem dX5_readStatements_32 : decode cX5_readStatements 32 = .ok (.ireturn, 1) := by decide +kernel
theorem dX5_readStatements_33 : decode cX5_readStatements 33 = .ok (.aload_n 0, 1) := by decide +kernel
theorem dX5_readStatements_34 : decode cX5_readStatements 34 = .ok (.getfield 27, 3) := by decide +kernel
theorem dX5_readStatements_37 : decode cX5_readStatements 37 = .ok (.getfield 88, 3) := by decide +kernel
theorem dX5_readStatements_40 : decode cX5_readStatements 40 = .ok (.bipush 40, 2) := by decide +kernel
theorem dX5_readStatements_42 : decode cX5_readStatements 42 = .ok (.if_icmp .lt 20, 3) := by decide +kernel
theorem dX5_readStatements_45 : decode cX5_readStatements 45 = .ok (.aload_n 0, 1) := by decide +kernel
theorem dX5_readStatements_46 : decode cX5_readStatements 46 = .ok (.getfield 66, 3) := by decide +kernel
theorem dX5_readStatements_49 : decode cX5_readStatements 49 = .ok (.ifCond .eq 13, 3) := by decide +kernel
theorem dX5_readStatements_52 : decode cX5_readStatements 52 = .ok (.aload_n 0, 1) := by decide +kernel
theorem dX5_readStatements_53 : decode cX5_readStatements 53 = .ok (.iconst 5, 1) := by decide +kernel
theorem dX5_readStatements_54 : decode cX5_readStatements 54 = .ok (.aload_n 0, 1) := by decide +kernel
theorem dX5_readStatements_55 : decode cX5_readStatements 55 = .ok (.getfield 78, 3) := by decide +kernel
theorem dX5_readStatements_58 : decode cX5_readStatements 58 = .ok (.invokevirtual 89, 3) := by decide +kernel
theorem dX5_readStatements_61 : decode cX5_readStatements 61 = .ok (.ireturn, 1) := by decide +kernel
theorem dX5_readStatements_62 : decode cX5_readStatements 62 = .ok (.aload_n 0, 1) := by decide +kernel
theorem dX5_readStatements_63 : decode cX5_readStatements 63 = .ok (.invokevirtual 93, 3) := by decide +kernel
theorem dX5_readStatements_66 : decode cX5_readStatements 66 = .ok (.ifCond .ne 13, 3) := by decide +kernel
theorem dX5_readStatements_69 : decode cX5_readStatements 69 = .ok (.aload_n 0, 1) := by decide +kernel
theorem dX5_readStatements_70 : decode cX5_readStatements 70 = .ok (.iconst 1, 1) := by decide +kernel
theorem dX5_readStatements_71 : decode cX5_readStatements 71 = .ok (.aload_n 0, 1) := by decide +kernel
theorem dX5_readStatements_72 : decode cX5_readStatements 72 = .ok (.getfield 78, 3) := by decide +kernel
theorem dX5_readStatements_75 : decode cX5_readStatements 75 = .ok (.invokevirtual 89, 3) := by decide +kernel
theorem dX5_readStatements_78 : decode cX5_readStatements 78 = .ok (.ireturn, 1) := by decide +kernel
theorem dX5_readStatements_79 : decode cX5_readStatements 79 = .ok (.aload_n 0, 1) := by decide +kernel
theorem dX5_readStatements_80 : decode cX5_readStatements 80 = .ok (.iload_n 1, 1) := by decide +kernel
theorem dX5_readStatements_81 : decode cX5_readStatements 81 = .ok (.invokevirtual 97, 3) := by decide +kernel
theorem dX5_readStatements_84 : decode cX5_readStatements 84 = .ok (.ifCond .eq 12, 3) := by decide +kernel
theorem dX5_readStatements_87 : decode cX5_readStatements 87 = .ok (.aload_n 0, 1) := by decide +kernel
theorem dX5_readStatements_88 : decode cX5_readStatements 88 = .ok (.bipush 59, 2) := by decide +kernel
theorem dX5_readStatements_90 : decode cX5_readStatements 90 = .ok (.invokevirtual 100, 3) := by decide +kernel
theorem dX5_readStatements_93 : decode cX5_readStatements 93 = .ok (.ifCond .ne 5, 3) := by decide +kernel
theorem dX5_readStatements_96 : decode cX5_readStatements 96 = .ok (.iconst 0, 1) := by decide +kernel
theorem dX5_readStatements_97 : decode cX5_readStatements 97 = .ok (.ireturn, 1) := by decide +kernel
theorem dX5_readStatements_98 : decode cX5_readStatements 98 = .ok (.iinc 2 1, 3) := by decide +kernel
theorem dX5_readStatements_101 : decode cX5_readStatements 101 = .ok (.goto (-99), 3) := by decide +kernel
theorem dX5_readStatements_104 : decode cX5_readStatements 104 = .ok (.iconst 0, 1) := by decide +kernel
theorem dX5_readStatements_105 : decode cX5_readStatements 105 = .ok (.ireturn, 1) := by decide +kernel
set_option maxRecDepth 100000 in
theorem tj_X5_readStatements_62 {g : GT} {n nf : Int} (hu : Up true nf n) (S : Mem → Int → Res) {dS : Nat} (hdS : 63 ≤ dS) (hS : ∀ (M : Mem) (a1 : Int), AM g true yX5_readStatements cX5_readStatements 3 (some .boolean) dS n n nf [(2, 4), (0, a1)] M (S M a1)) (a1 : Int) (w2 : Mem → Int → Res) (hw2 : ∀ (M : Mem) (x2 : Int), AW g true RX5 cX5_readStatements 3 (some .boolean) (dS + 3) n n nf 2 [(0, 2, 4), (1, 0, a1), (2, 0, x2)] [] n M (w2 M x2)) (M : Mem) (x2 : Int) : AW g true RX5 cX5_readStatements 3 (some .boolean) (dS + 3) n n nf 62 [(0, 2, 4), (1, 0, a1), (2, 0, x2)] [] n M (j_X5_readStatements_62 S a1 w2 M x2) := by
  unfold j_X5_readStatements_62
  refine r_aload_n 0 dX5_readStatements_62 rfl rfl ?_
  refine r_inv (a := 4) hu ⟨Nat.le_refl _, Nat.le_refl _⟩ dX5_readStatements_63 kM_X5_93 (ci := 5) rfl kd_4 rfl rfl (by omega) (by decide) [] rfl (sk := []) rfl (Nat.le_of_ble_eq_true rfl) rfl rfl (m_X5_isStatementWord hu M) (fun r10 M11 => ?_)
  refine r_if_ne (tgt := 79) dX5_readStatements_66 rfl (fun h12 => ?_) (fun h13 => ?_)
  · refine r_aload_n 0 dX5_readStatements_69 rfl rfl ?_
    refine r_iconst dX5_readStatements_70 ⟨by decide, by decide⟩ ?_
    refine r_aload_n 0 dX5_readStatements_71 rfl rfl ?_
    refine r_gf (t := 0) (kz := 9) rfl hu dX5_readStatements_72 kF_X5_78 kd_4 rfl rfl rfl ?_
    refine r_inv (a := 4) hu ⟨Nat.le_refl _, Nat.le_refl _⟩ dX5_readStatements_75 kM_X5_89 (ci := 5) rfl kd_4 rfl rfl (by omega) (by decide) [(0, 1), (0, M11 4 9)] rfl (sk := []) rfl (Nat.le_of_ble_eq_true rfl) rfl rfl (m_X5_refused hu M11 1 (M11 4 9)) (fun r14 M15 => ?_)
    refine r_ok (fun h16 => ?_)
    exact r_iret rfl rfl (Or.inr ⟨rfl, h16⟩) dX5_readStatements_78
  · refine r_aload_n 0 dX5_readStatements_79 rfl rfl ?_
    refine r_iload_n 1 dX5_readStatements_80 rfl rfl ?_
    refine r_inv (a := 4) hu ⟨Nat.le_refl _, Nat.le_refl _⟩ dX5_readStatements_81 kM_X5_97 (ci := 5) rfl kd_4 rfl rfl (by omega) (by decide) [(0, a1)] rfl (sk := []) rfl (Nat.le_of_ble_eq_true rfl) rfl rfl (m_X5_readStatement hu S hdS hS M11 a1) (fun r17 M18 => ?_)
    refine r_if_eq (tgt := 96) dX5_readStatements_84 rfl (fun h19 => ?_) (fun h20 => ?_)
    · refine r_iconst dX5_readStatements_96 ⟨by decide, by decide⟩ ?_
      exact r_iret rfl rfl (Or.inr ⟨rfl, Or.inl rfl⟩) dX5_readStatements_97
    · refine r_aload_n 0 dX5_readStatements_87 rfl rfl ?_
      refine r_bipush dX5_readStatements_88 (by decide) ⟨by decide, by decide⟩ ?_
      refine r_inv (a := 4) hu ⟨Nat.le_refl _, Nat.le_refl _⟩ dX5_readStatements_90 kM_X5_100 (ci := 5) rfl kd_4 rfl rfl (by omega) (by decide) [(0, 59)] rfl (sk := []) rfl (Nat.le_of_ble_eq_true rfl) rfl rfl (m_X5_readSign hu M18 59) (fun r21 M22 => ?_)
      refine r_if_ne (tgt := 98) dX5_readStatements_93 rfl (fun h23 => ?_) (fun h24 => ?_)
      · refine r_iconst dX5_readStatements_96 ⟨by decide, by decide⟩ ?_
        exact r_iret rfl rfl (Or.inr ⟨rfl, Or.inl rfl⟩) dX5_readStatements_97
      · refine r_ok (fun h25 => ?_)
        refine r_iincB 2 dX5_readStatements_98 rfl h25 (by decide) (lf := fun y26 => [(2, 0, y26), (0, 2, 4), (1, 0, a1)]) (fun _ => rfl) (fun y26 ey26 => ?_)
        refine r_goto (tgt := 2) dX5_readStatements_101 rfl ?_
        refine r_sub [1, 2, 0] (ls' := [(0, 2, 4), (1, 0, a1), (2, 0, y26)]) rfl ?_
        exact hw2 M22 y26
set_option maxRecDepth 100000 in
theorem tj_X5_readStatements_33 {g : GT} {n nf : Int} (hu : Up true nf n) (S : Mem → Int → Res) {dS : Nat} (hdS : 63 ≤ dS) (hS : ∀ (M : Mem) (a1 : Int), AM g true yX5_readStatements cX5_readStatements 3 (some .boolean) dS n n nf [(2, 4), (0, a1)] M (S M a1)) (a1 : Int) (w2 : Mem → Int → Res) (hw2 : ∀ (M : Mem) (x2 : Int), AW g true RX5 cX5_readStatements 3 (some .boolean) (dS + 3) n n nf 2 [(0, 2, 4), (1, 0, a1), (2, 0, x2)] [] n M (w2 M x2)) (M : Mem) (x2 : Int) : AW g true RX5 cX5_readStatements 3 (some .boolean) (dS + 3) n n nf 33 [(0, 2, 4), (1, 0, a1), (2, 0, x2)] [] n M (j_X5_readStatements_33 S a1 w2 M x2) := by
  unfold j_X5_readStatements_33
  refine r_aload_n 0 dX5_readStatements_33 rfl rfl ?_
  refine r_gf (t := 2) (kz := 1) rfl hu dX5_readStatements_34 kF_X5_27 kd_4 rfl rfl rfl ?_
  refine r_ok (fun h7 => ?_)
  refine r_gf (t := 0) (kz := 1) rfl hu dX5_readStatements_37 kF_X5_88 h7 rfl rfl rfl ?_
  refine r_bipush dX5_readStatements_40 (by decide) ⟨by decide, by decide⟩ ?_
  refine r_icmp_lt (tgt := 62) dX5_readStatements_42 rfl (fun h8 => ?_) (fun h9 => ?_)
  · exact tj_X5_readStatements_62 hu S hdS hS a1 w2 hw2 M x2
  · refine r_aload_n 0 dX5_readStatements_45 rfl rfl ?_
    refine r_gf (t := 0) (kz := 7) rfl hu dX5_readStatements_46 kF_X5_66 kd_4 rfl rfl rfl ?_
    refine r_if_eq (tgt := 62) dX5_readStatements_49 rfl (fun h27 => ?_) (fun h28 => ?_)
    · exact tj_X5_readStatements_62 hu S hdS hS a1 w2 hw2 M x2
    · refine r_aload_n 0 dX5_readStatements_52 rfl rfl ?_
      refine r_iconst dX5_readStatements_53 ⟨by decide, by decide⟩ ?_
      refine r_aload_n 0 dX5_readStatements_54 rfl rfl ?_
      refine r_gf (t := 0) (kz := 9) rfl hu dX5_readStatements_55 kF_X5_78 kd_4 rfl rfl rfl ?_
      refine r_inv (a := 4) hu ⟨Nat.le_refl _, Nat.le_refl _⟩ dX5_readStatements_58 kM_X5_89 (ci := 5) rfl kd_4 rfl rfl (by omega) (by decide) [(0, 5), (0, M 4 9)] rfl (sk := []) rfl (Nat.le_of_ble_eq_true rfl) rfl rfl (m_X5_refused hu M 5 (M 4 9)) (fun r29 M30 => ?_)
      refine r_ok (fun h31 => ?_)
      exact r_iret rfl rfl (Or.inr ⟨rfl, h31⟩) dX5_readStatements_61
set_option maxRecDepth 100000 in
theorem tb_X5_readStatements_2 {g : GT} {n nf : Int} (hu : Up true nf n) (S : Mem → Int → Res) {dS : Nat} (hdS : 63 ≤ dS) (hS : ∀ (M : Mem) (a1 : Int), AM g true yX5_readStatements cX5_readStatements 3 (some .boolean) dS n n nf [(2, 4), (0, a1)] M (S M a1)) (a1 : Int) (w2 : Mem → Int → Res) (hw2 : ∀ (M : Mem) (x2 : Int), AW g true RX5 cX5_readStatements 3 (some .boolean) (dS + 3) n n nf 2 [(0, 2, 4), (1, 0, a1), (2, 0, x2)] [] n M (w2 M x2)) (M : Mem) (x2 : Int) : AW g true RX5 cX5_readStatements 3 (some .boolean) (dS + 3) n n nf 2 [(0, 2, 4), (1, 0, a1), (2, 0, x2)] [] n M (b_X5_readStatements_2 S a1 w2 M x2) := by
  unfold b_X5_readStatements_2
  refine r_iload_n 2 dX5_readStatements_2 rfl rfl ?_
  refine r_bipush dX5_readStatements_3 (by decide) ⟨by decide, by decide⟩ ?_
  refine r_icmp_gt (tgt := 104) dX5_readStatements_5 rfl (fun h1 => ?_) (fun h2 => ?_)
  · refine r_iconst dX5_readStatements_104 ⟨by decide, by decide⟩ ?_
    exact r_iret rfl rfl (Or.inr ⟨rfl, Or.inl rfl⟩) dX5_readStatements_105
  · refine r_iload_n 1 dX5_readStatements_8 rfl rfl ?_
    refine r_if_ne (tgt := 22) dX5_readStatements_9 rfl (fun h3 => ?_) (fun h4 => ?_)
    · refine r_aload_n 0 dX5_readStatements_12 rfl rfl ?_
      refine r_gf (t := 0) (kz := 7) rfl hu dX5_readStatements_13 kF_X5_66 kd_4 rfl rfl rfl ?_
      refine r_if_ne (tgt := 33) dX5_readStatements_16 rfl (fun h5 => ?_) (fun h6 => ?_)
      · refine r_goto (tgt := 31) dX5_readStatements_19 rfl ?_
        refine r_iconst dX5_readStatements_31 ⟨by decide, by decide⟩ ?_
        exact r_iret rfl rfl (Or.inr ⟨rfl, Or.inr rfl⟩) dX5_readStatements_32
      · exact tj_X5_readStatements_33 hu S hdS hS a1 w2 hw2 M x2
    · refine r_aload_n 0 dX5_readStatements_22 rfl rfl ?_
      refine r_bipush dX5_readStatements_23 (by decide) ⟨by decide, by decide⟩ ?_
      refine r_inv (a := 4) hu ⟨Nat.le_refl _, Nat.le_refl _⟩ dX5_readStatements_25 kM_X5_84 (ci := 5) rfl kd_4 rfl rfl (by omega) (by decide) [(0, 93)] rfl (sk := []) rfl (Nat.le_of_ble_eq_true rfl) rfl rfl (m_X5_isSign hu M 93) (fun r32 M33 => ?_)
      refine r_if_eq (tgt := 33) dX5_readStatements_28 rfl (fun h34 => ?_) (fun h35 => ?_)
      · exact tj_X5_readStatements_33 hu S hdS hS a1 w2 hw2 M33 x2
      · refine r_iconst dX5_readStatements_31 ⟨by decide, by decide⟩ ?_
        exact r_iret rfl rfl (Or.inr ⟨rfl, Or.inr rfl⟩) dX5_readStatements_32
set_option maxRecDepth 100000 in
theorem mg_X5_readStatements {g : GT} {n nf : Int} (hu : Up true nf n) (S : Mem → Int → Res) {dS : Nat} (hdS : 63 ≤ dS) (hS : ∀ (M : Mem) (a1 : Int), AM g true yX5_readStatements cX5_readStatements 3 (some .boolean) dS n n nf [(2, 4), (0, a1)] M (S M a1)) (M : Mem) (a1 : Int) : AM g true yX5_readStatements cX5_readStatements 3 (some .boolean) (dS + 3) n n nf [(2, 4), (0, a1)] M (g_X5_readStatements S M a1) := by
  refine AM_of (by decide +kernel) (Nat.le_of_ble_eq_true rfl) (fun h => absurd h (Int.lt_irrefl n)) ?_
  show AW g true RX5 cX5_readStatements 3 (some .boolean) (dS + 3) n n nf 0 [(0, 2, 4), (1, 0, a1)] [] n M (g_X5_readStatements S M a1)
  unfold g_X5_readStatements
  refine r_iconst dX5_readStatements_0 ⟨by decide, by decide⟩ ?_
  refine r_istore_n dX5_readStatements_1 rfl (by decide) (ls' := [(2, 0, 0), (0, 2, 4), (1, 0, a1)]) rfl ?_
  refine r_sub [1, 2, 0] (ls' := [(0, 2, 4), (1, 0, a1), (2, 0, 0)]) rfl ?_
  exact wl1_aw (P := fun M x2 o => AW g true RX5 cX5_readStatements 3 (some .boolean) (dS + 3) n n nf 2 [(0, 2, 4), (1, 0, a1), (2, 0, x2)] [] n M (o)) (fun M x2 => aw_none) (fun w hw M x2 => tb_X5_readStatements_2 hu S hdS hS a1 w hw M x2) FU M 0
set_option maxRecDepth 100000 in
theorem m_X5_readStatements {g : GT} {n nf : Int} (hu : Up true nf n) (q : Nat) : ∀ (M : Mem) (a1 : Int), AM g true yX5_readStatements cX5_readStatements 3 (some .boolean) (63 + 3 * q) n n nf [(2, 4), (0, a1)] M (f_X5_readStatements q M a1) := by
  induction q with
  | zero => intro M a1 _ r M2 h; cases h
  | succ q ih => intro M a1; exact mg_X5_readStatements hu (f_X5_readStatements q) (dS := 63 + 3 * q) (by omega) ih M a1
theorem dX5_takes_0 : decode cX5_takes 0 = .ok (.aload_n 0, 1) := by decide +kernel
theorem dX5_takes_1 : decode cX5_takes 1 = .ok (.iload_n 1, 1) := by decide +kernel
theorem dX5_takes_2 : decode cX5_takes 2 = .ok (.putfield 24, 3) := by decide +kernel
theorem dX5_takes_5 : decode cX5_takes 5 = .ok (.aload_n 0, 1) := by decide +kernel
theorem dX5_takes_6 : decode cX5_takes 6 = .ok (.aload_n 2, 1) := by decide +kernel
theorem dX5_takes_7 : decode cX5_takes 7 = .ok (.putfield 27, 3) := by decide +kernel
theorem dX5_takes_10 : decode cX5_takes 10 = .ok (.aload_n 0, 1) := by decide +kernel
theorem dX5_takes_11 : decode cX5_takes 11 = .ok (.aload_n 3, 1) := by decide +kernel
theorem dX5_takes_12 : decode cX5_takes 12 = .ok (.putfield 31, 3) := by decide +kernel
theorem dX5_takes_15 : decode cX5_takes 15 = .ok (.aload_n 0, 1) := by decide +kernel
theorem dX5_takes_16 : decode cX5_takes 16 = .ok (.iconst 0, 1) := by decide +kernel
theorem dX5_takes_17 : decode cX5_takes 17 = .ok (.putfield 34, 3) := by decide +kernel
theorem dX5_takes_20 : decode cX5_takes 20 = .ok (.aload_n 0, 1) := by decide +kernel
theorem dX5_takes_21 : decode cX5_takes 21 = .ok (.iconst (-1), 1) := by decide +kernel
theorem dX5_takes_22 : decode cX5_takes 22 = .ok (.putfield 9, 3) := by decide +kernel
theorem dX5_takes_25 : decode cX5_takes 25 = .ok (.aload_n 2, 1) := by decide +kernel
theorem dX5_takes_26 : decode cX5_takes 26 = .ok (.invokevirtual 37, 3) := by decide +kernel
theorem dX5_takes_29 : decode cX5_takes 29 = .ok (.aload_n 0, 1) := by decide +kernel
theorem dX5_takes_30 : decode cX5_takes 30 = .ok (.getfield 20, 3) := by decide +kernel
theorem dX5_takes_33 : decode cX5_takes 33 = .ok (.invokevirtual 42, 3) := by decide +kernel
theorem dX5_takes_36 : decode cX5_takes 36 = .ok (.aload_n 0, 1) := by decide +kernel
theorem dX5_takes_37 : decode cX5_takes 37 = .ok (.iconst (-1), 1) := by decide +kernel
theorem dX5_takes_38 : decode cX5_takes 38 = .ok (.putfield 45, 3) := by decide +kernel
theorem dX5_takes_41 : decode cX5_takes 41 = .ok (.aload_n 0, 1) := by decide +kernel
theorem dX5_takes_42 : decode cX5_takes 42 = .ok (.invokevirtual 48, 3) := by decide +kernel
theorem dX5_takes_45 : decode cX5_takes 45 = .ok (.aload_n 2, 1) := by decide +kernel
theorem dX5_takes_46 : decode cX5_takes 46 = .ok (.aload_n 0, 1) := by decide +kernel
theorem dX5_takes_47 : decode cX5_takes 47 = .ok (.iconst 0, 1) := by decide +kernel
theorem dX5_takes_48 : decode cX5_takes 48 = .ok (.invokevirtual 51, 3) := by decide +kernel
theorem dX5_takes_51 : decode cX5_takes 51 = .ok (.putfield 55, 3) := by decide +kernel
theorem dX5_takes_54 : decode cX5_takes 54 = .ok (.aload_n 2, 1) := by decide +kernel
theorem dX5_takes_55 : decode cX5_takes 55 = .ok (.getfield 55, 3) := by decide +kernel
theorem dX5_takes_58 : decode cX5_takes 58 = .ok (.ireturn, 1) := by decide +kernel
set_option maxRecDepth 100000 in
theorem m_X5_takes {g : GT} {n nf : Int} (hu : Up true nf n) (M : Mem) (a1 a2 a3 : Int) (hk2 : kd a2 = 17) (hk3 : kd a3 = 17) : AM g true yX5_takes cX5_takes 4 (some .boolean) (88) n n nf [(2, 4), (0, a1), (2, a2), (2, a3)] M (f_X5_takes M a1 a2 a3) := by
  refine AM_of (by decide +kernel) (Nat.le_of_ble_eq_true rfl) (fun h => absurd h (Int.lt_irrefl n)) ?_
  show AW g true RX5 cX5_takes 4 (some .boolean) (88) n n nf 0 [(0, 2, 4), (1, 0, a1), (2, 2, a2), (3, 2, a3)] [] n M (f_X5_takes M a1 a2 a3)
  unfold f_X5_takes
  refine r_aload_n 0 dX5_takes_0 rfl rfl ?_
  refine r_iload_n 1 dX5_takes_1 rfl rfl ?_
  refine r_pf (t := 0) (kz := 3) rfl hu dX5_takes_2 kF_X5_24 kd_4 rfl rfl rfl (fun h => absurd h (by decide)) rfl kX_5_3 (fun M1 eM1 => ?_)
  refine r_aload_n 0 dX5_takes_5 rfl rfl ?_
  refine r_aload_n 2 dX5_takes_6 rfl rfl ?_
  refine r_pf (t := 2) (kz := 1) rfl hu dX5_takes_7 kF_X5_27 kd_4 rfl rfl rfl (fun h => absurd h (by decide)) rfl kX_5_1 (fun M2 eM2 => ?_)
  refine r_aload_n 0 dX5_takes_10 rfl rfl ?_
  refine r_aload_n 3 dX5_takes_11 rfl rfl ?_
  refine r_pf (t := 2) (kz := 2) rfl hu dX5_takes_12 kF_X5_31 kd_4 rfl rfl rfl (fun h => absurd h (by decide)) rfl kX_5_2 (fun M3 eM3 => ?_)
  refine r_aload_n 0 dX5_takes_15 rfl rfl ?_
  refine r_iconst dX5_takes_16 ⟨by decide, by decide⟩ ?_
  refine r_pf (t := 0) (kz := 4) rfl hu dX5_takes_17 kF_X5_34 kd_4 rfl rfl rfl (fun h => absurd h (by decide)) rfl kX_5_4 (fun M4 eM4 => ?_)
  refine r_aload_n 0 dX5_takes_20 rfl rfl ?_
  refine r_iconst dX5_takes_21 ⟨by decide, by decide⟩ ?_
  refine r_pf (t := 0) (kz := 5) rfl hu dX5_takes_22 kF_X5_9 kd_4 rfl rfl rfl (fun h => absurd h (by decide)) rfl kX_5_5 (fun M5 eM5 => ?_)
  refine r_aload_n 2 dX5_takes_25 rfl rfl ?_
  refine r_invv (a := a2) hu ⟨Nat.le_refl _, Nat.le_refl _⟩ dX5_takes_26 kM_X5_37 (ci := 7) rfl hk2 rfl rfl (by decide) (by decide) [] rfl (sk := []) rfl (Nat.le_of_ble_eq_true rfl) rfl (m_X7_empty hu M5 a2 hk2) (fun r6 M7 => ?_)
  refine r_aload_n 0 dX5_takes_29 rfl rfl ?_
  refine r_gx (kz := 0) rfl hu dX5_takes_30 kF_X5_20 kd_4 rfl rfl rfl fx_4_0 ?_
  refine r_invv (a := 5) hu ⟨Nat.le_refl _, Nat.le_refl _⟩ dX5_takes_33 kM_X5_42 (ci := 4) rfl kd_5 rfl rfl (by decide) (by decide) [] rfl (sk := []) rfl (Nat.le_of_ble_eq_true rfl) rfl (m_X4_partTape hu M7) (fun r8 M9 => ?_)
  refine r_aload_n 0 dX5_takes_36 rfl rfl ?_
  refine r_iconst dX5_takes_37 ⟨by decide, by decide⟩ ?_
  refine r_pf (t := 0) (kz := 6) rfl hu dX5_takes_38 kF_X5_45 kd_4 rfl rfl rfl (fun h => absurd h (by decide)) rfl kX_5_6 (fun M10 eM10 => ?_)
  refine r_aload_n 0 dX5_takes_41 rfl rfl ?_
  refine r_invv (a := 4) hu ⟨Nat.le_refl _, Nat.le_refl _⟩ dX5_takes_42 kM_X5_48 (ci := 5) rfl kd_4 rfl rfl (by decide) (by decide) [] rfl (sk := []) rfl (Nat.le_of_ble_eq_true rfl) rfl (m_X5_step hu M10) (fun r11 M12 => ?_)
  refine r_aload_n 2 dX5_takes_45 rfl rfl ?_
  refine r_aload_n 0 dX5_takes_46 rfl rfl ?_
  refine r_iconst dX5_takes_47 ⟨by decide, by decide⟩ ?_
  refine r_inv (a := 4) hu ⟨Nat.le_refl _, Nat.le_refl _⟩ dX5_takes_48 kM_X5_51 (ci := 5) rfl kd_4 rfl rfl (by decide) (by decide) [(0, 0)] rfl (sk := [(2, a2)]) rfl (Nat.le_of_ble_eq_true rfl) rfl rfl (m_X5_readStatements hu 8 M12 0) (fun r13 M14 => ?_)
  refine r_ok (fun h15 => ?_)
  refine r_pf (t := 0) (kz := 6) rfl hu dX5_takes_51 kF_X5_55 hk2 rfl rfl rfl (fun _ => h15) rfl kX_7_6 (fun M16 eM16 => ?_)
  refine r_aload_n 2 dX5_takes_54 rfl rfl ?_
  refine r_gf (t := 0) (kz := 6) rfl hu dX5_takes_55 kF_X5_55 hk2 rfl rfl rfl ?_
  refine r_ok (fun h17 => ?_)
  exact r_iret rfl rfl (Or.inr ⟨rfl, h17⟩) dX5_takes_58
theorem dX7_namedAt_0 : decode cX7_namedAt 0 = .ok (.iload_n 1, 1) := by decide +kernel
theorem dX7_namedAt_1 : decode cX7_namedAt 1 = .ok (.ifCond .lt 25, 3) := by decide +kernel
theorem dX7_namedAt_4 : decode cX7_namedAt 4 = .ok (.iload_n 1, 1) := by decide +kernel
theorem dX7_namedAt_5 : decode cX7_namedAt 5 = .ok (.aload_n 0, 1) := by decide +kernel
theorem dX7_namedAt_6 : decode cX7_namedAt 6 = .ok (.getfield 29, 3) := by decide +kernel
theorem dX7_namedAt_9 : decode cX7_namedAt 9 = .ok (.if_icmp .ge 17, 3) := by decide +kernel
theorem dX7_namedAt_12 : decode cX7_namedAt 12 = .ok (.aload_n 0, 1) := by decide +kernel
theorem dX7_namedAt_13 : decode cX7_namedAt 13 = .ok (.getfield 11, 3) := by decide +kernel
theorem dX7_namedAt_16 : decode cX7_namedAt 16 = .ok (.aload_n 0, 1) := by decide +kernel
theorem dX7_namedAt_17 : decode cX7_namedAt 17 = .ok (.getfield 17, 3) := by decide +kernel
theorem dX7_namedAt_20 : decode cX7_namedAt 20 = .ok (.iload_n 1, 1) := by decide +kernel
theorem dX7_namedAt_21 : decode cX7_namedAt 21 = .ok (.iaload, 1) := by decide +kernel
theorem dX7_namedAt_22 : decode cX7_namedAt 22 = .ok (.aaload, 1) := by decide +kernel
theorem dX7_namedAt_23 : decode cX7_namedAt 23 = .ok (.goto 4, 3) := by decide +kernel
theorem dX7_namedAt_26 : decode cX7_namedAt 26 = .ok (.aconst_null, 1) := by decide +kernel
theorem dX7_namedAt_27 : decode cX7_namedAt 27 = .ok (.areturn, 1) := by decide +kernel
set_option maxRecDepth 100000 in
theorem m_X7_namedAt {g : GT} {n nf : Int} (hu : Up true nf n) (M : Mem) (a0 a1 : Int) (hk0 : kd a0 = 17) : AM g true yX7_namedAt cX7_namedAt 2 (some (.object "BlindSide$Statement")) (0) n n nf [(2, a0), (0, a1)] M (f_X7_namedAt M a0 a1) := by
  refine AM_of (by decide +kernel) (Nat.le_of_ble_eq_true rfl) (fun h => absurd h (Int.lt_irrefl n)) ?_
  show AW g true RX7 cX7_namedAt 2 (some (.object "BlindSide$Statement")) (0) n n nf 0 [(0, 2, a0), (1, 0, a1)] [] n M (f_X7_namedAt M a0 a1)
  unfold f_X7_namedAt
  refine r_iload_n 1 dX7_namedAt_0 rfl rfl ?_
  refine r_if_lt (tgt := 26) dX7_namedAt_1 rfl (fun h1 => ?_) (fun h2 => ?_)
  · refine r_null dX7_namedAt_26 ?_
    exact r_aret rfl rfl dX7_namedAt_27
  · refine r_iload_n 1 dX7_namedAt_4 rfl rfl ?_
    refine r_aload_n 0 dX7_namedAt_5 rfl rfl ?_
    refine r_gf (t := 0) (kz := 3) rfl hu dX7_namedAt_6 kF_X7_29 hk0 rfl rfl rfl ?_
    refine r_icmp_ge (tgt := 26) dX7_namedAt_9 rfl (fun h3 => ?_) (fun h4 => ?_)
    · refine r_null dX7_namedAt_26 ?_
      exact r_aret rfl rfl dX7_namedAt_27
    · refine r_aload_n 0 dX7_namedAt_12 rfl rfl ?_
      refine r_gx (kz := 0) rfl hu dX7_namedAt_13 kF_X7_11 hk0 rfl rfl rfl (fxS0 _ hk0) ?_
      refine r_aload_n 0 dX7_namedAt_16 rfl rfl ?_
      refine r_gx (kz := 2) rfl hu dX7_namedAt_17 kF_X7_17 hk0 rfl rfl rfl (fxS2 _ hk0) ?_
      refine r_iload_n 1 dX7_namedAt_20 rfl rfl ?_
      refine r_ok (fun h5 => ?_)
      refine r_iald hu dX7_namedAt_21 (kdS _ hk0).2.2.1 rfl (Or.inl rfl) rfl (kdS _ hk0).2.2.2.1 h5 ?_
      refine r_ok (fun h6 => ?_)
      refine r_aalx hu dX7_namedAt_22 (kdS _ hk0).1 (Or.inr (Or.inl rfl)) rfl (kdS _ hk0).2.1 h6 (fxSt _ hk0 _ h6) ?_
      refine r_goto (tgt := 27) dX7_namedAt_23 rfl ?_
      exact r_aret rfl rfl dX7_namedAt_27
theorem dX7_carriedBy_0 : decode cX7_carriedBy 0 = .ok (.aload_n 1, 1) := by decide +kernel
theorem dX7_carriedBy_1 : decode cX7_carriedBy 1 = .ok (.ifnonnull 5, 3) := by decide +kernel
theorem dX7_carriedBy_4 : decode cX7_carriedBy 4 = .ok (.iconst (-1), 1) := by decide +kernel
theorem dX7_carriedBy_5 : decode cX7_carriedBy 5 = .ok (.ireturn, 1) := by decide +kernel
theorem dX7_carriedBy_6 : decode cX7_carriedBy 6 = .ok (.aload_n 2, 1) := by decide +kernel
theorem dX7_carriedBy_7 : decode cX7_carriedBy 7 = .ok (.getfield 65, 3) := by decide +kernel
theorem dX7_carriedBy_10 : decode cX7_carriedBy 10 = .ok (.bipush 16, 2) := by decide +kernel
theorem dX7_carriedBy_12 : decode cX7_carriedBy 12 = .ok (.iaload, 1) := by decide +kernel
theorem dX7_carriedBy_13 : decode cX7_carriedBy 13 = .ok (.ifCond .eq 22, 3) := by decide +kernel
theorem dX7_carriedBy_16 : decode cX7_carriedBy 16 = .ok (.aload_n 2, 1) := by decide +kernel
theorem dX7_carriedBy_17 : decode cX7_carriedBy 17 = .ok (.aload_n 0, 1) := by decide +kernel
theorem dX7_carriedBy_18 : decode cX7_carriedBy 18 = .ok (.getfield 21, 3) := by decide +kernel
theorem dX7_carriedBy_21 : decode cX7_carriedBy 21 = .ok (.aload_n 1, 1) := by decide +kernel
theorem dX7_carriedBy_22 : decode cX7_carriedBy 22 = .ok (.getfield 50, 3) := by decide +kernel
theorem dX7_carriedBy_25 : decode cX7_carriedBy 25 = .ok (.aload_n 1, 1) := by decide +kernel
theorem dX7_carriedBy_26 : decode cX7_carriedBy 26 = .ok (.getfield 53, 3) := by decide +kernel
theorem dX7_carriedBy_29 : decode cX7_carriedBy 29 = .ok (.invokevirtual 56, 3) := by decide +kernel
theorem dX7_carriedBy_32 : decode cX7_carriedBy 32 = .ok (.ifCond .ne 5, 3) := by decide +kernel
theorem dX7_carriedBy_35 : decode cX7_carriedBy 35 = .ok (.iconst 0, 1) := by decide +kernel
theorem dX7_carriedBy_36 : decode cX7_carriedBy 36 = .ok (.ireturn, 1) := by decide +kernel
theorem dX7_carriedBy_37 : decode cX7_carriedBy 37 = .ok (.aload_n 2, 1) := by decide +kernel
theorem dX7_carriedBy_38 : decode cX7_carriedBy 38 = .ok (.aload_n 0, 1) := by decide +kernel
theorem dX7_carriedBy_39 : decode cX7_carriedBy 39 = .ok (.getfield 21, 3) := by decide +kernel
theorem dX7_carriedBy_42 : decode cX7_carriedBy 42 = .ok (.aload_n 1, 1) := by decide +kernel
theorem dX7_carriedBy_43 : decode cX7_carriedBy 43 = .ok (.getfield 62, 3) := by decide +kernel
theorem dX7_carriedBy_46 : decode cX7_carriedBy 46 = .ok (.aload_n 1, 1) := by decide +kernel
theorem dX7_carriedBy_47 : decode cX7_carriedBy 47 = .ok (.getfield 50, 3) := by decide +kernel
theorem dX7_carriedBy_50 : decode cX7_carriedBy 50 = .ok (.invokevirtual 56, 3) := by decide +kernel
theorem dX7_carriedBy_53 : decode cX7_carriedBy 53 = .ok (.iconst 0, 1) := by decide +kernel
theorem dX7_carriedBy_54 : decode cX7_carriedBy 54 = .ok (.bipush 100, 2) := by decide +kernel
theorem dX7_carriedBy_56 : decode cX7_carriedBy 56 = .ok (.invokestatic 68, 3) := by decide +kernel
theorem dX7_carriedBy_59 : decode cX7_carriedBy 59 = .ok (.ireturn, 1) := by decide +kernel
set_option maxRecDepth 100000 in
theorem m_X7_carriedBy {g : GT} {n nf : Int} (hu : Up true nf n) (M : Mem) (a0 a1 : Int) (hk0 : kd a0 = 17) : AM g true yX7_carriedBy cX7_carriedBy 3 (some .int) (3) n n nf [(2, a0), (2, a1), (2, 10)] M (f_X7_carriedBy M a0 a1) := by
  refine AM_of (by decide +kernel) (Nat.le_of_ble_eq_true rfl) (fun h => absurd h (Int.lt_irrefl n)) ?_
  show AW g true RX7 cX7_carriedBy 3 (some .int) (3) n n nf 0 [(0, 2, a0), (1, 2, a1), (2, 2, 10)] [] n M (f_X7_carriedBy M a0 a1)
  unfold f_X7_carriedBy
  refine r_aload_n 1 dX7_carriedBy_0 rfl rfl ?_
  refine r_ifnonnull (tgt := 6) dX7_carriedBy_1 rfl (fun h1 => ?_) (fun h2 => ?_)
  · refine r_iconst dX7_carriedBy_4 ⟨by decide, by decide⟩ ?_
    exact r_iret rfl rfl (Or.inl rfl) dX7_carriedBy_5
  · refine r_aload_n 2 dX7_carriedBy_6 rfl rfl ?_
    refine r_gx (kz := 0) rfl hu dX7_carriedBy_7 kF_X7_65 kd_10 rfl rfl rfl fx_10_0 ?_
    refine r_bipush dX7_carriedBy_10 (by decide) ⟨by decide, by decide⟩ ?_
    refine r_iald hu dX7_carriedBy_12 kd_11 rfl (Or.inl rfl) rfl ln_11 ⟨by decide, by decide⟩ ?_
    refine r_if_eq (tgt := 35) dX7_carriedBy_13 rfl (fun h3 => ?_) (fun h4 => ?_)
    · refine r_iconst dX7_carriedBy_35 ⟨by decide, by decide⟩ ?_
      exact r_iret rfl rfl (Or.inl rfl) dX7_carriedBy_36
    · refine r_aload_n 2 dX7_carriedBy_16 rfl rfl ?_
      refine r_aload_n 0 dX7_carriedBy_17 rfl rfl ?_
      refine r_gx (kz := 4) rfl hu dX7_carriedBy_18 kF_X7_21 hk0 rfl rfl rfl (fxS4 _ hk0) ?_
      refine r_aload_n 1 dX7_carriedBy_21 rfl rfl ?_
      refine r_ok (fun h5 => ?_)
      refine r_gf (t := 0) (kz := 7) rfl hu dX7_carriedBy_22 kF_X7_50 h5 rfl rfl rfl ?_
      refine r_aload_n 1 dX7_carriedBy_25 rfl rfl ?_
      refine r_gf (t := 0) (kz := 8) rfl hu dX7_carriedBy_26 kF_X7_53 h5 rfl rfl rfl ?_
      refine r_inv (a := 10) hu ⟨Nat.le_refl _, Nat.le_refl _⟩ dX7_carriedBy_29 kM_X7_56 (ci := 6) rfl kd_10 rfl rfl (by decide) (by decide) [(2, a0 + 3), (0, M a1 7), (0, M a1 8)] rfl (sk := []) rfl (Nat.le_of_ble_eq_true rfl) rfl rfl (m_X6_reckon hu M (a0 + 3) (M a1 7) (M a1 8) (kdS _ hk0).2.2.2.2.1 (kdS _ hk0).2.2.2.2.2) (fun r6 M7 => ?_)
      refine r_if_ne (tgt := 37) dX7_carriedBy_32 rfl (fun h8 => ?_) (fun h9 => ?_)
      · refine r_iconst dX7_carriedBy_35 ⟨by decide, by decide⟩ ?_
        exact r_iret rfl rfl (Or.inl rfl) dX7_carriedBy_36
      · refine r_aload_n 2 dX7_carriedBy_37 rfl rfl ?_
        refine r_aload_n 0 dX7_carriedBy_38 rfl rfl ?_
        refine r_gx (kz := 4) rfl hu dX7_carriedBy_39 kF_X7_21 hk0 rfl rfl rfl (fxS4 _ hk0) ?_
        refine r_aload_n 1 dX7_carriedBy_42 rfl rfl ?_
        refine r_gf (t := 0) (kz := 6) rfl hu dX7_carriedBy_43 kF_X7_62 h5 rfl rfl rfl ?_
        refine r_aload_n 1 dX7_carriedBy_46 rfl rfl ?_
        refine r_gf (t := 0) (kz := 7) rfl hu dX7_carriedBy_47 kF_X7_50 h5 rfl rfl rfl ?_
        refine r_inv (a := 10) hu ⟨Nat.le_refl _, Nat.le_refl _⟩ dX7_carriedBy_50 kM_X7_56 (ci := 6) rfl kd_10 rfl rfl (by decide) (by decide) [(2, a0 + 3), (0, M7 a1 6), (0, M7 a1 7)] rfl (sk := []) rfl (Nat.le_of_ble_eq_true rfl) rfl rfl (m_X6_reckon hu M7 (a0 + 3) (M7 a1 6) (M7 a1 7) (kdS _ hk0).2.2.2.2.1 (kdS _ hk0).2.2.2.2.2) (fun r10 M11 => ?_)
        refine r_iconst dX7_carriedBy_53 ⟨by decide, by decide⟩ ?_
        refine r_bipush dX7_carriedBy_54 (by decide) ⟨by decide, by decide⟩ ?_
        refine r_ins (a := 0) ⟨Nat.le_refl _, Nat.le_refl _⟩ dX7_carriedBy_56 kM_X7_68 (by decide) (by decide) [(0, r10), (0, 0), (0, 100)] rfl (sk := []) rfl (Nat.le_of_ble_eq_true rfl) rfl rfl (m_X11_clamped hu M11 r10 0 100) (fun r12 M13 => ?_)
        exact r_iret rfl rfl (Or.inl rfl) dX7_carriedBy_59
theorem dX7_carriedMost_0 : decode cX7_carriedMost 0 = .ok (.iconst 0, 1) := by decide +kernel
theorem dX7_carriedMost_1 : decode cX7_carriedMost 1 = .ok (.istore_n 3, 1) := by decide +kernel
theorem dX7_carriedMost_2 : decode cX7_carriedMost 2 = .ok (.iconst 0, 1) := by decide +kernel
theorem dX7_carriedMost_3 : decode cX7_carriedMost 3 = .ok (.istore 4, 2) := by decide +kernel
theorem dX7_carriedMost_5 : decode cX7_carriedMost 5 = .ok (.iload 4, 2) := by decide +kernel
theorem dX7_carriedMost_7 : decode cX7_carriedMost 7 = .ok (.aload_n 0, 1) := by decide +kernel
theorem dX7_carriedMost_8 : decode cX7_carriedMost 8 = .ok (.getfield 29, 3) := by decide +kernel
theorem dX7_carriedMost_11 : decode cX7_carriedMost 11 = .ok (.if_icmp .ge 47, 3) := by decide +kernel
theorem dX7_carriedMost_14 : decode cX7_carriedMost 14 = .ok (.aload_n 0, 1) := by decide +kernel
theorem dX7_carriedMost_15 : decode cX7_carriedMost 15 = .ok (.getfield 11, 3) := by decide +kernel
theorem dX7_carriedMost_18 : decode cX7_carriedMost 18 = .ok (.aload_n 0, 1) := by decide +kernel
theorem dX7_carriedMost_19 : decode cX7_carriedMost 19 = .ok (.getfield 17, 3) := by decide +kernel
theorem dX7_carriedMost_22 : decode cX7_carriedMost 22 = .ok (.iload 4, 2) := by decide +kernel
theorem dX7_carriedMost_24 : decode cX7_carriedMost 24 = .ok (.iaload, 1) := by decide +kernel
theorem dX7_carriedMost_25 : decode cX7_carriedMost 25 = .ok (.aaload, 1) := by decide +kernel
theorem dX7_carriedMost_26 : decode cX7_carriedMost 26 = .ok (.astore 5, 2) := by decide +kernel
theorem dX7_carriedMost_28 : decode cX7_carriedMost 28 = .ok (.aload 5, 2) := by decide +kernel
theorem dX7_carriedMost_30 : decode cX7_carriedMost 30 = .ok (.getfield 72, 3) := by decide +kernel
theorem dX7_carriedMost_33 : decode cX7_carriedMost 33 = .ok (.ifCond .ne 7, 3) := by decide +kernel
theorem dX7_carriedMost_36 : decode cX7_carriedMost 36 = .ok (.iload_n 2, 1) := by decide +kernel
theorem dX7_carriedMost_37 : decode cX7_carriedMost 37 = .ok (.ifCond .ne 15, 3) := by decide +kernel
theorem dX7_carriedMost_40 : decode cX7_carriedMost 40 = .ok (.iload_n 3, 1) := by decide +kernel
theorem dX7_carriedMost_41 : decode cX7_carriedMost 41 = .ok (.aload_n 0, 1) := by decide +kernel
theorem dX7_carriedMost_42 : decode cX7_carriedMost 42 = .ok (.aload 5, 2) := by decide +kernel
theorem dX7_carriedMost_44 : decode cX7_carriedMost 44 = .ok (.aload_n 1, 1) := by decide +kernel
theorem dX7_carriedMost_45 : decode cX7_carriedMost 45 = .ok (.invokevirtual 76, 3) := by decide +kernel
theorem dX7_carriedMost_48 : decode cX7_carriedMost 48 = .ok (.invokestatic 80, 3) := by decide +kernel
theorem dX7_carriedMost_51 : decode cX7_carriedMost 51 = .ok (.istore_n 3, 1) := by decide +kernel
theorem dX7_carriedMost_52 : decode cX7_carriedMost 52 = .ok (.iinc 4 1, 3) := by decide +kernel
theorem dX7_carriedMost_55 : decode cX7_carriedMost 55 = .ok (.goto (-50), 3) := by decide +kernel
theorem dX7_carriedMost_58 : decode cX7_carriedMost 58 = .ok (.iload_n 3, 1) := by decide +kernel
theorem dX7_carriedMost_59 : decode cX7_carriedMost 59 = .ok (.ireturn, 1) := by decide +kernel
set_option maxRecDepth 100000 in
theorem tj_X7_carriedMost_40 {g : GT} {n nf : Int} (hu : Up true nf n) (a0 a2 : Int) (hk0 : kd a0 = 17) (w5 : Mem → Int → Int → Res) (hw5 : ∀ (M : Mem) (x3 x4 : Int), AW g true RX7 cX7_carriedMost 6 (some .int) (4) n n nf 5 [(0, 2, a0), (1, 2, 10), (2, 0, a2), (3, 0, x3), (4, 0, x4)] [] n M (w5 M x3 x4)) (M : Mem) (x3 x4 x5 : Int) : AW g true RX7 cX7_carriedMost 6 (some .int) (4) n n nf 40 [(0, 2, a0), (1, 2, 10), (2, 0, a2), (3, 0, x3), (4, 0, x4), (5, 2, x5)] [] n M (j_X7_carriedMost_40 a0 a2 w5 M x3 x4 x5) := by
  unfold j_X7_carriedMost_40
  refine r_iload_n 3 dX7_carriedMost_40 rfl rfl ?_
  refine r_aload_n 0 dX7_carriedMost_41 rfl rfl ?_
  refine r_aload 5 dX7_carriedMost_42 rfl ?_
  refine r_aload_n 1 dX7_carriedMost_44 rfl rfl ?_
  refine r_inv (a := a0) hu ⟨Nat.le_refl _, Nat.le_refl _⟩ dX7_carriedMost_45 kM_X7_76 (ci := 7) rfl hk0 rfl rfl (by decide) (by decide) [(2, x5), (2, 10)] rfl (sk := [(0, x3)]) rfl (Nat.le_of_ble_eq_true rfl) rfl rfl (m_X7_carriedBy hu M a0 x5 hk0) (fun r11 M12 => ?_)
  refine r_ins (a := 0) ⟨Nat.le_refl _, Nat.le_refl _⟩ dX7_carriedMost_48 kM_X7_80 (by decide) (by decide) [(0, x3), (0, r11)] rfl (sk := []) rfl (Nat.le_of_ble_eq_true rfl) rfl rfl (m_J9_max_7cf53 hu M12 x3 r11) (fun r13 M14 => ?_)
  refine r_istore_n dX7_carriedMost_51 rfl (by decide) (ls' := [(3, 0, r13), (0, 2, a0), (1, 2, 10), (2, 0, a2), (4, 0, x4), (5, 2, x5)]) rfl ?_
  refine r_ok (fun h15 => ?_)
  refine r_iincB 4 dX7_carriedMost_52 rfl h15 (by decide) (lf := fun y16 => [(4, 0, y16), (3, 0, r13), (0, 2, a0), (1, 2, 10), (2, 0, a2), (5, 2, x5)]) (fun _ => rfl) (fun y16 ey16 => ?_)
  refine r_goto (tgt := 5) dX7_carriedMost_55 rfl ?_
  refine r_sub [2, 3, 4, 1, 0] (ls' := [(0, 2, a0), (1, 2, 10), (2, 0, a2), (3, 0, r13), (4, 0, y16)]) rfl ?_
  exact hw5 M14 r13 y16
set_option maxRecDepth 100000 in
theorem tb_X7_carriedMost_5 {g : GT} {n nf : Int} (hu : Up true nf n) (a0 a2 : Int) (hk0 : kd a0 = 17) (w5 : Mem → Int → Int → Res) (hw5 : ∀ (M : Mem) (x3 x4 : Int), AW g true RX7 cX7_carriedMost 6 (some .int) (4) n n nf 5 [(0, 2, a0), (1, 2, 10), (2, 0, a2), (3, 0, x3), (4, 0, x4)] [] n M (w5 M x3 x4)) (M : Mem) (x3 x4 : Int) : AW g true RX7 cX7_carriedMost 6 (some .int) (4) n n nf 5 [(0, 2, a0), (1, 2, 10), (2, 0, a2), (3, 0, x3), (4, 0, x4)] [] n M (b_X7_carriedMost_5 a0 a2 w5 M x3 x4) := by
  unfold b_X7_carriedMost_5
  refine r_iload 4 dX7_carriedMost_5 rfl ?_
  refine r_aload_n 0 dX7_carriedMost_7 rfl rfl ?_
  refine r_gf (t := 0) (kz := 3) rfl hu dX7_carriedMost_8 kF_X7_29 hk0 rfl rfl rfl ?_
  refine r_icmp_ge (tgt := 58) dX7_carriedMost_11 rfl (fun h1 => ?_) (fun h2 => ?_)
  · refine r_iload_n 3 dX7_carriedMost_58 rfl rfl ?_
    exact r_iret rfl rfl (Or.inl rfl) dX7_carriedMost_59
  · refine r_aload_n 0 dX7_carriedMost_14 rfl rfl ?_
    refine r_gx (kz := 0) rfl hu dX7_carriedMost_15 kF_X7_11 hk0 rfl rfl rfl (fxS0 _ hk0) ?_
    refine r_aload_n 0 dX7_carriedMost_18 rfl rfl ?_
    refine r_gx (kz := 2) rfl hu dX7_carriedMost_19 kF_X7_17 hk0 rfl rfl rfl (fxS2 _ hk0) ?_
    refine r_iload 4 dX7_carriedMost_22 rfl ?_
    refine r_ok (fun h3 => ?_)
    refine r_iald hu dX7_carriedMost_24 (kdS _ hk0).2.2.1 rfl (Or.inl rfl) rfl (kdS _ hk0).2.2.2.1 h3 ?_
    refine r_ok (fun h4 => ?_)
    refine r_aalx hu dX7_carriedMost_25 (kdS _ hk0).1 (Or.inr (Or.inl rfl)) rfl (kdS _ hk0).2.1 h4 (fxSt _ hk0 _ h4) ?_
    refine r_astoreB dX7_carriedMost_26 (by decide) (lf := fun y5 => [(5, 2, y5), (0, 2, a0), (1, 2, 10), (2, 0, a2), (3, 0, x3), (4, 0, x4)]) (fun _ => rfl) (fun y5 ey5 => ?_)
    refine r_aload 0 dX7_carriedMost_28 rfl ?_
    refine r_ok (fun h6 => ?_)
    refine r_gf (t := 0) (kz := 5) rfl hu dX7_carriedMost_30 kF_X7_72 h6 rfl rfl rfl ?_
    refine r_if_ne (tgt := 40) dX7_carriedMost_33 rfl (fun h7 => ?_) (fun h8 => ?_)
    · refine r_iload_n 3 dX7_carriedMost_36 rfl rfl ?_
      refine r_if_ne (tgt := 52) dX7_carriedMost_37 rfl (fun h9 => ?_) (fun h10 => ?_)
      · refine r_sub [1, 2, 3, 4, 5, 0] (ls' := [(0, 2, a0), (1, 2, 10), (2, 0, a2), (3, 0, x3), (4, 0, x4), (5, 2, y5)]) rfl ?_
        exact tj_X7_carriedMost_40 hu a0 a2 hk0 w5 hw5 M x3 x4 y5
      · refine r_iincB 5 dX7_carriedMost_52 rfl ⟨by have := h3; omega, by have := h3; omega⟩ (by decide) (lf := fun y17 => [(4, 0, y17), (5, 2, y5), (0, 2, a0), (1, 2, 10), (2, 0, a2), (3, 0, x3)]) (fun _ => rfl) (fun y17 ey17 => ?_)
        refine r_goto (tgt := 5) dX7_carriedMost_55 rfl ?_
        refine r_sub [2, 3, 4, 5, 0] (ls' := [(0, 2, a0), (1, 2, 10), (2, 0, a2), (3, 0, x3), (4, 0, y17)]) rfl ?_
        exact hw5 M x3 y17
    · refine r_sub [1, 2, 3, 4, 5, 0] (ls' := [(0, 2, a0), (1, 2, 10), (2, 0, a2), (3, 0, x3), (4, 0, x4), (5, 2, y5)]) rfl ?_
      exact tj_X7_carriedMost_40 hu a0 a2 hk0 w5 hw5 M x3 x4 y5
set_option maxRecDepth 100000 in
theorem m_X7_carriedMost {g : GT} {n nf : Int} (hu : Up true nf n) (M : Mem) (a0 a2 : Int) (hk0 : kd a0 = 17) : AM g true yX7_carriedMost cX7_carriedMost 6 (some .int) (4) n n nf [(2, a0), (2, 10), (0, a2)] M (f_X7_carriedMost M a0 a2) := by
  refine AM_of (by decide +kernel) (Nat.le_of_ble_eq_true rfl) (fun h => absurd h (Int.lt_irrefl n)) ?_
  show AW g true RX7 cX7_carriedMost 6 (some .int) (4) n n nf 0 [(0, 2, a0), (1, 2, 10), (2, 0, a2)] [] n M (f_X7_carriedMost M a0 a2)
  unfold f_X7_carriedMost
  refine r_iconst dX7_carriedMost_0 ⟨by decide, by decide⟩ ?_
  refine r_istore_n dX7_carriedMost_1 rfl (by decide) (ls' := [(3, 0, 0), (0, 2, a0), (1, 2, 10), (2, 0, a2)]) rfl ?_
  refine r_iconst dX7_carriedMost_2 ⟨by decide, by decide⟩ ?_
  refine r_istore dX7_carriedMost_3 (by decide) (ls' := [(4, 0, 0), (3, 0, 0), (0, 2, a0), (1, 2, 10), (2, 0, a2)]) rfl ?_
  refine r_sub [2, 3, 4, 1, 0] (ls' := [(0, 2, a0), (1, 2, 10), (2, 0, a2), (3, 0, 0), (4, 0, 0)]) rfl ?_
  exact wl2_aw (P := fun M x3 x4 o => AW g true RX7 cX7_carriedMost 6 (some .int) (4) n n nf 5 [(0, 2, a0), (1, 2, 10), (2, 0, a2), (3, 0, x3), (4, 0, x4)] [] n M (o)) (fun M x3 x4 => aw_none) (fun w hw M x3 x4 => tb_X7_carriedMost_5 hu a0 a2 hk0 w hw M x3 x4) FU M 0 0
theorem dX7_carriersBy_0 : decode cX7_carriersBy 0 = .ok (.iconst 0, 1) := by decide +kernel
theorem dX7_carriersBy_1 : decode cX7_carriersBy 1 = .ok (.istore_n 2, 1) := by decide +kernel
theorem dX7_carriersBy_2 : decode cX7_carriersBy 2 = .ok (.iconst 0, 1) := by decide +kernel
theorem dX7_carriersBy_3 : decode cX7_carriersBy 3 = .ok (.istore_n 3, 1) := by decide +kernel
theorem dX7_carriersBy_4 : decode cX7_carriersBy 4 = .ok (.iload_n 3, 1) := by decide +kernel
theorem dX7_carriersBy_5 : decode cX7_carriersBy 5 = .ok (.aload_n 0, 1) := by decide +kernel
theorem dX7_carriersBy_6 : decode cX7_carriersBy 6 = .ok (.getfield 29, 3) := by decide +kernel
theorem dX7_carriersBy_9 : decode cX7_carriersBy 9 = .ok (.if_icmp .ge 38, 3) := by decide +kernel
theorem dX7_carriersBy_12 : decode cX7_carriersBy 12 = .ok (.iload_n 2, 1) := by decide +kernel
theorem dX7_carriersBy_13 : decode cX7_carriersBy 13 = .ok (.aload_n 0, 1) := by decide +kernel
theorem dX7_carriersBy_14 : decode cX7_carriersBy 14 = .ok (.aload_n 0, 1) := by decide +kernel
theorem dX7_carriersBy_15 : decode cX7_carriersBy 15 = .ok (.getfield 11, 3) := by decide +kernel
theorem dX7_carriersBy_18 : decode cX7_carriersBy 18 = .ok (.aload_n 0, 1) := by decide +kernel
theorem dX7_carriersBy_19 : decode cX7_carriersBy 19 = .ok (.getfield 17, 3) := by decide +kernel
theorem dX7_carriersBy_22 : decode cX7_carriersBy 22 = .ok (.iload_n 3, 1) := by decide +kernel
theorem dX7_carriersBy_23 : decode cX7_carriersBy 23 = .ok (.iaload, 1) := by decide +kernel
theorem dX7_carriersBy_24 : decode cX7_carriersBy 24 = .ok (.aaload, 1) := by decide +kernel
theorem dX7_carriersBy_25 : decode cX7_carriersBy 25 = .ok (.aload_n 1, 1) := by decide +kernel
theorem dX7_carriersBy_26 : decode cX7_carriersBy 26 = .ok (.invokevirtual 76, 3) := by decide +kernel
theorem dX7_carriersBy_29 : decode cX7_carriersBy 29 = .ok (.ifCond .le 9, 3) := by decide +kernel
theorem dX7_carriersBy_32 : decode cX7_carriersBy 32 = .ok (.iconst 1, 1) := by decide +kernel
theorem dX7_carriersBy_33 : decode cX7_carriersBy 33 = .ok (.iload_n 3, 1) := by decide +kernel
theorem dX7_carriersBy_34 : decode cX7_carriersBy 34 = .ok (.ishl, 1) := by decide +kernel
theorem dX7_carriersBy_35 : decode cX7_carriersBy 35 = .ok (.goto 4, 3) := by decide +kernel
theorem dX7_carriersBy_38 : decode cX7_carriersBy 38 = .ok (.iconst 0, 1) := by decide +kernel
theorem dX7_carriersBy_39 : decode cX7_carriersBy 39 = .ok (.ior, 1) := by decide +kernel
theorem dX7_carriersBy_40 : decode cX7_carriersBy 40 = .ok (.istore_n 2, 1) := by decide +kernel
theorem dX7_carriersBy_41 : decode cX7_carriersBy 41 = .ok (.iinc 3 1, 3) := by decide +kernel
theorem dX7_carriersBy_44 : decode cX7_carriersBy 44 = .ok (.goto (-40), 3) := by decide +kernel
theorem dX7_carriersBy_47 : decode cX7_carriersBy 47 = .ok (.iload_n 2, 1) := by decide +kernel
theorem dX7_carriersBy_48 : decode cX7_carriersBy 48 = .ok (.ireturn, 1) := by decide +kernel
set_option maxRecDepth 100000 in
theorem tb_X7_carriersBy_4 {g : GT} {n nf : Int} (hu : Up true nf n) (a0 : Int) (hk0 : kd a0 = 17) (w4 : Mem → Int → Int → Res) (hw4 : ∀ (M : Mem) (x2 x3 : Int), AW g true RX7 cX7_carriersBy 4 (some .int) (4) n n nf 4 [(0, 2, a0), (1, 2, 10), (2, 0, x2), (3, 0, x3)] [] n M (w4 M x2 x3)) (M : Mem) (x2 x3 : Int) : AW g true RX7 cX7_carriersBy 4 (some .int) (4) n n nf 4 [(0, 2, a0), (1, 2, 10), (2, 0, x2), (3, 0, x3)] [] n M (b_X7_carriersBy_4 a0 w4 M x2 x3) := by
  unfold b_X7_carriersBy_4
  refine r_iload_n 3 dX7_carriersBy_4 rfl rfl ?_
  refine r_aload_n 0 dX7_carriersBy_5 rfl rfl ?_
  refine r_gf (t := 0) (kz := 3) rfl hu dX7_carriersBy_6 kF_X7_29 hk0 rfl rfl rfl ?_
  refine r_icmp_ge (tgt := 47) dX7_carriersBy_9 rfl (fun h1 => ?_) (fun h2 => ?_)
  · refine r_iload_n 2 dX7_carriersBy_47 rfl rfl ?_
    exact r_iret rfl rfl (Or.inl rfl) dX7_carriersBy_48
  · refine r_iload_n 2 dX7_carriersBy_12 rfl rfl ?_
    refine r_aload_n 0 dX7_carriersBy_13 rfl rfl ?_
    refine r_aload_n 0 dX7_carriersBy_14 rfl rfl ?_
    refine r_gx (kz := 0) rfl hu dX7_carriersBy_15 kF_X7_11 hk0 rfl rfl rfl (fxS0 _ hk0) ?_
    refine r_aload_n 0 dX7_carriersBy_18 rfl rfl ?_
    refine r_gx (kz := 2) rfl hu dX7_carriersBy_19 kF_X7_17 hk0 rfl rfl rfl (fxS2 _ hk0) ?_
    refine r_iload_n 3 dX7_carriersBy_22 rfl rfl ?_
    refine r_ok (fun h3 => ?_)
    refine r_iald hu dX7_carriersBy_23 (kdS _ hk0).2.2.1 rfl (Or.inl rfl) rfl (kdS _ hk0).2.2.2.1 h3 ?_
    refine r_ok (fun h4 => ?_)
    refine r_aalx hu dX7_carriersBy_24 (kdS _ hk0).1 (Or.inr (Or.inl rfl)) rfl (kdS _ hk0).2.1 h4 (fxSt _ hk0 _ h4) ?_
    refine r_aload_n 1 dX7_carriersBy_25 rfl rfl ?_
    refine r_inv (a := a0) hu ⟨Nat.le_refl _, Nat.le_refl _⟩ dX7_carriersBy_26 kM_X7_76 (ci := 7) rfl hk0 rfl rfl (by decide) (by decide) [(2, a0 + 4 + (M (a0 + 2) x3)), (2, 10)] rfl (sk := [(0, x2)]) rfl (Nat.le_of_ble_eq_true rfl) rfl rfl (m_X7_carriedBy hu M a0 (a0 + 4 + (M (a0 + 2) x3)) hk0) (fun r5 M6 => ?_)
    refine r_if_le (tgt := 38) dX7_carriersBy_29 rfl (fun h7 => ?_) (fun h8 => ?_)
    · refine r_iconst dX7_carriersBy_38 ⟨by decide, by decide⟩ ?_
      refine r_ior dX7_carriersBy_39 ?_
      refine r_istore_nB dX7_carriersBy_40 rfl (by decide) (lf := fun y9 => [(2, 0, y9), (0, 2, a0), (1, 2, 10), (3, 0, x3)]) (fun _ => rfl) (fun y9 ey9 => ?_)
      refine r_iincB 3 dX7_carriersBy_41 rfl ⟨by have := h3; omega, by have := h3; omega⟩ (by decide) (lf := fun y10 => [(3, 0, y10), (2, 0, y9), (0, 2, a0), (1, 2, 10)]) (fun _ => rfl) (fun y10 ey10 => ?_)
      refine r_goto (tgt := 4) dX7_carriersBy_44 rfl ?_
      refine r_sub [2, 3, 1, 0] (ls' := [(0, 2, a0), (1, 2, 10), (2, 0, y9), (3, 0, y10)]) rfl ?_
      exact hw4 M6 y9 y10
    · refine r_iconst dX7_carriersBy_32 ⟨by decide, by decide⟩ ?_
      refine r_iload_n 3 dX7_carriersBy_33 rfl rfl ?_
      refine r_ishl dX7_carriersBy_34 ?_
      refine r_goto (tgt := 39) dX7_carriersBy_35 rfl ?_
      refine r_ior dX7_carriersBy_39 ?_
      refine r_istore_nB dX7_carriersBy_40 rfl (by decide) (lf := fun y11 => [(2, 0, y11), (0, 2, a0), (1, 2, 10), (3, 0, x3)]) (fun _ => rfl) (fun y11 ey11 => ?_)
      refine r_iincB 3 dX7_carriersBy_41 rfl ⟨by have := h3; omega, by have := h3; omega⟩ (by decide) (lf := fun y12 => [(3, 0, y12), (2, 0, y11), (0, 2, a0), (1, 2, 10)]) (fun _ => rfl) (fun y12 ey12 => ?_)
      refine r_goto (tgt := 4) dX7_carriersBy_44 rfl ?_
      refine r_sub [2, 3, 1, 0] (ls' := [(0, 2, a0), (1, 2, 10), (2, 0, y11), (3, 0, y12)]) rfl ?_
      exact hw4 M6 y11 y12
set_option maxRecDepth 100000 in
theorem m_X7_carriersBy {g : GT} {n nf : Int} (hu : Up true nf n) (M : Mem) (a0 : Int) (hk0 : kd a0 = 17) : AM g true yX7_carriersBy cX7_carriersBy 4 (some .int) (4) n n nf [(2, a0), (2, 10)] M (f_X7_carriersBy M a0) := by
  refine AM_of (by decide +kernel) (Nat.le_of_ble_eq_true rfl) (fun h => absurd h (Int.lt_irrefl n)) ?_
  show AW g true RX7 cX7_carriersBy 4 (some .int) (4) n n nf 0 [(0, 2, a0), (1, 2, 10)] [] n M (f_X7_carriersBy M a0)
  unfold f_X7_carriersBy
  refine r_iconst dX7_carriersBy_0 ⟨by decide, by decide⟩ ?_
  refine r_istore_n dX7_carriersBy_1 rfl (by decide) (ls' := [(2, 0, 0), (0, 2, a0), (1, 2, 10)]) rfl ?_
  refine r_iconst dX7_carriersBy_2 ⟨by decide, by decide⟩ ?_
  refine r_istore_n dX7_carriersBy_3 rfl (by decide) (ls' := [(3, 0, 0), (2, 0, 0), (0, 2, a0), (1, 2, 10)]) rfl ?_
  refine r_sub [2, 3, 1, 0] (ls' := [(0, 2, a0), (1, 2, 10), (2, 0, 0), (3, 0, 0)]) rfl ?_
  exact wl2_aw (P := fun M x2 x3 o => AW g true RX7 cX7_carriersBy 4 (some .int) (4) n n nf 4 [(0, 2, a0), (1, 2, 10), (2, 0, x2), (3, 0, x3)] [] n M (o)) (fun M x2 x3 => aw_none) (fun w hw M x2 x3 => tb_X7_carriersBy_4 hu a0 hk0 w hw M x2 x3) FU M 0 0
theorem dX7_lineBy_0 : decode cX7_lineBy 0 = .ok (.aload_n 0, 1) := by decide +kernel
theorem dX7_lineBy_1 : decode cX7_lineBy 1 = .ok (.bipush 6, 2) := by decide +kernel
theorem dX7_lineBy_3 : decode cX7_lineBy 3 = .ok (.aload_n 1, 1) := by decide +kernel
theorem dX7_lineBy_4 : decode cX7_lineBy 4 = .ok (.bipush 101, 2) := by decide +kernel
theorem dX7_lineBy_6 : decode cX7_lineBy 6 = .ok (.invokevirtual 83, 3) := by decide +kernel
theorem dX7_lineBy_9 : decode cX7_lineBy 9 = .ok (.iconst 0, 1) := by decide +kernel
theorem dX7_lineBy_10 : decode cX7_lineBy 10 = .ok (.bipush 101, 2) := by decide +kernel
theorem dX7_lineBy_12 : decode cX7_lineBy 12 = .ok (.invokestatic 68, 3) := by decide +kernel
theorem dX7_lineBy_15 : decode cX7_lineBy 15 = .ok (.ireturn, 1) := by decide +kernel
set_option maxRecDepth 100000 in
theorem m_X7_lineBy {g : GT} {n nf : Int} (hu : Up true nf n) (M : Mem) (a0 : Int) (hk0 : kd a0 = 17) : AM g true yX7_lineBy cX7_lineBy 2 (some .int) (4) n n nf [(2, a0), (2, 10)] M (f_X7_lineBy M a0) := by
  refine AM_of (by decide +kernel) (Nat.le_of_ble_eq_true rfl) (fun h => absurd h (Int.lt_irrefl n)) ?_
  show AW g true RX7 cX7_lineBy 2 (some .int) (4) n n nf 0 [(0, 2, a0), (1, 2, 10)] [] n M (f_X7_lineBy M a0)
  unfold f_X7_lineBy
  refine r_aload_n 0 dX7_lineBy_0 rfl rfl ?_
  refine r_bipush dX7_lineBy_1 (by decide) ⟨by decide, by decide⟩ ?_
  refine r_aload_n 1 dX7_lineBy_3 rfl rfl ?_
  refine r_bipush dX7_lineBy_4 (by decide) ⟨by decide, by decide⟩ ?_
  refine r_inv (a := a0) hu ⟨Nat.le_refl _, Nat.le_refl _⟩ dX7_lineBy_6 kM_X7_83 (ci := 7) rfl hk0 rfl rfl (by decide) (by decide) [(0, 6), (2, 10), (0, 101)] rfl (sk := []) rfl (Nat.le_of_ble_eq_true rfl) rfl rfl (m_X7_firstSum hu M a0 6 101 hk0) (fun r1 M2 => ?_)
  refine r_iconst dX7_lineBy_9 ⟨by decide, by decide⟩ ?_
  refine r_bipush dX7_lineBy_10 (by decide) ⟨by decide, by decide⟩ ?_
  refine r_ins (a := 0) ⟨Nat.le_refl _, Nat.le_refl _⟩ dX7_lineBy_12 kM_X7_68 (by decide) (by decide) [(0, r1), (0, 0), (0, 101)] rfl (sk := []) rfl (Nat.le_of_ble_eq_true rfl) rfl rfl (m_X11_clamped hu M2 r1 0 101) (fun r3 M4 => ?_)
  exact r_iret rfl rfl (Or.inl rfl) dX7_lineBy_15
theorem dX7_saysBy_0 : decode cX7_saysBy 0 = .ok (.aload_n 0, 1) := by decide +kernel
theorem dX7_saysBy_1 : decode cX7_saysBy 1 = .ok (.aload_n 1, 1) := by decide +kernel
theorem dX7_saysBy_2 : decode cX7_saysBy 2 = .ok (.iconst 1, 1) := by decide +kernel
theorem dX7_saysBy_3 : decode cX7_saysBy 3 = .ok (.invokevirtual 87, 3) := by decide +kernel
theorem dX7_saysBy_6 : decode cX7_saysBy 6 = .ok (.aload_n 0, 1) := by decide +kernel
theorem dX7_saysBy_7 : decode cX7_saysBy 7 = .ok (.aload_n 1, 1) := by decide +kernel
theorem dX7_saysBy_8 : decode cX7_saysBy 8 = .ok (.invokevirtual 91, 3) := by decide +kernel
theorem dX7_saysBy_11 : decode cX7_saysBy 11 = .ok (.if_icmp .lt 7, 3) := by decide +kernel
theorem dX7_saysBy_14 : decode cX7_saysBy 14 = .ok (.iconst 1, 1) := by decide +kernel
theorem dX7_saysBy_15 : decode cX7_saysBy 15 = .ok (.goto 4, 3) := by decide +kernel
theorem dX7_saysBy_18 : decode cX7_saysBy 18 = .ok (.iconst 0, 1) := by decide +kernel
theorem dX7_saysBy_19 : decode cX7_saysBy 19 = .ok (.ireturn, 1) := by decide +kernel
set_option maxRecDepth 100000 in
theorem m_X7_saysBy {g : GT} {n nf : Int} (hu : Up true nf n) (M : Mem) (a0 : Int) (hk0 : kd a0 = 17) : AM g true yX7_saysBy cX7_saysBy 2 (some .boolean) (5) n n nf [(2, a0), (2, 10)] M (f_X7_saysBy M a0) := by
  refine AM_of (by decide +kernel) (Nat.le_of_ble_eq_true rfl) (fun h => absurd h (Int.lt_irrefl n)) ?_
  show AW g true RX7 cX7_saysBy 2 (some .boolean) (5) n n nf 0 [(0, 2, a0), (1, 2, 10)] [] n M (f_X7_saysBy M a0)
  unfold f_X7_saysBy
  refine r_aload_n 0 dX7_saysBy_0 rfl rfl ?_
  refine r_aload_n 1 dX7_saysBy_1 rfl rfl ?_
  refine r_iconst dX7_saysBy_2 ⟨by decide, by decide⟩ ?_
  refine r_inv (a := a0) hu ⟨Nat.le_refl _, Nat.le_refl _⟩ dX7_saysBy_3 kM_X7_87 (ci := 7) rfl hk0 rfl rfl (by decide) (by decide) [(2, 10), (0, 1)] rfl (sk := []) rfl (Nat.le_of_ble_eq_true rfl) rfl rfl (m_X7_carriedMost hu M a0 1 hk0) (fun r1 M2 => ?_)
  refine r_aload_n 0 dX7_saysBy_6 rfl rfl ?_
  refine r_aload_n 1 dX7_saysBy_7 rfl rfl ?_
  refine r_inv (a := a0) hu ⟨Nat.le_refl _, Nat.le_refl _⟩ dX7_saysBy_8 kM_X7_91 (ci := 7) rfl hk0 rfl rfl (by decide) (by decide) [(2, 10)] rfl (sk := [(0, r1)]) rfl (Nat.le_of_ble_eq_true rfl) rfl rfl (m_X7_lineBy hu M2 a0 hk0) (fun r3 M4 => ?_)
  refine r_icmp_lt (tgt := 18) dX7_saysBy_11 rfl (fun h5 => ?_) (fun h6 => ?_)
  · refine r_iconst dX7_saysBy_18 ⟨by decide, by decide⟩ ?_
    exact r_iret rfl rfl (Or.inr ⟨rfl, Or.inl rfl⟩) dX7_saysBy_19
  · refine r_iconst dX7_saysBy_14 ⟨by decide, by decide⟩ ?_
    refine r_goto (tgt := 19) dX7_saysBy_15 rfl ?_
    exact r_iret rfl rfl (Or.inr ⟨rfl, Or.inr rfl⟩) dX7_saysBy_19
theorem dX7_showsWithin_0 : decode cX7_showsWithin 0 = .ok (.iload_n 1, 1) := by decide +kernel
theorem dX7_showsWithin_1 : decode cX7_showsWithin 1 = .ok (.iconst 1, 1) := by decide +kernel
theorem dX7_showsWithin_2 : decode cX7_showsWithin 2 = .ok (.iadd, 1) := by decide +kernel
theorem dX7_showsWithin_3 : decode cX7_showsWithin 3 = .ok (.istore_n 2, 1) := by decide +kernel
theorem dX7_showsWithin_4 : decode cX7_showsWithin 4 = .ok (.iload_n 2, 1) := by decide +kernel
theorem dX7_showsWithin_5 : decode cX7_showsWithin 5 = .ok (.aload_n 0, 1) := by decide +kernel
theorem dX7_showsWithin_6 : decode cX7_showsWithin 6 = .ok (.getfield 11, 3) := by decide +kernel
theorem dX7_showsWithin_9 : decode cX7_showsWithin 9 = .ok (.iload_n 1, 1) := by decide +kernel
theorem dX7_showsWithin_10 : decode cX7_showsWithin 10 = .ok (.aaload, 1) := by decide +kernel
theorem dX7_showsWithin_11 : decode cX7_showsWithin 11 = .ok (.getfield 44, 3) := by decide +kernel
theorem dX7_showsWithin_14 : decode cX7_showsWithin 14 = .ok (.if_icmp .ge 33, 3) := by decide +kernel
theorem dX7_showsWithin_17 : decode cX7_showsWithin 17 = .ok (.iload_n 2, 1) := by decide +kernel
theorem dX7_showsWithin_18 : decode cX7_showsWithin 18 = .ok (.aload_n 0, 1) := by decide +kernel
theorem dX7_showsWithin_19 : decode cX7_showsWithin 19 = .ok (.getfield 25, 3) := by decide +kernel
theorem dX7_showsWithin_22 : decode cX7_showsWithin 22 = .ok (.if_icmp .ge 25, 3) := by decide +kernel
theorem dX7_showsWithin_25 : decode cX7_showsWithin 25 = .ok (.aload_n 0, 1) := by decide +kernel
theorem dX7_showsWithin_26 : decode cX7_showsWithin 26 = .ok (.getfield 11, 3) := by decide +kernel
theorem dX7_showsWithin_29 : decode cX7_showsWithin 29 = .ok (.iload_n 2, 1) := by decide +kernel
theorem dX7_showsWithin_30 : decode cX7_showsWithin 30 = .ok (.aaload, 1) := by decide +kernel
theorem dX7_showsWithin_31 : decode cX7_showsWithin 31 = .ok (.getfield 41, 3) := by decide +kernel
theorem dX7_showsWithin_34 : decode cX7_showsWithin 34 = .ok (.bipush 7, 2) := by decide +kernel
theorem dX7_showsWithin_36 : decode cX7_showsWithin 36 = .ok (.if_icmp .ne 5, 3) := by decide +kernel
theorem dX7_showsWithin_39 : decode cX7_showsWithin 39 = .ok (.iconst 1, 1) := by decide +kernel
theorem dX7_showsWithin_40 : decode cX7_showsWithin 40 = .ok (.ireturn, 1) := by decide +kernel
theorem dX7_showsWithin_41 : decode cX7_showsWithin 41 = .ok (.iinc 2 1, 3) := by decide +kernel
theorem dX7_showsWithin_44 : decode cX7_showsWithin 44 = .ok (.goto (-40), 3) := by decide +kernel
theorem dX7_showsWithin_47 : decode cX7_showsWithin 47 = .ok (.iconst 0, 1) := by decide +kernel
theorem dX7_showsWithin_48 : decode cX7_showsWithin 48 = .ok (.ireturn, 1) := by decide +kernel
set_option maxRecDepth 100000 in
theorem tb_X7_showsWithin_4 {g : GT} {n nf : Int} (hu : Up true nf n) (a0 a1 : Int) (hk0 : kd a0 = 17) (w4 : Mem → Int → Res) (hw4 : ∀ (M : Mem) (x2 : Int), AW g true RX7 cX7_showsWithin 3 (some .boolean) (0) n n nf 4 [(0, 2, a0), (1, 0, a1), (2, 0, x2)] [] n M (w4 M x2)) (M : Mem) (x2 : Int) : AW g true RX7 cX7_showsWithin 3 (some .boolean) (0) n n nf 4 [(0, 2, a0), (1, 0, a1), (2, 0, x2)] [] n M (b_X7_showsWithin_4 a0 a1 w4 M x2) := by
  unfold b_X7_showsWithin_4
  refine r_iload_n 2 dX7_showsWithin_4 rfl rfl ?_
  refine r_aload_n 0 dX7_showsWithin_5 rfl rfl ?_
  refine r_gx (kz := 0) rfl hu dX7_showsWithin_6 kF_X7_11 hk0 rfl rfl rfl (fxS0 _ hk0) ?_
  refine r_iload_n 1 dX7_showsWithin_9 rfl rfl ?_
  refine r_ok (fun h3 => ?_)
  refine r_aalx hu dX7_showsWithin_10 (kdS _ hk0).1 (Or.inr (Or.inl rfl)) rfl (kdS _ hk0).2.1 h3 (fxSt _ hk0 _ h3) ?_
  refine r_gf (t := 0) (kz := 9) rfl hu dX7_showsWithin_11 kF_X7_44 (kdSt _ hk0 _ h3) rfl rfl rfl ?_
  refine r_icmp_ge (tgt := 47) dX7_showsWithin_14 rfl (fun h4 => ?_) (fun h5 => ?_)
  · refine r_iconst dX7_showsWithin_47 ⟨by decide, by decide⟩ ?_
    exact r_iret rfl rfl (Or.inr ⟨rfl, Or.inl rfl⟩) dX7_showsWithin_48
  · refine r_iload_n 2 dX7_showsWithin_17 rfl rfl ?_
    refine r_aload_n 0 dX7_showsWithin_18 rfl rfl ?_
    refine r_gf (t := 0) (kz := 1) rfl hu dX7_showsWithin_19 kF_X7_25 hk0 rfl rfl rfl ?_
    refine r_icmp_ge (tgt := 47) dX7_showsWithin_22 rfl (fun h6 => ?_) (fun h7 => ?_)
    · refine r_iconst dX7_showsWithin_47 ⟨by decide, by decide⟩ ?_
      exact r_iret rfl rfl (Or.inr ⟨rfl, Or.inl rfl⟩) dX7_showsWithin_48
    · refine r_aload_n 0 dX7_showsWithin_25 rfl rfl ?_
      refine r_gx (kz := 0) rfl hu dX7_showsWithin_26 kF_X7_11 hk0 rfl rfl rfl (fxS0 _ hk0) ?_
      refine r_iload_n 2 dX7_showsWithin_29 rfl rfl ?_
      refine r_ok (fun h8 => ?_)
      refine r_aalx hu dX7_showsWithin_30 (kdS _ hk0).1 (Or.inr (Or.inl rfl)) rfl (kdS _ hk0).2.1 h8 (fxSt _ hk0 _ h8) ?_
      refine r_gf (t := 0) (kz := 0) rfl hu dX7_showsWithin_31 kF_X7_41 (kdSt _ hk0 _ h8) rfl rfl rfl ?_
      refine r_bipush dX7_showsWithin_34 (by decide) ⟨by decide, by decide⟩ ?_
      refine r_icmp_ne (tgt := 41) dX7_showsWithin_36 rfl (fun h9 => ?_) (fun h10 => ?_)
      · refine r_iconst dX7_showsWithin_39 ⟨by decide, by decide⟩ ?_
        exact r_iret rfl rfl (Or.inr ⟨rfl, Or.inr rfl⟩) dX7_showsWithin_40
      · refine r_iincB 2 dX7_showsWithin_41 rfl ⟨by have := h8; omega, by have := h8; omega⟩ (by decide) (lf := fun y11 => [(2, 0, y11), (0, 2, a0), (1, 0, a1)]) (fun _ => rfl) (fun y11 ey11 => ?_)
        refine r_goto (tgt := 4) dX7_showsWithin_44 rfl ?_
        refine r_sub [1, 2, 0] (ls' := [(0, 2, a0), (1, 0, a1), (2, 0, y11)]) rfl ?_
        exact hw4 M y11
set_option maxRecDepth 100000 in
theorem m_X7_showsWithin {g : GT} {n nf : Int} (hu : Up true nf n) (M : Mem) (a0 a1 : Int) (hk0 : kd a0 = 17) : AM g true yX7_showsWithin cX7_showsWithin 3 (some .boolean) (0) n n nf [(2, a0), (0, a1)] M (f_X7_showsWithin M a0 a1) := by
  refine AM_of (by decide +kernel) (Nat.le_of_ble_eq_true rfl) (fun h => absurd h (Int.lt_irrefl n)) ?_
  show AW g true RX7 cX7_showsWithin 3 (some .boolean) (0) n n nf 0 [(0, 2, a0), (1, 0, a1)] [] n M (f_X7_showsWithin M a0 a1)
  unfold f_X7_showsWithin
  refine r_iload_n 1 dX7_showsWithin_0 rfl rfl ?_
  refine r_iconst dX7_showsWithin_1 ⟨by decide, by decide⟩ ?_
  refine r_ok (fun h1 => ?_)
  refine r_iadd dX7_showsWithin_2 h1 ?_
  refine r_istore_nB dX7_showsWithin_3 rfl (by decide) (lf := fun y2 => [(2, 0, y2), (0, 2, a0), (1, 0, a1)]) (fun _ => rfl) (fun y2 ey2 => ?_)
  refine r_sub [1, 2, 0] (ls' := [(0, 2, a0), (1, 0, a1), (2, 0, y2)]) rfl ?_
  exact wl1_aw (P := fun M x2 o => AW g true RX7 cX7_showsWithin 3 (some .boolean) (0) n n nf 4 [(0, 2, a0), (1, 0, a1), (2, 0, x2)] [] n M (o)) (fun M x2 => aw_none) (fun w hw M x2 => tb_X7_showsWithin_4 hu a0 a1 hk0 w hw M x2) FU M y2
theorem dX7_timesOf_0 : decode cX7_timesOf 0 = .ok (.iconst 1, 1) := by decide +kernel
theorem dX7_timesOf_1 : decode cX7_timesOf 1 = .ok (.istore_n 2, 1) := by decide +kernel
theorem dX7_timesOf_2 : decode cX7_timesOf 2 = .ok (.iconst 0, 1) := by decide +kernel
theorem dX7_timesOf_3 : decode cX7_timesOf 3 = .ok (.istore_n 3, 1) := by decide +kernel
theorem dX7_timesOf_4 : decode cX7_timesOf 4 = .ok (.iload_n 3, 1) := by decide +kernel
theorem dX7_timesOf_5 : decode cX7_timesOf 5 = .ok (.iload_n 1, 1) := by decide +kernel
theorem dX7_timesOf_6 : decode cX7_timesOf 6 = .ok (.if_icmp .ge 69, 3) := by decide +kernel
theorem dX7_timesOf_9 : decode cX7_timesOf 9 = .ok (.aload_n 0, 1) := by decide +kernel
theorem dX7_timesOf_10 : decode cX7_timesOf 10 = .ok (.getfield 11, 3) := by decide +kernel
theorem dX7_timesOf_13 : decode cX7_timesOf 13 = .ok (.iload_n 3, 1) := by decide +kernel
theorem dX7_timesOf_14 : decode cX7_timesOf 14 = .ok (.aaload, 1) := by decide +kernel
theorem dX7_timesOf_15 : decode cX7_timesOf 15 = .ok (.getfield 41, 3) := by decide +kernel
theorem dX7_timesOf_18 : decode cX7_timesOf 18 = .ok (.bipush 8, 2) := by decide +kernel
theorem dX7_timesOf_20 : decode cX7_timesOf 20 = .ok (.if_icmp .ne 20, 3) := by decide +kernel
theorem dX7_timesOf_23 : decode cX7_timesOf 23 = .ok (.aload_n 0, 1) := by decide +kernel
theorem dX7_timesOf_24 : decode cX7_timesOf 24 = .ok (.getfield 11, 3) := by decide +kernel
theorem dX7_timesOf_27 : decode cX7_timesOf 27 = .ok (.iload_n 3, 1) := by decide +kernel
theorem dX7_timesOf_28 : decode cX7_timesOf 28 = .ok (.aaload, 1) := by decide +kernel
theorem dX7_timesOf_29 : decode cX7_timesOf 29 = .ok (.getfield 44, 3) := by decide +kernel
theorem dX7_timesOf_32 : decode cX7_timesOf 32 = .ok (.iload_n 1, 1) := by decide +kernel
theorem dX7_timesOf_33 : decode cX7_timesOf 33 = .ok (.if_icmp .le 7, 3) := by decide +kernel
theorem dX7_timesOf_36 : decode cX7_timesOf 36 = .ok (.iconst 1, 1) := by decide +kernel
theorem dX7_timesOf_37 : decode cX7_timesOf 37 = .ok (.goto 4, 3) := by decide +kernel
theorem dX7_timesOf_40 : decode cX7_timesOf 40 = .ok (.iconst 0, 1) := by decide +kernel
theorem dX7_timesOf_41 : decode cX7_timesOf 41 = .ok (.istore 4, 2) := by decide +kernel
theorem dX7_timesOf_43 : decode cX7_timesOf 43 = .ok (.iload 4, 2) := by decide +kernel
theorem dX7_timesOf_45 : decode cX7_timesOf 45 = .ok (.ifCond .eq 22, 3) := by decide +kernel
theorem dX7_timesOf_48 : decode cX7_timesOf 48 = .ok (.ldc 99, 2) := by decide +kernel
theorem dX7_timesOf_50 : decode cX7_timesOf 50 = .ok (.iload_n 2, 1) := by decide +kernel
theorem dX7_timesOf_51 : decode cX7_timesOf 51 = .ok (.aload_n 0, 1) := by decide +kernel
theorem dX7_timesOf_52 : decode cX7_timesOf 52 = .ok (.getfield 11, 3) := by decide +kernel
theorem dX7_timesOf_55 : decode cX7_timesOf 55 = .ok (.iload_n 3, 1) := by decide +kernel
theorem dX7_timesOf_56 : decode cX7_timesOf 56 = .ok (.aaload, 1) := by decide +kernel
theorem dX7_timesOf_57 : decode cX7_timesOf 57 = .ok (.getfield 100, 3) := by decide +kernel
theorem dX7_timesOf_60 : decode cX7_timesOf 60 = .ok (.imul, 1) := by decide +kernel
theorem dX7_timesOf_61 : decode cX7_timesOf 61 = .ok (.invokestatic 35, 3) := by decide +kernel
theorem dX7_timesOf_64 : decode cX7_timesOf 64 = .ok (.goto 4, 3) := by decide +kernel
theorem dX7_timesOf_67 : decode cX7_timesOf 67 = .ok (.iload_n 2, 1) := by decide +kernel
theorem dX7_timesOf_68 : decode cX7_timesOf 68 = .ok (.istore_n 2, 1) := by decide +kernel
theorem dX7_timesOf_69 : decode cX7_timesOf 69 = .ok (.iinc 3 1, 3) := by decide +kernel
theorem dX7_timesOf_72 : decode cX7_timesOf 72 = .ok (.goto (-68), 3) := by decide +kernel
theorem dX7_timesOf_75 : decode cX7_timesOf 75 = .ok (.iload_n 2, 1) := by decide +kernel
theorem dX7_timesOf_76 : decode cX7_timesOf 76 = .ok (.ireturn, 1) := by decide +kernel
set_option maxRecDepth 100000 in
theorem tj_X7_timesOf_41 {g : GT} {n nf : Int} (hu : Up true nf n) (a0 a1 : Int) (hk0 : kd a0 = 17) (w4 : Mem → Int → Int → Res) (hw4 : ∀ (M : Mem) (x2 x3 : Int), AW g true RX7 cX7_timesOf 5 (some .int) (1) n n nf 4 [(0, 2, a0), (1, 0, a1), (2, 0, x2), (3, 0, x3)] [] n M (w4 M x2 x3)) (M : Mem) (x2 x3 s0 : Int) : AW g true RX7 cX7_timesOf 5 (some .int) (1) n n nf 41 [(0, 2, a0), (1, 0, a1), (2, 0, x2), (3, 0, x3)] [(0, s0)] n M (j_X7_timesOf_41 a0 a1 w4 M x2 x3 s0) := by
  unfold j_X7_timesOf_41
  refine r_istore dX7_timesOf_41 (by decide) (ls' := [(4, 0, s0), (0, 2, a0), (1, 0, a1), (2, 0, x2), (3, 0, x3)]) rfl ?_
  refine r_iload 0 dX7_timesOf_43 rfl ?_
  refine r_if_eq (tgt := 67) dX7_timesOf_45 rfl (fun h8 => ?_) (fun h9 => ?_)
  · refine r_iload_n 3 dX7_timesOf_67 rfl rfl ?_
    refine r_istore_n dX7_timesOf_68 rfl (by decide) (ls' := [(2, 0, x2), (4, 0, s0), (0, 2, a0), (1, 0, a1), (3, 0, x3)]) rfl ?_
    refine r_ok (fun h10 => ?_)
    refine r_iincB 4 dX7_timesOf_69 rfl h10 (by decide) (lf := fun y11 => [(3, 0, y11), (2, 0, x2), (4, 0, s0), (0, 2, a0), (1, 0, a1)]) (fun _ => rfl) (fun y11 ey11 => ?_)
    refine r_goto (tgt := 4) dX7_timesOf_72 rfl ?_
    refine r_sub [3, 4, 1, 0] (ls' := [(0, 2, a0), (1, 0, a1), (2, 0, x2), (3, 0, y11)]) rfl ?_
    exact hw4 M x2 y11
  · refine r_ldc (v := 1000000) dX7_timesOf_48 kC_X7_99 rfl ⟨by decide, by decide⟩ ?_
    refine r_iload_n 3 dX7_timesOf_50 rfl rfl ?_
    refine r_aload_n 1 dX7_timesOf_51 rfl rfl ?_
    refine r_gx (kz := 0) rfl hu dX7_timesOf_52 kF_X7_11 hk0 rfl rfl rfl (fxS0 _ hk0) ?_
    refine r_iload_n 4 dX7_timesOf_55 rfl rfl ?_
    refine r_ok (fun h12 => ?_)
    refine r_aalx hu dX7_timesOf_56 (kdS _ hk0).1 (Or.inr (Or.inl rfl)) rfl (kdS _ hk0).2.1 h12 (fxSt _ hk0 _ h12) ?_
    refine r_gf (t := 0) (kz := 2) rfl hu dX7_timesOf_57 kF_X7_100 (kdSt _ hk0 _ h12) rfl rfl rfl ?_
    refine r_ok (fun h13 => ?_)
    refine r_imul dX7_timesOf_60 h13 ?_
    refine r_ins (a := 0) ⟨Nat.le_refl _, Nat.le_refl _⟩ dX7_timesOf_61 kM_X7_35 (by decide) (by decide) [(0, 1000000), (0, x2 * (M (a0 + 4 + x3) 2))] rfl (sk := []) rfl (Nat.le_of_ble_eq_true rfl) rfl rfl (m_J9_min_7cf53 hu M 1000000 (x2 * (M (a0 + 4 + x3) 2))) (fun r14 M15 => ?_)
    refine r_goto (tgt := 68) dX7_timesOf_64 rfl ?_
    refine r_istore_n dX7_timesOf_68 rfl (by decide) (ls' := [(2, 0, r14), (4, 0, s0), (0, 2, a0), (1, 0, a1), (3, 0, x3)]) rfl ?_
    refine r_iincB 4 dX7_timesOf_69 rfl ⟨by have := h12; omega, by have := h12; omega⟩ (by decide) (lf := fun y16 => [(3, 0, y16), (2, 0, r14), (4, 0, s0), (0, 2, a0), (1, 0, a1)]) (fun _ => rfl) (fun y16 ey16 => ?_)
    refine r_goto (tgt := 4) dX7_timesOf_72 rfl ?_
    refine r_sub [3, 4, 1, 0] (ls' := [(0, 2, a0), (1, 0, a1), (2, 0, r14), (3, 0, y16)]) rfl ?_
    exact hw4 M15 r14 y16
set_option maxRecDepth 100000 in
theorem tj_X7_timesOf_40 {g : GT} {n nf : Int} (hu : Up true nf n) (a0 a1 : Int) (hk0 : kd a0 = 17) (w4 : Mem → Int → Int → Res) (hw4 : ∀ (M : Mem) (x2 x3 : Int), AW g true RX7 cX7_timesOf 5 (some .int) (1) n n nf 4 [(0, 2, a0), (1, 0, a1), (2, 0, x2), (3, 0, x3)] [] n M (w4 M x2 x3)) (M : Mem) (x2 x3 : Int) : AW g true RX7 cX7_timesOf 5 (some .int) (1) n n nf 40 [(0, 2, a0), (1, 0, a1), (2, 0, x2), (3, 0, x3)] [] n M (j_X7_timesOf_40 a0 a1 w4 M x2 x3) := by
  unfold j_X7_timesOf_40
  refine r_iconst dX7_timesOf_40 ⟨by decide, by decide⟩ ?_
  exact tj_X7_timesOf_41 hu a0 a1 hk0 w4 hw4 M x2 x3 0
set_option maxRecDepth 100000 in
theorem tb_X7_timesOf_4 {g : GT} {n nf : Int} (hu : Up true nf n) (a0 a1 : Int) (hk0 : kd a0 = 17) (w4 : Mem → Int → Int → Res) (hw4 : ∀ (M : Mem) (x2 x3 : Int), AW g true RX7 cX7_timesOf 5 (some .int) (1) n n nf 4 [(0, 2, a0), (1, 0, a1), (2, 0, x2), (3, 0, x3)] [] n M (w4 M x2 x3)) (M : Mem) (x2 x3 : Int) : AW g true RX7 cX7_timesOf 5 (some .int) (1) n n nf 4 [(0, 2, a0), (1, 0, a1), (2, 0, x2), (3, 0, x3)] [] n M (b_X7_timesOf_4 a0 a1 w4 M x2 x3) := by
  unfold b_X7_timesOf_4
  refine r_iload_n 3 dX7_timesOf_4 rfl rfl ?_
  refine r_iload_n 1 dX7_timesOf_5 rfl rfl ?_
  refine r_icmp_ge (tgt := 75) dX7_timesOf_6 rfl (fun h1 => ?_) (fun h2 => ?_)
  · refine r_iload_n 2 dX7_timesOf_75 rfl rfl ?_
    exact r_iret rfl rfl (Or.inl rfl) dX7_timesOf_76
  · refine r_aload_n 0 dX7_timesOf_9 rfl rfl ?_
    refine r_gx (kz := 0) rfl hu dX7_timesOf_10 kF_X7_11 hk0 rfl rfl rfl (fxS0 _ hk0) ?_
    refine r_iload_n 3 dX7_timesOf_13 rfl rfl ?_
    refine r_ok (fun h3 => ?_)
    refine r_aalx hu dX7_timesOf_14 (kdS _ hk0).1 (Or.inr (Or.inl rfl)) rfl (kdS _ hk0).2.1 h3 (fxSt _ hk0 _ h3) ?_
    refine r_gf (t := 0) (kz := 0) rfl hu dX7_timesOf_15 kF_X7_41 (kdSt _ hk0 _ h3) rfl rfl rfl ?_
    refine r_bipush dX7_timesOf_18 (by decide) ⟨by decide, by decide⟩ ?_
    refine r_icmp_ne (tgt := 40) dX7_timesOf_20 rfl (fun h4 => ?_) (fun h5 => ?_)
    · refine r_aload_n 0 dX7_timesOf_23 rfl rfl ?_
      refine r_gx (kz := 0) rfl hu dX7_timesOf_24 kF_X7_11 hk0 rfl rfl rfl (fxS0 _ hk0) ?_
      refine r_iload_n 3 dX7_timesOf_27 rfl rfl ?_
      refine r_aalx hu dX7_timesOf_28 (kdS _ hk0).1 (Or.inr (Or.inl rfl)) rfl (kdS _ hk0).2.1 h3 (fxSt _ hk0 _ h3) ?_
      refine r_gf (t := 0) (kz := 9) rfl hu dX7_timesOf_29 kF_X7_44 (kdSt _ hk0 _ h3) rfl rfl rfl ?_
      refine r_iload_n 1 dX7_timesOf_32 rfl rfl ?_
      refine r_icmp_le (tgt := 40) dX7_timesOf_33 rfl (fun h6 => ?_) (fun h7 => ?_)
      · exact tj_X7_timesOf_40 hu a0 a1 hk0 w4 hw4 M x2 x3
      · refine r_iconst dX7_timesOf_36 ⟨by decide, by decide⟩ ?_
        refine r_goto (tgt := 41) dX7_timesOf_37 rfl ?_
        exact tj_X7_timesOf_41 hu a0 a1 hk0 w4 hw4 M x2 x3 1
    · exact tj_X7_timesOf_40 hu a0 a1 hk0 w4 hw4 M x2 x3
set_option maxRecDepth 100000 in
theorem m_X7_timesOf {g : GT} {n nf : Int} (hu : Up true nf n) (M : Mem) (a0 a1 : Int) (hk0 : kd a0 = 17) : AM g true yX7_timesOf cX7_timesOf 5 (some .int) (1) n n nf [(2, a0), (0, a1)] M (f_X7_timesOf M a0 a1) := by
  refine AM_of (by decide +kernel) (Nat.le_of_ble_eq_true rfl) (fun h => absurd h (Int.lt_irrefl n)) ?_
  show AW g true RX7 cX7_timesOf 5 (some .int) (1) n n nf 0 [(0, 2, a0), (1, 0, a1)] [] n M (f_X7_timesOf M a0 a1)
  unfold f_X7_timesOf
  refine r_iconst dX7_timesOf_0 ⟨by decide, by decide⟩ ?_
  refine r_istore_n dX7_timesOf_1 rfl (by decide) (ls' := [(2, 0, 1), (0, 2, a0), (1, 0, a1)]) rfl ?_
  refine r_iconst dX7_timesOf_2 ⟨by decide, by decide⟩ ?_
  refine r_istore_n dX7_timesOf_3 rfl (by decide) (ls' := [(3, 0, 0), (2, 0, 1), (0, 2, a0), (1, 0, a1)]) rfl ?_
  refine r_sub [2, 3, 1, 0] (ls' := [(0, 2, a0), (1, 0, a1), (2, 0, 1), (3, 0, 0)]) rfl ?_
  exact wl2_aw (P := fun M x2 x3 o => AW g true RX7 cX7_timesOf 5 (some .int) (1) n n nf 4 [(0, 2, a0), (1, 0, a1), (2, 0, x2), (3, 0, x3)] [] n M (o)) (fun M x2 x3 => aw_none) (fun w hw M x2 x3 => tb_X7_timesOf_4 hu a0 a1 hk0 w hw M x2 x3) FU M 1 0
theorem dX7_showsInAll_0 : decode cX7_showsInAll 0 = .ok (.iconst 0, 1) := by decide +kernel
theorem dX7_showsInAll_1 : decode cX7_showsInAll 1 = .ok (.istore_n 1, 1) := by decide +kernel
theorem dX7_showsInAll_2 : decode cX7_showsInAll 2 = .ok (.iconst 0, 1) := by decide +kernel
theorem dX7_showsInAll_3 : decode cX7_showsInAll 3 = .ok (.istore_n 2, 1) := by decide +kernel
theorem dX7_showsInAll_4 : decode cX7_showsInAll 4 = .ok (.iload_n 2, 1) := by decide +kernel
theorem dX7_showsInAll_5 : decode cX7_showsInAll 5 = .ok (.aload_n 0, 1) := by decide +kernel
theorem dX7_showsInAll_6 : decode cX7_showsInAll 6 = .ok (.getfield 25, 3) := by decide +kernel
theorem dX7_showsInAll_9 : decode cX7_showsInAll 9 = .ok (.if_icmp .ge 35, 3) := by decide +kernel
theorem dX7_showsInAll_12 : decode cX7_showsInAll 12 = .ok (.iload_n 1, 1) := by decide +kernel
theorem dX7_showsInAll_13 : decode cX7_showsInAll 13 = .ok (.aload_n 0, 1) := by decide +kernel
theorem dX7_showsInAll_14 : decode cX7_showsInAll 14 = .ok (.getfield 11, 3) := by decide +kernel
theorem dX7_showsInAll_17 : decode cX7_showsInAll 17 = .ok (.iload_n 2, 1) := by decide +kernel
theorem dX7_showsInAll_18 : decode cX7_showsInAll 18 = .ok (.aaload, 1) := by decide +kernel
theorem dX7_showsInAll_19 : decode cX7_showsInAll 19 = .ok (.getfield 41, 3) := by decide +kernel
theorem dX7_showsInAll_22 : decode cX7_showsInAll 22 = .ok (.bipush 7, 2) := by decide +kernel
theorem dX7_showsInAll_24 : decode cX7_showsInAll 24 = .ok (.if_icmp .ne 11, 3) := by decide +kernel
theorem dX7_showsInAll_27 : decode cX7_showsInAll 27 = .ok (.aload_n 0, 1) := by decide +kernel
theorem dX7_showsInAll_28 : decode cX7_showsInAll 28 = .ok (.iload_n 2, 1) := by decide +kernel
theorem dX7_showsInAll_29 : decode cX7_showsInAll 29 = .ok (.invokevirtual 95, 3) := by decide +kernel
theorem dX7_showsInAll_32 : decode cX7_showsInAll 32 = .ok (.goto 4, 3) := by decide +kernel
theorem dX7_showsInAll_35 : decode cX7_showsInAll 35 = .ok (.iconst 0, 1) := by decide +kernel
theorem dX7_showsInAll_36 : decode cX7_showsInAll 36 = .ok (.iadd, 1) := by decide +kernel
theorem dX7_showsInAll_37 : decode cX7_showsInAll 37 = .ok (.istore_n 1, 1) := by decide +kernel
theorem dX7_showsInAll_38 : decode cX7_showsInAll 38 = .ok (.iinc 2 1, 3) := by decide +kernel
theorem dX7_showsInAll_41 : decode cX7_showsInAll 41 = .ok (.goto (-37), 3) := by decide +kernel
theorem dX7_showsInAll_44 : decode cX7_showsInAll 44 = .ok (.iload_n 1, 1) := by decide +kernel
theorem dX7_showsInAll_45 : decode cX7_showsInAll 45 = .ok (.ldc 99, 2) := by decide +kernel
theorem dX7_showsInAll_47 : decode cX7_showsInAll 47 = .ok (.invokestatic 35, 3) := by decide +kernel
theorem dX7_showsInAll_50 : decode cX7_showsInAll 50 = .ok (.ireturn, 1) := by decide +kernel
set_option maxRecDepth 100000 in
theorem tb_X7_showsInAll_4 {g : GT} {n nf : Int} (hu : Up true nf n) (a0 : Int) (hk0 : kd a0 = 17) (w4 : Mem → Int → Int → Res) (hw4 : ∀ (M : Mem) (x1 x2 : Int), AW g true RX7 cX7_showsInAll 3 (some .int) (2) n n nf 4 [(0, 2, a0), (1, 0, x1), (2, 0, x2)] [] n M (w4 M x1 x2)) (M : Mem) (x1 x2 : Int) : AW g true RX7 cX7_showsInAll 3 (some .int) (2) n n nf 4 [(0, 2, a0), (1, 0, x1), (2, 0, x2)] [] n M (b_X7_showsInAll_4 a0 w4 M x1 x2) := by
  unfold b_X7_showsInAll_4
  refine r_iload_n 2 dX7_showsInAll_4 rfl rfl ?_
  refine r_aload_n 0 dX7_showsInAll_5 rfl rfl ?_
  refine r_gf (t := 0) (kz := 1) rfl hu dX7_showsInAll_6 kF_X7_25 hk0 rfl rfl rfl ?_
  refine r_icmp_ge (tgt := 44) dX7_showsInAll_9 rfl (fun h1 => ?_) (fun h2 => ?_)
  · refine r_iload_n 1 dX7_showsInAll_44 rfl rfl ?_
    refine r_ldc (v := 1000000) dX7_showsInAll_45 kC_X7_99 rfl ⟨by decide, by decide⟩ ?_
    refine r_ins (a := 0) ⟨Nat.le_refl _, Nat.le_refl _⟩ dX7_showsInAll_47 kM_X7_35 (by decide) (by decide) [(0, x1), (0, 1000000)] rfl (sk := []) rfl (Nat.le_of_ble_eq_true rfl) rfl rfl (m_J9_min_7cf53 hu M x1 1000000) (fun r3 M4 => ?_)
    exact r_iret rfl rfl (Or.inl rfl) dX7_showsInAll_50
  · refine r_iload_n 1 dX7_showsInAll_12 rfl rfl ?_
    refine r_aload_n 0 dX7_showsInAll_13 rfl rfl ?_
    refine r_gx (kz := 0) rfl hu dX7_showsInAll_14 kF_X7_11 hk0 rfl rfl rfl (fxS0 _ hk0) ?_
    refine r_iload_n 2 dX7_showsInAll_17 rfl rfl ?_
    refine r_ok (fun h5 => ?_)
    refine r_aalx hu dX7_showsInAll_18 (kdS _ hk0).1 (Or.inr (Or.inl rfl)) rfl (kdS _ hk0).2.1 h5 (fxSt _ hk0 _ h5) ?_
    refine r_gf (t := 0) (kz := 0) rfl hu dX7_showsInAll_19 kF_X7_41 (kdSt _ hk0 _ h5) rfl rfl rfl ?_
    refine r_bipush dX7_showsInAll_22 (by decide) ⟨by decide, by decide⟩ ?_
    refine r_icmp_ne (tgt := 35) dX7_showsInAll_24 rfl (fun h6 => ?_) (fun h7 => ?_)
    · refine r_aload_n 0 dX7_showsInAll_27 rfl rfl ?_
      refine r_iload_n 2 dX7_showsInAll_28 rfl rfl ?_
      refine r_inv (a := a0) hu ⟨Nat.le_refl _, Nat.le_refl _⟩ dX7_showsInAll_29 kM_X7_95 (ci := 7) rfl hk0 rfl rfl (by decide) (by decide) [(0, x2)] rfl (sk := [(0, x1)]) rfl (Nat.le_of_ble_eq_true rfl) rfl rfl (m_X7_timesOf hu M a0 x2 hk0) (fun r8 M9 => ?_)
      refine r_goto (tgt := 36) dX7_showsInAll_32 rfl ?_
      refine r_ok (fun h10 => ?_)
      refine r_iadd dX7_showsInAll_36 h10 ?_
      refine r_istore_nB dX7_showsInAll_37 rfl (by decide) (lf := fun y11 => [(1, 0, y11), (0, 2, a0), (2, 0, x2)]) (fun _ => rfl) (fun y11 ey11 => ?_)
      refine r_iincB 2 dX7_showsInAll_38 rfl ⟨by have := h5; omega, by have := h5; omega⟩ (by decide) (lf := fun y12 => [(2, 0, y12), (1, 0, y11), (0, 2, a0)]) (fun _ => rfl) (fun y12 ey12 => ?_)
      refine r_goto (tgt := 4) dX7_showsInAll_41 rfl ?_
      refine r_sub [2, 1, 0] (ls' := [(0, 2, a0), (1, 0, y11), (2, 0, y12)]) rfl ?_
      exact hw4 M9 y11 y12
    · refine r_iconst dX7_showsInAll_35 ⟨by decide, by decide⟩ ?_
      refine r_ok (fun h13 => ?_)
      refine r_iadd dX7_showsInAll_36 h13 ?_
      refine r_istore_nB dX7_showsInAll_37 rfl (by decide) (lf := fun y14 => [(1, 0, y14), (0, 2, a0), (2, 0, x2)]) (fun _ => rfl) (fun y14 ey14 => ?_)
      refine r_iincB 2 dX7_showsInAll_38 rfl ⟨by have := h5; omega, by have := h5; omega⟩ (by decide) (lf := fun y15 => [(2, 0, y15), (1, 0, y14), (0, 2, a0)]) (fun _ => rfl) (fun y15 ey15 => ?_)
      refine r_goto (tgt := 4) dX7_showsInAll_41 rfl ?_
      refine r_sub [2, 1, 0] (ls' := [(0, 2, a0), (1, 0, y14), (2, 0, y15)]) rfl ?_
      exact hw4 M y14 y15
set_option maxRecDepth 100000 in
theorem m_X7_showsInAll {g : GT} {n nf : Int} (hu : Up true nf n) (M : Mem) (a0 : Int) (hk0 : kd a0 = 17) : AM g true yX7_showsInAll cX7_showsInAll 3 (some .int) (2) n n nf [(2, a0)] M (f_X7_showsInAll M a0) := by
  refine AM_of (by decide +kernel) (Nat.le_of_ble_eq_true rfl) (fun h => absurd h (Int.lt_irrefl n)) ?_
  show AW g true RX7 cX7_showsInAll 3 (some .int) (2) n n nf 0 [(0, 2, a0)] [] n M (f_X7_showsInAll M a0)
  unfold f_X7_showsInAll
  refine r_iconst dX7_showsInAll_0 ⟨by decide, by decide⟩ ?_
  refine r_istore_n dX7_showsInAll_1 rfl (by decide) (ls' := [(1, 0, 0), (0, 2, a0)]) rfl ?_
  refine r_iconst dX7_showsInAll_2 ⟨by decide, by decide⟩ ?_
  refine r_istore_n dX7_showsInAll_3 rfl (by decide) (ls' := [(2, 0, 0), (1, 0, 0), (0, 2, a0)]) rfl ?_
  refine r_sub [2, 1, 0] (ls' := [(0, 2, a0), (1, 0, 0), (2, 0, 0)]) rfl ?_
  exact wl2_aw (P := fun M x1 x2 o => AW g true RX7 cX7_showsInAll 3 (some .int) (2) n n nf 4 [(0, 2, a0), (1, 0, x1), (2, 0, x2)] [] n M (o)) (fun M x1 x2 => aw_none) (fun w hw M x1 x2 => tb_X7_showsInAll_4 hu a0 hk0 w hw M x1 x2) FU M 0 0
theorem dX9_addNumber_0 : decode cX9_addNumber 0 = .ok (.bipush 24, 2) := by decide +kernel
theorem dX9_addNumber_2 : decode cX9_addNumber 2 = .ok (.istore_n 2, 1) := by decide +kernel
theorem dX9_addNumber_3 : decode cX9_addNumber 3 = .ok (.iload_n 2, 1) := by decide +kernel
theorem dX9_addNumber_4 : decode cX9_addNumber 4 = .ok (.ifCond .lt 45, 3) := by decide +kernel
theorem dX9_addNumber_7 : decode cX9_addNumber 7 = .ok (.aload_n 0, 1) := by decide +kernel
theorem dX9_addNumber_8 : decode cX9_addNumber 8 = .ok (.getfield 15, 3) := by decide +kernel
theorem dX9_addNumber_11 : decode cX9_addNumber 11 = .ok (.sipush 900, 3) := by decide +kernel
theorem dX9_addNumber_14 : decode cX9_addNumber 14 = .ok (.if_icmp .ge 35, 3) := by decide +kernel
theorem dX9_addNumber_17 : decode cX9_addNumber 17 = .ok (.aload_n 0, 1) := by decide +kernel
theorem dX9_addNumber_18 : decode cX9_addNumber 18 = .ok (.getfield 9, 3) := by decide +kernel
theorem dX9_addNumber_21 : decode cX9_addNumber 21 = .ok (.aload_n 0, 1) := by decide +kernel
theorem dX9_addNumber_22 : decode cX9_addNumber 22 = .ok (.getfield 15, 3) := by decide +kernel
theorem dX9_addNumber_25 : decode cX9_addNumber 25 = .ok (.iload_n 1, 1) := by decide +kernel
theorem dX9_addNumber_26 : decode cX9_addNumber 26 = .ok (.iload_n 2, 1) := by decide +kernel
theorem dX9_addNumber_27 : decode cX9_addNumber 27 = .ok (.iushr, 1) := by decide +kernel
theorem dX9_addNumber_28 : decode cX9_addNumber 28 = .ok (.sipush 255, 3) := by decide +kernel
theorem dX9_addNumber_31 : decode cX9_addNumber 31 = .ok (.iand, 1) := by decide +kernel
theorem dX9_addNumber_32 : decode cX9_addNumber 32 = .ok (.iastore, 1) := by decide +kernel
theorem dX9_addNumber_33 : decode cX9_addNumber 33 = .ok (.aload_n 0, 1) := by decide +kernel
theorem dX9_addNumber_34 : decode cX9_addNumber 34 = .ok (.dup, 1) := by decide +kernel
theorem dX9_addNumber_35 : decode cX9_addNumber 35 = .ok (.getfield 15, 3) := by decide +kernel
theorem dX9_addNumber_38 : decode cX9_addNumber 38 = .ok (.iconst 1, 1) := by decide +kernel
theorem dX9_addNumber_39 : decode cX9_addNumber 39 = .ok (.iadd, 1) := by decide +kernel
theorem dX9_addNumber_40 : decode cX9_addNumber 40 = .ok (.putfield 15, 3) := by decide +kernel
theorem dX9_addNumber_43 : decode cX9_addNumber 43 = .ok (.iinc 2 (-8), 3) := by decide +kernel
theorem dX9_addNumber_46 : decode cX9_addNumber 46 = .ok (.goto (-43), 3) := by decide +kernel
theorem dX9_addNumber_49 : decode cX9_addNumber 49 = .ok (.return_, 1) := by decide +kernel
set_option maxRecDepth 100000 in
theorem tb_X9_addNumber_3 {g : GT} {n nf : Int} (hu : Up true nf n) (a1 : Int) (w3 : Mem → Int → Res) (hw3 : ∀ (M : Mem) (x2 : Int), AW g true RX9 cX9_addNumber 3 none (0) n n nf 3 [(0, 2, 2), (1, 0, a1), (2, 0, x2)] [] n M (w3 M x2)) (M : Mem) (x2 : Int) : AW g true RX9 cX9_addNumber 3 none (0) n n nf 3 [(0, 2, 2), (1, 0, a1), (2, 0, x2)] [] n M (b_X9_addNumber_3 a1 w3 M x2) := by
  unfold b_X9_addNumber_3
  refine r_iload_n 2 dX9_addNumber_3 rfl rfl ?_
  refine r_if_lt (tgt := 49) dX9_addNumber_4 rfl (fun h1 => ?_) (fun h2 => ?_)
  · exact r_vret rfl rfl dX9_addNumber_49
  · refine r_aload_n 0 dX9_addNumber_7 rfl rfl ?_
    refine r_gf (t := 0) (kz := 1) rfl hu dX9_addNumber_8 kF_X9_15 kd_2 rfl rfl rfl ?_
    refine r_sipush dX9_addNumber_11 (by decide) ⟨by decide, by decide⟩ ?_
    refine r_icmp_ge (tgt := 49) dX9_addNumber_14 rfl (fun h3 => ?_) (fun h4 => ?_)
    · exact r_vret rfl rfl dX9_addNumber_49
    · refine r_aload_n 0 dX9_addNumber_17 rfl rfl ?_
      refine r_gx (kz := 0) rfl hu dX9_addNumber_18 kF_X9_9 kd_2 rfl rfl rfl fx_2_0 ?_
      refine r_aload_n 0 dX9_addNumber_21 rfl rfl ?_
      refine r_gf (t := 0) (kz := 1) rfl hu dX9_addNumber_22 kF_X9_15 kd_2 rfl rfl rfl ?_
      refine r_iload_n 1 dX9_addNumber_25 rfl rfl ?_
      refine r_iload_n 2 dX9_addNumber_26 rfl rfl ?_
      refine r_iushr dX9_addNumber_27 ?_
      refine r_sipush dX9_addNumber_28 (by decide) ⟨by decide, by decide⟩ ?_
      refine r_iand dX9_addNumber_31 ?_
      refine r_ok (fun h5 => ?_)
      refine r_iast hu dX9_addNumber_32 kd_3 rfl (Or.inl rfl) rfl ln_3 h5 rfl (fun M6 eM6 => ?_)
      refine r_aload_n 0 dX9_addNumber_33 rfl rfl ?_
      refine r_dup dX9_addNumber_34 (nz2 _) ?_
      refine r_gf (t := 0) (kz := 1) rfl hu dX9_addNumber_35 kF_X9_15 kd_2 rfl rfl rfl ?_
      refine r_iconst dX9_addNumber_38 ⟨by decide, by decide⟩ ?_
      refine r_ok (fun h7 => ?_)
      refine r_iadd dX9_addNumber_39 h7 ?_
      refine r_pf (t := 0) (kz := 1) rfl hu dX9_addNumber_40 kF_X9_15 kd_2 rfl rfl rfl (fun h => absurd h (by decide)) rfl kX_9_1 (fun M8 eM8 => ?_)
      refine r_ok (fun h9 => ?_)
      refine r_iincB 2 dX9_addNumber_43 rfl h9 (by decide) (lf := fun y10 => [(2, 0, y10), (0, 2, 2), (1, 0, a1)]) (fun _ => rfl) (fun y10 ey10 => ?_)
      refine r_goto (tgt := 3) dX9_addNumber_46 rfl ?_
      refine r_sub [1, 2, 0] (ls' := [(0, 2, 2), (1, 0, a1), (2, 0, y10)]) rfl ?_
      exact hw3 M8 y10
set_option maxRecDepth 100000 in
theorem m_X9_addNumber {g : GT} {n nf : Int} (hu : Up true nf n) (M : Mem) (a1 : Int) : AM g true yX9_addNumber cX9_addNumber 3 none (0) n n nf [(2, 2), (0, a1)] M (f_X9_addNumber M a1) := by
  refine AM_of (by decide +kernel) (Nat.le_of_ble_eq_true rfl) (fun h => absurd h (Int.lt_irrefl n)) ?_
  show AW g true RX9 cX9_addNumber 3 none (0) n n nf 0 [(0, 2, 2), (1, 0, a1)] [] n M (f_X9_addNumber M a1)
  unfold f_X9_addNumber
  refine r_bipush dX9_addNumber_0 (by decide) ⟨by decide, by decide⟩ ?_
  refine r_istore_n dX9_addNumber_2 rfl (by decide) (ls' := [(2, 0, 24), (0, 2, 2), (1, 0, a1)]) rfl ?_
  refine r_sub [1, 2, 0] (ls' := [(0, 2, 2), (1, 0, a1), (2, 0, 24)]) rfl ?_
  exact wl1_aw (P := fun M x2 o => AW g true RX9 cX9_addNumber 3 none (0) n n nf 3 [(0, 2, 2), (1, 0, a1), (2, 0, x2)] [] n M (o)) (fun M x2 => aw_none) (fun w hw M x2 => tb_X9_addNumber_3 hu a1 w hw M x2) FU M 24
theorem dX10_putShowing_0 : decode cX10_putShowing 0 = .ok (.aload_n 0, 1) := by decide +kernel
theorem dX10_putShowing_1 : decode cX10_putShowing 1 = .ok (.iload_n 1, 1) := by decide +kernel
theorem dX10_putShowing_2 : decode cX10_putShowing 2 = .ok (.putfield 9, 3) := by decide +kernel
theorem dX10_putShowing_5 : decode cX10_putShowing 5 = .ok (.aload_n 0, 1) := by decide +kernel
theorem dX10_putShowing_6 : decode cX10_putShowing 6 = .ok (.iload_n 2, 1) := by decide +kernel
theorem dX10_putShowing_7 : decode cX10_putShowing 7 = .ok (.putfield 15, 3) := by decide +kernel
theorem dX10_putShowing_10 : decode cX10_putShowing 10 = .ok (.aload_n 0, 1) := by decide +kernel
theorem dX10_putShowing_11 : decode cX10_putShowing 11 = .ok (.iload_n 3, 1) := by decide +kernel
theorem dX10_putShowing_12 : decode cX10_putShowing 12 = .ok (.putfield 18, 3) := by decide +kernel
theorem dX10_putShowing_15 : decode cX10_putShowing 15 = .ok (.aload_n 0, 1) := by decide +kernel
theorem dX10_putShowing_16 : decode cX10_putShowing 16 = .ok (.iload 4, 2) := by decide +kernel
theorem dX10_putShowing_18 : decode cX10_putShowing 18 = .ok (.putfield 21, 3) := by decide +kernel
theorem dX10_putShowing_21 : decode cX10_putShowing 21 = .ok (.aload_n 0, 1) := by decide +kernel
theorem dX10_putShowing_22 : decode cX10_putShowing 22 = .ok (.iconst 0, 1) := by decide +kernel
theorem dX10_putShowing_23 : decode cX10_putShowing 23 = .ok (.putfield 24, 3) := by decide +kernel
theorem dX10_putShowing_26 : decode cX10_putShowing 26 = .ok (.aload_n 0, 1) := by decide +kernel
theorem dX10_putShowing_27 : decode cX10_putShowing 27 = .ok (.iconst (-1), 1) := by decide +kernel
theorem dX10_putShowing_28 : decode cX10_putShowing 28 = .ok (.putfield 28, 3) := by decide +kernel
theorem dX10_putShowing_31 : decode cX10_putShowing 31 = .ok (.return_, 1) := by decide +kernel
set_option maxRecDepth 100000 in
theorem m_X10_putShowing {g : GT} {n nf : Int} (hu : Up true nf n) (M : Mem) (a0 a1 a2 a3 a4 : Int) (hk0 : kd a0 = 20) : AM g true yX10_putShowing cX10_putShowing 5 none (0) n n nf [(2, a0), (0, a1), (0, a2), (0, a3), (0, a4)] M (f_X10_putShowing M a0 a1 a2 a3 a4) := by
  refine AM_of (by decide +kernel) (Nat.le_of_ble_eq_true rfl) (fun h => absurd h (Int.lt_irrefl n)) ?_
  show AW g true RX10 cX10_putShowing 5 none (0) n n nf 0 [(0, 2, a0), (1, 0, a1), (2, 0, a2), (3, 0, a3), (4, 0, a4)] [] n M (f_X10_putShowing M a0 a1 a2 a3 a4)
  unfold f_X10_putShowing
  refine r_aload_n 0 dX10_putShowing_0 rfl rfl ?_
  refine r_iload_n 1 dX10_putShowing_1 rfl rfl ?_
  refine r_pf (t := 0) (kz := 0) rfl hu dX10_putShowing_2 kF_X10_9 hk0 rfl rfl rfl (fun h => absurd h (by decide)) rfl kX_10_0 (fun M1 eM1 => ?_)
  refine r_aload_n 0 dX10_putShowing_5 rfl rfl ?_
  refine r_iload_n 2 dX10_putShowing_6 rfl rfl ?_
  refine r_pf (t := 0) (kz := 1) rfl hu dX10_putShowing_7 kF_X10_15 hk0 rfl rfl rfl (fun h => absurd h (by decide)) rfl kX_10_1 (fun M2 eM2 => ?_)
  refine r_aload_n 0 dX10_putShowing_10 rfl rfl ?_
  refine r_iload_n 3 dX10_putShowing_11 rfl rfl ?_
  refine r_pf (t := 0) (kz := 2) rfl hu dX10_putShowing_12 kF_X10_18 hk0 rfl rfl rfl (fun h => absurd h (by decide)) rfl kX_10_2 (fun M3 eM3 => ?_)
  refine r_aload_n 0 dX10_putShowing_15 rfl rfl ?_
  refine r_iload 4 dX10_putShowing_16 rfl ?_
  refine r_pf (t := 0) (kz := 3) rfl hu dX10_putShowing_18 kF_X10_21 hk0 rfl rfl rfl (fun h => absurd h (by decide)) rfl kX_10_3 (fun M4 eM4 => ?_)
  refine r_aload_n 0 dX10_putShowing_21 rfl rfl ?_
  refine r_iconst dX10_putShowing_22 ⟨by decide, by decide⟩ ?_
  refine r_pf (t := 0) (kz := 7) rfl hu dX10_putShowing_23 kF_X10_24 hk0 rfl rfl rfl (fun _ => Or.inl rfl) rfl kX_10_7 (fun M5 eM5 => ?_)
  refine r_aload_n 0 dX10_putShowing_26 rfl rfl ?_
  refine r_iconst dX10_putShowing_27 ⟨by decide, by decide⟩ ?_
  refine r_pf (t := 0) (kz := 8) rfl hu dX10_putShowing_28 kF_X10_28 hk0 rfl rfl rfl (fun h => absurd h (by decide)) rfl kX_10_8 (fun M6 eM6 => ?_)
  exact r_vret rfl rfl dX10_putShowing_31
theorem dX10_putAnswer_0 : decode cX10_putAnswer 0 = .ok (.aload_n 0, 1) := by decide +kernel
theorem dX10_putAnswer_1 : decode cX10_putAnswer 1 = .ok (.iload_n 1, 1) := by decide +kernel
theorem dX10_putAnswer_2 : decode cX10_putAnswer 2 = .ok (.putfield 31, 3) := by decide +kernel
theorem dX10_putAnswer_5 : decode cX10_putAnswer 5 = .ok (.aload_n 0, 1) := by decide +kernel
theorem dX10_putAnswer_6 : decode cX10_putAnswer 6 = .ok (.iload_n 2, 1) := by decide +kernel
theorem dX10_putAnswer_7 : decode cX10_putAnswer 7 = .ok (.putfield 34, 3) := by decide +kernel
theorem dX10_putAnswer_10 : decode cX10_putAnswer 10 = .ok (.aload_n 0, 1) := by decide +kernel
theorem dX10_putAnswer_11 : decode cX10_putAnswer 11 = .ok (.iload_n 3, 1) := by decide +kernel
theorem dX10_putAnswer_12 : decode cX10_putAnswer 12 = .ok (.putfield 37, 3) := by decide +kernel
theorem dX10_putAnswer_15 : decode cX10_putAnswer 15 = .ok (.return_, 1) := by decide +kernel
set_option maxRecDepth 100000 in
theorem m_X10_putAnswer {g : GT} {n nf : Int} (hu : Up true nf n) (M : Mem) (a0 a1 a2 a3 : Int) (hk0 : kd a0 = 20) : AM g true yX10_putAnswer cX10_putAnswer 4 none (0) n n nf [(2, a0), (0, a1), (0, a2), (0, a3)] M (f_X10_putAnswer M a0 a1 a2 a3) := by
  refine AM_of (by decide +kernel) (Nat.le_of_ble_eq_true rfl) (fun h => absurd h (Int.lt_irrefl n)) ?_
  show AW g true RX10 cX10_putAnswer 4 none (0) n n nf 0 [(0, 2, a0), (1, 0, a1), (2, 0, a2), (3, 0, a3)] [] n M (f_X10_putAnswer M a0 a1 a2 a3)
  unfold f_X10_putAnswer
  refine r_aload_n 0 dX10_putAnswer_0 rfl rfl ?_
  refine r_iload_n 1 dX10_putAnswer_1 rfl rfl ?_
  refine r_pf (t := 0) (kz := 4) rfl hu dX10_putAnswer_2 kF_X10_31 hk0 rfl rfl rfl (fun h => absurd h (by decide)) rfl kX_10_4 (fun M1 eM1 => ?_)
  refine r_aload_n 0 dX10_putAnswer_5 rfl rfl ?_
  refine r_iload_n 2 dX10_putAnswer_6 rfl rfl ?_
  refine r_ok (fun h2 => ?_)
  refine r_pf (t := 0) (kz := 5) rfl hu dX10_putAnswer_7 kF_X10_34 hk0 rfl rfl rfl (fun _ => h2) rfl kX_10_5 (fun M3 eM3 => ?_)
  refine r_aload_n 0 dX10_putAnswer_10 rfl rfl ?_
  refine r_iload_n 3 dX10_putAnswer_11 rfl rfl ?_
  refine r_pf (t := 0) (kz := 6) rfl hu dX10_putAnswer_12 kF_X10_37 hk0 rfl rfl rfl (fun h => absurd h (by decide)) rfl kX_10_6 (fun M4 eM4 => ?_)
  exact r_vret rfl rfl dX10_putAnswer_15
theorem dX10_isRight_0 : decode cX10_isRight 0 = .ok (.aload_n 0, 1) := by decide +kernel
theorem dX10_isRight_1 : decode cX10_isRight 1 = .ok (.getfield 21, 3) := by decide +kernel
theorem dX10_isRight_4 : decode cX10_isRight 4 = .ok (.aload_n 0, 1) := by decide +kernel
theorem dX10_isRight_5 : decode cX10_isRight 5 = .ok (.getfield 31, 3) := by decide +kernel
theorem dX10_isRight_8 : decode cX10_isRight 8 = .ok (.if_icmp .ne 7, 3) := by decide +kernel
theorem dX10_isRight_11 : decode cX10_isRight 11 = .ok (.iconst 1, 1) := by decide +kernel
theorem dX10_isRight_12 : decode cX10_isRight 12 = .ok (.goto 4, 3) := by decide +kernel
theorem dX10_isRight_15 : decode cX10_isRight 15 = .ok (.iconst 0, 1) := by decide +kernel
theorem dX10_isRight_16 : decode cX10_isRight 16 = .ok (.ireturn, 1) := by decide +kernel
set_option maxRecDepth 100000 in
theorem m_X10_isRight {g : GT} {n nf : Int} (hu : Up true nf n) (M : Mem) (a0 : Int) (hk0 : kd a0 = 20) : AM g true yX10_isRight cX10_isRight 1 (some .boolean) (0) n n nf [(2, a0)] M (f_X10_isRight M a0) := by
  refine AM_of (by decide +kernel) (Nat.le_of_ble_eq_true rfl) (fun h => absurd h (Int.lt_irrefl n)) ?_
  show AW g true RX10 cX10_isRight 1 (some .boolean) (0) n n nf 0 [(0, 2, a0)] [] n M (f_X10_isRight M a0)
  unfold f_X10_isRight
  refine r_aload_n 0 dX10_isRight_0 rfl rfl ?_
  refine r_gf (t := 0) (kz := 3) rfl hu dX10_isRight_1 kF_X10_21 hk0 rfl rfl rfl ?_
  refine r_aload_n 0 dX10_isRight_4 rfl rfl ?_
  refine r_gf (t := 0) (kz := 4) rfl hu dX10_isRight_5 kF_X10_31 hk0 rfl rfl rfl ?_
  refine r_icmp_ne (tgt := 15) dX10_isRight_8 rfl (fun h1 => ?_) (fun h2 => ?_)
  · refine r_iconst dX10_isRight_11 ⟨by decide, by decide⟩ ?_
    refine r_goto (tgt := 16) dX10_isRight_12 rfl ?_
    exact r_iret rfl rfl (Or.inr ⟨rfl, Or.inr rfl⟩) dX10_isRight_16
  · refine r_iconst dX10_isRight_15 ⟨by decide, by decide⟩ ?_
    exact r_iret rfl rfl (Or.inr ⟨rfl, Or.inl rfl⟩) dX10_isRight_16
theorem dX10_isLed_0 : decode cX10_isLed 0 = .ok (.aload_n 0, 1) := by decide +kernel
theorem dX10_isLed_1 : decode cX10_isLed 1 = .ok (.getfield 28, 3) := by decide +kernel
theorem dX10_isLed_4 : decode cX10_isLed 4 = .ok (.aload_n 0, 1) := by decide +kernel
theorem dX10_isLed_5 : decode cX10_isLed 5 = .ok (.getfield 31, 3) := by decide +kernel
theorem dX10_isLed_8 : decode cX10_isLed 8 = .ok (.if_icmp .ne 7, 3) := by decide +kernel
theorem dX10_isLed_11 : decode cX10_isLed 11 = .ok (.iconst 1, 1) := by decide +kernel
theorem dX10_isLed_12 : decode cX10_isLed 12 = .ok (.goto 4, 3) := by decide +kernel
theorem dX10_isLed_15 : decode cX10_isLed 15 = .ok (.iconst 0, 1) := by decide +kernel
theorem dX10_isLed_16 : decode cX10_isLed 16 = .ok (.ireturn, 1) := by decide +kernel
set_option maxRecDepth 100000 in
theorem m_X10_isLed {g : GT} {n nf : Int} (hu : Up true nf n) (M : Mem) (a0 : Int) (hk0 : kd a0 = 20) : AM g true yX10_isLed cX10_isLed 1 (some .boolean) (0) n n nf [(2, a0)] M (f_X10_isLed M a0) := by
  refine AM_of (by decide +kernel) (Nat.le_of_ble_eq_true rfl) (fun h => absurd h (Int.lt_irrefl n)) ?_
  show AW g true RX10 cX10_isLed 1 (some .boolean) (0) n n nf 0 [(0, 2, a0)] [] n M (f_X10_isLed M a0)
  unfold f_X10_isLed
  refine r_aload_n 0 dX10_isLed_0 rfl rfl ?_
  refine r_gf (t := 0) (kz := 8) rfl hu dX10_isLed_1 kF_X10_28 hk0 rfl rfl rfl ?_
  refine r_aload_n 0 dX10_isLed_4 rfl rfl ?_
  refine r_gf (t := 0) (kz := 4) rfl hu dX10_isLed_5 kF_X10_31 hk0 rfl rfl rfl ?_
  refine r_icmp_ne (tgt := 15) dX10_isLed_8 rfl (fun h1 => ?_) (fun h2 => ?_)
  · refine r_iconst dX10_isLed_11 ⟨by decide, by decide⟩ ?_
    refine r_goto (tgt := 16) dX10_isLed_12 rfl ?_
    exact r_iret rfl rfl (Or.inr ⟨rfl, Or.inr rfl⟩) dX10_isLed_16
  · refine r_iconst dX10_isLed_15 ⟨by decide, by decide⟩ ?_
    exact r_iret rfl rfl (Or.inr ⟨rfl, Or.inl rfl⟩) dX10_isLed_16
theorem dX10_isOf_0 : decode cX10_isOf 0 = .ok (.iload_n 1, 1) := by decide +kernel
theorem dX10_isOf_1 : decode cX10_isOf 1 = .ok (.iconst (-1), 1) := by decide +kernel
theorem dX10_isOf_2 : decode cX10_isOf 2 = .ok (.if_icmp .eq 11, 3) := by decide +kernel
theorem dX10_isOf_5 : decode cX10_isOf 5 = .ok (.iload_n 1, 1) := by decide +kernel
theorem dX10_isOf_6 : decode cX10_isOf 6 = .ok (.aload_n 0, 1) := by decide +kernel
theorem dX10_isOf_7 : decode cX10_isOf 7 = .ok (.getfield 9, 3) := by decide +kernel
theorem dX10_isOf_10 : decode cX10_isOf 10 = .ok (.if_icmp .ne 7, 3) := by decide +kernel
theorem dX10_isOf_13 : decode cX10_isOf 13 = .ok (.iconst 1, 1) := by decide +kernel
theorem dX10_isOf_14 : decode cX10_isOf 14 = .ok (.goto 4, 3) := by decide +kernel
theorem dX10_isOf_17 : decode cX10_isOf 17 = .ok (.iconst 0, 1) := by decide +kernel
theorem dX10_isOf_18 : decode cX10_isOf 18 = .ok (.ireturn, 1) := by decide +kernel
set_option maxRecDepth 100000 in
theorem m_X10_isOf {g : GT} {n nf : Int} (hu : Up true nf n) (M : Mem) (a0 a1 : Int) (hk0 : kd a0 = 20) : AM g true yX10_isOf cX10_isOf 2 (some .boolean) (0) n n nf [(2, a0), (0, a1)] M (f_X10_isOf M a0 a1) := by
  refine AM_of (by decide +kernel) (Nat.le_of_ble_eq_true rfl) (fun h => absurd h (Int.lt_irrefl n)) ?_
  show AW g true RX10 cX10_isOf 2 (some .boolean) (0) n n nf 0 [(0, 2, a0), (1, 0, a1)] [] n M (f_X10_isOf M a0 a1)
  unfold f_X10_isOf
  refine r_iload_n 1 dX10_isOf_0 rfl rfl ?_
  refine r_iconst dX10_isOf_1 ⟨by decide, by decide⟩ ?_
  refine r_icmp_eq (tgt := 13) dX10_isOf_2 rfl (fun h1 => ?_) (fun h2 => ?_)
  · refine r_iconst dX10_isOf_13 ⟨by decide, by decide⟩ ?_
    refine r_goto (tgt := 18) dX10_isOf_14 rfl ?_
    exact r_iret rfl rfl (Or.inr ⟨rfl, Or.inr rfl⟩) dX10_isOf_18
  · refine r_iload_n 1 dX10_isOf_5 rfl rfl ?_
    refine r_aload_n 0 dX10_isOf_6 rfl rfl ?_
    refine r_gf (t := 0) (kz := 0) rfl hu dX10_isOf_7 kF_X10_9 hk0 rfl rfl rfl ?_
    refine r_icmp_ne (tgt := 17) dX10_isOf_10 rfl (fun h3 => ?_) (fun h4 => ?_)
    · refine r_iconst dX10_isOf_13 ⟨by decide, by decide⟩ ?_
      refine r_goto (tgt := 18) dX10_isOf_14 rfl ?_
      exact r_iret rfl rfl (Or.inr ⟨rfl, Or.inr rfl⟩) dX10_isOf_18
    · refine r_iconst dX10_isOf_17 ⟨by decide, by decide⟩ ?_
      exact r_iret rfl rfl (Or.inr ⟨rfl, Or.inl rfl⟩) dX10_isOf_18
theorem dX10_byteAt_0 : decode cX10_byteAt 0 = .ok (.iload_n 1, 1) := by decide +kernel
theorem dX10_byteAt_1 : decode cX10_byteAt 1 = .ok (.tableswitch 99 0 6 #[43, 48, 53, 58, 63, 68, 94], 43) := by decide +kernel
theorem dX10_byteAt_44 : decode cX10_byteAt 44 = .ok (.aload_n 0, 1) := by decide +kernel
theorem dX10_byteAt_45 : decode cX10_byteAt 45 = .ok (.getfield 9, 3) := by decide +kernel
theorem dX10_byteAt_48 : decode cX10_byteAt 48 = .ok (.ireturn, 1) := by decide +kernel
theorem dX10_byteAt_49 : decode cX10_byteAt 49 = .ok (.aload_n 0, 1) := by decide +kernel
theorem dX10_byteAt_50 : decode cX10_byteAt 50 = .ok (.getfield 15, 3) := by decide +kernel
theorem dX10_byteAt_53 : decode cX10_byteAt 53 = .ok (.ireturn, 1) := by decide +kernel
theorem dX10_byteAt_54 : decode cX10_byteAt 54 = .ok (.aload_n 0, 1) := by decide +kernel
theorem dX10_byteAt_55 : decode cX10_byteAt 55 = .ok (.getfield 18, 3) := by decide +kernel
theorem dX10_byteAt_58 : decode cX10_byteAt 58 = .ok (.ireturn, 1) := by decide +kernel
theorem dX10_byteAt_59 : decode cX10_byteAt 59 = .ok (.aload_n 0, 1) := by decide +kernel
theorem dX10_byteAt_60 : decode cX10_byteAt 60 = .ok (.getfield 21, 3) := by decide +kernel
theorem dX10_byteAt_63 : decode cX10_byteAt 63 = .ok (.ireturn, 1) := by decide +kernel
theorem dX10_byteAt_64 : decode cX10_byteAt 64 = .ok (.aload_n 0, 1) := by decide +kernel
theorem dX10_byteAt_65 : decode cX10_byteAt 65 = .ok (.getfield 31, 3) := by decide +kernel
theorem dX10_byteAt_68 : decode cX10_byteAt 68 = .ok (.ireturn, 1) := by decide +kernel
theorem dX10_byteAt_69 : decode cX10_byteAt 69 = .ok (.aload_n 0, 1) := by decide +kernel
theorem dX10_byteAt_70 : decode cX10_byteAt 70 = .ok (.getfield 34, 3) := by decide +kernel
theorem dX10_byteAt_73 : decode cX10_byteAt 73 = .ok (.ifCond .eq 7, 3) := by decide +kernel
theorem dX10_byteAt_76 : decode cX10_byteAt 76 = .ok (.iconst 1, 1) := by decide +kernel
theorem dX10_byteAt_77 : decode cX10_byteAt 77 = .ok (.goto 4, 3) := by decide +kernel
theorem dX10_byteAt_80 : decode cX10_byteAt 80 = .ok (.iconst 0, 1) := by decide +kernel
theorem dX10_byteAt_81 : decode cX10_byteAt 81 = .ok (.aload_n 0, 1) := by decide +kernel
theorem dX10_byteAt_82 : decode cX10_byteAt 82 = .ok (.getfield 24, 3) := by decide +kernel
theorem dX10_byteAt_85 : decode cX10_byteAt 85 = .ok (.ifCond .eq 7, 3) := by decide +kernel
theorem dX10_byteAt_88 : decode cX10_byteAt 88 = .ok (.iconst 2, 1) := by decide +kernel
theorem dX10_byteAt_89 : decode cX10_byteAt 89 = .ok (.goto 4, 3) := by decide +kernel
theorem dX10_byteAt_92 : decode cX10_byteAt 92 = .ok (.iconst 0, 1) := by decide +kernel
theorem dX10_byteAt_93 : decode cX10_byteAt 93 = .ok (.iadd, 1) := by decide +kernel
theorem dX10_byteAt_94 : decode cX10_byteAt 94 = .ok (.ireturn, 1) := by decide +kernel
theorem dX10_byteAt_95 : decode cX10_byteAt 95 = .ok (.aload_n 0, 1) := by decide +kernel
theorem dX10_byteAt_96 : decode cX10_byteAt 96 = .ok (.getfield 37, 3) := by decide +kernel
theorem dX10_byteAt_99 : decode cX10_byteAt 99 = .ok (.ireturn, 1) := by decide +kernel
theorem dX10_byteAt_100 : decode cX10_byteAt 100 = .ok (.aload_n 0, 1) := by decide +kernel
theorem dX10_byteAt_101 : decode cX10_byteAt 101 = .ok (.getfield 28, 3) := by decide +kernel
theorem dX10_byteAt_104 : decode cX10_byteAt 104 = .ok (.iconst (-1), 1) := by decide +kernel
theorem dX10_byteAt_105 : decode cX10_byteAt 105 = .ok (.if_icmp .ne 9, 3) := by decide +kernel
theorem dX10_byteAt_108 : decode cX10_byteAt 108 = .ok (.sipush 255, 3) := by decide +kernel
theorem dX10_byteAt_111 : decode cX10_byteAt 111 = .ok (.goto 7, 3) := by decide +kernel
theorem dX10_byteAt_114 : decode cX10_byteAt 114 = .ok (.aload_n 0, 1) := by decide +kernel
theorem dX10_byteAt_115 : decode cX10_byteAt 115 = .ok (.getfield 28, 3) := by decide +kernel
theorem dX10_byteAt_118 : decode cX10_byteAt 118 = .ok (.ireturn, 1) := by decide +kernel
set_option maxRecDepth 100000 in
theorem tj_X10_byteAt_81 {g : GT} {n nf : Int} (hu : Up true nf n) (a0 : Int) (hk0 : kd a0 = 20) (M : Mem) (s0 : Int) : AW g true RX10 cX10_byteAt 2 (some .int) (0) n n nf 81 [(0, 2, a0)] [(0, s0)] n M (j_X10_byteAt_81 a0 M s0) := by
  unfold j_X10_byteAt_81
  refine r_aload_n 0 dX10_byteAt_81 rfl rfl ?_
  refine r_gf (t := 0) (kz := 7) rfl hu dX10_byteAt_82 kF_X10_24 hk0 rfl rfl rfl ?_
  refine r_if_eq (tgt := 92) dX10_byteAt_85 rfl (fun h15 => ?_) (fun h16 => ?_)
  · refine r_iconst dX10_byteAt_92 ⟨by decide, by decide⟩ ?_
    refine r_ok (fun h17 => ?_)
    refine r_iadd dX10_byteAt_93 h17 ?_
    exact r_iret rfl rfl (Or.inl rfl) dX10_byteAt_94
  · refine r_iconst dX10_byteAt_88 ⟨by decide, by decide⟩ ?_
    refine r_goto (tgt := 93) dX10_byteAt_89 rfl ?_
    refine r_ok (fun h18 => ?_)
    refine r_iadd dX10_byteAt_93 h18 ?_
    exact r_iret rfl rfl (Or.inl rfl) dX10_byteAt_94
set_option maxRecDepth 100000 in
theorem m_X10_byteAt {g : GT} {n nf : Int} (hu : Up true nf n) (M : Mem) (a0 a1 : Int) (hk0 : kd a0 = 20) : AM g true yX10_byteAt cX10_byteAt 2 (some .int) (0) n n nf [(2, a0), (0, a1)] M (f_X10_byteAt M a0 a1) := by
  refine AM_of (by decide +kernel) (Nat.le_of_ble_eq_true rfl) (fun h => absurd h (Int.lt_irrefl n)) ?_
  show AW g true RX10 cX10_byteAt 2 (some .int) (0) n n nf 0 [(0, 2, a0), (1, 0, a1)] [] n M (f_X10_byteAt M a0 a1)
  unfold f_X10_byteAt
  refine r_iload_n 1 dX10_byteAt_0 rfl rfl ?_
  refine r_tsw (tgt := 44) 0 dX10_byteAt_1 ⟨by decide, by decide⟩ rfl rfl (fun h1 => ?_) (fun h2 => ?_)
  · refine r_aload_n 0 dX10_byteAt_44 rfl rfl ?_
    refine r_gf (t := 0) (kz := 0) rfl hu dX10_byteAt_45 kF_X10_9 hk0 rfl rfl rfl ?_
    exact r_iret rfl rfl (Or.inl rfl) dX10_byteAt_48
  · refine r_tsw (tgt := 49) 1 dX10_byteAt_1 ⟨by decide, by decide⟩ rfl rfl (fun h3 => ?_) (fun h4 => ?_)
    · refine r_aload_n 0 dX10_byteAt_49 rfl rfl ?_
      refine r_gf (t := 0) (kz := 1) rfl hu dX10_byteAt_50 kF_X10_15 hk0 rfl rfl rfl ?_
      exact r_iret rfl rfl (Or.inl rfl) dX10_byteAt_53
    · refine r_tsw (tgt := 54) 2 dX10_byteAt_1 ⟨by decide, by decide⟩ rfl rfl (fun h5 => ?_) (fun h6 => ?_)
      · refine r_aload_n 0 dX10_byteAt_54 rfl rfl ?_
        refine r_gf (t := 0) (kz := 2) rfl hu dX10_byteAt_55 kF_X10_18 hk0 rfl rfl rfl ?_
        exact r_iret rfl rfl (Or.inl rfl) dX10_byteAt_58
      · refine r_tsw (tgt := 59) 3 dX10_byteAt_1 ⟨by decide, by decide⟩ rfl rfl (fun h7 => ?_) (fun h8 => ?_)
        · refine r_aload_n 0 dX10_byteAt_59 rfl rfl ?_
          refine r_gf (t := 0) (kz := 3) rfl hu dX10_byteAt_60 kF_X10_21 hk0 rfl rfl rfl ?_
          exact r_iret rfl rfl (Or.inl rfl) dX10_byteAt_63
        · refine r_tsw (tgt := 64) 4 dX10_byteAt_1 ⟨by decide, by decide⟩ rfl rfl (fun h9 => ?_) (fun h10 => ?_)
          · refine r_aload_n 0 dX10_byteAt_64 rfl rfl ?_
            refine r_gf (t := 0) (kz := 4) rfl hu dX10_byteAt_65 kF_X10_31 hk0 rfl rfl rfl ?_
            exact r_iret rfl rfl (Or.inl rfl) dX10_byteAt_68
          · refine r_tsw (tgt := 69) 5 dX10_byteAt_1 ⟨by decide, by decide⟩ rfl rfl (fun h11 => ?_) (fun h12 => ?_)
            · refine r_aload_n 0 dX10_byteAt_69 rfl rfl ?_
              refine r_gf (t := 0) (kz := 5) rfl hu dX10_byteAt_70 kF_X10_34 hk0 rfl rfl rfl ?_
              refine r_if_eq (tgt := 80) dX10_byteAt_73 rfl (fun h13 => ?_) (fun h14 => ?_)
              · refine r_iconst dX10_byteAt_80 ⟨by decide, by decide⟩ ?_
                refine r_sub [0] (ls' := [(0, 2, a0)]) rfl ?_
                exact tj_X10_byteAt_81 hu a0 hk0 M 0
              · refine r_iconst dX10_byteAt_76 ⟨by decide, by decide⟩ ?_
                refine r_goto (tgt := 81) dX10_byteAt_77 rfl ?_
                refine r_sub [0] (ls' := [(0, 2, a0)]) rfl ?_
                exact tj_X10_byteAt_81 hu a0 hk0 M 1
            · refine r_tsw (tgt := 95) 6 dX10_byteAt_1 ⟨by decide, by decide⟩ rfl rfl (fun h19 => ?_) (fun h20 => ?_)
              · refine r_aload_n 0 dX10_byteAt_95 rfl rfl ?_
                refine r_gf (t := 0) (kz := 6) rfl hu dX10_byteAt_96 kF_X10_37 hk0 rfl rfl rfl ?_
                exact r_iret rfl rfl (Or.inl rfl) dX10_byteAt_99
              · refine r_tswd (tgt := 100) dX10_byteAt_1 (by omega) rfl ?_
                refine r_aload_n 0 dX10_byteAt_100 rfl rfl ?_
                refine r_gf (t := 0) (kz := 8) rfl hu dX10_byteAt_101 kF_X10_28 hk0 rfl rfl rfl ?_
                refine r_iconst dX10_byteAt_104 ⟨by decide, by decide⟩ ?_
                refine r_icmp_ne (tgt := 114) dX10_byteAt_105 rfl (fun h21 => ?_) (fun h22 => ?_)
                · refine r_sipush dX10_byteAt_108 (by decide) ⟨by decide, by decide⟩ ?_
                  refine r_goto (tgt := 118) dX10_byteAt_111 rfl ?_
                  exact r_iret rfl rfl (Or.inl rfl) dX10_byteAt_118
                · refine r_aload_n 0 dX10_byteAt_114 rfl rfl ?_
                  refine r_gf (t := 0) (kz := 8) rfl hu dX10_byteAt_115 kF_X10_28 hk0 rfl rfl rfl ?_
                  exact r_iret rfl rfl (Or.inl rfl) dX10_byteAt_118
theorem dX10_take_0 : decode cX10_take 0 = .ok (.aload_n 0, 1) := by decide +kernel
theorem dX10_take_1 : decode cX10_take 1 = .ok (.aload_n 1, 1) := by decide +kernel
theorem dX10_take_2 : decode cX10_take 2 = .ok (.iload_n 2, 1) := by decide +kernel
theorem dX10_take_3 : decode cX10_take 3 = .ok (.invokevirtual 40, 3) := by decide +kernel
theorem dX10_take_6 : decode cX10_take 6 = .ok (.aload_n 1, 1) := by decide +kernel
theorem dX10_take_7 : decode cX10_take 7 = .ok (.iload_n 2, 1) := by decide +kernel
theorem dX10_take_8 : decode cX10_take 8 = .ok (.iconst 1, 1) := by decide +kernel
theorem dX10_take_9 : decode cX10_take 9 = .ok (.iadd, 1) := by decide +kernel
theorem dX10_take_10 : decode cX10_take 10 = .ok (.invokevirtual 40, 3) := by decide +kernel
theorem dX10_take_13 : decode cX10_take 13 = .ok (.aload_n 1, 1) := by decide +kernel
theorem dX10_take_14 : decode cX10_take 14 = .ok (.iload_n 2, 1) := by decide +kernel
theorem dX10_take_15 : decode cX10_take 15 = .ok (.iconst 2, 1) := by decide +kernel
theorem dX10_take_16 : decode cX10_take 16 = .ok (.iadd, 1) := by decide +kernel
theorem dX10_take_17 : decode cX10_take 17 = .ok (.invokevirtual 40, 3) := by decide +kernel
theorem dX10_take_20 : decode cX10_take 20 = .ok (.aload_n 1, 1) := by decide +kernel
theorem dX10_take_21 : decode cX10_take 21 = .ok (.iload_n 2, 1) := by decide +kernel
theorem dX10_take_22 : decode cX10_take 22 = .ok (.iconst 3, 1) := by decide +kernel
theorem dX10_take_23 : decode cX10_take 23 = .ok (.iadd, 1) := by decide +kernel
theorem dX10_take_24 : decode cX10_take 24 = .ok (.invokevirtual 40, 3) := by decide +kernel
theorem dX10_take_27 : decode cX10_take 27 = .ok (.invokevirtual 46, 3) := by decide +kernel
theorem dX10_take_30 : decode cX10_take 30 = .ok (.aload_n 1, 1) := by decide +kernel
theorem dX10_take_31 : decode cX10_take 31 = .ok (.iload_n 2, 1) := by decide +kernel
theorem dX10_take_32 : decode cX10_take 32 = .ok (.iconst 5, 1) := by decide +kernel
theorem dX10_take_33 : decode cX10_take 33 = .ok (.iadd, 1) := by decide +kernel
theorem dX10_take_34 : decode cX10_take 34 = .ok (.invokevirtual 40, 3) := by decide +kernel
theorem dX10_take_37 : decode cX10_take 37 = .ok (.istore_n 3, 1) := by decide +kernel
theorem dX10_take_38 : decode cX10_take 38 = .ok (.aload_n 0, 1) := by decide +kernel
theorem dX10_take_39 : decode cX10_take 39 = .ok (.aload_n 1, 1) := by decide +kernel
theorem dX10_take_40 : decode cX10_take 40 = .ok (.iload_n 2, 1) := by decide +kernel
theorem dX10_take_41 : decode cX10_take 41 = .ok (.iconst 4, 1) := by decide +kernel
theorem dX10_take_42 : decode cX10_take 42 = .ok (.iadd, 1) := by decide +kernel
theorem dX10_take_43 : decode cX10_take 43 = .ok (.invokevirtual 40, 3) := by decide +kernel
theorem dX10_take_46 : decode cX10_take 46 = .ok (.iload_n 3, 1) := by decide +kernel
theorem dX10_take_47 : decode cX10_take 47 = .ok (.iconst 1, 1) := by decide +kernel
theorem dX10_take_48 : decode cX10_take 48 = .ok (.iand, 1) := by decide +kernel
theorem dX10_take_49 : decode cX10_take 49 = .ok (.ifCond .eq 7, 3) := by decide +kernel
theorem dX10_take_52 : decode cX10_take 52 = .ok (.iconst 1, 1) := by decide +kernel
theorem dX10_take_53 : decode cX10_take 53 = .ok (.goto 4, 3) := by decide +kernel
theorem dX10_take_56 : decode cX10_take 56 = .ok (.iconst 0, 1) := by decide +kernel
theorem dX10_take_57 : decode cX10_take 57 = .ok (.aload_n 1, 1) := by decide +kernel
theorem dX10_take_58 : decode cX10_take 58 = .ok (.iload_n 2, 1) := by decide +kernel
theorem dX10_take_59 : decode cX10_take 59 = .ok (.bipush 6, 2) := by decide +kernel
theorem dX10_take_61 : decode cX10_take 61 = .ok (.iadd, 1) := by decide +kernel
theorem dX10_take_62 : decode cX10_take 62 = .ok (.invokevirtual 40, 3) := by decide +kernel
theorem dX10_take_65 : decode cX10_take 65 = .ok (.invokevirtual 50, 3) := by decide +kernel
theorem dX10_take_68 : decode cX10_take 68 = .ok (.aload_n 0, 1) := by decide +kernel
theorem dX10_take_69 : decode cX10_take 69 = .ok (.iload_n 3, 1) := by decide +kernel
theorem dX10_take_70 : decode cX10_take 70 = .ok (.iconst 2, 1) := by decide +kernel
theorem dX10_take_71 : decode cX10_take 71 = .ok (.iand, 1) := by decide +kernel
theorem dX10_take_72 : decode cX10_take 72 = .ok (.ifCond .eq 7, 3) := by decide +kernel
theorem dX10_take_75 : decode cX10_take 75 = .ok (.iconst 1, 1) := by decide +kernel
theorem dX10_take_76 : decode cX10_take 76 = .ok (.goto 4, 3) := by decide +kernel
theorem dX10_take_79 : decode cX10_take 79 = .ok (.iconst 0, 1) := by decide +kernel
theorem dX10_take_80 : decode cX10_take 80 = .ok (.putfield 24, 3) := by decide +kernel
theorem dX10_take_83 : decode cX10_take 83 = .ok (.aload_n 1, 1) := by decide +kernel
theorem dX10_take_84 : decode cX10_take 84 = .ok (.iload_n 2, 1) := by decide +kernel
theorem dX10_take_85 : decode cX10_take 85 = .ok (.bipush 7, 2) := by decide +kernel
theorem dX10_take_87 : decode cX10_take 87 = .ok (.iadd, 1) := by decide +kernel
theorem dX10_take_88 : decode cX10_take 88 = .ok (.invokevirtual 40, 3) := by decide +kernel
theorem dX10_take_91 : decode cX10_take 91 = .ok (.istore 4, 2) := by decide +kernel
theorem dX10_take_93 : decode cX10_take 93 = .ok (.aload_n 0, 1) := by decide +kernel
theorem dX10_take_94 : decode cX10_take 94 = .ok (.iload 4, 2) := by decide +kernel
theorem dX10_take_96 : decode cX10_take 96 = .ok (.sipush 255, 3) := by decide +kernel
theorem dX10_take_99 : decode cX10_take 99 = .ok (.if_icmp .ne 7, 3) := by decide +kernel
theorem dX10_take_102 : decode cX10_take 102 = .ok (.iconst (-1), 1) := by decide +kernel
theorem dX10_take_103 : decode cX10_take 103 = .ok (.goto 5, 3) := by decide +kernel
theorem dX10_take_106 : decode cX10_take 106 = .ok (.iload 4, 2) := by decide +kernel
theorem dX10_take_108 : decode cX10_take 108 = .ok (.putfield 28, 3) := by decide +kernel
theorem dX10_take_111 : decode cX10_take 111 = .ok (.return_, 1) := by decide +kernel
set_option maxRecDepth 100000 in
theorem tj_X10_take_80 {g : GT} {n nf : Int} (hu : Up true nf n) (a0 a2 : Int) (hk0 : kd a0 = 20) (M : Mem) (s0 : Int) : AW g true RX10 cX10_take 5 none (1) n n nf 80 [(0, 2, a0), (1, 2, 2), (2, 0, a2)] [(0, s0), (2, a0)] n M (j_X10_take_80 a0 a2 M s0) := by
  unfold j_X10_take_80
  refine r_ok (fun h29 => ?_)
  refine r_pf (t := 0) (kz := 7) rfl hu dX10_take_80 kF_X10_24 hk0 rfl rfl rfl (fun _ => h29) rfl kX_10_7 (fun M30 eM30 => ?_)
  refine r_aload_n 1 dX10_take_83 rfl rfl ?_
  refine r_iload_n 2 dX10_take_84 rfl rfl ?_
  refine r_bipush dX10_take_85 (by decide) ⟨by decide, by decide⟩ ?_
  refine r_ok (fun h31 => ?_)
  refine r_iadd dX10_take_87 h31 ?_
  refine r_inv (a := 2) hu ⟨Nat.le_refl _, Nat.le_refl _⟩ dX10_take_88 kM_X10_40 (ci := 9) rfl kd_2 rfl rfl (by decide) (by decide) [(0, a2 + 7)] rfl (sk := []) rfl (Nat.le_of_ble_eq_true rfl) rfl rfl (m_X9_at hu M30 (a2 + 7)) (fun r32 M33 => ?_)
  refine r_istore dX10_take_91 (by decide) (ls' := [(4, 0, r32), (0, 2, a0), (1, 2, 2), (2, 0, a2)]) rfl ?_
  refine r_aload_n 1 dX10_take_93 rfl rfl ?_
  refine r_iload 0 dX10_take_94 rfl ?_
  refine r_sipush dX10_take_96 (by decide) ⟨by decide, by decide⟩ ?_
  refine r_icmp_ne (tgt := 106) dX10_take_99 rfl (fun h34 => ?_) (fun h35 => ?_)
  · refine r_iconst dX10_take_102 ⟨by decide, by decide⟩ ?_
    refine r_goto (tgt := 108) dX10_take_103 rfl ?_
    refine r_pf (t := 0) (kz := 8) rfl hu dX10_take_108 kF_X10_28 hk0 rfl rfl rfl (fun h => absurd h (by decide)) rfl kX_10_8 (fun M36 eM36 => ?_)
    exact r_vret rfl rfl dX10_take_111
  · refine r_iload 0 dX10_take_106 rfl ?_
    refine r_pf (t := 0) (kz := 8) rfl hu dX10_take_108 kF_X10_28 hk0 rfl rfl rfl (fun h => absurd h (by decide)) rfl kX_10_8 (fun M37 eM37 => ?_)
    exact r_vret rfl rfl dX10_take_111
set_option maxRecDepth 100000 in
theorem tj_X10_take_57 {g : GT} {n nf : Int} (hu : Up true nf n) (a0 a2 : Int) (hk0 : kd a0 = 20) (M : Mem) (x3 s0 s1 : Int) : AW g true RX10 cX10_take 5 none (1) n n nf 57 [(0, 2, a0), (1, 2, 2), (2, 0, a2), (3, 0, x3)] [(0, s0), (0, s1), (2, a0)] n M (j_X10_take_57 a0 a2 M x3 s0 s1) := by
  unfold j_X10_take_57
  refine r_aload_n 1 dX10_take_57 rfl rfl ?_
  refine r_iload_n 2 dX10_take_58 rfl rfl ?_
  refine r_bipush dX10_take_59 (by decide) ⟨by decide, by decide⟩ ?_
  refine r_ok (fun h22 => ?_)
  refine r_iadd dX10_take_61 h22 ?_
  refine r_inv (a := 2) hu ⟨Nat.le_refl _, Nat.le_refl _⟩ dX10_take_62 kM_X10_40 (ci := 9) rfl kd_2 rfl rfl (by decide) (by decide) [(0, a2 + 6)] rfl (sk := [(0, s0), (0, s1), (2, a0)]) rfl (Nat.le_of_ble_eq_true rfl) rfl rfl (m_X9_at hu M (a2 + 6)) (fun r23 M24 => ?_)
  refine r_invv (a := a0) hu ⟨Nat.le_refl _, Nat.le_refl _⟩ dX10_take_65 kM_X10_50 (ci := 10) rfl hk0 rfl rfl (by decide) (by decide) [(0, s1), (0, s0), (0, r23)] rfl (sk := []) rfl (Nat.le_of_ble_eq_true rfl) rfl (m_X10_putAnswer hu M24 a0 s1 s0 r23 hk0) (fun r25 M26 => ?_)
  refine r_aload_n 0 dX10_take_68 rfl rfl ?_
  refine r_iload_n 3 dX10_take_69 rfl rfl ?_
  refine r_iconst dX10_take_70 ⟨by decide, by decide⟩ ?_
  refine r_iand dX10_take_71 ?_
  refine r_if_eq (tgt := 79) dX10_take_72 rfl (fun h27 => ?_) (fun h28 => ?_)
  · refine r_iconst dX10_take_79 ⟨by decide, by decide⟩ ?_
    refine r_sub [0, 1, 2] (ls' := [(0, 2, a0), (1, 2, 2), (2, 0, a2)]) rfl ?_
    exact tj_X10_take_80 hu a0 a2 hk0 M26 0
  · refine r_iconst dX10_take_75 ⟨by decide, by decide⟩ ?_
    refine r_goto (tgt := 80) dX10_take_76 rfl ?_
    refine r_sub [0, 1, 2] (ls' := [(0, 2, a0), (1, 2, 2), (2, 0, a2)]) rfl ?_
    exact tj_X10_take_80 hu a0 a2 hk0 M26 1
set_option maxRecDepth 100000 in
theorem m_X10_take {g : GT} {n nf : Int} (hu : Up true nf n) (M : Mem) (a0 a2 : Int) (hk0 : kd a0 = 20) : AM g true yX10_take cX10_take 5 none (1) n n nf [(2, a0), (2, 2), (0, a2)] M (f_X10_take M a0 a2) := by
  refine AM_of (by decide +kernel) (Nat.le_of_ble_eq_true rfl) (fun h => absurd h (Int.lt_irrefl n)) ?_
  show AW g true RX10 cX10_take 5 none (1) n n nf 0 [(0, 2, a0), (1, 2, 2), (2, 0, a2)] [] n M (f_X10_take M a0 a2)
  unfold f_X10_take
  refine r_aload_n 0 dX10_take_0 rfl rfl ?_
  refine r_aload_n 1 dX10_take_1 rfl rfl ?_
  refine r_iload_n 2 dX10_take_2 rfl rfl ?_
  refine r_inv (a := 2) hu ⟨Nat.le_refl _, Nat.le_refl _⟩ dX10_take_3 kM_X10_40 (ci := 9) rfl kd_2 rfl rfl (by decide) (by decide) [(0, a2)] rfl (sk := [(2, a0)]) rfl (Nat.le_of_ble_eq_true rfl) rfl rfl (m_X9_at hu M a2) (fun r1 M2 => ?_)
  refine r_aload_n 1 dX10_take_6 rfl rfl ?_
  refine r_iload_n 2 dX10_take_7 rfl rfl ?_
  refine r_iconst dX10_take_8 ⟨by decide, by decide⟩ ?_
  refine r_ok (fun h3 => ?_)
  refine r_iadd dX10_take_9 h3 ?_
  refine r_inv (a := 2) hu ⟨Nat.le_refl _, Nat.le_refl _⟩ dX10_take_10 kM_X10_40 (ci := 9) rfl kd_2 rfl rfl (by decide) (by decide) [(0, a2 + 1)] rfl (sk := [(0, r1), (2, a0)]) rfl (Nat.le_of_ble_eq_true rfl) rfl rfl (m_X9_at hu M2 (a2 + 1)) (fun r4 M5 => ?_)
  refine r_aload_n 1 dX10_take_13 rfl rfl ?_
  refine r_iload_n 2 dX10_take_14 rfl rfl ?_
  refine r_iconst dX10_take_15 ⟨by decide, by decide⟩ ?_
  refine r_ok (fun h6 => ?_)
  refine r_iadd dX10_take_16 h6 ?_
  refine r_inv (a := 2) hu ⟨Nat.le_refl _, Nat.le_refl _⟩ dX10_take_17 kM_X10_40 (ci := 9) rfl kd_2 rfl rfl (by decide) (by decide) [(0, a2 + 2)] rfl (sk := [(0, r4), (0, r1), (2, a0)]) rfl (Nat.le_of_ble_eq_true rfl) rfl rfl (m_X9_at hu M5 (a2 + 2)) (fun r7 M8 => ?_)
  refine r_aload_n 1 dX10_take_20 rfl rfl ?_
  refine r_iload_n 2 dX10_take_21 rfl rfl ?_
  refine r_iconst dX10_take_22 ⟨by decide, by decide⟩ ?_
  refine r_ok (fun h9 => ?_)
  refine r_iadd dX10_take_23 h9 ?_
  refine r_inv (a := 2) hu ⟨Nat.le_refl _, Nat.le_refl _⟩ dX10_take_24 kM_X10_40 (ci := 9) rfl kd_2 rfl rfl (by decide) (by decide) [(0, a2 + 3)] rfl (sk := [(0, r7), (0, r4), (0, r1), (2, a0)]) rfl (Nat.le_of_ble_eq_true rfl) rfl rfl (m_X9_at hu M8 (a2 + 3)) (fun r10 M11 => ?_)
  refine r_invv (a := a0) hu ⟨Nat.le_refl _, Nat.le_refl _⟩ dX10_take_27 kM_X10_46 (ci := 10) rfl hk0 rfl rfl (by decide) (by decide) [(0, r1), (0, r4), (0, r7), (0, r10)] rfl (sk := []) rfl (Nat.le_of_ble_eq_true rfl) rfl (m_X10_putShowing hu M11 a0 r1 r4 r7 r10 hk0) (fun r12 M13 => ?_)
  refine r_aload_n 1 dX10_take_30 rfl rfl ?_
  refine r_iload_n 2 dX10_take_31 rfl rfl ?_
  refine r_iconst dX10_take_32 ⟨by decide, by decide⟩ ?_
  refine r_ok (fun h14 => ?_)
  refine r_iadd dX10_take_33 h14 ?_
  refine r_inv (a := 2) hu ⟨Nat.le_refl _, Nat.le_refl _⟩ dX10_take_34 kM_X10_40 (ci := 9) rfl kd_2 rfl rfl (by decide) (by decide) [(0, a2 + 5)] rfl (sk := []) rfl (Nat.le_of_ble_eq_true rfl) rfl rfl (m_X9_at hu M13 (a2 + 5)) (fun r15 M16 => ?_)
  refine r_istore_n dX10_take_37 rfl (by decide) (ls' := [(3, 0, r15), (0, 2, a0), (1, 2, 2), (2, 0, a2)]) rfl ?_
  refine r_aload_n 1 dX10_take_38 rfl rfl ?_
  refine r_aload_n 2 dX10_take_39 rfl rfl ?_
  refine r_iload_n 3 dX10_take_40 rfl rfl ?_
  refine r_iconst dX10_take_41 ⟨by decide, by decide⟩ ?_
  refine r_ok (fun h17 => ?_)
  refine r_iadd dX10_take_42 h17 ?_
  refine r_inv (a := 2) hu ⟨Nat.le_refl _, Nat.le_refl _⟩ dX10_take_43 kM_X10_40 (ci := 9) rfl kd_2 rfl rfl (by decide) (by decide) [(0, a2 + 4)] rfl (sk := [(2, a0)]) rfl (Nat.le_of_ble_eq_true rfl) rfl rfl (m_X9_at hu M16 (a2 + 4)) (fun r18 M19 => ?_)
  refine r_iload_n 0 dX10_take_46 rfl rfl ?_
  refine r_iconst dX10_take_47 ⟨by decide, by decide⟩ ?_
  refine r_iand dX10_take_48 ?_
  refine r_if_eq (tgt := 56) dX10_take_49 rfl (fun h20 => ?_) (fun h21 => ?_)
  · refine r_iconst dX10_take_56 ⟨by decide, by decide⟩ ?_
    refine r_sub [1, 2, 3, 0] (ls' := [(0, 2, a0), (1, 2, 2), (2, 0, a2), (3, 0, r15)]) rfl ?_
    exact tj_X10_take_57 hu a0 a2 hk0 M19 r15 0 r18
  · refine r_iconst dX10_take_52 ⟨by decide, by decide⟩ ?_
    refine r_goto (tgt := 57) dX10_take_53 rfl ?_
    refine r_sub [1, 2, 3, 0] (ls' := [(0, 2, a0), (1, 2, 2), (2, 0, a2), (3, 0, r15)]) rfl ?_
    exact tj_X10_take_57 hu a0 a2 hk0 M19 r15 1 r18
theorem dX11_feed_0 : decode cX11_feed 0 = .ok (.aload_n 0, 1) := by decide +kernel
theorem dX11_feed_1 : decode cX11_feed 1 = .ok (.getfield 10, 3) := by decide +kernel
theorem dX11_feed_4 : decode cX11_feed 4 = .ok (.getfield 95, 3) := by decide +kernel
theorem dX11_feed_7 : decode cX11_feed 7 = .ok (.bipush 20, 2) := by decide +kernel
theorem dX11_feed_9 : decode cX11_feed 9 = .ok (.iadd, 1) := by decide +kernel
theorem dX11_feed_10 : decode cX11_feed 10 = .ok (.sipush 900, 3) := by decide +kernel
theorem dX11_feed_13 : decode cX11_feed 13 = .ok (.if_icmp .le 5, 3) := by decide +kernel
theorem dX11_feed_16 : decode cX11_feed 16 = .ok (.iconst (-1), 1) := by decide +kernel
theorem dX11_feed_17 : decode cX11_feed 17 = .ok (.ireturn, 1) := by decide +kernel
theorem dX11_feed_18 : decode cX11_feed 18 = .ok (.aload_n 0, 1) := by decide +kernel
theorem dX11_feed_19 : decode cX11_feed 19 = .ok (.getfield 10, 3) := by decide +kernel
theorem dX11_feed_22 : decode cX11_feed 22 = .ok (.iload_n 1, 1) := by decide +kernel
theorem dX11_feed_23 : decode cX11_feed 23 = .ok (.invokevirtual 99, 3) := by decide +kernel
theorem dX11_feed_26 : decode cX11_feed 26 = .ok (.aload_n 0, 1) := by decide +kernel
theorem dX11_feed_27 : decode cX11_feed 27 = .ok (.getfield 10, 3) := by decide +kernel
theorem dX11_feed_30 : decode cX11_feed 30 = .ok (.iload_n 2, 1) := by decide +kernel
theorem dX11_feed_31 : decode cX11_feed 31 = .ok (.invokevirtual 99, 3) := by decide +kernel
theorem dX11_feed_34 : decode cX11_feed 34 = .ok (.aload_n 0, 1) := by decide +kernel
theorem dX11_feed_35 : decode cX11_feed 35 = .ok (.getfield 10, 3) := by decide +kernel
theorem dX11_feed_38 : decode cX11_feed 38 = .ok (.iload_n 3, 1) := by decide +kernel
theorem dX11_feed_39 : decode cX11_feed 39 = .ok (.invokevirtual 99, 3) := by decide +kernel
theorem dX11_feed_42 : decode cX11_feed 42 = .ok (.aload_n 0, 1) := by decide +kernel
theorem dX11_feed_43 : decode cX11_feed 43 = .ok (.getfield 10, 3) := by decide +kernel
theorem dX11_feed_46 : decode cX11_feed 46 = .ok (.iload 4, 2) := by decide +kernel
theorem dX11_feed_48 : decode cX11_feed 48 = .ok (.invokevirtual 99, 3) := by decide +kernel
theorem dX11_feed_51 : decode cX11_feed 51 = .ok (.aload_n 0, 1) := by decide +kernel
theorem dX11_feed_52 : decode cX11_feed 52 = .ok (.getfield 10, 3) := by decide +kernel
theorem dX11_feed_55 : decode cX11_feed 55 = .ok (.iload 5, 2) := by decide +kernel
theorem dX11_feed_57 : decode cX11_feed 57 = .ok (.invokevirtual 99, 3) := by decide +kernel
theorem dX11_feed_60 : decode cX11_feed 60 = .ok (.aload_n 0, 1) := by decide +kernel
theorem dX11_feed_61 : decode cX11_feed 61 = .ok (.getfield 10, 3) := by decide +kernel
theorem dX11_feed_64 : decode cX11_feed 64 = .ok (.getfield 95, 3) := by decide +kernel
theorem dX11_feed_67 : decode cX11_feed 67 = .ok (.ireturn, 1) := by decide +kernel
set_option maxRecDepth 100000 in
theorem m_X11_feed {g : GT} {n nf : Int} (hu : Up true nf n) (M : Mem) (a1 a2 a3 a4 a5 : Int) : AM g true yX11_feed cX11_feed 6 (some .int) (1) n n nf [(2, 1), (0, a1), (0, a2), (0, a3), (0, a4), (0, a5)] M (f_X11_feed M a1 a2 a3 a4 a5) := by
  refine AM_of (by decide +kernel) (Nat.le_of_ble_eq_true rfl) (fun h => absurd h (Int.lt_irrefl n)) ?_
  show AW g true RX11 cX11_feed 6 (some .int) (1) n n nf 0 [(0, 2, 1), (1, 0, a1), (2, 0, a2), (3, 0, a3), (4, 0, a4), (5, 0, a5)] [] n M (f_X11_feed M a1 a2 a3 a4 a5)
  unfold f_X11_feed
  refine r_aload_n 0 dX11_feed_0 rfl rfl ?_
  refine r_gx (kz := 0) rfl hu dX11_feed_1 kF_X11_10 kd_1 rfl rfl rfl fx_1_0 ?_
  refine r_gf (t := 0) (kz := 1) rfl hu dX11_feed_4 kF_X11_95 kd_2 rfl rfl rfl ?_
  refine r_bipush dX11_feed_7 (by decide) ⟨by decide, by decide⟩ ?_
  refine r_ok (fun h1 => ?_)
  refine r_iadd dX11_feed_9 h1 ?_
  refine r_sipush dX11_feed_10 (by decide) ⟨by decide, by decide⟩ ?_
  refine r_icmp_le (tgt := 18) dX11_feed_13 rfl (fun h2 => ?_) (fun h3 => ?_)
  · refine r_aload_n 0 dX11_feed_18 rfl rfl ?_
    refine r_gx (kz := 0) rfl hu dX11_feed_19 kF_X11_10 kd_1 rfl rfl rfl fx_1_0 ?_
    refine r_iload_n 1 dX11_feed_22 rfl rfl ?_
    refine r_invv (a := 2) hu ⟨Nat.le_refl _, Nat.le_refl _⟩ dX11_feed_23 kM_X11_99 (ci := 9) rfl kd_2 rfl rfl (by decide) (by decide) [(0, a1)] rfl (sk := []) rfl (Nat.le_of_ble_eq_true rfl) rfl (m_X9_addNumber hu M a1) (fun r4 M5 => ?_)
    refine r_aload_n 0 dX11_feed_26 rfl rfl ?_
    refine r_gx (kz := 0) rfl hu dX11_feed_27 kF_X11_10 kd_1 rfl rfl rfl fx_1_0 ?_
    refine r_iload_n 2 dX11_feed_30 rfl rfl ?_
    refine r_invv (a := 2) hu ⟨Nat.le_refl _, Nat.le_refl _⟩ dX11_feed_31 kM_X11_99 (ci := 9) rfl kd_2 rfl rfl (by decide) (by decide) [(0, a2)] rfl (sk := []) rfl (Nat.le_of_ble_eq_true rfl) rfl (m_X9_addNumber hu M5 a2) (fun r6 M7 => ?_)
    refine r_aload_n 0 dX11_feed_34 rfl rfl ?_
    refine r_gx (kz := 0) rfl hu dX11_feed_35 kF_X11_10 kd_1 rfl rfl rfl fx_1_0 ?_
    refine r_iload_n 3 dX11_feed_38 rfl rfl ?_
    refine r_invv (a := 2) hu ⟨Nat.le_refl _, Nat.le_refl _⟩ dX11_feed_39 kM_X11_99 (ci := 9) rfl kd_2 rfl rfl (by decide) (by decide) [(0, a3)] rfl (sk := []) rfl (Nat.le_of_ble_eq_true rfl) rfl (m_X9_addNumber hu M7 a3) (fun r8 M9 => ?_)
    refine r_aload_n 0 dX11_feed_42 rfl rfl ?_
    refine r_gx (kz := 0) rfl hu dX11_feed_43 kF_X11_10 kd_1 rfl rfl rfl fx_1_0 ?_
    refine r_iload 4 dX11_feed_46 rfl ?_
    refine r_invv (a := 2) hu ⟨Nat.le_refl _, Nat.le_refl _⟩ dX11_feed_48 kM_X11_99 (ci := 9) rfl kd_2 rfl rfl (by decide) (by decide) [(0, a4)] rfl (sk := []) rfl (Nat.le_of_ble_eq_true rfl) rfl (m_X9_addNumber hu M9 a4) (fun r10 M11 => ?_)
    refine r_aload_n 0 dX11_feed_51 rfl rfl ?_
    refine r_gx (kz := 0) rfl hu dX11_feed_52 kF_X11_10 kd_1 rfl rfl rfl fx_1_0 ?_
    refine r_iload 5 dX11_feed_55 rfl ?_
    refine r_invv (a := 2) hu ⟨Nat.le_refl _, Nat.le_refl _⟩ dX11_feed_57 kM_X11_99 (ci := 9) rfl kd_2 rfl rfl (by decide) (by decide) [(0, a5)] rfl (sk := []) rfl (Nat.le_of_ble_eq_true rfl) rfl (m_X9_addNumber hu M11 a5) (fun r12 M13 => ?_)
    refine r_aload_n 0 dX11_feed_60 rfl rfl ?_
    refine r_gx (kz := 0) rfl hu dX11_feed_61 kF_X11_10 kd_1 rfl rfl rfl fx_1_0 ?_
    refine r_gf (t := 0) (kz := 1) rfl hu dX11_feed_64 kF_X11_95 kd_2 rfl rfl rfl ?_
    exact r_iret rfl rfl (Or.inl rfl) dX11_feed_67
  · refine r_iconst dX11_feed_16 ⟨by decide, by decide⟩ ?_
    exact r_iret rfl rfl (Or.inl rfl) dX11_feed_17
theorem dX11_end_0 : decode cX11_end 0 = .ok (.iload_n 1, 1) := by decide +kernel
theorem dX11_end_1 : decode cX11_end 1 = .ok (.ifCond .lt 14, 3) := by decide +kernel
theorem dX11_end_4 : decode cX11_end 4 = .ok (.iload_n 1, 1) := by decide +kernel
theorem dX11_end_5 : decode cX11_end 5 = .ok (.aload_n 0, 1) := by decide +kernel
theorem dX11_end_6 : decode cX11_end 6 = .ok (.getfield 10, 3) := by decide +kernel
theorem dX11_end_9 : decode cX11_end 9 = .ok (.getfield 95, 3) := by decide +kernel
theorem dX11_end_12 : decode cX11_end 12 = .ok (.if_icmp .le 5, 3) := by decide +kernel
theorem dX11_end_15 : decode cX11_end 15 = .ok (.iconst 0, 1) := by decide +kernel
theorem dX11_end_16 : decode cX11_end 16 = .ok (.ireturn, 1) := by decide +kernel
theorem dX11_end_17 : decode cX11_end 17 = .ok (.aload_n 0, 1) := by decide +kernel
theorem dX11_end_18 : decode cX11_end 18 = .ok (.getfield 10, 3) := by decide +kernel
theorem dX11_end_21 : decode cX11_end 21 = .ok (.iload_n 1, 1) := by decide +kernel
theorem dX11_end_22 : decode cX11_end 22 = .ok (.putfield 95, 3) := by decide +kernel
theorem dX11_end_25 : decode cX11_end 25 = .ok (.iconst 1, 1) := by decide +kernel
theorem dX11_end_26 : decode cX11_end 26 = .ok (.ireturn, 1) := by decide +kernel
set_option maxRecDepth 100000 in
theorem m_X11_end {g : GT} {n nf : Int} (hu : Up true nf n) (M : Mem) (a1 : Int) : AM g true yX11_end cX11_end 2 (some .boolean) (0) n n nf [(2, 1), (0, a1)] M (f_X11_end M a1) := by
  refine AM_of (by decide +kernel) (Nat.le_of_ble_eq_true rfl) (fun h => absurd h (Int.lt_irrefl n)) ?_
  show AW g true RX11 cX11_end 2 (some .boolean) (0) n n nf 0 [(0, 2, 1), (1, 0, a1)] [] n M (f_X11_end M a1)
  unfold f_X11_end
  refine r_iload_n 1 dX11_end_0 rfl rfl ?_
  refine r_if_lt (tgt := 15) dX11_end_1 rfl (fun h1 => ?_) (fun h2 => ?_)
  · refine r_iconst dX11_end_15 ⟨by decide, by decide⟩ ?_
    exact r_iret rfl rfl (Or.inr ⟨rfl, Or.inl rfl⟩) dX11_end_16
  · refine r_iload_n 1 dX11_end_4 rfl rfl ?_
    refine r_aload_n 0 dX11_end_5 rfl rfl ?_
    refine r_gx (kz := 0) rfl hu dX11_end_6 kF_X11_10 kd_1 rfl rfl rfl fx_1_0 ?_
    refine r_gf (t := 0) (kz := 1) rfl hu dX11_end_9 kF_X11_95 kd_2 rfl rfl rfl ?_
    refine r_icmp_le (tgt := 17) dX11_end_12 rfl (fun h3 => ?_) (fun h4 => ?_)
    · refine r_aload_n 0 dX11_end_17 rfl rfl ?_
      refine r_gx (kz := 0) rfl hu dX11_end_18 kF_X11_10 kd_1 rfl rfl rfl fx_1_0 ?_
      refine r_iload_n 1 dX11_end_21 rfl rfl ?_
      refine r_pf (t := 0) (kz := 1) rfl hu dX11_end_22 kF_X11_95 kd_2 rfl rfl rfl (fun h => absurd h (by decide)) rfl kX_9_1 (fun M5 eM5 => ?_)
      refine r_iconst dX11_end_25 ⟨by decide, by decide⟩ ?_
      exact r_iret rfl rfl (Or.inr ⟨rfl, Or.inr rfl⟩) dX11_end_26
    · refine r_iconst dX11_end_15 ⟨by decide, by decide⟩ ?_
      exact r_iret rfl rfl (Or.inr ⟨rfl, Or.inl rfl⟩) dX11_end_16
theorem dX11_field_0 : decode cX11_field 0 = .ok (.aload_n 0, 1) := by decide +kernel
theorem dX11_field_1 : decode cX11_field 1 = .ok (.getfield 21, 3) := by decide +kernel
theorem dX11_field_4 : decode cX11_field 4 = .ok (.iconst 0, 1) := by decide +kernel
theorem dX11_field_5 : decode cX11_field 5 = .ok (.aload_n 0, 1) := by decide +kernel
theorem dX11_field_6 : decode cX11_field 6 = .ok (.getfield 74, 3) := by decide +kernel
theorem dX11_field_9 : decode cX11_field 9 = .ok (.aload_n 0, 1) := by decide +kernel
theorem dX11_field_10 : decode cX11_field 10 = .ok (.getfield 67, 3) := by decide +kernel
theorem dX11_field_13 : decode cX11_field 13 = .ok (.invokevirtual 103, 3) := by decide +kernel
theorem dX11_field_16 : decode cX11_field 16 = .ok (.istore_n 1, 1) := by decide +kernel
theorem dX11_field_17 : decode cX11_field 17 = .ok (.aload_n 0, 1) := by decide +kernel
theorem dX11_field_18 : decode cX11_field 18 = .ok (.getfield 10, 3) := by decide +kernel
theorem dX11_field_21 : decode cX11_field 21 = .ok (.iconst 0, 1) := by decide +kernel
theorem dX11_field_22 : decode cX11_field 22 = .ok (.putfield 95, 3) := by decide +kernel
theorem dX11_field_25 : decode cX11_field 25 = .ok (.iload_n 1, 1) := by decide +kernel
theorem dX11_field_26 : decode cX11_field 26 = .ok (.ifCond .ne 5, 3) := by decide +kernel
theorem dX11_field_29 : decode cX11_field 29 = .ok (.iconst (-1), 1) := by decide +kernel
theorem dX11_field_30 : decode cX11_field 30 = .ok (.ireturn, 1) := by decide +kernel
theorem dX11_field_31 : decode cX11_field 31 = .ok (.aload_n 0, 1) := by decide +kernel
theorem dX11_field_32 : decode cX11_field 32 = .ok (.getfield 67, 3) := by decide +kernel
theorem dX11_field_35 : decode cX11_field 35 = .ok (.astore_n 2, 1) := by decide +kernel
theorem dX11_field_36 : decode cX11_field 36 = .ok (.aload_n 0, 1) := by decide +kernel
theorem dX11_field_37 : decode cX11_field 37 = .ok (.aload_n 0, 1) := by decide +kernel
theorem dX11_field_38 : decode cX11_field 38 = .ok (.getfield 74, 3) := by decide +kernel
theorem dX11_field_41 : decode cX11_field 41 = .ok (.putfield 67, 3) := by decide +kernel
theorem dX11_field_44 : decode cX11_field 44 = .ok (.aload_n 0, 1) := by decide +kernel
theorem dX11_field_45 : decode cX11_field 45 = .ok (.aload_n 2, 1) := by decide +kernel
theorem dX11_field_46 : decode cX11_field 46 = .ok (.putfield 74, 3) := by decide +kernel
theorem dX11_field_49 : decode cX11_field 49 = .ok (.aload_n 0, 1) := by decide +kernel
theorem dX11_field_50 : decode cX11_field 50 = .ok (.getfield 35, 3) := by decide +kernel
theorem dX11_field_53 : decode cX11_field 53 = .ok (.aload_n 0, 1) := by decide +kernel
theorem dX11_field_54 : decode cX11_field 54 = .ok (.getfield 67, 3) := by decide +kernel
theorem dX11_field_57 : decode cX11_field 57 = .ok (.aload_n 0, 1) := by decide +kernel
theorem dX11_field_58 : decode cX11_field 58 = .ok (.getfield 28, 3) := by decide +kernel
theorem dX11_field_61 : decode cX11_field 61 = .ok (.invokevirtual 91, 3) := by decide +kernel
theorem dX11_field_64 : decode cX11_field 64 = .ok (.aload_n 0, 1) := by decide +kernel
theorem dX11_field_65 : decode cX11_field 65 = .ok (.getfield 42, 3) := by decide +kernel
theorem dX11_field_68 : decode cX11_field 68 = .ok (.iconst 0, 1) := by decide +kernel
theorem dX11_field_69 : decode cX11_field 69 = .ok (.putfield 107, 3) := by decide +kernel
theorem dX11_field_72 : decode cX11_field 72 = .ok (.aload_n 0, 1) := by decide +kernel
theorem dX11_field_73 : decode cX11_field 73 = .ok (.getfield 71, 3) := by decide +kernel
theorem dX11_field_76 : decode cX11_field 76 = .ok (.iconst 0, 1) := by decide +kernel
theorem dX11_field_77 : decode cX11_field 77 = .ok (.putfield 110, 3) := by decide +kernel
theorem dX11_field_80 : decode cX11_field 80 = .ok (.aload_n 0, 1) := by decide +kernel
theorem dX11_field_81 : decode cX11_field 81 = .ok (.getfield 67, 3) := by decide +kernel
theorem dX11_field_84 : decode cX11_field 84 = .ok (.getfield 114, 3) := by decide +kernel
theorem dX11_field_87 : decode cX11_field 87 = .ok (.ireturn, 1) := by decide +kernel
set_option maxRecDepth 100000 in
theorem m_X11_field {g : GT} {n nf : Int} (hu : Up true nf n) (M : Mem) : AM g true yX11_field cX11_field 3 (some .int) (89) n n nf [(2, 1)] M (f_X11_field M) := by
  refine AM_of (by decide +kernel) (Nat.le_of_ble_eq_true rfl) (fun h => absurd h (Int.lt_irrefl n)) ?_
  show AW g true RX11 cX11_field 3 (some .int) (89) n n nf 0 [(0, 2, 1)] [] n M (f_X11_field M)
  unfold f_X11_field
  refine r_aload_n 0 dX11_field_0 rfl rfl ?_
  refine r_gx (kz := 1) rfl hu dX11_field_1 kF_X11_21 kd_1 rfl rfl rfl fx_1_1 ?_
  refine r_iconst dX11_field_4 ⟨by decide, by decide⟩ ?_
  refine r_aload_n 0 dX11_field_5 rfl rfl ?_
  refine r_gf (t := 2) (kz := 10) rfl hu dX11_field_6 kF_X11_74 kd_1 rfl rfl rfl ?_
  refine r_aload_n 0 dX11_field_9 rfl rfl ?_
  refine r_gf (t := 2) (kz := 8) rfl hu dX11_field_10 kF_X11_67 kd_1 rfl rfl rfl ?_
  refine r_ok (fun h1 => ?_)
  refine r_ok (fun h2 => ?_)
  refine r_inv (a := 4) hu ⟨Nat.le_refl _, Nat.le_refl _⟩ dX11_field_13 kM_X11_103 (ci := 5) rfl kd_4 rfl rfl (by decide) (by decide) [(0, 0), (2, M 1 10), (2, M 1 8)] rfl (sk := []) rfl (Nat.le_of_ble_eq_true rfl) rfl rfl (m_X5_takes hu M 0 (M 1 10) (M 1 8) h1 h2) (fun r3 M4 => ?_)
  refine r_istore_n dX11_field_16 rfl (by decide) (ls' := [(1, 0, r3), (0, 2, 1)]) rfl ?_
  refine r_aload_n 1 dX11_field_17 rfl rfl ?_
  refine r_gx (kz := 0) rfl hu dX11_field_18 kF_X11_10 kd_1 rfl rfl rfl fx_1_0 ?_
  refine r_iconst dX11_field_21 ⟨by decide, by decide⟩ ?_
  refine r_pf (t := 0) (kz := 1) rfl hu dX11_field_22 kF_X11_95 kd_2 rfl rfl rfl (fun h => absurd h (by decide)) rfl kX_9_1 (fun M5 eM5 => ?_)
  refine r_iload_n 0 dX11_field_25 rfl rfl ?_
  refine r_if_ne (tgt := 31) dX11_field_26 rfl (fun h6 => ?_) (fun h7 => ?_)
  · refine r_iconst dX11_field_29 ⟨by decide, by decide⟩ ?_
    exact r_iret rfl rfl (Or.inl rfl) dX11_field_30
  · refine r_aload_n 1 dX11_field_31 rfl rfl ?_
    refine r_gf (t := 2) (kz := 8) rfl hu dX11_field_32 kF_X11_67 kd_1 rfl rfl rfl ?_
    refine r_astore_nB dX11_field_35 rfl (by decide) (lf := fun y8 => [(2, 2, y8), (1, 0, r3), (0, 2, 1)]) (fun _ => rfl) (fun y8 ey8 => ?_)
    refine r_aload_n 2 dX11_field_36 rfl rfl ?_
    refine r_aload_n 2 dX11_field_37 rfl rfl ?_
    refine r_gf (t := 2) (kz := 10) rfl hu dX11_field_38 kF_X11_74 kd_1 rfl rfl rfl ?_
    refine r_pf (t := 2) (kz := 8) rfl hu dX11_field_41 kF_X11_67 kd_1 rfl rfl rfl (fun h => absurd h (by decide)) rfl kX_11_8 (fun M9 eM9 => ?_)
    refine r_aload_n 2 dX11_field_44 rfl rfl ?_
    refine r_aload_n 0 dX11_field_45 rfl rfl ?_
    refine r_pf (t := 2) (kz := 10) rfl hu dX11_field_46 kF_X11_74 kd_1 rfl rfl rfl (fun h => absurd h (by decide)) rfl kX_11_10 (fun M10 eM10 => ?_)
    refine r_aload_n 2 dX11_field_49 rfl rfl ?_
    refine r_gx (kz := 3) rfl hu dX11_field_50 kF_X11_35 kd_1 rfl rfl rfl fx_1_3 ?_
    refine r_aload_n 2 dX11_field_53 rfl rfl ?_
    refine r_gf (t := 2) (kz := 8) rfl hu dX11_field_54 kF_X11_67 kd_1 rfl rfl rfl ?_
    refine r_aload_n 2 dX11_field_57 rfl rfl ?_
    refine r_gx (kz := 2) rfl hu dX11_field_58 kF_X11_28 kd_1 rfl rfl rfl fx_1_2 ?_
    refine r_ok (fun h11 => ?_)
    refine r_invv (a := 13) hu ⟨Nat.le_refl _, Nat.le_refl _⟩ dX11_field_61 kM_X11_91 (ci := 3) rfl kd_13 rfl rfl (by decide) (by decide) [(2, M10 1 8), (2, 10)] rfl (sk := []) rfl (Nat.le_of_ble_eq_true rfl) rfl (m_X3_build hu M10 (M10 1 8) h11) (fun r12 M13 => ?_)
    refine r_aload_n 2 dX11_field_64 rfl rfl ?_
    refine r_gx (kz := 4) rfl hu dX11_field_65 kF_X11_42 kd_1 rfl rfl rfl fx_1_4 ?_
    refine r_iconst dX11_field_68 ⟨by decide, by decide⟩ ?_
    refine r_pf (t := 0) (kz := 1) rfl hu dX11_field_69 kF_X11_107 kd_21 rfl rfl rfl (fun h => absurd h (by decide)) rfl kX_0_1 (fun M14 eM14 => ?_)
    refine r_aload_n 2 dX11_field_72 rfl rfl ?_
    refine r_gf (t := 2) (kz := 9) rfl hu dX11_field_73 kF_X11_71 kd_1 rfl rfl rfl ?_
    refine r_iconst dX11_field_76 ⟨by decide, by decide⟩ ?_
    refine r_ok (fun h15 => ?_)
    refine r_pf (t := 0) (kz := 6) rfl hu dX11_field_77 kF_X11_110 h15 rfl rfl rfl (fun _ => Or.inl rfl) rfl kX_7_6 (fun M16 eM16 => ?_)
    refine r_aload_n 2 dX11_field_80 rfl rfl ?_
    refine r_gf (t := 2) (kz := 8) rfl hu dX11_field_81 kF_X11_67 kd_1 rfl rfl rfl ?_
    refine r_ok (fun h17 => ?_)
    refine r_gf (t := 0) (kz := 1) rfl hu dX11_field_84 kF_X11_114 h17 rfl rfl rfl ?_
    exact r_iret rfl rfl (Or.inl rfl) dX11_field_87
theorem dX11_law_0 : decode cX11_law 0 = .ok (.iload_n 1, 1) := by decide +kernel
theorem dX11_law_1 : decode cX11_law 1 = .ok (.ifCond .lt 12, 3) := by decide +kernel
theorem dX11_law_4 : decode cX11_law 4 = .ok (.iload_n 1, 1) := by decide +kernel
theorem dX11_law_5 : decode cX11_law 5 = .ok (.iconst 3, 1) := by decide +kernel
theorem dX11_law_6 : decode cX11_law 6 = .ok (.if_icmp .ge 7, 3) := by decide +kernel
theorem dX11_law_9 : decode cX11_law 9 = .ok (.iconst 1, 1) := by decide +kernel
theorem dX11_law_10 : decode cX11_law 10 = .ok (.goto 4, 3) := by decide +kernel
theorem dX11_law_13 : decode cX11_law 13 = .ok (.iconst 0, 1) := by decide +kernel
theorem dX11_law_14 : decode cX11_law 14 = .ok (.istore_n 2, 1) := by decide +kernel
theorem dX11_law_15 : decode cX11_law 15 = .ok (.iload_n 2, 1) := by decide +kernel
theorem dX11_law_16 : decode cX11_law 16 = .ok (.ifCond .eq 26, 3) := by decide +kernel
theorem dX11_law_19 : decode cX11_law 19 = .ok (.aload_n 0, 1) := by decide +kernel
theorem dX11_law_20 : decode cX11_law 20 = .ok (.getfield 21, 3) := by decide +kernel
theorem dX11_law_23 : decode cX11_law 23 = .ok (.iconst 1, 1) := by decide +kernel
theorem dX11_law_24 : decode cX11_law 24 = .ok (.aload_n 0, 1) := by decide +kernel
theorem dX11_law_25 : decode cX11_law 25 = .ok (.getfield 74, 3) := by decide +kernel
theorem dX11_law_28 : decode cX11_law 28 = .ok (.aload_n 0, 1) := by decide +kernel
theorem dX11_law_29 : decode cX11_law 29 = .ok (.getfield 67, 3) := by decide +kernel
theorem dX11_law_32 : decode cX11_law 32 = .ok (.invokevirtual 103, 3) := by decide +kernel
theorem dX11_law_35 : decode cX11_law 35 = .ok (.ifCond .eq 7, 3) := by decide +kernel
theorem dX11_law_38 : decode cX11_law 38 = .ok (.iconst 1, 1) := by decide +kernel
theorem dX11_law_39 : decode cX11_law 39 = .ok (.goto 4, 3) := by decide +kernel
theorem dX11_law_42 : decode cX11_law 42 = .ok (.iconst 0, 1) := by decide +kernel
theorem dX11_law_43 : decode cX11_law 43 = .ok (.istore_n 3, 1) := by decide +kernel
theorem dX11_law_44 : decode cX11_law 44 = .ok (.aload_n 0, 1) := by decide +kernel
theorem dX11_law_45 : decode cX11_law 45 = .ok (.getfield 10, 3) := by decide +kernel
theorem dX11_law_48 : decode cX11_law 48 = .ok (.iconst 0, 1) := by decide +kernel
theorem dX11_law_49 : decode cX11_law 49 = .ok (.putfield 95, 3) := by decide +kernel
theorem dX11_law_52 : decode cX11_law 52 = .ok (.iload_n 3, 1) := by decide +kernel
theorem dX11_law_53 : decode cX11_law 53 = .ok (.ifCond .ne 14, 3) := by decide +kernel
theorem dX11_law_56 : decode cX11_law 56 = .ok (.iload_n 2, 1) := by decide +kernel
theorem dX11_law_57 : decode cX11_law 57 = .ok (.ifCond .eq 7, 3) := by decide +kernel
theorem dX11_law_60 : decode cX11_law 60 = .ok (.iconst (-1), 1) := by decide +kernel
theorem dX11_law_61 : decode cX11_law 61 = .ok (.goto 5, 3) := by decide +kernel
theorem dX11_law_64 : decode cX11_law 64 = .ok (.bipush (-2), 2) := by decide +kernel
theorem dX11_law_66 : decode cX11_law 66 = .ok (.ireturn, 1) := by decide +kernel
theorem dX11_law_67 : decode cX11_law 67 = .ok (.aload_n 0, 1) := by decide +kernel
theorem dX11_law_68 : decode cX11_law 68 = .ok (.getfield 62, 3) := by decide +kernel
theorem dX11_law_71 : decode cX11_law 71 = .ok (.iload_n 1, 1) := by decide +kernel
theorem dX11_law_72 : decode cX11_law 72 = .ok (.aaload, 1) := by decide +kernel
theorem dX11_law_73 : decode cX11_law 73 = .ok (.astore 4, 2) := by decide +kernel
theorem dX11_law_75 : decode cX11_law 75 = .ok (.aload_n 0, 1) := by decide +kernel
theorem dX11_law_76 : decode cX11_law 76 = .ok (.getfield 62, 3) := by decide +kernel
theorem dX11_law_79 : decode cX11_law 79 = .ok (.iload_n 1, 1) := by decide +kernel
theorem dX11_law_80 : decode cX11_law 80 = .ok (.aload_n 0, 1) := by decide +kernel
theorem dX11_law_81 : decode cX11_law 81 = .ok (.getfield 74, 3) := by decide +kernel
theorem dX11_law_84 : decode cX11_law 84 = .ok (.aastore, 1) := by decide +kernel
theorem dX11_law_85 : decode cX11_law 85 = .ok (.aload_n 0, 1) := by decide +kernel
theorem dX11_law_86 : decode cX11_law 86 = .ok (.aload 4, 2) := by decide +kernel
theorem dX11_law_88 : decode cX11_law 88 = .ok (.putfield 74, 3) := by decide +kernel
theorem dX11_law_91 : decode cX11_law 91 = .ok (.aload_n 0, 1) := by decide +kernel
theorem dX11_law_92 : decode cX11_law 92 = .ok (.getfield 62, 3) := by decide +kernel
theorem dX11_law_95 : decode cX11_law 95 = .ok (.iload_n 1, 1) := by decide +kernel
theorem dX11_law_96 : decode cX11_law 96 = .ok (.aaload, 1) := by decide +kernel
theorem dX11_law_97 : decode cX11_law 97 = .ok (.getfield 114, 3) := by decide +kernel
theorem dX11_law_100 : decode cX11_law 100 = .ok (.ireturn, 1) := by decide +kernel
set_option maxRecDepth 100000 in
theorem tj_X11_law_43 {g : GT} {n nf : Int} (hu : Up true nf n) (a1 : Int) (M : Mem) (x2 s0 : Int) : AW g true RX11 cX11_law 5 (some .int) (89) n n nf 43 [(0, 2, 1), (1, 0, a1), (2, 0, x2)] [(0, s0)] n M (j_X11_law_43 a1 M x2 s0) := by
  unfold j_X11_law_43
  refine r_istore_n dX11_law_43 rfl (by decide) (ls' := [(3, 0, s0), (0, 2, 1), (1, 0, a1), (2, 0, x2)]) rfl ?_
  refine r_aload_n 1 dX11_law_44 rfl rfl ?_
  refine r_gx (kz := 0) rfl hu dX11_law_45 kF_X11_10 kd_1 rfl rfl rfl fx_1_0 ?_
  refine r_iconst dX11_law_48 ⟨by decide, by decide⟩ ?_
  refine r_pf (t := 0) (kz := 1) rfl hu dX11_law_49 kF_X11_95 kd_2 rfl rfl rfl (fun h => absurd h (by decide)) rfl kX_9_1 (fun M5 eM5 => ?_)
  refine r_iload_n 0 dX11_law_52 rfl rfl ?_
  refine r_if_ne (tgt := 67) dX11_law_53 rfl (fun h6 => ?_) (fun h7 => ?_)
  · refine r_iload_n 3 dX11_law_56 rfl rfl ?_
    refine r_if_eq (tgt := 64) dX11_law_57 rfl (fun h8 => ?_) (fun h9 => ?_)
    · refine r_bipush dX11_law_64 (by decide) ⟨by decide, by decide⟩ ?_
      exact r_iret rfl rfl (Or.inl rfl) dX11_law_66
    · refine r_iconst dX11_law_60 ⟨by decide, by decide⟩ ?_
      refine r_goto (tgt := 66) dX11_law_61 rfl ?_
      exact r_iret rfl rfl (Or.inl rfl) dX11_law_66
  · refine r_aload_n 1 dX11_law_67 rfl rfl ?_
    refine r_gx (kz := 7) rfl hu dX11_law_68 kF_X11_62 kd_1 rfl rfl rfl fx_1_7 ?_
    refine r_iload_n 2 dX11_law_71 rfl rfl ?_
    refine r_ok (fun h10 => ?_)
    refine r_aald hu dX11_law_72 kd_68 (Or.inl rfl) rfl ln_68 h10 ?_
    refine r_astoreB dX11_law_73 (by decide) (lf := fun y11 => [(4, 2, y11), (3, 0, s0), (0, 2, 1), (1, 0, a1), (2, 0, x2)]) (fun _ => rfl) (fun y11 ey11 => ?_)
    refine r_aload_n 2 dX11_law_75 rfl rfl ?_
    refine r_gx (kz := 7) rfl hu dX11_law_76 kF_X11_62 kd_1 rfl rfl rfl fx_1_7 ?_
    refine r_iload_n 3 dX11_law_79 rfl rfl ?_
    refine r_aload_n 2 dX11_law_80 rfl rfl ?_
    refine r_gf (t := 2) (kz := 10) rfl hu dX11_law_81 kF_X11_74 kd_1 rfl rfl rfl ?_
    refine r_ok (fun h12 => ?_)
    refine r_aast hu dX11_law_84 kd_68 (Or.inl ⟨rfl, rfl⟩) rfl ln_68 h10 h12 rfl (fun M13 eM13 => ?_)
    refine r_aload_n 2 dX11_law_85 rfl rfl ?_
    refine r_aload 0 dX11_law_86 rfl ?_
    refine r_pf (t := 2) (kz := 10) rfl hu dX11_law_88 kF_X11_74 kd_1 rfl rfl rfl (fun h => absurd h (by decide)) rfl kX_11_10 (fun M14 eM14 => ?_)
    refine r_aload_n 2 dX11_law_91 rfl rfl ?_
    refine r_gx (kz := 7) rfl hu dX11_law_92 kF_X11_62 kd_1 rfl rfl rfl fx_1_7 ?_
    refine r_iload_n 3 dX11_law_95 rfl rfl ?_
    refine r_aald hu dX11_law_96 kd_68 (Or.inl rfl) rfl ln_68 h10 ?_
    refine r_ok (fun h15 => ?_)
    refine r_gf (t := 0) (kz := 1) rfl hu dX11_law_97 kF_X11_114 h15 rfl rfl rfl ?_
    exact r_iret rfl rfl (Or.inl rfl) dX11_law_100
set_option maxRecDepth 100000 in
theorem tj_X11_law_42 {g : GT} {n nf : Int} (hu : Up true nf n) (a1 : Int) (M : Mem) (x2 : Int) : AW g true RX11 cX11_law 5 (some .int) (89) n n nf 42 [(0, 2, 1), (1, 0, a1), (2, 0, x2)] [] n M (j_X11_law_42 a1 M x2) := by
  unfold j_X11_law_42
  refine r_iconst dX11_law_42 ⟨by decide, by decide⟩ ?_
  exact tj_X11_law_43 hu a1 M x2 0
set_option maxRecDepth 100000 in
theorem tj_X11_law_14 {g : GT} {n nf : Int} (hu : Up true nf n) (a1 : Int) (M : Mem) (s0 : Int) : AW g true RX11 cX11_law 5 (some .int) (89) n n nf 14 [(0, 2, 1), (1, 0, a1)] [(0, s0)] n M (j_X11_law_14 a1 M s0) := by
  unfold j_X11_law_14
  refine r_istore_n dX11_law_14 rfl (by decide) (ls' := [(2, 0, s0), (0, 2, 1), (1, 0, a1)]) rfl ?_
  refine r_iload_n 0 dX11_law_15 rfl rfl ?_
  refine r_if_eq (tgt := 42) dX11_law_16 rfl (fun h3 => ?_) (fun h4 => ?_)
  · refine r_sub [1, 2, 0] (ls' := [(0, 2, 1), (1, 0, a1), (2, 0, s0)]) rfl ?_
    exact tj_X11_law_42 hu a1 M s0
  · refine r_aload_n 1 dX11_law_19 rfl rfl ?_
    refine r_gx (kz := 1) rfl hu dX11_law_20 kF_X11_21 kd_1 rfl rfl rfl fx_1_1 ?_
    refine r_iconst dX11_law_23 ⟨by decide, by decide⟩ ?_
    refine r_aload_n 1 dX11_law_24 rfl rfl ?_
    refine r_gf (t := 2) (kz := 10) rfl hu dX11_law_25 kF_X11_74 kd_1 rfl rfl rfl ?_
    refine r_aload_n 1 dX11_law_28 rfl rfl ?_
    refine r_gf (t := 2) (kz := 8) rfl hu dX11_law_29 kF_X11_67 kd_1 rfl rfl rfl ?_
    refine r_ok (fun h16 => ?_)
    refine r_ok (fun h17 => ?_)
    refine r_inv (a := 4) hu ⟨Nat.le_refl _, Nat.le_refl _⟩ dX11_law_32 kM_X11_103 (ci := 5) rfl kd_4 rfl rfl (by decide) (by decide) [(0, 1), (2, M 1 10), (2, M 1 8)] rfl (sk := []) rfl (Nat.le_of_ble_eq_true rfl) rfl rfl (m_X5_takes hu M 1 (M 1 10) (M 1 8) h16 h17) (fun r18 M19 => ?_)
    refine r_if_eq (tgt := 42) dX11_law_35 rfl (fun h20 => ?_) (fun h21 => ?_)
    · refine r_sub [1, 2, 0] (ls' := [(0, 2, 1), (1, 0, a1), (2, 0, s0)]) rfl ?_
      exact tj_X11_law_42 hu a1 M19 s0
    · refine r_iconst dX11_law_38 ⟨by decide, by decide⟩ ?_
      refine r_goto (tgt := 43) dX11_law_39 rfl ?_
      refine r_sub [1, 2, 0] (ls' := [(0, 2, 1), (1, 0, a1), (2, 0, s0)]) rfl ?_
      exact tj_X11_law_43 hu a1 M19 s0 1
set_option maxRecDepth 100000 in
theorem tj_X11_law_13 {g : GT} {n nf : Int} (hu : Up true nf n) (a1 : Int) (M : Mem) : AW g true RX11 cX11_law 5 (some .int) (89) n n nf 13 [(0, 2, 1), (1, 0, a1)] [] n M (j_X11_law_13 a1 M) := by
  unfold j_X11_law_13
  refine r_iconst dX11_law_13 ⟨by decide, by decide⟩ ?_
  exact tj_X11_law_14 hu a1 M 0
set_option maxRecDepth 100000 in
theorem m_X11_law {g : GT} {n nf : Int} (hu : Up true nf n) (M : Mem) (a1 : Int) : AM g true yX11_law cX11_law 5 (some .int) (89) n n nf [(2, 1), (0, a1)] M (f_X11_law M a1) := by
  refine AM_of (by decide +kernel) (Nat.le_of_ble_eq_true rfl) (fun h => absurd h (Int.lt_irrefl n)) ?_
  show AW g true RX11 cX11_law 5 (some .int) (89) n n nf 0 [(0, 2, 1), (1, 0, a1)] [] n M (f_X11_law M a1)
  unfold f_X11_law
  refine r_iload_n 1 dX11_law_0 rfl rfl ?_
  refine r_if_lt (tgt := 13) dX11_law_1 rfl (fun h1 => ?_) (fun h2 => ?_)
  · exact tj_X11_law_13 hu a1 M
  · refine r_iload_n 1 dX11_law_4 rfl rfl ?_
    refine r_iconst dX11_law_5 ⟨by decide, by decide⟩ ?_
    refine r_icmp_ge (tgt := 13) dX11_law_6 rfl (fun h22 => ?_) (fun h23 => ?_)
    · exact tj_X11_law_13 hu a1 M
    · refine r_iconst dX11_law_9 ⟨by decide, by decide⟩ ?_
      refine r_goto (tgt := 14) dX11_law_10 rfl ?_
      exact tj_X11_law_14 hu a1 M 1
theorem dX11_listAgain_0 : decode cX11_listAgain 0 = .ok (.aload_n 0, 1) := by decide +kernel
theorem dX11_listAgain_1 : decode cX11_listAgain 1 = .ok (.getfield 71, 3) := by decide +kernel
theorem dX11_listAgain_4 : decode cX11_listAgain 4 = .ok (.getfield 170, 3) := by decide +kernel
theorem dX11_listAgain_7 : decode cX11_listAgain 7 = .ok (.iload_n 1, 1) := by decide +kernel
theorem dX11_listAgain_8 : decode cX11_listAgain 8 = .ok (.aaload, 1) := by decide +kernel
theorem dX11_listAgain_9 : decode cX11_listAgain 9 = .ok (.astore_n 3, 1) := by decide +kernel
theorem dX11_listAgain_10 : decode cX11_listAgain 10 = .ok (.iconst 0, 1) := by decide +kernel
theorem dX11_listAgain_11 : decode cX11_listAgain 11 = .ok (.istore 4, 2) := by decide +kernel
theorem dX11_listAgain_13 : decode cX11_listAgain 13 = .ok (.iload 4, 2) := by decide +kernel
theorem dX11_listAgain_15 : decode cX11_listAgain 15 = .ok (.aload_n 3, 1) := by decide +kernel
theorem dX11_listAgain_16 : decode cX11_listAgain 16 = .ok (.getfield 193, 3) := by decide +kernel
theorem dX11_listAgain_19 : decode cX11_listAgain 19 = .ok (.if_icmp .ge 29, 3) := by decide +kernel
theorem dX11_listAgain_22 : decode cX11_listAgain 22 = .ok (.iload_n 2, 1) := by decide +kernel
theorem dX11_listAgain_23 : decode cX11_listAgain 23 = .ok (.bipush 6, 2) := by decide +kernel
theorem dX11_listAgain_25 : decode cX11_listAgain 25 = .ok (.if_icmp .ge 23, 3) := by decide +kernel
theorem dX11_listAgain_28 : decode cX11_listAgain 28 = .ok (.aload_n 0, 1) := by decide +kernel
theorem dX11_listAgain_29 : decode cX11_listAgain 29 = .ok (.iload_n 1, 1) := by decide +kernel
theorem dX11_listAgain_30 : decode cX11_listAgain 30 = .ok (.iconst 1, 1) := by decide +kernel
theorem dX11_listAgain_31 : decode cX11_listAgain 31 = .ok (.iadd, 1) := by decide +kernel
theorem dX11_listAgain_32 : decode cX11_listAgain 32 = .ok (.aload_n 3, 1) := by decide +kernel
theorem dX11_listAgain_33 : decode cX11_listAgain 33 = .ok (.getfield 185, 3) := by decide +kernel
theorem dX11_listAgain_36 : decode cX11_listAgain 36 = .ok (.iload_n 2, 1) := by decide +kernel
theorem dX11_listAgain_37 : decode cX11_listAgain 37 = .ok (.iconst 1, 1) := by decide +kernel
theorem dX11_listAgain_38 : decode cX11_listAgain 38 = .ok (.iadd, 1) := by decide +kernel
theorem dX11_listAgain_39 : decode cX11_listAgain 39 = .ok (.invokevirtual 118, 3) := by decide +kernel
theorem dX11_listAgain_42 : decode cX11_listAgain 42 = .ok (.iinc 4 1, 3) := by decide +kernel
theorem dX11_listAgain_45 : decode cX11_listAgain 45 = .ok (.goto (-32), 3) := by decide +kernel
theorem dX11_listAgain_48 : decode cX11_listAgain 48 = .ok (.return_, 1) := by decide +kernel
set_option maxRecDepth 100000 in
theorem tb_X11_listAgain_13 {g : GT} {n nf : Int} (hu : Up true nf n) (S : Mem → Int → Int → Int → Res) {dS : Nat} (hdS : 1 ≤ dS) (hS : ∀ (M : Mem) (a1 a2 a3 : Int), AM g true yX11_listShows cX11_listShows 6 none dS n n nf [(2, 1), (0, a1), (0, a2), (0, a3)] M (S M a1 a2 a3)) (a1 a2 : Int) (w13 : Mem → Int → Int → Res) (hw13 : ∀ (M : Mem) (x3 x4 : Int), AW g true RX11 cX11_listAgain 5 none (dS + 1) n n nf 13 [(0, 2, 1), (1, 0, a1), (2, 0, a2), (3, 2, x3), (4, 0, x4)] [] n M (w13 M x3 x4)) (M : Mem) (x3 x4 : Int) : AW g true RX11 cX11_listAgain 5 none (dS + 1) n n nf 13 [(0, 2, 1), (1, 0, a1), (2, 0, a2), (3, 2, x3), (4, 0, x4)] [] n M (b_X11_listAgain_13 S a1 a2 w13 M x3 x4) := by
  unfold b_X11_listAgain_13
  refine r_iload 4 dX11_listAgain_13 rfl ?_
  refine r_aload_n 3 dX11_listAgain_15 rfl rfl ?_
  refine r_ok (fun h4 => ?_)
  refine r_gf (t := 0) (kz := 2) rfl hu dX11_listAgain_16 kF_X11_193 h4 rfl rfl rfl ?_
  refine r_icmp_ge (tgt := 48) dX11_listAgain_19 rfl (fun h5 => ?_) (fun h6 => ?_)
  · exact r_vret rfl rfl dX11_listAgain_48
  · refine r_iload_n 2 dX11_listAgain_22 rfl rfl ?_
    refine r_bipush dX11_listAgain_23 (by decide) ⟨by decide, by decide⟩ ?_
    refine r_icmp_ge (tgt := 48) dX11_listAgain_25 rfl (fun h7 => ?_) (fun h8 => ?_)
    · exact r_vret rfl rfl dX11_listAgain_48
    · refine r_aload_n 0 dX11_listAgain_28 rfl rfl ?_
      refine r_iload_n 1 dX11_listAgain_29 rfl rfl ?_
      refine r_iconst dX11_listAgain_30 ⟨by decide, by decide⟩ ?_
      refine r_ok (fun h9 => ?_)
      refine r_iadd dX11_listAgain_31 h9 ?_
      refine r_aload_n 3 dX11_listAgain_32 rfl rfl ?_
      refine r_gf (t := 0) (kz := 9) rfl hu dX11_listAgain_33 kF_X11_185 h4 rfl rfl rfl ?_
      refine r_iload_n 2 dX11_listAgain_36 rfl rfl ?_
      refine r_iconst dX11_listAgain_37 ⟨by decide, by decide⟩ ?_
      refine r_ok (fun h10 => ?_)
      refine r_iadd dX11_listAgain_38 h10 ?_
      refine r_invv (a := 1) hu ⟨Nat.le_refl _, Nat.le_refl _⟩ dX11_listAgain_39 kM_X11_118 (ci := 11) rfl kd_1 rfl rfl (by omega) (by decide) [(0, a1 + 1), (0, M x3 9), (0, a2 + 1)] rfl (sk := []) rfl (Nat.le_of_ble_eq_true rfl) rfl (hS M (a1 + 1) (M x3 9) (a2 + 1)) (fun r11 M12 => ?_)
      refine r_ok (fun h13 => ?_)
      refine r_iincB 4 dX11_listAgain_42 rfl h13 (by decide) (lf := fun y14 => [(4, 0, y14), (0, 2, 1), (1, 0, a1), (2, 0, a2), (3, 2, x3)]) (fun _ => rfl) (fun y14 ey14 => ?_)
      refine r_goto (tgt := 13) dX11_listAgain_45 rfl ?_
      refine r_sub [1, 2, 3, 4, 0] (ls' := [(0, 2, 1), (1, 0, a1), (2, 0, a2), (3, 2, x3), (4, 0, y14)]) rfl ?_
      exact hw13 M12 x3 y14
set_option maxRecDepth 100000 in
theorem m_X11_listAgain {g : GT} {n nf : Int} (hu : Up true nf n) (S : Mem → Int → Int → Int → Res) {dS : Nat} (hdS : 1 ≤ dS) (hS : ∀ (M : Mem) (a1 a2 a3 : Int), AM g true yX11_listShows cX11_listShows 6 none dS n n nf [(2, 1), (0, a1), (0, a2), (0, a3)] M (S M a1 a2 a3)) (M : Mem) (a1 a2 : Int) : AM g true yX11_listAgain cX11_listAgain 5 none (dS + 1) n n nf [(2, 1), (0, a1), (0, a2)] M (f_X11_listAgain S M a1 a2) := by
  refine AM_of (by decide +kernel) (Nat.le_of_ble_eq_true rfl) (fun h => absurd h (Int.lt_irrefl n)) ?_
  show AW g true RX11 cX11_listAgain 5 none (dS + 1) n n nf 0 [(0, 2, 1), (1, 0, a1), (2, 0, a2)] [] n M (f_X11_listAgain S M a1 a2)
  unfold f_X11_listAgain
  refine r_aload_n 0 dX11_listAgain_0 rfl rfl ?_
  refine r_gf (t := 2) (kz := 9) rfl hu dX11_listAgain_1 kF_X11_71 kd_1 rfl rfl rfl ?_
  refine r_ok (fun h1 => ?_)
  refine r_gx (kz := 0) rfl hu dX11_listAgain_4 kF_X11_170 h1 rfl rfl rfl (fxS0 _ h1) ?_
  refine r_iload_n 1 dX11_listAgain_7 rfl rfl ?_
  refine r_ok (fun h2 => ?_)
  refine r_aalx hu dX11_listAgain_8 (kdS _ h1).1 (Or.inr (Or.inl rfl)) rfl (kdS _ h1).2.1 h2 (fxSt _ h1 _ h2) ?_
  refine r_astore_nB dX11_listAgain_9 rfl (by decide) (lf := fun y3 => [(3, 2, y3), (0, 2, 1), (1, 0, a1), (2, 0, a2)]) (fun _ => rfl) (fun y3 ey3 => ?_)
  refine r_iconst dX11_listAgain_10 ⟨by decide, by decide⟩ ?_
  refine r_istore dX11_listAgain_11 (by decide) (ls' := [(4, 0, 0), (3, 2, y3), (0, 2, 1), (1, 0, a1), (2, 0, a2)]) rfl ?_
  refine r_sub [2, 3, 4, 1, 0] (ls' := [(0, 2, 1), (1, 0, a1), (2, 0, a2), (3, 2, y3), (4, 0, 0)]) rfl ?_
  exact wl2_aw (P := fun M x3 x4 o => AW g true RX11 cX11_listAgain 5 none (dS + 1) n n nf 13 [(0, 2, 1), (1, 0, a1), (2, 0, a2), (3, 2, x3), (4, 0, x4)] [] n M (o)) (fun M x3 x4 => aw_none) (fun w hw M x3 x4 => tb_X11_listAgain_13 hu S hdS hS a1 a2 w hw M x3 x4) FU M y3 0
theorem dX11_listShows_0 : decode cX11_listShows 0 = .ok (.iload_n 1, 1) := by decide +kernel
theorem dX11_listShows_1 : decode cX11_listShows 1 = .ok (.istore 4, 2) := by decide +kernel
theorem dX11_listShows_3 : decode cX11_listShows 3 = .ok (.iload 4, 2) := by decide +kernel
theorem dX11_listShows_5 : decode cX11_listShows 5 = .ok (.iload_n 2, 1) := by decide +kernel
theorem dX11_listShows_6 : decode cX11_listShows 6 = .ok (.if_icmp .ge 101, 3) := by decide +kernel
theorem dX11_listShows_9 : decode cX11_listShows 9 = .ok (.iload 4, 2) := by decide +kernel
theorem dX11_listShows_11 : decode cX11_listShows 11 = .ok (.bipush 40, 2) := by decide +kernel
theorem dX11_listShows_13 : decode cX11_listShows 13 = .ok (.if_icmp .ge 94, 3) := by decide +kernel
theorem dX11_listShows_16 : decode cX11_listShows 16 = .ok (.aload_n 0, 1) := by decide +kernel
theorem dX11_listShows_17 : decode cX11_listShows 17 = .ok (.getfield 115, 3) := by decide +kernel
theorem dX11_listShows_20 : decode cX11_listShows 20 = .ok (.bipush 40, 2) := by decide +kernel
theorem dX11_listShows_22 : decode cX11_listShows 22 = .ok (.if_icmp .ge 85, 3) := by decide +kernel
theorem dX11_listShows_25 : decode cX11_listShows 25 = .ok (.aload_n 0, 1) := by decide +kernel
theorem dX11_listShows_26 : decode cX11_listShows 26 = .ok (.getfield 71, 3) := by decide +kernel
theorem dX11_listShows_29 : decode cX11_listShows 29 = .ok (.getfield 170, 3) := by decide +kernel
theorem dX11_listShows_32 : decode cX11_listShows 32 = .ok (.iload 4, 2) := by decide +kernel
theorem dX11_listShows_34 : decode cX11_listShows 34 = .ok (.aaload, 1) := by decide +kernel
theorem dX11_listShows_35 : decode cX11_listShows 35 = .ok (.astore 5, 2) := by decide +kernel
theorem dX11_listShows_37 : decode cX11_listShows 37 = .ok (.aload 5, 2) := by decide +kernel
theorem dX11_listShows_39 : decode cX11_listShows 39 = .ok (.getfield 174, 3) := by decide +kernel
theorem dX11_listShows_42 : decode cX11_listShows 42 = .ok (.bipush 7, 2) := by decide +kernel
theorem dX11_listShows_44 : decode cX11_listShows 44 = .ok (.if_icmp .ne 27, 3) := by decide +kernel
theorem dX11_listShows_47 : decode cX11_listShows 47 = .ok (.aload_n 0, 1) := by decide +kernel
theorem dX11_listShows_48 : decode cX11_listShows 48 = .ok (.getfield 77, 3) := by decide +kernel
theorem dX11_listShows_51 : decode cX11_listShows 51 = .ok (.aload_n 0, 1) := by decide +kernel
theorem dX11_listShows_52 : decode cX11_listShows 52 = .ok (.getfield 115, 3) := by decide +kernel
theorem dX11_listShows_55 : decode cX11_listShows 55 = .ok (.iload 4, 2) := by decide +kernel
theorem dX11_listShows_57 : decode cX11_listShows 57 = .ok (.iastore, 1) := by decide +kernel
theorem dX11_listShows_58 : decode cX11_listShows 58 = .ok (.aload_n 0, 1) := by decide +kernel
theorem dX11_listShows_59 : decode cX11_listShows 59 = .ok (.dup, 1) := by decide +kernel
theorem dX11_listShows_60 : decode cX11_listShows 60 = .ok (.getfield 115, 3) := by decide +kernel
theorem dX11_listShows_63 : decode cX11_listShows 63 = .ok (.iconst 1, 1) := by decide +kernel
theorem dX11_listShows_64 : decode cX11_listShows 64 = .ok (.iadd, 1) := by decide +kernel
theorem dX11_listShows_65 : decode cX11_listShows 65 = .ok (.putfield 115, 3) := by decide +kernel
theorem dX11_listShows_68 : decode cX11_listShows 68 = .ok (.goto 22, 3) := by decide +kernel
theorem dX11_listShows_71 : decode cX11_listShows 71 = .ok (.aload_n 0, 1) := by decide +kernel
theorem dX11_listShows_72 : decode cX11_listShows 72 = .ok (.getfield 71, 3) := by decide +kernel
theorem dX11_listShows_75 : decode cX11_listShows 75 = .ok (.iload 4, 2) := by decide +kernel
theorem dX11_listShows_77 : decode cX11_listShows 77 = .ok (.invokevirtual 177, 3) := by decide +kernel
theorem dX11_listShows_80 : decode cX11_listShows 80 = .ok (.ifCond .eq 10, 3) := by decide +kernel
theorem dX11_listShows_83 : decode cX11_listShows 83 = .ok (.aload_n 0, 1) := by decide +kernel
theorem dX11_listShows_84 : decode cX11_listShows 84 = .ok (.iload 4, 2) := by decide +kernel
theorem dX11_listShows_86 : decode cX11_listShows 86 = .ok (.iload_n 3, 1) := by decide +kernel
theorem dX11_listShows_87 : decode cX11_listShows 87 = .ok (.invokevirtual 181, 3) := by decide +kernel
theorem dX11_listShows_90 : decode cX11_listShows 90 = .ok (.iload 4, 2) := by decide +kernel
theorem dX11_listShows_92 : decode cX11_listShows 92 = .ok (.iconst 1, 1) := by decide +kernel
theorem dX11_listShows_93 : decode cX11_listShows 93 = .ok (.iadd, 1) := by decide +kernel
theorem dX11_listShows_94 : decode cX11_listShows 94 = .ok (.aload 5, 2) := by decide +kernel
theorem dX11_listShows_96 : decode cX11_listShows 96 = .ok (.getfield 185, 3) := by decide +kernel
theorem dX11_listShows_99 : decode cX11_listShows 99 = .ok (.invokestatic 188, 3) := by decide +kernel
theorem dX11_listShows_102 : decode cX11_listShows 102 = .ok (.istore 4, 2) := by decide +kernel
theorem dX11_listShows_104 : decode cX11_listShows 104 = .ok (.goto (-101), 3) := by decide +kernel
theorem dX11_listShows_107 : decode cX11_listShows 107 = .ok (.return_, 1) := by decide +kernel
set_option maxRecDepth 100000 in
theorem tj_X11_listShows_90 {g : GT} {n nf : Int} (hu : Up true nf n) (S : Mem → Int → Int → Int → Res) {dS : Nat} (hdS : 1 ≤ dS) (hS : ∀ (M : Mem) (a1 a2 a3 : Int), AM g true yX11_listShows cX11_listShows 6 none dS n n nf [(2, 1), (0, a1), (0, a2), (0, a3)] M (S M a1 a2 a3)) (a2 a3 : Int) (w3 : Mem → Int → Res) (hw3 : ∀ (M : Mem) (x4 : Int), AW g true RX11 cX11_listShows 6 none (dS + 2) n n nf 3 [(0, 2, 1), (2, 0, a2), (3, 0, a3), (4, 0, x4)] [] n M (w3 M x4)) (M : Mem) (x4 x5 : Int) : AW g true RX11 cX11_listShows 6 none (dS + 2) n n nf 90 [(0, 2, 1), (2, 0, a2), (3, 0, a3), (4, 0, x4), (5, 2, x5)] [] n M (j_X11_listShows_90 S a2 a3 w3 M x4 x5) := by
  unfold j_X11_listShows_90
  refine r_iload 3 dX11_listShows_90 rfl ?_
  refine r_iconst dX11_listShows_92 ⟨by decide, by decide⟩ ?_
  refine r_ok (fun h17 => ?_)
  refine r_iadd dX11_listShows_93 h17 ?_
  refine r_aload 4 dX11_listShows_94 rfl ?_
  refine r_ok (fun h18 => ?_)
  refine r_gf (t := 0) (kz := 9) rfl hu dX11_listShows_96 kF_X11_185 h18 rfl rfl rfl ?_
  refine r_ins (a := 0) ⟨Nat.le_refl _, Nat.le_refl _⟩ dX11_listShows_99 kM_X11_188 (by omega) (by decide) [(0, x4 + 1), (0, M x5 9)] rfl (sk := []) rfl (Nat.le_of_ble_eq_true rfl) rfl rfl (m_J9_max_7cf53 hu M (x4 + 1) (M x5 9)) (fun r19 M20 => ?_)
  refine r_istore dX11_listShows_102 (by decide) (ls' := [(4, 0, r19), (0, 2, 1), (2, 0, a2), (3, 0, a3), (5, 2, x5)]) rfl ?_
  refine r_goto (tgt := 3) dX11_listShows_104 rfl ?_
  refine r_sub [1, 2, 3, 0] (ls' := [(0, 2, 1), (2, 0, a2), (3, 0, a3), (4, 0, r19)]) rfl ?_
  exact hw3 M20 r19
set_option maxRecDepth 100000 in
theorem tb_X11_listShows_3 {g : GT} {n nf : Int} (hu : Up true nf n) (S : Mem → Int → Int → Int → Res) {dS : Nat} (hdS : 1 ≤ dS) (hS : ∀ (M : Mem) (a1 a2 a3 : Int), AM g true yX11_listShows cX11_listShows 6 none dS n n nf [(2, 1), (0, a1), (0, a2), (0, a3)] M (S M a1 a2 a3)) (a2 a3 : Int) (w3 : Mem → Int → Res) (hw3 : ∀ (M : Mem) (x4 : Int), AW g true RX11 cX11_listShows 6 none (dS + 2) n n nf 3 [(0, 2, 1), (2, 0, a2), (3, 0, a3), (4, 0, x4)] [] n M (w3 M x4)) (M : Mem) (x4 : Int) : AW g true RX11 cX11_listShows 6 none (dS + 2) n n nf 3 [(0, 2, 1), (2, 0, a2), (3, 0, a3), (4, 0, x4)] [] n M (b_X11_listShows_3 S a2 a3 w3 M x4) := by
  unfold b_X11_listShows_3
  refine r_iload 3 dX11_listShows_3 rfl ?_
  refine r_iload_n 1 dX11_listShows_5 rfl rfl ?_
  refine r_icmp_ge (tgt := 107) dX11_listShows_6 rfl (fun h1 => ?_) (fun h2 => ?_)
  · exact r_vret rfl rfl dX11_listShows_107
  · refine r_iload 3 dX11_listShows_9 rfl ?_
    refine r_bipush dX11_listShows_11 (by decide) ⟨by decide, by decide⟩ ?_
    refine r_icmp_ge (tgt := 107) dX11_listShows_13 rfl (fun h3 => ?_) (fun h4 => ?_)
    · exact r_vret rfl rfl dX11_listShows_107
    · refine r_aload_n 0 dX11_listShows_16 rfl rfl ?_
      refine r_gf (t := 0) (kz := 12) rfl hu dX11_listShows_17 kF_X11_115 kd_1 rfl rfl rfl ?_
      refine r_bipush dX11_listShows_20 (by decide) ⟨by decide, by decide⟩ ?_
      refine r_icmp_ge (tgt := 107) dX11_listShows_22 rfl (fun h5 => ?_) (fun h6 => ?_)
      · exact r_vret rfl rfl dX11_listShows_107
      · refine r_aload_n 0 dX11_listShows_25 rfl rfl ?_
        refine r_gf (t := 2) (kz := 9) rfl hu dX11_listShows_26 kF_X11_71 kd_1 rfl rfl rfl ?_
        refine r_ok (fun h7 => ?_)
        refine r_gx (kz := 0) rfl hu dX11_listShows_29 kF_X11_170 h7 rfl rfl rfl (fxS0 _ h7) ?_
        refine r_iload 3 dX11_listShows_32 rfl ?_
        refine r_ok (fun h8 => ?_)
        refine r_aalx hu dX11_listShows_34 (kdS _ h7).1 (Or.inr (Or.inl rfl)) rfl (kdS _ h7).2.1 h8 (fxSt _ h7 _ h8) ?_
        refine r_astoreB dX11_listShows_35 (by decide) (lf := fun y9 => [(5, 2, y9), (0, 2, 1), (2, 0, a2), (3, 0, a3), (4, 0, x4)]) (fun _ => rfl) (fun y9 ey9 => ?_)
        refine r_aload 0 dX11_listShows_37 rfl ?_
        refine r_ok (fun h10 => ?_)
        refine r_gf (t := 0) (kz := 0) rfl hu dX11_listShows_39 kF_X11_174 h10 rfl rfl rfl ?_
        refine r_bipush dX11_listShows_42 (by decide) ⟨by decide, by decide⟩ ?_
        refine r_icmp_ne (tgt := 71) dX11_listShows_44 rfl (fun h11 => ?_) (fun h12 => ?_)
        · refine r_aload_n 1 dX11_listShows_47 rfl rfl ?_
          refine r_gx (kz := 11) rfl hu dX11_listShows_48 kF_X11_77 kd_1 rfl rfl rfl fx_1_11 ?_
          refine r_aload_n 1 dX11_listShows_51 rfl rfl ?_
          refine r_gf (t := 0) (kz := 12) rfl hu dX11_listShows_52 kF_X11_115 kd_1 rfl rfl rfl ?_
          refine r_iload 4 dX11_listShows_55 rfl ?_
          refine r_ok (fun h13 => ?_)
          refine r_iast hu dX11_listShows_57 kd_201 rfl (Or.inl rfl) rfl ln_201 h13 rfl (fun M14 eM14 => ?_)
          refine r_aload_n 1 dX11_listShows_58 rfl rfl ?_
          refine r_dup dX11_listShows_59 (nz2 _) ?_
          refine r_gf (t := 0) (kz := 12) rfl hu dX11_listShows_60 kF_X11_115 kd_1 rfl rfl rfl ?_
          refine r_iconst dX11_listShows_63 ⟨by decide, by decide⟩ ?_
          refine r_ok (fun h15 => ?_)
          refine r_iadd dX11_listShows_64 h15 ?_
          refine r_pf (t := 0) (kz := 12) rfl hu dX11_listShows_65 kF_X11_115 kd_1 rfl rfl rfl (fun h => absurd h (by decide)) rfl kX_11_12 (fun M16 eM16 => ?_)
          refine r_goto (tgt := 90) dX11_listShows_68 rfl ?_
          refine r_sub [1, 2, 3, 4, 0] (ls' := [(0, 2, 1), (2, 0, a2), (3, 0, a3), (4, 0, x4), (5, 2, y9)]) rfl ?_
          exact tj_X11_listShows_90 hu S hdS hS a2 a3 w3 hw3 M16 x4 y9
        · refine r_aload_n 1 dX11_listShows_71 rfl rfl ?_
          refine r_gf (t := 2) (kz := 9) rfl hu dX11_listShows_72 kF_X11_71 kd_1 rfl rfl rfl ?_
          refine r_iload 4 dX11_listShows_75 rfl ?_
          refine r_inv (a := M 1 9) hu ⟨Nat.le_refl _, Nat.le_refl _⟩ dX11_listShows_77 kM_X11_177 (ci := 7) rfl h7 rfl rfl (by omega) (by decide) [(0, x4)] rfl (sk := []) rfl (Nat.le_of_ble_eq_true rfl) rfl rfl (m_X7_showsWithin hu M (M 1 9) x4 h7) (fun r21 M22 => ?_)
          refine r_if_eq (tgt := 90) dX11_listShows_80 rfl (fun h23 => ?_) (fun h24 => ?_)
          · refine r_sub [1, 2, 3, 4, 0] (ls' := [(0, 2, 1), (2, 0, a2), (3, 0, a3), (4, 0, x4), (5, 2, y9)]) rfl ?_
            exact tj_X11_listShows_90 hu S hdS hS a2 a3 w3 hw3 M22 x4 y9
          · refine r_aload_n 1 dX11_listShows_83 rfl rfl ?_
            refine r_iload 4 dX11_listShows_84 rfl ?_
            refine r_iload_n 3 dX11_listShows_86 rfl rfl ?_
            refine r_invv (a := 1) hu ⟨Nat.le_refl _, Nat.le_refl _⟩ dX11_listShows_87 kM_X11_181 (ci := 11) rfl kd_1 rfl rfl (by omega) (by decide) [(0, x4), (0, a3)] rfl (sk := []) rfl (Nat.le_of_ble_eq_true rfl) rfl (m_X11_listAgain hu S hdS hS M22 x4 a3) (fun r25 M26 => ?_)
            refine r_sub [1, 2, 3, 4, 0] (ls' := [(0, 2, 1), (2, 0, a2), (3, 0, a3), (4, 0, x4), (5, 2, y9)]) rfl ?_
            exact tj_X11_listShows_90 hu S hdS hS a2 a3 w3 hw3 M26 x4 y9
set_option maxRecDepth 100000 in
theorem mg_X11_listShows {g : GT} {n nf : Int} (hu : Up true nf n) (S : Mem → Int → Int → Int → Res) {dS : Nat} (hdS : 1 ≤ dS) (hS : ∀ (M : Mem) (a1 a2 a3 : Int), AM g true yX11_listShows cX11_listShows 6 none dS n n nf [(2, 1), (0, a1), (0, a2), (0, a3)] M (S M a1 a2 a3)) (M : Mem) (a1 a2 a3 : Int) : AM g true yX11_listShows cX11_listShows 6 none (dS + 2) n n nf [(2, 1), (0, a1), (0, a2), (0, a3)] M (g_X11_listShows S M a1 a2 a3) := by
  refine AM_of (by decide +kernel) (Nat.le_of_ble_eq_true rfl) (fun h => absurd h (Int.lt_irrefl n)) ?_
  show AW g true RX11 cX11_listShows 6 none (dS + 2) n n nf 0 [(0, 2, 1), (1, 0, a1), (2, 0, a2), (3, 0, a3)] [] n M (g_X11_listShows S M a1 a2 a3)
  unfold g_X11_listShows
  refine r_iload_n 1 dX11_listShows_0 rfl rfl ?_
  refine r_istore dX11_listShows_1 (by decide) (ls' := [(4, 0, a1), (0, 2, 1), (1, 0, a1), (2, 0, a2), (3, 0, a3)]) rfl ?_
  refine r_sub [1, 3, 4, 0] (ls' := [(0, 2, 1), (2, 0, a2), (3, 0, a3), (4, 0, a1)]) rfl ?_
  exact wl1_aw (P := fun M x4 o => AW g true RX11 cX11_listShows 6 none (dS + 2) n n nf 3 [(0, 2, 1), (2, 0, a2), (3, 0, a3), (4, 0, x4)] [] n M (o)) (fun M x4 => aw_none) (fun w hw M x4 => tb_X11_listShows_3 hu S hdS hS a2 a3 w hw M x4) FU M a1
set_option maxRecDepth 100000 in
theorem m_X11_listShows {g : GT} {n nf : Int} (hu : Up true nf n) (q : Nat) : ∀ (M : Mem) (a1 a2 a3 : Int), AM g true yX11_listShows cX11_listShows 6 none (1 + 2 * q) n n nf [(2, 1), (0, a1), (0, a2), (0, a3)] M (f_X11_listShows q M a1 a2 a3) := by
  induction q with
  | zero => intro M a1 a2 a3 _ r M2 h; cases h
  | succ q ih => intro M a1 a2 a3; exact mg_X11_listShows hu (f_X11_listShows q) (dS := 1 + 2 * q) (by omega) ih M a1 a2 a3
theorem dX11_plan_0 : decode cX11_plan 0 = .ok (.aload_n 0, 1) := by decide +kernel
theorem dX11_plan_1 : decode cX11_plan 1 = .ok (.getfield 21, 3) := by decide +kernel
theorem dX11_plan_4 : decode cX11_plan 4 = .ok (.iconst 2, 1) := by decide +kernel
theorem dX11_plan_5 : decode cX11_plan 5 = .ok (.aload_n 0, 1) := by decide +kernel
theorem dX11_plan_6 : decode cX11_plan 6 = .ok (.getfield 74, 3) := by decide +kernel
theorem dX11_plan_9 : decode cX11_plan 9 = .ok (.aload_n 0, 1) := by decide +kernel
theorem dX11_plan_10 : decode cX11_plan 10 = .ok (.getfield 67, 3) := by decide +kernel
theorem dX11_plan_13 : decode cX11_plan 13 = .ok (.invokevirtual 103, 3) := by decide +kernel
theorem dX11_plan_16 : decode cX11_plan 16 = .ok (.istore_n 1, 1) := by decide +kernel
theorem dX11_plan_17 : decode cX11_plan 17 = .ok (.aload_n 0, 1) := by decide +kernel
theorem dX11_plan_18 : decode cX11_plan 18 = .ok (.getfield 10, 3) := by decide +kernel
theorem dX11_plan_21 : decode cX11_plan 21 = .ok (.iconst 0, 1) := by decide +kernel
theorem dX11_plan_22 : decode cX11_plan 22 = .ok (.putfield 95, 3) := by decide +kernel
theorem dX11_plan_25 : decode cX11_plan 25 = .ok (.iload_n 1, 1) := by decide +kernel
theorem dX11_plan_26 : decode cX11_plan 26 = .ok (.ifCond .ne 5, 3) := by decide +kernel
theorem dX11_plan_29 : decode cX11_plan 29 = .ok (.iconst (-1), 1) := by decide +kernel
theorem dX11_plan_30 : decode cX11_plan 30 = .ok (.ireturn, 1) := by decide +kernel
theorem dX11_plan_31 : decode cX11_plan 31 = .ok (.aload_n 0, 1) := by decide +kernel
theorem dX11_plan_32 : decode cX11_plan 32 = .ok (.getfield 71, 3) := by decide +kernel
theorem dX11_plan_35 : decode cX11_plan 35 = .ok (.astore_n 2, 1) := by decide +kernel
theorem dX11_plan_36 : decode cX11_plan 36 = .ok (.aload_n 0, 1) := by decide +kernel
theorem dX11_plan_37 : decode cX11_plan 37 = .ok (.aload_n 0, 1) := by decide +kernel
theorem dX11_plan_38 : decode cX11_plan 38 = .ok (.getfield 74, 3) := by decide +kernel
theorem dX11_plan_41 : decode cX11_plan 41 = .ok (.putfield 71, 3) := by decide +kernel
theorem dX11_plan_44 : decode cX11_plan 44 = .ok (.aload_n 0, 1) := by decide +kernel
theorem dX11_plan_45 : decode cX11_plan 45 = .ok (.aload_n 2, 1) := by decide +kernel
theorem dX11_plan_46 : decode cX11_plan 46 = .ok (.putfield 74, 3) := by decide +kernel
theorem dX11_plan_49 : decode cX11_plan 49 = .ok (.aload_n 0, 1) := by decide +kernel
theorem dX11_plan_50 : decode cX11_plan 50 = .ok (.iconst 0, 1) := by decide +kernel
theorem dX11_plan_51 : decode cX11_plan 51 = .ok (.putfield 115, 3) := by decide +kernel
theorem dX11_plan_54 : decode cX11_plan 54 = .ok (.aload_n 0, 1) := by decide +kernel
theorem dX11_plan_55 : decode cX11_plan 55 = .ok (.iconst 0, 1) := by decide +kernel
theorem dX11_plan_56 : decode cX11_plan 56 = .ok (.aload_n 0, 1) := by decide +kernel
theorem dX11_plan_57 : decode cX11_plan 57 = .ok (.getfield 71, 3) := by decide +kernel
theorem dX11_plan_60 : decode cX11_plan 60 = .ok (.getfield 114, 3) := by decide +kernel
theorem dX11_plan_63 : decode cX11_plan 63 = .ok (.iconst 0, 1) := by decide +kernel
theorem dX11_plan_64 : decode cX11_plan 64 = .ok (.invokevirtual 118, 3) := by decide +kernel
theorem dX11_plan_67 : decode cX11_plan 67 = .ok (.aload_n 0, 1) := by decide +kernel
theorem dX11_plan_68 : decode cX11_plan 68 = .ok (.aload_n 0, 1) := by decide +kernel
theorem dX11_plan_69 : decode cX11_plan 69 = .ok (.getfield 71, 3) := by decide +kernel
theorem dX11_plan_72 : decode cX11_plan 72 = .ok (.invokevirtual 122, 3) := by decide +kernel
theorem dX11_plan_75 : decode cX11_plan 75 = .ok (.putfield 126, 3) := by decide +kernel
theorem dX11_plan_78 : decode cX11_plan 78 = .ok (.aload_n 0, 1) := by decide +kernel
theorem dX11_plan_79 : decode cX11_plan 79 = .ok (.getfield 71, 3) := by decide +kernel
theorem dX11_plan_82 : decode cX11_plan 82 = .ok (.getfield 114, 3) := by decide +kernel
theorem dX11_plan_85 : decode cX11_plan 85 = .ok (.ireturn, 1) := by decide +kernel
set_option maxRecDepth 100000 in
theorem m_X11_plan {g : GT} {n nf : Int} (hu : Up true nf n) (M : Mem) : AM g true yX11_plan cX11_plan 3 (some .int) (89) n n nf [(2, 1)] M (f_X11_plan M) := by
  refine AM_of (by decide +kernel) (Nat.le_of_ble_eq_true rfl) (fun h => absurd h (Int.lt_irrefl n)) ?_
  show AW g true RX11 cX11_plan 3 (some .int) (89) n n nf 0 [(0, 2, 1)] [] n M (f_X11_plan M)
  unfold f_X11_plan
  refine r_aload_n 0 dX11_plan_0 rfl rfl ?_
  refine r_gx (kz := 1) rfl hu dX11_plan_1 kF_X11_21 kd_1 rfl rfl rfl fx_1_1 ?_
  refine r_iconst dX11_plan_4 ⟨by decide, by decide⟩ ?_
  refine r_aload_n 0 dX11_plan_5 rfl rfl ?_
  refine r_gf (t := 2) (kz := 10) rfl hu dX11_plan_6 kF_X11_74 kd_1 rfl rfl rfl ?_
  refine r_aload_n 0 dX11_plan_9 rfl rfl ?_
  refine r_gf (t := 2) (kz := 8) rfl hu dX11_plan_10 kF_X11_67 kd_1 rfl rfl rfl ?_
  refine r_ok (fun h1 => ?_)
  refine r_ok (fun h2 => ?_)
  refine r_inv (a := 4) hu ⟨Nat.le_refl _, Nat.le_refl _⟩ dX11_plan_13 kM_X11_103 (ci := 5) rfl kd_4 rfl rfl (by decide) (by decide) [(0, 2), (2, M 1 10), (2, M 1 8)] rfl (sk := []) rfl (Nat.le_of_ble_eq_true rfl) rfl rfl (m_X5_takes hu M 2 (M 1 10) (M 1 8) h1 h2) (fun r3 M4 => ?_)
  refine r_istore_n dX11_plan_16 rfl (by decide) (ls' := [(1, 0, r3), (0, 2, 1)]) rfl ?_
  refine r_aload_n 1 dX11_plan_17 rfl rfl ?_
  refine r_gx (kz := 0) rfl hu dX11_plan_18 kF_X11_10 kd_1 rfl rfl rfl fx_1_0 ?_
  refine r_iconst dX11_plan_21 ⟨by decide, by decide⟩ ?_
  refine r_pf (t := 0) (kz := 1) rfl hu dX11_plan_22 kF_X11_95 kd_2 rfl rfl rfl (fun h => absurd h (by decide)) rfl kX_9_1 (fun M5 eM5 => ?_)
  refine r_iload_n 0 dX11_plan_25 rfl rfl ?_
  refine r_if_ne (tgt := 31) dX11_plan_26 rfl (fun h6 => ?_) (fun h7 => ?_)
  · refine r_iconst dX11_plan_29 ⟨by decide, by decide⟩ ?_
    exact r_iret rfl rfl (Or.inl rfl) dX11_plan_30
  · refine r_aload_n 1 dX11_plan_31 rfl rfl ?_
    refine r_gf (t := 2) (kz := 9) rfl hu dX11_plan_32 kF_X11_71 kd_1 rfl rfl rfl ?_
    refine r_astore_nB dX11_plan_35 rfl (by decide) (lf := fun y8 => [(2, 2, y8), (1, 0, r3), (0, 2, 1)]) (fun _ => rfl) (fun y8 ey8 => ?_)
    refine r_aload_n 2 dX11_plan_36 rfl rfl ?_
    refine r_aload_n 2 dX11_plan_37 rfl rfl ?_
    refine r_gf (t := 2) (kz := 10) rfl hu dX11_plan_38 kF_X11_74 kd_1 rfl rfl rfl ?_
    refine r_pf (t := 2) (kz := 9) rfl hu dX11_plan_41 kF_X11_71 kd_1 rfl rfl rfl (fun h => absurd h (by decide)) rfl kX_11_9 (fun M9 eM9 => ?_)
    refine r_aload_n 2 dX11_plan_44 rfl rfl ?_
    refine r_aload_n 0 dX11_plan_45 rfl rfl ?_
    refine r_pf (t := 2) (kz := 10) rfl hu dX11_plan_46 kF_X11_74 kd_1 rfl rfl rfl (fun h => absurd h (by decide)) rfl kX_11_10 (fun M10 eM10 => ?_)
    refine r_aload_n 2 dX11_plan_49 rfl rfl ?_
    refine r_iconst dX11_plan_50 ⟨by decide, by decide⟩ ?_
    refine r_pf (t := 0) (kz := 12) rfl hu dX11_plan_51 kF_X11_115 kd_1 rfl rfl rfl (fun h => absurd h (by decide)) rfl kX_11_12 (fun M11 eM11 => ?_)
    refine r_aload_n 2 dX11_plan_54 rfl rfl ?_
    refine r_iconst dX11_plan_55 ⟨by decide, by decide⟩ ?_
    refine r_aload_n 2 dX11_plan_56 rfl rfl ?_
    refine r_gf (t := 2) (kz := 9) rfl hu dX11_plan_57 kF_X11_71 kd_1 rfl rfl rfl ?_
    refine r_ok (fun h12 => ?_)
    refine r_gf (t := 0) (kz := 1) rfl hu dX11_plan_60 kF_X11_114 h12 rfl rfl rfl ?_
    refine r_iconst dX11_plan_63 ⟨by decide, by decide⟩ ?_
    refine r_invv (a := 1) hu ⟨Nat.le_refl _, Nat.le_refl _⟩ dX11_plan_64 kM_X11_118 (ci := 11) rfl kd_1 rfl rfl (by decide) (by decide) [(0, 0), (0, M11 (M11 1 9) 1), (0, 0)] rfl (sk := []) rfl (Nat.le_of_ble_eq_true rfl) rfl (m_X11_listShows hu 8 M11 0 (M11 (M11 1 9) 1) 0) (fun r13 M14 => ?_)
    refine r_aload_n 2 dX11_plan_67 rfl rfl ?_
    refine r_aload_n 2 dX11_plan_68 rfl rfl ?_
    refine r_gf (t := 2) (kz := 9) rfl hu dX11_plan_69 kF_X11_71 kd_1 rfl rfl rfl ?_
    refine r_ok (fun h15 => ?_)
    refine r_inv (a := M14 1 9) hu ⟨Nat.le_refl _, Nat.le_refl _⟩ dX11_plan_72 kM_X11_122 (ci := 7) rfl h15 rfl rfl (by decide) (by decide) [] rfl (sk := [(2, 1)]) rfl (Nat.le_of_ble_eq_true rfl) rfl rfl (m_X7_showsInAll hu M14 (M14 1 9) h15) (fun r16 M17 => ?_)
    refine r_pf (t := 0) (kz := 13) rfl hu dX11_plan_75 kF_X11_126 kd_1 rfl rfl rfl (fun h => absurd h (by decide)) rfl kX_11_13 (fun M18 eM18 => ?_)
    refine r_aload_n 2 dX11_plan_78 rfl rfl ?_
    refine r_gf (t := 2) (kz := 9) rfl hu dX11_plan_79 kF_X11_71 kd_1 rfl rfl rfl ?_
    refine r_ok (fun h19 => ?_)
    refine r_gf (t := 0) (kz := 1) rfl hu dX11_plan_82 kF_X11_114 h19 rfl rfl rfl ?_
    exact r_iret rfl rfl (Or.inl rfl) dX11_plan_85
theorem dX11_fault_0 : decode cX11_fault 0 = .ok (.iload_n 1, 1) := by decide +kernel
theorem dX11_fault_1 : decode cX11_fault 1 = .ok (.ifCond .ne 11, 3) := by decide +kernel
theorem dX11_fault_4 : decode cX11_fault 4 = .ok (.aload_n 0, 1) := by decide +kernel
theorem dX11_fault_5 : decode cX11_fault 5 = .ok (.getfield 21, 3) := by decide +kernel
theorem dX11_fault_8 : decode cX11_fault 8 = .ok (.getfield 128, 3) := by decide +kernel
theorem dX11_fault_11 : decode cX11_fault 11 = .ok (.ireturn, 1) := by decide +kernel
theorem dX11_fault_12 : decode cX11_fault 12 = .ok (.iload_n 1, 1) := by decide +kernel
theorem dX11_fault_13 : decode cX11_fault 13 = .ok (.iconst 1, 1) := by decide +kernel
theorem dX11_fault_14 : decode cX11_fault 14 = .ok (.if_icmp .ne 13, 3) := by decide +kernel
theorem dX11_fault_17 : decode cX11_fault 17 = .ok (.aload_n 0, 1) := by decide +kernel
theorem dX11_fault_18 : decode cX11_fault 18 = .ok (.getfield 21, 3) := by decide +kernel
theorem dX11_fault_21 : decode cX11_fault 21 = .ok (.getfield 131, 3) := by decide +kernel
theorem dX11_fault_24 : decode cX11_fault 24 = .ok (.goto 4, 3) := by decide +kernel
theorem dX11_fault_27 : decode cX11_fault 27 = .ok (.iconst (-1), 1) := by decide +kernel
theorem dX11_fault_28 : decode cX11_fault 28 = .ok (.ireturn, 1) := by decide +kernel
set_option maxRecDepth 100000 in
theorem m_X11_fault {g : GT} {n nf : Int} (hu : Up true nf n) (M : Mem) (a1 : Int) : AM g true yX11_fault cX11_fault 2 (some .int) (0) n n nf [(2, 1), (0, a1)] M (f_X11_fault M a1) := by
  refine AM_of (by decide +kernel) (Nat.le_of_ble_eq_true rfl) (fun h => absurd h (Int.lt_irrefl n)) ?_
  show AW g true RX11 cX11_fault 2 (some .int) (0) n n nf 0 [(0, 2, 1), (1, 0, a1)] [] n M (f_X11_fault M a1)
  unfold f_X11_fault
  refine r_iload_n 1 dX11_fault_0 rfl rfl ?_
  refine r_if_ne (tgt := 12) dX11_fault_1 rfl (fun h1 => ?_) (fun h2 => ?_)
  · refine r_aload_n 0 dX11_fault_4 rfl rfl ?_
    refine r_gx (kz := 1) rfl hu dX11_fault_5 kF_X11_21 kd_1 rfl rfl rfl fx_1_1 ?_
    refine r_gf (t := 0) (kz := 4) rfl hu dX11_fault_8 kF_X11_128 kd_4 rfl rfl rfl ?_
    exact r_iret rfl rfl (Or.inl rfl) dX11_fault_11
  · refine r_iload_n 1 dX11_fault_12 rfl rfl ?_
    refine r_iconst dX11_fault_13 ⟨by decide, by decide⟩ ?_
    refine r_icmp_ne (tgt := 27) dX11_fault_14 rfl (fun h3 => ?_) (fun h4 => ?_)
    · refine r_aload_n 0 dX11_fault_17 rfl rfl ?_
      refine r_gx (kz := 1) rfl hu dX11_fault_18 kF_X11_21 kd_1 rfl rfl rfl fx_1_1 ?_
      refine r_gf (t := 0) (kz := 5) rfl hu dX11_fault_21 kF_X11_131 kd_4 rfl rfl rfl ?_
      refine r_goto (tgt := 28) dX11_fault_24 rfl ?_
      exact r_iret rfl rfl (Or.inl rfl) dX11_fault_28
    · refine r_iconst dX11_fault_27 ⟨by decide, by decide⟩ ?_
      exact r_iret rfl rfl (Or.inl rfl) dX11_fault_28
theorem dX11_lawsThatStand_0 : decode cX11_lawsThatStand 0 = .ok (.iconst 0, 1) := by decide +kernel
theorem dX11_lawsThatStand_1 : decode cX11_lawsThatStand 1 = .ok (.istore_n 1, 1) := by decide +kernel
theorem dX11_lawsThatStand_2 : decode cX11_lawsThatStand 2 = .ok (.iconst 0, 1) := by decide +kernel
theorem dX11_lawsThatStand_3 : decode cX11_lawsThatStand 3 = .ok (.istore_n 2, 1) := by decide +kernel
theorem dX11_lawsThatStand_4 : decode cX11_lawsThatStand 4 = .ok (.iload_n 2, 1) := by decide +kernel
theorem dX11_lawsThatStand_5 : decode cX11_lawsThatStand 5 = .ok (.iconst 3, 1) := by decide +kernel
theorem dX11_lawsThatStand_6 : decode cX11_lawsThatStand 6 = .ok (.if_icmp .ge 29, 3) := by decide +kernel
theorem dX11_lawsThatStand_9 : decode cX11_lawsThatStand 9 = .ok (.iload_n 1, 1) := by decide +kernel
theorem dX11_lawsThatStand_10 : decode cX11_lawsThatStand 10 = .ok (.aload_n 0, 1) := by decide +kernel
theorem dX11_lawsThatStand_11 : decode cX11_lawsThatStand 11 = .ok (.getfield 62, 3) := by decide +kernel
theorem dX11_lawsThatStand_14 : decode cX11_lawsThatStand 14 = .ok (.iload_n 2, 1) := by decide +kernel
theorem dX11_lawsThatStand_15 : decode cX11_lawsThatStand 15 = .ok (.aaload, 1) := by decide +kernel
theorem dX11_lawsThatStand_16 : decode cX11_lawsThatStand 16 = .ok (.getfield 110, 3) := by decide +kernel
theorem dX11_lawsThatStand_19 : decode cX11_lawsThatStand 19 = .ok (.ifCond .eq 7, 3) := by decide +kernel
theorem dX11_lawsThatStand_22 : decode cX11_lawsThatStand 22 = .ok (.iconst 1, 1) := by decide +kernel
theorem dX11_lawsThatStand_23 : decode cX11_lawsThatStand 23 = .ok (.goto 4, 3) := by decide +kernel
theorem dX11_lawsThatStand_26 : decode cX11_lawsThatStand 26 = .ok (.iconst 0, 1) := by decide +kernel
theorem dX11_lawsThatStand_27 : decode cX11_lawsThatStand 27 = .ok (.iadd, 1) := by decide +kernel
theorem dX11_lawsThatStand_28 : decode cX11_lawsThatStand 28 = .ok (.istore_n 1, 1) := by decide +kernel
theorem dX11_lawsThatStand_29 : decode cX11_lawsThatStand 29 = .ok (.iinc 2 1, 3) := by decide +kernel
theorem dX11_lawsThatStand_32 : decode cX11_lawsThatStand 32 = .ok (.goto (-28), 3) := by decide +kernel
theorem dX11_lawsThatStand_35 : decode cX11_lawsThatStand 35 = .ok (.iload_n 1, 1) := by decide +kernel
theorem dX11_lawsThatStand_36 : decode cX11_lawsThatStand 36 = .ok (.ireturn, 1) := by decide +kernel
set_option maxRecDepth 100000 in
theorem tb_X11_lawsThatStand_4 {g : GT} {n nf : Int} (hu : Up true nf n) (w4 : Mem → Int → Int → Res) (hw4 : ∀ (M : Mem) (x1 x2 : Int), AW g true RX11 cX11_lawsThatStand 3 (some .int) (0) n n nf 4 [(0, 2, 1), (1, 0, x1), (2, 0, x2)] [] n M (w4 M x1 x2)) (M : Mem) (x1 x2 : Int) : AW g true RX11 cX11_lawsThatStand 3 (some .int) (0) n n nf 4 [(0, 2, 1), (1, 0, x1), (2, 0, x2)] [] n M (b_X11_lawsThatStand_4 w4 M x1 x2) := by
  unfold b_X11_lawsThatStand_4
  refine r_iload_n 2 dX11_lawsThatStand_4 rfl rfl ?_
  refine r_iconst dX11_lawsThatStand_5 ⟨by decide, by decide⟩ ?_
  refine r_icmp_ge (tgt := 35) dX11_lawsThatStand_6 rfl (fun h1 => ?_) (fun h2 => ?_)
  · refine r_iload_n 1 dX11_lawsThatStand_35 rfl rfl ?_
    exact r_iret rfl rfl (Or.inl rfl) dX11_lawsThatStand_36
  · refine r_iload_n 1 dX11_lawsThatStand_9 rfl rfl ?_
    refine r_aload_n 0 dX11_lawsThatStand_10 rfl rfl ?_
    refine r_gx (kz := 7) rfl hu dX11_lawsThatStand_11 kF_X11_62 kd_1 rfl rfl rfl fx_1_7 ?_
    refine r_iload_n 2 dX11_lawsThatStand_14 rfl rfl ?_
    refine r_ok (fun h3 => ?_)
    refine r_aald hu dX11_lawsThatStand_15 kd_68 (Or.inl rfl) rfl ln_68 h3 ?_
    refine r_ok (fun h4 => ?_)
    refine r_gf (t := 0) (kz := 6) rfl hu dX11_lawsThatStand_16 kF_X11_110 h4 rfl rfl rfl ?_
    refine r_if_eq (tgt := 26) dX11_lawsThatStand_19 rfl (fun h5 => ?_) (fun h6 => ?_)
    · refine r_iconst dX11_lawsThatStand_26 ⟨by decide, by decide⟩ ?_
      refine r_ok (fun h7 => ?_)
      refine r_iadd dX11_lawsThatStand_27 h7 ?_
      refine r_istore_nB dX11_lawsThatStand_28 rfl (by decide) (lf := fun y8 => [(1, 0, y8), (0, 2, 1), (2, 0, x2)]) (fun _ => rfl) (fun y8 ey8 => ?_)
      refine r_iincB 2 dX11_lawsThatStand_29 rfl ⟨by have := h3; omega, by have := h3; omega⟩ (by decide) (lf := fun y9 => [(2, 0, y9), (1, 0, y8), (0, 2, 1)]) (fun _ => rfl) (fun y9 ey9 => ?_)
      refine r_goto (tgt := 4) dX11_lawsThatStand_32 rfl ?_
      refine r_sub [2, 1, 0] (ls' := [(0, 2, 1), (1, 0, y8), (2, 0, y9)]) rfl ?_
      exact hw4 M y8 y9
    · refine r_iconst dX11_lawsThatStand_22 ⟨by decide, by decide⟩ ?_
      refine r_goto (tgt := 27) dX11_lawsThatStand_23 rfl ?_
      refine r_ok (fun h10 => ?_)
      refine r_iadd dX11_lawsThatStand_27 h10 ?_
      refine r_istore_nB dX11_lawsThatStand_28 rfl (by decide) (lf := fun y11 => [(1, 0, y11), (0, 2, 1), (2, 0, x2)]) (fun _ => rfl) (fun y11 ey11 => ?_)
      refine r_iincB 2 dX11_lawsThatStand_29 rfl ⟨by have := h3; omega, by have := h3; omega⟩ (by decide) (lf := fun y12 => [(2, 0, y12), (1, 0, y11), (0, 2, 1)]) (fun _ => rfl) (fun y12 ey12 => ?_)
      refine r_goto (tgt := 4) dX11_lawsThatStand_32 rfl ?_
      refine r_sub [2, 1, 0] (ls' := [(0, 2, 1), (1, 0, y11), (2, 0, y12)]) rfl ?_
      exact hw4 M y11 y12
set_option maxRecDepth 100000 in
theorem m_X11_lawsThatStand {g : GT} {n nf : Int} (hu : Up true nf n) (M : Mem) : AM g true yX11_lawsThatStand cX11_lawsThatStand 3 (some .int) (0) n n nf [(2, 1)] M (f_X11_lawsThatStand M) := by
  refine AM_of (by decide +kernel) (Nat.le_of_ble_eq_true rfl) (fun h => absurd h (Int.lt_irrefl n)) ?_
  show AW g true RX11 cX11_lawsThatStand 3 (some .int) (0) n n nf 0 [(0, 2, 1)] [] n M (f_X11_lawsThatStand M)
  unfold f_X11_lawsThatStand
  refine r_iconst dX11_lawsThatStand_0 ⟨by decide, by decide⟩ ?_
  refine r_istore_n dX11_lawsThatStand_1 rfl (by decide) (ls' := [(1, 0, 0), (0, 2, 1)]) rfl ?_
  refine r_iconst dX11_lawsThatStand_2 ⟨by decide, by decide⟩ ?_
  refine r_istore_n dX11_lawsThatStand_3 rfl (by decide) (ls' := [(2, 0, 0), (1, 0, 0), (0, 2, 1)]) rfl ?_
  refine r_sub [2, 1, 0] (ls' := [(0, 2, 1), (1, 0, 0), (2, 0, 0)]) rfl ?_
  exact wl2_aw (P := fun M x1 x2 o => AW g true RX11 cX11_lawsThatStand 3 (some .int) (0) n n nf 4 [(0, 2, 1), (1, 0, x1), (2, 0, x2)] [] n M (o)) (fun M x1 x2 => aw_none) (fun w hw M x1 x2 => tb_X11_lawsThatStand_4 hu w hw M x1 x2) FU M 0 0
theorem dX11_lawAt_0 : decode cX11_lawAt 0 = .ok (.iload_n 1, 1) := by decide +kernel
theorem dX11_lawAt_1 : decode cX11_lawAt 1 = .ok (.ifCond .lt 29, 3) := by decide +kernel
theorem dX11_lawAt_4 : decode cX11_lawAt 4 = .ok (.iload_n 1, 1) := by decide +kernel
theorem dX11_lawAt_5 : decode cX11_lawAt 5 = .ok (.iconst 3, 1) := by decide +kernel
theorem dX11_lawAt_6 : decode cX11_lawAt 6 = .ok (.if_icmp .ge 24, 3) := by decide +kernel
theorem dX11_lawAt_9 : decode cX11_lawAt 9 = .ok (.aload_n 0, 1) := by decide +kernel
theorem dX11_lawAt_10 : decode cX11_lawAt 10 = .ok (.getfield 62, 3) := by decide +kernel
theorem dX11_lawAt_13 : decode cX11_lawAt 13 = .ok (.iload_n 1, 1) := by decide +kernel
theorem dX11_lawAt_14 : decode cX11_lawAt 14 = .ok (.aaload, 1) := by decide +kernel
theorem dX11_lawAt_15 : decode cX11_lawAt 15 = .ok (.getfield 110, 3) := by decide +kernel
theorem dX11_lawAt_18 : decode cX11_lawAt 18 = .ok (.ifCond .eq 12, 3) := by decide +kernel
theorem dX11_lawAt_21 : decode cX11_lawAt 21 = .ok (.aload_n 0, 1) := by decide +kernel
theorem dX11_lawAt_22 : decode cX11_lawAt 22 = .ok (.getfield 62, 3) := by decide +kernel
theorem dX11_lawAt_25 : decode cX11_lawAt 25 = .ok (.iload_n 1, 1) := by decide +kernel
theorem dX11_lawAt_26 : decode cX11_lawAt 26 = .ok (.aaload, 1) := by decide +kernel
theorem dX11_lawAt_27 : decode cX11_lawAt 27 = .ok (.goto 4, 3) := by decide +kernel
theorem dX11_lawAt_30 : decode cX11_lawAt 30 = .ok (.aconst_null, 1) := by decide +kernel
theorem dX11_lawAt_31 : decode cX11_lawAt 31 = .ok (.areturn, 1) := by decide +kernel
set_option maxRecDepth 100000 in
theorem m_X11_lawAt {g : GT} {n nf : Int} (hu : Up true nf n) (M : Mem) (a1 : Int) : AM g true yX11_lawAt cX11_lawAt 2 (some (.object "BlindSide$Script")) (0) n n nf [(2, 1), (0, a1)] M (f_X11_lawAt M a1) := by
  refine AM_of (by decide +kernel) (Nat.le_of_ble_eq_true rfl) (fun h => absurd h (Int.lt_irrefl n)) ?_
  show AW g true RX11 cX11_lawAt 2 (some (.object "BlindSide$Script")) (0) n n nf 0 [(0, 2, 1), (1, 0, a1)] [] n M (f_X11_lawAt M a1)
  unfold f_X11_lawAt
  refine r_iload_n 1 dX11_lawAt_0 rfl rfl ?_
  refine r_if_lt (tgt := 30) dX11_lawAt_1 rfl (fun h1 => ?_) (fun h2 => ?_)
  · refine r_null dX11_lawAt_30 ?_
    exact r_aret rfl rfl dX11_lawAt_31
  · refine r_iload_n 1 dX11_lawAt_4 rfl rfl ?_
    refine r_iconst dX11_lawAt_5 ⟨by decide, by decide⟩ ?_
    refine r_icmp_ge (tgt := 30) dX11_lawAt_6 rfl (fun h3 => ?_) (fun h4 => ?_)
    · refine r_null dX11_lawAt_30 ?_
      exact r_aret rfl rfl dX11_lawAt_31
    · refine r_aload_n 0 dX11_lawAt_9 rfl rfl ?_
      refine r_gx (kz := 7) rfl hu dX11_lawAt_10 kF_X11_62 kd_1 rfl rfl rfl fx_1_7 ?_
      refine r_iload_n 1 dX11_lawAt_13 rfl rfl ?_
      refine r_aald hu dX11_lawAt_14 kd_68 (Or.inl rfl) rfl ln_68 ⟨by omega, by omega⟩ ?_
      refine r_ok (fun h5 => ?_)
      refine r_gf (t := 0) (kz := 6) rfl hu dX11_lawAt_15 kF_X11_110 h5 rfl rfl rfl ?_
      refine r_if_eq (tgt := 30) dX11_lawAt_18 rfl (fun h6 => ?_) (fun h7 => ?_)
      · refine r_null dX11_lawAt_30 ?_
        exact r_aret rfl rfl dX11_lawAt_31
      · refine r_aload_n 0 dX11_lawAt_21 rfl rfl ?_
        refine r_gx (kz := 7) rfl hu dX11_lawAt_22 kF_X11_62 kd_1 rfl rfl rfl fx_1_7 ?_
        refine r_iload_n 1 dX11_lawAt_25 rfl rfl ?_
        refine r_aald hu dX11_lawAt_26 kd_68 (Or.inl rfl) rfl ln_68 ⟨by omega, by omega⟩ ?_
        refine r_goto (tgt := 31) dX11_lawAt_27 rfl ?_
        exact r_aret rfl rfl dX11_lawAt_31
theorem dX11_waysOf_0 : decode cX11_waysOf 0 = .ok (.aload_n 0, 1) := by decide +kernel
theorem dX11_waysOf_1 : decode cX11_waysOf 1 = .ok (.iload_n 1, 1) := by decide +kernel
theorem dX11_waysOf_2 : decode cX11_waysOf 2 = .ok (.invokevirtual 153, 3) := by decide +kernel
theorem dX11_waysOf_5 : decode cX11_waysOf 5 = .ok (.astore_n 2, 1) := by decide +kernel
theorem dX11_waysOf_6 : decode cX11_waysOf 6 = .ok (.aload_n 2, 1) := by decide +kernel
theorem dX11_waysOf_7 : decode cX11_waysOf 7 = .ok (.ifnonnull 7, 3) := by decide +kernel
theorem dX11_waysOf_10 : decode cX11_waysOf 10 = .ok (.iconst 0, 1) := by decide +kernel
theorem dX11_waysOf_11 : decode cX11_waysOf 11 = .ok (.goto 7, 3) := by decide +kernel
theorem dX11_waysOf_14 : decode cX11_waysOf 14 = .ok (.aload_n 2, 1) := by decide +kernel
theorem dX11_waysOf_15 : decode cX11_waysOf 15 = .ok (.getfield 134, 3) := by decide +kernel
theorem dX11_waysOf_18 : decode cX11_waysOf 18 = .ok (.ireturn, 1) := by decide +kernel
set_option maxRecDepth 100000 in
theorem m_X11_waysOf {g : GT} {n nf : Int} (hu : Up true nf n) (M : Mem) (a1 : Int) : AM g true yX11_waysOf cX11_waysOf 3 (some .int) (1) n n nf [(2, 1), (0, a1)] M (f_X11_waysOf M a1) := by
  refine AM_of (by decide +kernel) (Nat.le_of_ble_eq_true rfl) (fun h => absurd h (Int.lt_irrefl n)) ?_
  show AW g true RX11 cX11_waysOf 3 (some .int) (1) n n nf 0 [(0, 2, 1), (1, 0, a1)] [] n M (f_X11_waysOf M a1)
  unfold f_X11_waysOf
  refine r_aload_n 0 dX11_waysOf_0 rfl rfl ?_
  refine r_iload_n 1 dX11_waysOf_1 rfl rfl ?_
  refine r_inv (a := 1) hu ⟨Nat.le_refl _, Nat.le_refl _⟩ dX11_waysOf_2 kM_X11_153 (ci := 11) rfl kd_1 rfl rfl (by decide) (by decide) [(0, a1)] rfl (sk := []) rfl (Nat.le_of_ble_eq_true rfl) rfl rfl (m_X11_lawAt hu M a1) (fun r1 M2 => ?_)
  refine r_astore_n dX11_waysOf_5 rfl (by decide) (ls' := [(2, 2, r1), (0, 2, 1), (1, 0, a1)]) rfl ?_
  refine r_aload_n 0 dX11_waysOf_6 rfl rfl ?_
  refine r_ifnonnull (tgt := 14) dX11_waysOf_7 rfl (fun h3 => ?_) (fun h4 => ?_)
  · refine r_iconst dX11_waysOf_10 ⟨by decide, by decide⟩ ?_
    refine r_goto (tgt := 18) dX11_waysOf_11 rfl ?_
    exact r_iret rfl rfl (Or.inl rfl) dX11_waysOf_18
  · refine r_aload_n 0 dX11_waysOf_14 rfl rfl ?_
    refine r_ok (fun h5 => ?_)
    refine r_gf (t := 0) (kz := 3) rfl hu dX11_waysOf_15 kF_X11_134 h5 rfl rfl rfl ?_
    exact r_iret rfl rfl (Or.inl rfl) dX11_waysOf_18
theorem dX11_has_0 : decode cX11_has 0 = .ok (.iload_n 1, 1) := by decide +kernel
theorem dX11_has_1 : decode cX11_has 1 = .ok (.tableswitch 137 0 9 #[55, 63, 68, 76, 84, 92, 100, 106, 112, 118], 55) := by decide +kernel
theorem dX11_has_56 : decode cX11_has 56 = .ok (.aload_n 0, 1) := by decide +kernel
theorem dX11_has_57 : decode cX11_has 57 = .ok (.getfield 67, 3) := by decide +kernel
theorem dX11_has_60 : decode cX11_has 60 = .ok (.getfield 134, 3) := by decide +kernel
theorem dX11_has_63 : decode cX11_has 63 = .ok (.ireturn, 1) := by decide +kernel
theorem dX11_has_64 : decode cX11_has 64 = .ok (.aload_n 0, 1) := by decide +kernel
theorem dX11_has_65 : decode cX11_has 65 = .ok (.invokevirtual 137, 3) := by decide +kernel
theorem dX11_has_68 : decode cX11_has 68 = .ok (.ireturn, 1) := by decide +kernel
theorem dX11_has_69 : decode cX11_has 69 = .ok (.aload_n 0, 1) := by decide +kernel
theorem dX11_has_70 : decode cX11_has 70 = .ok (.getfield 42, 3) := by decide +kernel
theorem dX11_has_73 : decode cX11_has 73 = .ok (.getfield 107, 3) := by decide +kernel
theorem dX11_has_76 : decode cX11_has 76 = .ok (.ireturn, 1) := by decide +kernel
theorem dX11_has_77 : decode cX11_has 77 = .ok (.aload_n 0, 1) := by decide +kernel
theorem dX11_has_78 : decode cX11_has 78 = .ok (.getfield 49, 3) := by decide +kernel
theorem dX11_has_81 : decode cX11_has 81 = .ok (.getfield 140, 3) := by decide +kernel
theorem dX11_has_84 : decode cX11_has 84 = .ok (.ireturn, 1) := by decide +kernel
theorem dX11_has_85 : decode cX11_has 85 = .ok (.aload_n 0, 1) := by decide +kernel
theorem dX11_has_86 : decode cX11_has 86 = .ok (.getfield 35, 3) := by decide +kernel
theorem dX11_has_89 : decode cX11_has 89 = .ok (.getfield 143, 3) := by decide +kernel
theorem dX11_has_92 : decode cX11_has 92 = .ok (.ireturn, 1) := by decide +kernel
theorem dX11_has_93 : decode cX11_has 93 = .ok (.aload_n 0, 1) := by decide +kernel
theorem dX11_has_94 : decode cX11_has 94 = .ok (.getfield 35, 3) := by decide +kernel
theorem dX11_has_97 : decode cX11_has 97 = .ok (.getfield 146, 3) := by decide +kernel
theorem dX11_has_100 : decode cX11_has 100 = .ok (.ireturn, 1) := by decide +kernel
theorem dX11_has_101 : decode cX11_has 101 = .ok (.aload_n 0, 1) := by decide +kernel
theorem dX11_has_102 : decode cX11_has 102 = .ok (.iconst 0, 1) := by decide +kernel
theorem dX11_has_103 : decode cX11_has 103 = .ok (.invokevirtual 149, 3) := by decide +kernel
theorem dX11_has_106 : decode cX11_has 106 = .ok (.ireturn, 1) := by decide +kernel
theorem dX11_has_107 : decode cX11_has 107 = .ok (.aload_n 0, 1) := by decide +kernel
theorem dX11_has_108 : decode cX11_has 108 = .ok (.iconst 1, 1) := by decide +kernel
theorem dX11_has_109 : decode cX11_has 109 = .ok (.invokevirtual 149, 3) := by decide +kernel
theorem dX11_has_112 : decode cX11_has 112 = .ok (.ireturn, 1) := by decide +kernel
theorem dX11_has_113 : decode cX11_has 113 = .ok (.aload_n 0, 1) := by decide +kernel
theorem dX11_has_114 : decode cX11_has 114 = .ok (.iconst 2, 1) := by decide +kernel
theorem dX11_has_115 : decode cX11_has 115 = .ok (.invokevirtual 149, 3) := by decide +kernel
theorem dX11_has_118 : decode cX11_has 118 = .ok (.ireturn, 1) := by decide +kernel
theorem dX11_has_119 : decode cX11_has 119 = .ok (.aload_n 0, 1) := by decide +kernel
theorem dX11_has_120 : decode cX11_has 120 = .ok (.getfield 71, 3) := by decide +kernel
theorem dX11_has_123 : decode cX11_has 123 = .ok (.getfield 110, 3) := by decide +kernel
theorem dX11_has_126 : decode cX11_has 126 = .ok (.ifCond .eq 10, 3) := by decide +kernel
theorem dX11_has_129 : decode cX11_has 129 = .ok (.aload_n 0, 1) := by decide +kernel
theorem dX11_has_130 : decode cX11_has 130 = .ok (.getfield 126, 3) := by decide +kernel
theorem dX11_has_133 : decode cX11_has 133 = .ok (.goto 4, 3) := by decide +kernel
theorem dX11_has_136 : decode cX11_has 136 = .ok (.iconst 0, 1) := by decide +kernel
theorem dX11_has_137 : decode cX11_has 137 = .ok (.ireturn, 1) := by decide +kernel
theorem dX11_has_138 : decode cX11_has 138 = .ok (.iconst (-1), 1) := by decide +kernel
theorem dX11_has_139 : decode cX11_has 139 = .ok (.ireturn, 1) := by decide +kernel
set_option maxRecDepth 100000 in
theorem m_X11_has {g : GT} {n nf : Int} (hu : Up true nf n) (M : Mem) (a1 : Int) : AM g true yX11_has cX11_has 2 (some .int) (2) n n nf [(2, 1), (0, a1)] M (f_X11_has M a1) := by
  refine AM_of (by decide +kernel) (Nat.le_of_ble_eq_true rfl) (fun h => absurd h (Int.lt_irrefl n)) ?_
  show AW g true RX11 cX11_has 2 (some .int) (2) n n nf 0 [(0, 2, 1), (1, 0, a1)] [] n M (f_X11_has M a1)
  unfold f_X11_has
  refine r_iload_n 1 dX11_has_0 rfl rfl ?_
  refine r_tsw (tgt := 56) 0 dX11_has_1 ⟨by decide, by decide⟩ rfl rfl (fun h1 => ?_) (fun h2 => ?_)
  · refine r_aload_n 0 dX11_has_56 rfl rfl ?_
    refine r_gf (t := 2) (kz := 8) rfl hu dX11_has_57 kF_X11_67 kd_1 rfl rfl rfl ?_
    refine r_ok (fun h3 => ?_)
    refine r_gf (t := 0) (kz := 3) rfl hu dX11_has_60 kF_X11_134 h3 rfl rfl rfl ?_
    exact r_iret rfl rfl (Or.inl rfl) dX11_has_63
  · refine r_tsw (tgt := 64) 1 dX11_has_1 ⟨by decide, by decide⟩ rfl rfl (fun h4 => ?_) (fun h5 => ?_)
    · refine r_aload_n 0 dX11_has_64 rfl rfl ?_
      refine r_inv (a := 1) hu ⟨Nat.le_refl _, Nat.le_refl _⟩ dX11_has_65 kM_X11_137 (ci := 11) rfl kd_1 rfl rfl (by decide) (by decide) [] rfl (sk := []) rfl (Nat.le_of_ble_eq_true rfl) rfl rfl (m_X11_lawsThatStand hu M) (fun r6 M7 => ?_)
      exact r_iret rfl rfl (Or.inl rfl) dX11_has_68
    · refine r_tsw (tgt := 69) 2 dX11_has_1 ⟨by decide, by decide⟩ rfl rfl (fun h8 => ?_) (fun h9 => ?_)
      · refine r_aload_n 0 dX11_has_69 rfl rfl ?_
        refine r_gx (kz := 4) rfl hu dX11_has_70 kF_X11_42 kd_1 rfl rfl rfl fx_1_4 ?_
        refine r_gf (t := 0) (kz := 1) rfl hu dX11_has_73 kF_X11_107 kd_21 rfl rfl rfl ?_
        exact r_iret rfl rfl (Or.inl rfl) dX11_has_76
      · refine r_tsw (tgt := 77) 3 dX11_has_1 ⟨by decide, by decide⟩ rfl rfl (fun h10 => ?_) (fun h11 => ?_)
        · refine r_aload_n 0 dX11_has_77 rfl rfl ?_
          refine r_gx (kz := 5) rfl hu dX11_has_78 kF_X11_49 kd_1 rfl rfl rfl fx_1_5 ?_
          refine r_gf (t := 0) (kz := 3) rfl hu dX11_has_81 kF_X11_140 kd_63 rfl rfl rfl ?_
          exact r_iret rfl rfl (Or.inl rfl) dX11_has_84
        · refine r_tsw (tgt := 85) 4 dX11_has_1 ⟨by decide, by decide⟩ rfl rfl (fun h12 => ?_) (fun h13 => ?_)
          · refine r_aload_n 0 dX11_has_85 rfl rfl ?_
            refine r_gx (kz := 3) rfl hu dX11_has_86 kF_X11_35 kd_1 rfl rfl rfl fx_1_3 ?_
            refine r_gf (t := 0) (kz := 10) rfl hu dX11_has_89 kF_X11_143 kd_13 rfl rfl rfl ?_
            exact r_iret rfl rfl (Or.inl rfl) dX11_has_92
          · refine r_tsw (tgt := 93) 5 dX11_has_1 ⟨by decide, by decide⟩ rfl rfl (fun h14 => ?_) (fun h15 => ?_)
            · refine r_aload_n 0 dX11_has_93 rfl rfl ?_
              refine r_gx (kz := 3) rfl hu dX11_has_94 kF_X11_35 kd_1 rfl rfl rfl fx_1_3 ?_
              refine r_gf (t := 0) (kz := 11) rfl hu dX11_has_97 kF_X11_146 kd_13 rfl rfl rfl ?_
              exact r_iret rfl rfl (Or.inl rfl) dX11_has_100
            · refine r_tsw (tgt := 101) 6 dX11_has_1 ⟨by decide, by decide⟩ rfl rfl (fun h16 => ?_) (fun h17 => ?_)
              · refine r_aload_n 0 dX11_has_101 rfl rfl ?_
                refine r_iconst dX11_has_102 ⟨by decide, by decide⟩ ?_
                refine r_inv (a := 1) hu ⟨Nat.le_refl _, Nat.le_refl _⟩ dX11_has_103 kM_X11_149 (ci := 11) rfl kd_1 rfl rfl (by decide) (by decide) [(0, 0)] rfl (sk := []) rfl (Nat.le_of_ble_eq_true rfl) rfl rfl (m_X11_waysOf hu M 0) (fun r18 M19 => ?_)
                exact r_iret rfl rfl (Or.inl rfl) dX11_has_106
              · refine r_tsw (tgt := 107) 7 dX11_has_1 ⟨by decide, by decide⟩ rfl rfl (fun h20 => ?_) (fun h21 => ?_)
                · refine r_aload_n 0 dX11_has_107 rfl rfl ?_
                  refine r_iconst dX11_has_108 ⟨by decide, by decide⟩ ?_
                  refine r_inv (a := 1) hu ⟨Nat.le_refl _, Nat.le_refl _⟩ dX11_has_109 kM_X11_149 (ci := 11) rfl kd_1 rfl rfl (by decide) (by decide) [(0, 1)] rfl (sk := []) rfl (Nat.le_of_ble_eq_true rfl) rfl rfl (m_X11_waysOf hu M 1) (fun r22 M23 => ?_)
                  exact r_iret rfl rfl (Or.inl rfl) dX11_has_112
                · refine r_tsw (tgt := 113) 8 dX11_has_1 ⟨by decide, by decide⟩ rfl rfl (fun h24 => ?_) (fun h25 => ?_)
                  · refine r_aload_n 0 dX11_has_113 rfl rfl ?_
                    refine r_iconst dX11_has_114 ⟨by decide, by decide⟩ ?_
                    refine r_inv (a := 1) hu ⟨Nat.le_refl _, Nat.le_refl _⟩ dX11_has_115 kM_X11_149 (ci := 11) rfl kd_1 rfl rfl (by decide) (by decide) [(0, 2)] rfl (sk := []) rfl (Nat.le_of_ble_eq_true rfl) rfl rfl (m_X11_waysOf hu M 2) (fun r26 M27 => ?_)
                    exact r_iret rfl rfl (Or.inl rfl) dX11_has_118
                  · refine r_tsw (tgt := 119) 9 dX11_has_1 ⟨by decide, by decide⟩ rfl rfl (fun h28 => ?_) (fun h29 => ?_)
                    · refine r_aload_n 0 dX11_has_119 rfl rfl ?_
                      refine r_gf (t := 2) (kz := 9) rfl hu dX11_has_120 kF_X11_71 kd_1 rfl rfl rfl ?_
                      refine r_ok (fun h30 => ?_)
                      refine r_gf (t := 0) (kz := 6) rfl hu dX11_has_123 kF_X11_110 h30 rfl rfl rfl ?_
                      refine r_if_eq (tgt := 136) dX11_has_126 rfl (fun h31 => ?_) (fun h32 => ?_)
                      · refine r_iconst dX11_has_136 ⟨by decide, by decide⟩ ?_
                        exact r_iret rfl rfl (Or.inl rfl) dX11_has_137
                      · refine r_aload_n 0 dX11_has_129 rfl rfl ?_
                        refine r_gf (t := 0) (kz := 13) rfl hu dX11_has_130 kF_X11_126 kd_1 rfl rfl rfl ?_
                        refine r_goto (tgt := 137) dX11_has_133 rfl ?_
                        exact r_iret rfl rfl (Or.inl rfl) dX11_has_137
                    · refine r_tswd (tgt := 138) dX11_has_1 (by omega) rfl ?_
                      refine r_iconst dX11_has_138 ⟨by decide, by decide⟩ ?_
                      exact r_iret rfl rfl (Or.inl rfl) dX11_has_139
