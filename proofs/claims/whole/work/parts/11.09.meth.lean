theorem dX12_isIsland_0 : decode cX12_isIsland 0 = .ok (.aload_n 0, 1) := by decide +kernel
theorem dX12_isIsland_1 : decode cX12_isIsland 1 = .ok (.getfield 167, 3) := by decide +kernel
theorem dX12_isIsland_4 : decode cX12_isIsland 4 = .ok (.iload_n 1, 1) := by decide +kernel
theorem dX12_isIsland_5 : decode cX12_isIsland 5 = .ok (.iaload, 1) := by decide +kernel
theorem dX12_isIsland_6 : decode cX12_isIsland 6 = .ok (.ifCond .le 20, 3) := by decide +kernel
theorem dX12_isIsland_9 : decode cX12_isIsland 9 = .ok (.aload_n 0, 1) := by decide +kernel
theorem dX12_isIsland_10 : decode cX12_isIsland 10 = .ok (.getfield 170, 3) := by decide +kernel
theorem dX12_isIsland_13 : decode cX12_isIsland 13 = .ok (.iload_n 1, 1) := by decide +kernel
theorem dX12_isIsland_14 : decode cX12_isIsland 14 = .ok (.iaload, 1) := by decide +kernel
theorem dX12_isIsland_15 : decode cX12_isIsland 15 = .ok (.aload_n 0, 1) := by decide +kernel
theorem dX12_isIsland_16 : decode cX12_isIsland 16 = .ok (.invokevirtual 528, 3) := by decide +kernel
theorem dX12_isIsland_19 : decode cX12_isIsland 19 = .ok (.if_icmp .eq 7, 3) := by decide +kernel
theorem dX12_isIsland_22 : decode cX12_isIsland 22 = .ok (.iconst 1, 1) := by decide +kernel
theorem dX12_isIsland_23 : decode cX12_isIsland 23 = .ok (.goto 4, 3) := by decide +kernel
theorem dX12_isIsland_26 : decode cX12_isIsland 26 = .ok (.iconst 0, 1) := by decide +kernel
theorem dX12_isIsland_27 : decode cX12_isIsland 27 = .ok (.ireturn, 1) := by decide +kernel
set_option maxRecDepth 100000 in
theorem m_X12_isIsland {g : GT} {n nf : Int} (hu : Up false nf n) (M : Mem) (a1 : Int) : AM g false yX12_isIsland cX12_isIsland 2 (some .boolean) (1) n n nf [(2, 337), (0, a1)] M (f_X12_isIsland M a1) := by
  refine AM_of (by decide +kernel) (Nat.le_of_ble_eq_true rfl) (fun h => absurd h (Int.lt_irrefl n)) ?_
  show AW g false RX12 cX12_isIsland 2 (some .boolean) (1) n n nf 0 [(0, 2, 337), (1, 0, a1)] [] n M (f_X12_isIsland M a1)
  unfold f_X12_isIsland
  refine r_aload_n 0 dX12_isIsland_0 rfl rfl ?_
  refine r_gx (kz := 74) rfl hu dX12_isIsland_1 kF_X12_167 kd_337 rfl rfl rfl fx_337_74 ?_
  refine r_iload_n 1 dX12_isIsland_4 rfl rfl ?_
  refine r_ok (fun h1 => ?_)
  refine r_iald hu dX12_isIsland_5 kd_388 rfl (Or.inl rfl) rfl ln_388 h1 ?_
  refine r_if_le (tgt := 26) dX12_isIsland_6 rfl (fun h2 => ?_) (fun h3 => ?_)
  · refine r_iconst dX12_isIsland_26 ⟨by decide, by decide⟩ ?_
    exact r_iret rfl rfl (Or.inr ⟨rfl, Or.inl rfl⟩) dX12_isIsland_27
  · refine r_aload_n 0 dX12_isIsland_9 rfl rfl ?_
    refine r_gx (kz := 75) rfl hu dX12_isIsland_10 kF_X12_170 kd_337 rfl rfl rfl fx_337_75 ?_
    refine r_iload_n 1 dX12_isIsland_13 rfl rfl ?_
    refine r_iald hu dX12_isIsland_14 kd_389 rfl (Or.inl rfl) rfl ln_389 h1 ?_
    refine r_aload_n 0 dX12_isIsland_15 rfl rfl ?_
    refine r_inv (a := 337) hu ⟨Nat.le_refl _, Nat.le_refl _⟩ dX12_isIsland_16 kM_X12_528 (ci := 12) rfl kd_337 rfl rfl (by decide) (by decide) [] rfl (sk := [(0, M 389 a1)]) rfl (Nat.le_of_ble_eq_true rfl) rfl rfl (m_X12_seenSide hu M) (fun r4 M5 => ?_)
    refine r_icmp_eq (tgt := 26) dX12_isIsland_19 rfl (fun h6 => ?_) (fun h7 => ?_)
    · refine r_iconst dX12_isIsland_26 ⟨by decide, by decide⟩ ?_
      exact r_iret rfl rfl (Or.inr ⟨rfl, Or.inl rfl⟩) dX12_isIsland_27
    · refine r_iconst dX12_isIsland_22 ⟨by decide, by decide⟩ ?_
      refine r_goto (tgt := 27) dX12_isIsland_23 rfl ?_
      exact r_iret rfl rfl (Or.inr ⟨rfl, Or.inr rfl⟩) dX12_isIsland_27
theorem dX12_piece_0 : decode cX12_piece 0 = .ok (.iload_n 1, 1) := by decide +kernel
theorem dX12_piece_1 : decode cX12_piece 1 = .ok (.iload_n 2, 1) := by decide +kernel
theorem dX12_piece_2 : decode cX12_piece 2 = .ok (.invokestatic 518, 3) := by decide +kernel
theorem dX12_piece_5 : decode cX12_piece 5 = .ok (.ifCond .eq 31, 3) := by decide +kernel
theorem dX12_piece_8 : decode cX12_piece 8 = .ok (.aload_n 0, 1) := by decide +kernel
theorem dX12_piece_9 : decode cX12_piece 9 = .ok (.getfield 167, 3) := by decide +kernel
theorem dX12_piece_12 : decode cX12_piece 12 = .ok (.bipush 12, 2) := by decide +kernel
theorem dX12_piece_14 : decode cX12_piece 14 = .ok (.iload_n 2, 1) := by decide +kernel
theorem dX12_piece_15 : decode cX12_piece 15 = .ok (.imul, 1) := by decide +kernel
theorem dX12_piece_16 : decode cX12_piece 16 = .ok (.iload_n 1, 1) := by decide +kernel
theorem dX12_piece_17 : decode cX12_piece 17 = .ok (.iadd, 1) := by decide +kernel
theorem dX12_piece_18 : decode cX12_piece 18 = .ok (.iaload, 1) := by decide +kernel
theorem dX12_piece_19 : decode cX12_piece 19 = .ok (.ifCond .le 17, 3) := by decide +kernel
theorem dX12_piece_22 : decode cX12_piece 22 = .ok (.aload_n 0, 1) := by decide +kernel
theorem dX12_piece_23 : decode cX12_piece 23 = .ok (.getfield 170, 3) := by decide +kernel
theorem dX12_piece_26 : decode cX12_piece 26 = .ok (.bipush 12, 2) := by decide +kernel
theorem dX12_piece_28 : decode cX12_piece 28 = .ok (.iload_n 2, 1) := by decide +kernel
theorem dX12_piece_29 : decode cX12_piece 29 = .ok (.imul, 1) := by decide +kernel
theorem dX12_piece_30 : decode cX12_piece 30 = .ok (.iload_n 1, 1) := by decide +kernel
theorem dX12_piece_31 : decode cX12_piece 31 = .ok (.iadd, 1) := by decide +kernel
theorem dX12_piece_32 : decode cX12_piece 32 = .ok (.iaload, 1) := by decide +kernel
theorem dX12_piece_33 : decode cX12_piece 33 = .ok (.goto 4, 3) := by decide +kernel
theorem dX12_piece_36 : decode cX12_piece 36 = .ok (.iconst (-1), 1) := by decide +kernel
theorem dX12_piece_37 : decode cX12_piece 37 = .ok (.ireturn, 1) := by decide +kernel
set_option maxRecDepth 100000 in
theorem m_X12_piece {g : GT} {n nf : Int} (hu : Up false nf n) (M : Mem) (a1 a2 : Int) : AM g false yX12_piece cX12_piece 3 (some .int) (2) n n nf [(2, 337), (0, a1), (0, a2)] M (f_X12_piece M a1 a2) := by
  refine AM_of (by decide +kernel) (Nat.le_of_ble_eq_true rfl) (fun h => absurd h (Int.lt_irrefl n)) ?_
  show AW g false RX12 cX12_piece 3 (some .int) (2) n n nf 0 [(0, 2, 337), (1, 0, a1), (2, 0, a2)] [] n M (f_X12_piece M a1 a2)
  unfold f_X12_piece
  refine r_iload_n 1 dX12_piece_0 rfl rfl ?_
  refine r_iload_n 2 dX12_piece_1 rfl rfl ?_
  refine r_ins (a := 0) ⟨Nat.le_refl _, Nat.le_refl _⟩ dX12_piece_2 kM_X12_518 (by decide) (by decide) [(0, a1), (0, a2)] rfl (sk := []) rfl (Nat.le_of_ble_eq_true rfl) rfl rfl (m_X12_isSquare hu M a1 a2) (fun r1 M2 => ?_)
  refine r_if_eq (tgt := 36) dX12_piece_5 rfl (fun h3 => ?_) (fun h4 => ?_)
  · refine r_iconst dX12_piece_36 ⟨by decide, by decide⟩ ?_
    exact r_iret rfl rfl (Or.inl rfl) dX12_piece_37
  · refine r_aload_n 0 dX12_piece_8 rfl rfl ?_
    refine r_gx (kz := 74) rfl hu dX12_piece_9 kF_X12_167 kd_337 rfl rfl rfl fx_337_74 ?_
    refine r_bipush dX12_piece_12 (by decide) ⟨by decide, by decide⟩ ?_
    refine r_iload_n 2 dX12_piece_14 rfl rfl ?_
    refine r_ok (fun h5 => ?_)
    refine r_imul dX12_piece_15 h5 ?_
    refine r_iload_n 1 dX12_piece_16 rfl rfl ?_
    refine r_ok (fun h6 => ?_)
    refine r_iadd dX12_piece_17 h6 ?_
    refine r_ok (fun h7 => ?_)
    refine r_iald hu dX12_piece_18 kd_388 rfl (Or.inl rfl) rfl ln_388 h7 ?_
    refine r_if_le (tgt := 36) dX12_piece_19 rfl (fun h8 => ?_) (fun h9 => ?_)
    · refine r_iconst dX12_piece_36 ⟨by decide, by decide⟩ ?_
      exact r_iret rfl rfl (Or.inl rfl) dX12_piece_37
    · refine r_aload_n 0 dX12_piece_22 rfl rfl ?_
      refine r_gx (kz := 75) rfl hu dX12_piece_23 kF_X12_170 kd_337 rfl rfl rfl fx_337_75 ?_
      refine r_bipush dX12_piece_26 (by decide) ⟨by decide, by decide⟩ ?_
      refine r_iload_n 2 dX12_piece_28 rfl rfl ?_
      refine r_imul dX12_piece_29 h5 ?_
      refine r_iload_n 1 dX12_piece_30 rfl rfl ?_
      refine r_iadd dX12_piece_31 h6 ?_
      refine r_iald hu dX12_piece_32 kd_389 rfl (Or.inl rfl) rfl ln_389 h7 ?_
      refine r_goto (tgt := 37) dX12_piece_33 rfl ?_
      exact r_iret rfl rfl (Or.inl rfl) dX12_piece_37
theorem dX12_pieceHas_0 : decode cX12_pieceHas 0 = .ok (.iload_n 1, 1) := by decide +kernel
theorem dX12_pieceHas_1 : decode cX12_pieceHas 1 = .ok (.i2l, 1) := by decide +kernel
theorem dX12_pieceHas_2 : decode cX12_pieceHas 2 = .ok (.lconst 0, 1) := by decide +kernel
theorem dX12_pieceHas_3 : decode cX12_pieceHas 3 = .ok (.aload_n 0, 1) := by decide +kernel
theorem dX12_pieceHas_4 : decode cX12_pieceHas 4 = .ok (.getfield 522, 3) := by decide +kernel
theorem dX12_pieceHas_7 : decode cX12_pieceHas 7 = .ok (.iconst 1, 1) := by decide +kernel
theorem dX12_pieceHas_8 : decode cX12_pieceHas 8 = .ok (.isub, 1) := by decide +kernel
theorem dX12_pieceHas_9 : decode cX12_pieceHas 9 = .ok (.i2l, 1) := by decide +kernel
theorem dX12_pieceHas_10 : decode cX12_pieceHas 10 = .ok (.invokestatic 267, 3) := by decide +kernel
theorem dX12_pieceHas_13 : decode cX12_pieceHas 13 = .ok (.ifCond .ne 5, 3) := by decide +kernel
theorem dX12_pieceHas_16 : decode cX12_pieceHas 16 = .ok (.iconst (-1), 1) := by decide +kernel
theorem dX12_pieceHas_17 : decode cX12_pieceHas 17 = .ok (.ireturn, 1) := by decide +kernel
theorem dX12_pieceHas_18 : decode cX12_pieceHas 18 = .ok (.iload_n 2, 1) := by decide +kernel
theorem dX12_pieceHas_19 : decode cX12_pieceHas 19 = .ok (.tableswitch 53 0 2 #[25, 32, 39], 25) := by decide +kernel
theorem dX12_pieceHas_44 : decode cX12_pieceHas 44 = .ok (.aload_n 0, 1) := by decide +kernel
theorem dX12_pieceHas_45 : decode cX12_pieceHas 45 = .ok (.getfield 173, 3) := by decide +kernel
theorem dX12_pieceHas_48 : decode cX12_pieceHas 48 = .ok (.iload_n 1, 1) := by decide +kernel
theorem dX12_pieceHas_49 : decode cX12_pieceHas 49 = .ok (.iaload, 1) := by decide +kernel
theorem dX12_pieceHas_50 : decode cX12_pieceHas 50 = .ok (.ireturn, 1) := by decide +kernel
theorem dX12_pieceHas_51 : decode cX12_pieceHas 51 = .ok (.aload_n 0, 1) := by decide +kernel
theorem dX12_pieceHas_52 : decode cX12_pieceHas 52 = .ok (.getfield 176, 3) := by decide +kernel
theorem dX12_pieceHas_55 : decode cX12_pieceHas 55 = .ok (.iload_n 1, 1) := by decide +kernel
theorem dX12_pieceHas_56 : decode cX12_pieceHas 56 = .ok (.iaload, 1) := by decide +kernel
theorem dX12_pieceHas_57 : decode cX12_pieceHas 57 = .ok (.ireturn, 1) := by decide +kernel
theorem dX12_pieceHas_58 : decode cX12_pieceHas 58 = .ok (.iload_n 1, 1) := by decide +kernel
theorem dX12_pieceHas_59 : decode cX12_pieceHas 59 = .ok (.aload_n 0, 1) := by decide +kernel
theorem dX12_pieceHas_60 : decode cX12_pieceHas 60 = .ok (.invokevirtual 528, 3) := by decide +kernel
theorem dX12_pieceHas_63 : decode cX12_pieceHas 63 = .ok (.if_icmp .ne 7, 3) := by decide +kernel
theorem dX12_pieceHas_66 : decode cX12_pieceHas 66 = .ok (.iconst 0, 1) := by decide +kernel
theorem dX12_pieceHas_67 : decode cX12_pieceHas 67 = .ok (.goto 4, 3) := by decide +kernel
theorem dX12_pieceHas_70 : decode cX12_pieceHas 70 = .ok (.iconst 1, 1) := by decide +kernel
theorem dX12_pieceHas_71 : decode cX12_pieceHas 71 = .ok (.ireturn, 1) := by decide +kernel
theorem dX12_pieceHas_72 : decode cX12_pieceHas 72 = .ok (.iconst (-1), 1) := by decide +kernel
theorem dX12_pieceHas_73 : decode cX12_pieceHas 73 = .ok (.ireturn, 1) := by decide +kernel
set_option maxRecDepth 100000 in
theorem m_X12_pieceHas {g : GT} {n nf : Int} (hu : Up false nf n) (M : Mem) (a1 a2 : Int) : AM g false yX12_pieceHas cX12_pieceHas 3 (some .int) (1) n n nf [(2, 337), (0, a1), (0, a2)] M (f_X12_pieceHas M a1 a2) := by
  refine AM_of (by decide +kernel) (Nat.le_of_ble_eq_true rfl) (fun h => absurd h (Int.lt_irrefl n)) ?_
  show AW g false RX12 cX12_pieceHas 3 (some .int) (1) n n nf 0 [(0, 2, 337), (1, 0, a1), (2, 0, a2)] [] n M (f_X12_pieceHas M a1 a2)
  unfold f_X12_pieceHas
  refine r_iload_n 1 dX12_pieceHas_0 rfl rfl ?_
  refine r_i2l dX12_pieceHas_1 ?_
  refine r_lconst (v := 0) dX12_pieceHas_2 (by decide) ⟨by decide, by decide⟩ ?_
  refine r_aload_n 0 dX12_pieceHas_3 rfl rfl ?_
  refine r_gf (t := 0) (kz := 78) rfl hu dX12_pieceHas_4 kF_X12_522 kd_337 rfl rfl rfl ?_
  refine r_iconst dX12_pieceHas_7 ⟨by decide, by decide⟩ ?_
  refine r_ok (fun h1 => ?_)
  refine r_isub dX12_pieceHas_8 h1 ?_
  refine r_i2l dX12_pieceHas_9 ?_
  refine r_ins (a := 0) ⟨Nat.le_refl _, Nat.le_refl _⟩ dX12_pieceHas_10 kM_X12_267 (by decide) (by decide) [(1, a1), (1, 0), (1, (M 337 78) - 1)] rfl (sk := []) rfl (Nat.le_of_ble_eq_true rfl) rfl rfl (m_X12_isIn hu M a1 0 ((M 337 78) - 1)) (fun r2 M3 => ?_)
  refine r_if_ne (tgt := 18) dX12_pieceHas_13 rfl (fun h4 => ?_) (fun h5 => ?_)
  · refine r_iconst dX12_pieceHas_16 ⟨by decide, by decide⟩ ?_
    exact r_iret rfl rfl (Or.inl rfl) dX12_pieceHas_17
  · refine r_iload_n 2 dX12_pieceHas_18 rfl rfl ?_
    refine r_tsw (tgt := 44) 0 dX12_pieceHas_19 ⟨by decide, by decide⟩ rfl rfl (fun h6 => ?_) (fun h7 => ?_)
    · refine r_aload_n 0 dX12_pieceHas_44 rfl rfl ?_
      refine r_gx (kz := 76) rfl hu dX12_pieceHas_45 kF_X12_173 kd_337 rfl rfl rfl fx_337_76 ?_
      refine r_iload_n 1 dX12_pieceHas_48 rfl rfl ?_
      refine r_ok (fun h8 => ?_)
      refine r_iald hu dX12_pieceHas_49 kd_390 rfl (Or.inl rfl) rfl ln_390 h8 ?_
      exact r_iret rfl rfl (Or.inl rfl) dX12_pieceHas_50
    · refine r_tsw (tgt := 51) 1 dX12_pieceHas_19 ⟨by decide, by decide⟩ rfl rfl (fun h9 => ?_) (fun h10 => ?_)
      · refine r_aload_n 0 dX12_pieceHas_51 rfl rfl ?_
        refine r_gx (kz := 77) rfl hu dX12_pieceHas_52 kF_X12_176 kd_337 rfl rfl rfl fx_337_77 ?_
        refine r_iload_n 1 dX12_pieceHas_55 rfl rfl ?_
        refine r_ok (fun h11 => ?_)
        refine r_iald hu dX12_pieceHas_56 kd_391 rfl (Or.inl rfl) rfl ln_391 h11 ?_
        exact r_iret rfl rfl (Or.inl rfl) dX12_pieceHas_57
      · refine r_tsw (tgt := 58) 2 dX12_pieceHas_19 ⟨by decide, by decide⟩ rfl rfl (fun h12 => ?_) (fun h13 => ?_)
        · refine r_iload_n 1 dX12_pieceHas_58 rfl rfl ?_
          refine r_aload_n 0 dX12_pieceHas_59 rfl rfl ?_
          refine r_inv (a := 337) hu ⟨Nat.le_refl _, Nat.le_refl _⟩ dX12_pieceHas_60 kM_X12_528 (ci := 12) rfl kd_337 rfl rfl (by decide) (by decide) [] rfl (sk := [(0, a1)]) rfl (Nat.le_of_ble_eq_true rfl) rfl rfl (m_X12_seenSide hu M3) (fun r14 M15 => ?_)
          refine r_icmp_ne (tgt := 70) dX12_pieceHas_63 rfl (fun h16 => ?_) (fun h17 => ?_)
          · refine r_iconst dX12_pieceHas_66 ⟨by decide, by decide⟩ ?_
            refine r_goto (tgt := 71) dX12_pieceHas_67 rfl ?_
            exact r_iret rfl rfl (Or.inl rfl) dX12_pieceHas_71
          · refine r_iconst dX12_pieceHas_70 ⟨by decide, by decide⟩ ?_
            exact r_iret rfl rfl (Or.inl rfl) dX12_pieceHas_71
        · refine r_tswd (tgt := 72) dX12_pieceHas_19 (by omega) rfl ?_
          refine r_iconst dX12_pieceHas_72 ⟨by decide, by decide⟩ ?_
          exact r_iret rfl rfl (Or.inl rfl) dX12_pieceHas_73
theorem dX12_light_0 : decode cX12_light 0 = .ok (.iload_n 1, 1) := by decide +kernel
theorem dX12_light_1 : decode cX12_light 1 = .ok (.iload_n 2, 1) := by decide +kernel
theorem dX12_light_2 : decode cX12_light 2 = .ok (.invokestatic 518, 3) := by decide +kernel
theorem dX12_light_5 : decode cX12_light 5 = .ok (.ifCond .eq 29, 3) := by decide +kernel
theorem dX12_light_8 : decode cX12_light 8 = .ok (.iload_n 3, 1) := by decide +kernel
theorem dX12_light_9 : decode cX12_light 9 = .ok (.i2l, 1) := by decide +kernel
theorem dX12_light_10 : decode cX12_light 10 = .ok (.lconst 0, 1) := by decide +kernel
theorem dX12_light_11 : decode cX12_light 11 = .ok (.ldc2_w 429, 3) := by decide +kernel
theorem dX12_light_14 : decode cX12_light 14 = .ok (.invokestatic 267, 3) := by decide +kernel
theorem dX12_light_17 : decode cX12_light 17 = .ok (.ifCond .eq 17, 3) := by decide +kernel
theorem dX12_light_20 : decode cX12_light 20 = .ok (.aload_n 0, 1) := by decide +kernel
theorem dX12_light_21 : decode cX12_light 21 = .ok (.bipush 12, 2) := by decide +kernel
theorem dX12_light_23 : decode cX12_light 23 = .ok (.iload_n 2, 1) := by decide +kernel
theorem dX12_light_24 : decode cX12_light 24 = .ok (.imul, 1) := by decide +kernel
theorem dX12_light_25 : decode cX12_light 25 = .ok (.iload_n 1, 1) := by decide +kernel
theorem dX12_light_26 : decode cX12_light 26 = .ok (.iadd, 1) := by decide +kernel
theorem dX12_light_27 : decode cX12_light 27 = .ok (.iload_n 3, 1) := by decide +kernel
theorem dX12_light_28 : decode cX12_light 28 = .ok (.invokevirtual 531, 3) := by decide +kernel
theorem dX12_light_31 : decode cX12_light 31 = .ok (.goto 4, 3) := by decide +kernel
theorem dX12_light_34 : decode cX12_light 34 = .ok (.iconst (-1), 1) := by decide +kernel
theorem dX12_light_35 : decode cX12_light 35 = .ok (.ireturn, 1) := by decide +kernel
set_option maxRecDepth 100000 in
theorem m_X12_light {g : GT} {n nf : Int} (hu : Up false nf n) (M : Mem) (a1 a2 a3 : Int) : AM g false yX12_light cX12_light 4 (some .int) (2) n n nf [(2, 337), (0, a1), (0, a2), (0, a3)] M (f_X12_light M a1 a2 a3) := by
  refine AM_of (by decide +kernel) (Nat.le_of_ble_eq_true rfl) (fun h => absurd h (Int.lt_irrefl n)) ?_
  show AW g false RX12 cX12_light 4 (some .int) (2) n n nf 0 [(0, 2, 337), (1, 0, a1), (2, 0, a2), (3, 0, a3)] [] n M (f_X12_light M a1 a2 a3)
  unfold f_X12_light
  refine r_iload_n 1 dX12_light_0 rfl rfl ?_
  refine r_iload_n 2 dX12_light_1 rfl rfl ?_
  refine r_ins (a := 0) ⟨Nat.le_refl _, Nat.le_refl _⟩ dX12_light_2 kM_X12_518 (by decide) (by decide) [(0, a1), (0, a2)] rfl (sk := []) rfl (Nat.le_of_ble_eq_true rfl) rfl rfl (m_X12_isSquare hu M a1 a2) (fun r1 M2 => ?_)
  refine r_if_eq (tgt := 34) dX12_light_5 rfl (fun h3 => ?_) (fun h4 => ?_)
  · refine r_iconst dX12_light_34 ⟨by decide, by decide⟩ ?_
    exact r_iret rfl rfl (Or.inl rfl) dX12_light_35
  · refine r_iload_n 3 dX12_light_8 rfl rfl ?_
    refine r_i2l dX12_light_9 ?_
    refine r_lconst (v := 0) dX12_light_10 (by decide) ⟨by decide, by decide⟩ ?_
    refine r_ldc2 (v := 99) dX12_light_11 kC_X12_429 rfl ⟨by decide, by decide⟩ ?_
    refine r_ins (a := 0) ⟨Nat.le_refl _, Nat.le_refl _⟩ dX12_light_14 kM_X12_267 (by decide) (by decide) [(1, a3), (1, 0), (1, 99)] rfl (sk := []) rfl (Nat.le_of_ble_eq_true rfl) rfl rfl (m_X12_isIn hu M2 a3 0 99) (fun r5 M6 => ?_)
    refine r_if_eq (tgt := 34) dX12_light_17 rfl (fun h7 => ?_) (fun h8 => ?_)
    · refine r_iconst dX12_light_34 ⟨by decide, by decide⟩ ?_
      exact r_iret rfl rfl (Or.inl rfl) dX12_light_35
    · refine r_aload_n 0 dX12_light_20 rfl rfl ?_
      refine r_bipush dX12_light_21 (by decide) ⟨by decide, by decide⟩ ?_
      refine r_iload_n 2 dX12_light_23 rfl rfl ?_
      refine r_ok (fun h9 => ?_)
      refine r_imul dX12_light_24 h9 ?_
      refine r_iload_n 1 dX12_light_25 rfl rfl ?_
      refine r_ok (fun h10 => ?_)
      refine r_iadd dX12_light_26 h10 ?_
      refine r_iload_n 3 dX12_light_27 rfl rfl ?_
      refine r_inv (a := 337) hu ⟨Nat.le_refl _, Nat.le_refl _⟩ dX12_light_28 kM_X12_531 (ci := 12) rfl kd_337 rfl rfl (by decide) (by decide) [(0, (12 * a2) + a1), (0, a3)] rfl (sk := []) rfl (Nat.le_of_ble_eq_true rfl) rfl rfl (m_X12_lightAt hu M6 ((12 * a2) + a1) a3) (fun r11 M12 => ?_)
      refine r_goto (tgt := 35) dX12_light_31 rfl ?_
      exact r_iret rfl rfl (Or.inl rfl) dX12_light_35
theorem dX12_isShowing_0 : decode cX12_isShowing 0 = .ok (.aload_n 0, 1) := by decide +kernel
theorem dX12_isShowing_1 : decode cX12_isShowing 1 = .ok (.iload_n 1, 1) := by decide +kernel
theorem dX12_isShowing_2 : decode cX12_isShowing 2 = .ok (.invokevirtual 489, 3) := by decide +kernel
theorem dX12_isShowing_5 : decode cX12_isShowing 5 = .ok (.ifCond .eq 28, 3) := by decide +kernel
theorem dX12_isShowing_8 : decode cX12_isShowing 8 = .ok (.iload_n 2, 1) := by decide +kernel
theorem dX12_isShowing_9 : decode cX12_isShowing 9 = .ok (.iload_n 3, 1) := by decide +kernel
theorem dX12_isShowing_10 : decode cX12_isShowing 10 = .ok (.invokestatic 518, 3) := by decide +kernel
theorem dX12_isShowing_13 : decode cX12_isShowing 13 = .ok (.ifCond .eq 20, 3) := by decide +kernel
theorem dX12_isShowing_16 : decode cX12_isShowing 16 = .ok (.iload 4, 2) := by decide +kernel
theorem dX12_isShowing_18 : decode cX12_isShowing 18 = .ok (.i2l, 1) := by decide +kernel
theorem dX12_isShowing_19 : decode cX12_isShowing 19 = .ok (.lconst 0, 1) := by decide +kernel
theorem dX12_isShowing_20 : decode cX12_isShowing 20 = .ok (.ldc2_w 429, 3) := by decide +kernel
theorem dX12_isShowing_23 : decode cX12_isShowing 23 = .ok (.invokestatic 267, 3) := by decide +kernel
theorem dX12_isShowing_26 : decode cX12_isShowing 26 = .ok (.ifCond .eq 7, 3) := by decide +kernel
theorem dX12_isShowing_29 : decode cX12_isShowing 29 = .ok (.iconst 1, 1) := by decide +kernel
theorem dX12_isShowing_30 : decode cX12_isShowing 30 = .ok (.goto 4, 3) := by decide +kernel
theorem dX12_isShowing_33 : decode cX12_isShowing 33 = .ok (.iconst 0, 1) := by decide +kernel
theorem dX12_isShowing_34 : decode cX12_isShowing 34 = .ok (.ireturn, 1) := by decide +kernel
set_option maxRecDepth 100000 in
theorem m_X12_isShowing {g : GT} {n nf : Int} (hu : Up false nf n) (M : Mem) (a1 a2 a3 a4 : Int) : AM g false yX12_isShowing cX12_isShowing 5 (some .boolean) (2) n n nf [(2, 337), (0, a1), (0, a2), (0, a3), (0, a4)] M (f_X12_isShowing M a1 a2 a3 a4) := by
  refine AM_of (by decide +kernel) (Nat.le_of_ble_eq_true rfl) (fun h => absurd h (Int.lt_irrefl n)) ?_
  show AW g false RX12 cX12_isShowing 5 (some .boolean) (2) n n nf 0 [(0, 2, 337), (1, 0, a1), (2, 0, a2), (3, 0, a3), (4, 0, a4)] [] n M (f_X12_isShowing M a1 a2 a3 a4)
  unfold f_X12_isShowing
  refine r_aload_n 0 dX12_isShowing_0 rfl rfl ?_
  refine r_iload_n 1 dX12_isShowing_1 rfl rfl ?_
  refine r_inv (a := 337) hu ⟨Nat.le_refl _, Nat.le_refl _⟩ dX12_isShowing_2 kM_X12_489 (ci := 12) rfl kd_337 rfl rfl (by decide) (by decide) [(0, a1)] rfl (sk := []) rfl (Nat.le_of_ble_eq_true rfl) rfl rfl (m_X12_isThing hu M a1) (fun r1 M2 => ?_)
  refine r_if_eq (tgt := 33) dX12_isShowing_5 rfl (fun h3 => ?_) (fun h4 => ?_)
  · refine r_iconst dX12_isShowing_33 ⟨by decide, by decide⟩ ?_
    exact r_iret rfl rfl (Or.inr ⟨rfl, Or.inl rfl⟩) dX12_isShowing_34
  · refine r_iload_n 2 dX12_isShowing_8 rfl rfl ?_
    refine r_iload_n 3 dX12_isShowing_9 rfl rfl ?_
    refine r_ins (a := 0) ⟨Nat.le_refl _, Nat.le_refl _⟩ dX12_isShowing_10 kM_X12_518 (by decide) (by decide) [(0, a2), (0, a3)] rfl (sk := []) rfl (Nat.le_of_ble_eq_true rfl) rfl rfl (m_X12_isSquare hu M2 a2 a3) (fun r5 M6 => ?_)
    refine r_if_eq (tgt := 33) dX12_isShowing_13 rfl (fun h7 => ?_) (fun h8 => ?_)
    · refine r_iconst dX12_isShowing_33 ⟨by decide, by decide⟩ ?_
      exact r_iret rfl rfl (Or.inr ⟨rfl, Or.inl rfl⟩) dX12_isShowing_34
    · refine r_iload 4 dX12_isShowing_16 rfl ?_
      refine r_i2l dX12_isShowing_18 ?_
      refine r_lconst (v := 0) dX12_isShowing_19 (by decide) ⟨by decide, by decide⟩ ?_
      refine r_ldc2 (v := 99) dX12_isShowing_20 kC_X12_429 rfl ⟨by decide, by decide⟩ ?_
      refine r_ins (a := 0) ⟨Nat.le_refl _, Nat.le_refl _⟩ dX12_isShowing_23 kM_X12_267 (by decide) (by decide) [(1, a4), (1, 0), (1, 99)] rfl (sk := []) rfl (Nat.le_of_ble_eq_true rfl) rfl rfl (m_X12_isIn hu M6 a4 0 99) (fun r9 M10 => ?_)
      refine r_if_eq (tgt := 33) dX12_isShowing_26 rfl (fun h11 => ?_) (fun h12 => ?_)
      · refine r_iconst dX12_isShowing_33 ⟨by decide, by decide⟩ ?_
        exact r_iret rfl rfl (Or.inr ⟨rfl, Or.inl rfl⟩) dX12_isShowing_34
      · refine r_iconst dX12_isShowing_29 ⟨by decide, by decide⟩ ?_
        refine r_goto (tgt := 34) dX12_isShowing_30 rfl ?_
        exact r_iret rfl rfl (Or.inr ⟨rfl, Or.inr rfl⟩) dX12_isShowing_34
theorem dX12_carries_0 : decode cX12_carries 0 = .ok (.aload_n 0, 1) := by decide +kernel
theorem dX12_carries_1 : decode cX12_carries 1 = .ok (.iload_n 1, 1) := by decide +kernel
theorem dX12_carries_2 : decode cX12_carries 2 = .ok (.invokevirtual 459, 3) := by decide +kernel
theorem dX12_carries_5 : decode cX12_carries 5 = .ok (.ifCond .eq 39, 3) := by decide +kernel
theorem dX12_carries_8 : decode cX12_carries 8 = .ok (.aload_n 0, 1) := by decide +kernel
theorem dX12_carries_9 : decode cX12_carries 9 = .ok (.iload_n 3, 1) := by decide +kernel
theorem dX12_carries_10 : decode cX12_carries 10 = .ok (.iload 4, 2) := by decide +kernel
theorem dX12_carries_12 : decode cX12_carries 12 = .ok (.iload 5, 2) := by decide +kernel
theorem dX12_carries_14 : decode cX12_carries 14 = .ok (.iload 6, 2) := by decide +kernel
theorem dX12_carries_16 : decode cX12_carries 16 = .ok (.invokevirtual 541, 3) := by decide +kernel
theorem dX12_carries_19 : decode cX12_carries 19 = .ok (.ifCond .eq 25, 3) := by decide +kernel
theorem dX12_carries_22 : decode cX12_carries 22 = .ok (.iload_n 2, 1) := by decide +kernel
theorem dX12_carries_23 : decode cX12_carries 23 = .ok (.i2l, 1) := by decide +kernel
theorem dX12_carries_24 : decode cX12_carries 24 = .ok (.ldc2_w 545, 3) := by decide +kernel
theorem dX12_carries_27 : decode cX12_carries 27 = .ok (.aload_n 0, 1) := by decide +kernel
theorem dX12_carries_28 : decode cX12_carries 28 = .ok (.getfield 99, 3) := by decide +kernel
theorem dX12_carries_31 : decode cX12_carries 31 = .ok (.iconst 2, 1) := by decide +kernel
theorem dX12_carries_32 : decode cX12_carries 32 = .ok (.iload_n 1, 1) := by decide +kernel
theorem dX12_carries_33 : decode cX12_carries 33 = .ok (.iadd, 1) := by decide +kernel
theorem dX12_carries_34 : decode cX12_carries 34 = .ok (.iaload, 1) := by decide +kernel
theorem dX12_carries_35 : decode cX12_carries 35 = .ok (.iconst 1, 1) := by decide +kernel
theorem dX12_carries_36 : decode cX12_carries 36 = .ok (.isub, 1) := by decide +kernel
theorem dX12_carries_37 : decode cX12_carries 37 = .ok (.i2l, 1) := by decide +kernel
theorem dX12_carries_38 : decode cX12_carries 38 = .ok (.invokestatic 267, 3) := by decide +kernel
theorem dX12_carries_41 : decode cX12_carries 41 = .ok (.ifCond .ne 5, 3) := by decide +kernel
theorem dX12_carries_44 : decode cX12_carries 44 = .ok (.iconst (-1), 1) := by decide +kernel
theorem dX12_carries_45 : decode cX12_carries 45 = .ok (.ireturn, 1) := by decide +kernel
theorem dX12_carries_46 : decode cX12_carries 46 = .ok (.aload_n 0, 1) := by decide +kernel
theorem dX12_carries_47 : decode cX12_carries 47 = .ok (.iload_n 3, 1) := by decide +kernel
theorem dX12_carries_48 : decode cX12_carries 48 = .ok (.bipush 12, 2) := by decide +kernel
theorem dX12_carries_50 : decode cX12_carries 50 = .ok (.iload 5, 2) := by decide +kernel
theorem dX12_carries_52 : decode cX12_carries 52 = .ok (.imul, 1) := by decide +kernel
theorem dX12_carries_53 : decode cX12_carries 53 = .ok (.iload 4, 2) := by decide +kernel
theorem dX12_carries_55 : decode cX12_carries 55 = .ok (.iadd, 1) := by decide +kernel
theorem dX12_carries_56 : decode cX12_carries 56 = .ok (.iload 6, 2) := by decide +kernel
theorem dX12_carries_58 : decode cX12_carries 58 = .ok (.invokevirtual 431, 3) := by decide +kernel
theorem dX12_carries_61 : decode cX12_carries 61 = .ok (.iload_n 2, 1) := by decide +kernel
theorem dX12_carries_62 : decode cX12_carries 62 = .ok (.iconst (-1), 1) := by decide +kernel
theorem dX12_carries_63 : decode cX12_carries 63 = .ok (.if_icmp .ne 12, 3) := by decide +kernel
theorem dX12_carries_66 : decode cX12_carries 66 = .ok (.aload_n 0, 1) := by decide +kernel
theorem dX12_carries_67 : decode cX12_carries 67 = .ok (.iload_n 1, 1) := by decide +kernel
theorem dX12_carries_68 : decode cX12_carries 68 = .ok (.iconst 0, 1) := by decide +kernel
theorem dX12_carries_69 : decode cX12_carries 69 = .ok (.invokevirtual 435, 3) := by decide +kernel
theorem dX12_carries_72 : decode cX12_carries 72 = .ok (.goto 38, 3) := by decide +kernel
theorem dX12_carries_75 : decode cX12_carries 75 = .ok (.iload_n 2, 1) := by decide +kernel
theorem dX12_carries_76 : decode cX12_carries 76 = .ok (.bipush (-2), 2) := by decide +kernel
theorem dX12_carries_78 : decode cX12_carries 78 = .ok (.if_icmp .ne 12, 3) := by decide +kernel
theorem dX12_carries_81 : decode cX12_carries 81 = .ok (.aload_n 0, 1) := by decide +kernel
theorem dX12_carries_82 : decode cX12_carries 82 = .ok (.iload_n 1, 1) := by decide +kernel
theorem dX12_carries_83 : decode cX12_carries 83 = .ok (.iconst 1, 1) := by decide +kernel
theorem dX12_carries_84 : decode cX12_carries 84 = .ok (.invokevirtual 435, 3) := by decide +kernel
theorem dX12_carries_87 : decode cX12_carries 87 = .ok (.goto 23, 3) := by decide +kernel
theorem dX12_carries_90 : decode cX12_carries 90 = .ok (.iload_n 2, 1) := by decide +kernel
theorem dX12_carries_91 : decode cX12_carries 91 = .ok (.bipush (-3), 2) := by decide +kernel
theorem dX12_carries_93 : decode cX12_carries 93 = .ok (.if_icmp .ne 11, 3) := by decide +kernel
theorem dX12_carries_96 : decode cX12_carries 96 = .ok (.aload_n 0, 1) := by decide +kernel
theorem dX12_carries_97 : decode cX12_carries 97 = .ok (.iload_n 1, 1) := by decide +kernel
theorem dX12_carries_98 : decode cX12_carries 98 = .ok (.invokevirtual 537, 3) := by decide +kernel
theorem dX12_carries_101 : decode cX12_carries 101 = .ok (.goto 9, 3) := by decide +kernel
theorem dX12_carries_104 : decode cX12_carries 104 = .ok (.aload_n 0, 1) := by decide +kernel
theorem dX12_carries_105 : decode cX12_carries 105 = .ok (.iload_n 1, 1) := by decide +kernel
theorem dX12_carries_106 : decode cX12_carries 106 = .ok (.iload_n 2, 1) := by decide +kernel
theorem dX12_carries_107 : decode cX12_carries 107 = .ok (.invokevirtual 534, 3) := by decide +kernel
theorem dX12_carries_110 : decode cX12_carries 110 = .ok (.ireturn, 1) := by decide +kernel
set_option maxRecDepth 100000 in
theorem m_X12_carries {g : GT} {n nf : Int} (hu : Up false nf n) (M : Mem) (a1 a2 a3 a4 a5 a6 : Int) : AM g false yX12_carries cX12_carries 7 (some .int) (5) n n nf [(2, 337), (0, a1), (0, a2), (0, a3), (0, a4), (0, a5), (0, a6)] M (f_X12_carries M a1 a2 a3 a4 a5 a6) := by
  refine AM_of (by decide +kernel) (Nat.le_of_ble_eq_true rfl) (fun h => absurd h (Int.lt_irrefl n)) ?_
  show AW g false RX12 cX12_carries 7 (some .int) (5) n n nf 0 [(0, 2, 337), (1, 0, a1), (2, 0, a2), (3, 0, a3), (4, 0, a4), (5, 0, a5), (6, 0, a6)] [] n M (f_X12_carries M a1 a2 a3 a4 a5 a6)
  unfold f_X12_carries
  refine r_aload_n 0 dX12_carries_0 rfl rfl ?_
  refine r_iload_n 1 dX12_carries_1 rfl rfl ?_
  refine r_inv (a := 337) hu ⟨Nat.le_refl _, Nat.le_refl _⟩ dX12_carries_2 kM_X12_459 (ci := 12) rfl kd_337 rfl rfl (by decide) (by decide) [(0, a1)] rfl (sk := []) rfl (Nat.le_of_ble_eq_true rfl) rfl rfl (m_X12_isLaw hu M a1) (fun r1 M2 => ?_)
  refine r_if_eq (tgt := 44) dX12_carries_5 rfl (fun h3 => ?_) (fun h4 => ?_)
  · refine r_iconst dX12_carries_44 ⟨by decide, by decide⟩ ?_
    exact r_iret rfl rfl (Or.inl rfl) dX12_carries_45
  · refine r_aload_n 0 dX12_carries_8 rfl rfl ?_
    refine r_iload_n 3 dX12_carries_9 rfl rfl ?_
    refine r_iload 4 dX12_carries_10 rfl ?_
    refine r_iload 5 dX12_carries_12 rfl ?_
    refine r_iload 6 dX12_carries_14 rfl ?_
    refine r_inv (a := 337) hu ⟨Nat.le_refl _, Nat.le_refl _⟩ dX12_carries_16 kM_X12_541 (ci := 12) rfl kd_337 rfl rfl (by decide) (by decide) [(0, a3), (0, a4), (0, a5), (0, a6)] rfl (sk := []) rfl (Nat.le_of_ble_eq_true rfl) rfl rfl (m_X12_isShowing hu M2 a3 a4 a5 a6) (fun r5 M6 => ?_)
    refine r_if_eq (tgt := 44) dX12_carries_19 rfl (fun h7 => ?_) (fun h8 => ?_)
    · refine r_iconst dX12_carries_44 ⟨by decide, by decide⟩ ?_
      exact r_iret rfl rfl (Or.inl rfl) dX12_carries_45
    · refine r_iload_n 2 dX12_carries_22 rfl rfl ?_
      refine r_i2l dX12_carries_23 ?_
      refine r_ldc2 (v := (-3)) dX12_carries_24 kC_X12_545 rfl ⟨by decide, by decide⟩ ?_
      refine r_aload_n 0 dX12_carries_27 rfl rfl ?_
      refine r_gx (kz := 41) rfl hu dX12_carries_28 kF_X12_99 kd_337 rfl rfl rfl fx_337_41 ?_
      refine r_iconst dX12_carries_31 ⟨by decide, by decide⟩ ?_
      refine r_iload_n 1 dX12_carries_32 rfl rfl ?_
      refine r_ok (fun h9 => ?_)
      refine r_iadd dX12_carries_33 h9 ?_
      refine r_ok (fun h10 => ?_)
      refine r_iald hu dX12_carries_34 kd_366 rfl (Or.inl rfl) rfl ln_366 h10 ?_
      refine r_iconst dX12_carries_35 ⟨by decide, by decide⟩ ?_
      refine r_ok (fun h11 => ?_)
      refine r_isub dX12_carries_36 h11 ?_
      refine r_i2l dX12_carries_37 ?_
      refine r_ins (a := 0) ⟨Nat.le_refl _, Nat.le_refl _⟩ dX12_carries_38 kM_X12_267 (by decide) (by decide) [(1, a2), (1, (-3)), (1, (M6 366 (2 + a1)) - 1)] rfl (sk := []) rfl (Nat.le_of_ble_eq_true rfl) rfl rfl (m_X12_isIn hu M6 a2 (-3) ((M6 366 (2 + a1)) - 1)) (fun r12 M13 => ?_)
      refine r_if_ne (tgt := 46) dX12_carries_41 rfl (fun h14 => ?_) (fun h15 => ?_)
      · refine r_iconst dX12_carries_44 ⟨by decide, by decide⟩ ?_
        exact r_iret rfl rfl (Or.inl rfl) dX12_carries_45
      · refine r_aload_n 0 dX12_carries_46 rfl rfl ?_
        refine r_iload_n 3 dX12_carries_47 rfl rfl ?_
        refine r_bipush dX12_carries_48 (by decide) ⟨by decide, by decide⟩ ?_
        refine r_iload 5 dX12_carries_50 rfl ?_
        refine r_ok (fun h16 => ?_)
        refine r_imul dX12_carries_52 h16 ?_
        refine r_iload 4 dX12_carries_53 rfl ?_
        refine r_ok (fun h17 => ?_)
        refine r_iadd dX12_carries_55 h17 ?_
        refine r_iload 6 dX12_carries_56 rfl ?_
        refine r_invv (a := 337) hu ⟨Nat.le_refl _, Nat.le_refl _⟩ dX12_carries_58 kM_X12_431 (ci := 12) rfl kd_337 rfl rfl (by decide) (by decide) [(0, a3), (0, (12 * a5) + a4), (0, a6)] rfl (sk := []) rfl (Nat.le_of_ble_eq_true rfl) rfl (m_X12_shows hu M13 a3 ((12 * a5) + a4) a6) (fun r18 M19 => ?_)
        refine r_iload_n 2 dX12_carries_61 rfl rfl ?_
        refine r_iconst dX12_carries_62 ⟨by decide, by decide⟩ ?_
        refine r_icmp_ne (tgt := 75) dX12_carries_63 rfl (fun h20 => ?_) (fun h21 => ?_)
        · refine r_aload_n 0 dX12_carries_66 rfl rfl ?_
          refine r_iload_n 1 dX12_carries_67 rfl rfl ?_
          refine r_iconst dX12_carries_68 ⟨by decide, by decide⟩ ?_
          refine r_inv (a := 337) hu ⟨Nat.le_refl _, Nat.le_refl _⟩ dX12_carries_69 kM_X12_435 (ci := 12) rfl kd_337 rfl rfl (by decide) (by decide) [(0, a1), (0, 0)] rfl (sk := []) rfl (Nat.le_of_ble_eq_true rfl) rfl rfl (m_X12_carried hu M19 a1 0) (fun r22 M23 => ?_)
          refine r_goto (tgt := 110) dX12_carries_72 rfl ?_
          exact r_iret rfl rfl (Or.inl rfl) dX12_carries_110
        · refine r_iload_n 2 dX12_carries_75 rfl rfl ?_
          refine r_bipush dX12_carries_76 (by decide) ⟨by decide, by decide⟩ ?_
          refine r_icmp_ne (tgt := 90) dX12_carries_78 rfl (fun h24 => ?_) (fun h25 => ?_)
          · refine r_aload_n 0 dX12_carries_81 rfl rfl ?_
            refine r_iload_n 1 dX12_carries_82 rfl rfl ?_
            refine r_iconst dX12_carries_83 ⟨by decide, by decide⟩ ?_
            refine r_inv (a := 337) hu ⟨Nat.le_refl _, Nat.le_refl _⟩ dX12_carries_84 kM_X12_435 (ci := 12) rfl kd_337 rfl rfl (by decide) (by decide) [(0, a1), (0, 1)] rfl (sk := []) rfl (Nat.le_of_ble_eq_true rfl) rfl rfl (m_X12_carried hu M19 a1 1) (fun r26 M27 => ?_)
            refine r_goto (tgt := 110) dX12_carries_87 rfl ?_
            exact r_iret rfl rfl (Or.inl rfl) dX12_carries_110
          · refine r_iload_n 2 dX12_carries_90 rfl rfl ?_
            refine r_bipush dX12_carries_91 (by decide) ⟨by decide, by decide⟩ ?_
            refine r_icmp_ne (tgt := 104) dX12_carries_93 rfl (fun h28 => ?_) (fun h29 => ?_)
            · refine r_aload_n 0 dX12_carries_96 rfl rfl ?_
              refine r_iload_n 1 dX12_carries_97 rfl rfl ?_
              refine r_inv (a := 337) hu ⟨Nat.le_refl _, Nat.le_refl _⟩ dX12_carries_98 kM_X12_537 (ci := 12) rfl kd_337 rfl rfl (by decide) (by decide) [(0, a1)] rfl (sk := []) rfl (Nat.le_of_ble_eq_true rfl) rfl rfl (m_X12_lineOf hu M19 a1) (fun r30 M31 => ?_)
              refine r_goto (tgt := 110) dX12_carries_101 rfl ?_
              exact r_iret rfl rfl (Or.inl rfl) dX12_carries_110
            · refine r_aload_n 0 dX12_carries_104 rfl rfl ?_
              refine r_iload_n 1 dX12_carries_105 rfl rfl ?_
              refine r_iload_n 2 dX12_carries_106 rfl rfl ?_
              refine r_inv (a := 337) hu ⟨Nat.le_refl _, Nat.le_refl _⟩ dX12_carries_107 kM_X12_534 (ci := 12) rfl kd_337 rfl rfl (by decide) (by decide) [(0, a1), (0, a2)] rfl (sk := []) rfl (Nat.le_of_ble_eq_true rfl) rfl rfl (m_X12_carriedBy hu M19 a1 a2) (fun r32 M33 => ?_)
              exact r_iret rfl rfl (Or.inl rfl) dX12_carries_110
theorem dX12_says_0 : decode cX12_says 0 = .ok (.aload_n 0, 1) := by decide +kernel
theorem dX12_says_1 : decode cX12_says 1 = .ok (.iload_n 1, 1) := by decide +kernel
theorem dX12_says_2 : decode cX12_says 2 = .ok (.invokevirtual 459, 3) := by decide +kernel
theorem dX12_says_5 : decode cX12_says 5 = .ok (.ifCond .eq 16, 3) := by decide +kernel
theorem dX12_says_8 : decode cX12_says 8 = .ok (.aload_n 0, 1) := by decide +kernel
theorem dX12_says_9 : decode cX12_says 9 = .ok (.iload_n 2, 1) := by decide +kernel
theorem dX12_says_10 : decode cX12_says 10 = .ok (.iload_n 3, 1) := by decide +kernel
theorem dX12_says_11 : decode cX12_says 11 = .ok (.iload 4, 2) := by decide +kernel
theorem dX12_says_13 : decode cX12_says 13 = .ok (.iload 5, 2) := by decide +kernel
theorem dX12_says_15 : decode cX12_says 15 = .ok (.invokevirtual 541, 3) := by decide +kernel
theorem dX12_says_18 : decode cX12_says 18 = .ok (.ifCond .ne 5, 3) := by decide +kernel
theorem dX12_says_21 : decode cX12_says 21 = .ok (.iconst (-1), 1) := by decide +kernel
theorem dX12_says_22 : decode cX12_says 22 = .ok (.ireturn, 1) := by decide +kernel
theorem dX12_says_23 : decode cX12_says 23 = .ok (.aload_n 0, 1) := by decide +kernel
theorem dX12_says_24 : decode cX12_says 24 = .ok (.iload_n 2, 1) := by decide +kernel
theorem dX12_says_25 : decode cX12_says 25 = .ok (.bipush 12, 2) := by decide +kernel
theorem dX12_says_27 : decode cX12_says 27 = .ok (.iload 4, 2) := by decide +kernel
theorem dX12_says_29 : decode cX12_says 29 = .ok (.imul, 1) := by decide +kernel
theorem dX12_says_30 : decode cX12_says 30 = .ok (.iload_n 3, 1) := by decide +kernel
theorem dX12_says_31 : decode cX12_says 31 = .ok (.iadd, 1) := by decide +kernel
theorem dX12_says_32 : decode cX12_says 32 = .ok (.iload 5, 2) := by decide +kernel
theorem dX12_says_34 : decode cX12_says 34 = .ok (.invokevirtual 431, 3) := by decide +kernel
theorem dX12_says_37 : decode cX12_says 37 = .ok (.aload_n 0, 1) := by decide +kernel
theorem dX12_says_38 : decode cX12_says 38 = .ok (.iload_n 1, 1) := by decide +kernel
theorem dX12_says_39 : decode cX12_says 39 = .ok (.invokevirtual 439, 3) := by decide +kernel
theorem dX12_says_42 : decode cX12_says 42 = .ok (.ifCond .eq 7, 3) := by decide +kernel
theorem dX12_says_45 : decode cX12_says 45 = .ok (.iconst 1, 1) := by decide +kernel
theorem dX12_says_46 : decode cX12_says 46 = .ok (.goto 4, 3) := by decide +kernel
theorem dX12_says_49 : decode cX12_says 49 = .ok (.iconst 0, 1) := by decide +kernel
theorem dX12_says_50 : decode cX12_says 50 = .ok (.ireturn, 1) := by decide +kernel
set_option maxRecDepth 100000 in
theorem m_X12_says {g : GT} {n nf : Int} (hu : Up false nf n) (M : Mem) (a1 a2 a3 a4 a5 : Int) : AM g false yX12_says cX12_says 6 (some .int) (6) n n nf [(2, 337), (0, a1), (0, a2), (0, a3), (0, a4), (0, a5)] M (f_X12_says M a1 a2 a3 a4 a5) := by
  refine AM_of (by decide +kernel) (Nat.le_of_ble_eq_true rfl) (fun h => absurd h (Int.lt_irrefl n)) ?_
  show AW g false RX12 cX12_says 6 (some .int) (6) n n nf 0 [(0, 2, 337), (1, 0, a1), (2, 0, a2), (3, 0, a3), (4, 0, a4), (5, 0, a5)] [] n M (f_X12_says M a1 a2 a3 a4 a5)
  unfold f_X12_says
  refine r_aload_n 0 dX12_says_0 rfl rfl ?_
  refine r_iload_n 1 dX12_says_1 rfl rfl ?_
  refine r_inv (a := 337) hu ⟨Nat.le_refl _, Nat.le_refl _⟩ dX12_says_2 kM_X12_459 (ci := 12) rfl kd_337 rfl rfl (by decide) (by decide) [(0, a1)] rfl (sk := []) rfl (Nat.le_of_ble_eq_true rfl) rfl rfl (m_X12_isLaw hu M a1) (fun r1 M2 => ?_)
  refine r_if_eq (tgt := 21) dX12_says_5 rfl (fun h3 => ?_) (fun h4 => ?_)
  · refine r_iconst dX12_says_21 ⟨by decide, by decide⟩ ?_
    exact r_iret rfl rfl (Or.inl rfl) dX12_says_22
  · refine r_aload_n 0 dX12_says_8 rfl rfl ?_
    refine r_iload_n 2 dX12_says_9 rfl rfl ?_
    refine r_iload_n 3 dX12_says_10 rfl rfl ?_
    refine r_iload 4 dX12_says_11 rfl ?_
    refine r_iload 5 dX12_says_13 rfl ?_
    refine r_inv (a := 337) hu ⟨Nat.le_refl _, Nat.le_refl _⟩ dX12_says_15 kM_X12_541 (ci := 12) rfl kd_337 rfl rfl (by decide) (by decide) [(0, a2), (0, a3), (0, a4), (0, a5)] rfl (sk := []) rfl (Nat.le_of_ble_eq_true rfl) rfl rfl (m_X12_isShowing hu M2 a2 a3 a4 a5) (fun r5 M6 => ?_)
    refine r_if_ne (tgt := 23) dX12_says_18 rfl (fun h7 => ?_) (fun h8 => ?_)
    · refine r_iconst dX12_says_21 ⟨by decide, by decide⟩ ?_
      exact r_iret rfl rfl (Or.inl rfl) dX12_says_22
    · refine r_aload_n 0 dX12_says_23 rfl rfl ?_
      refine r_iload_n 2 dX12_says_24 rfl rfl ?_
      refine r_bipush dX12_says_25 (by decide) ⟨by decide, by decide⟩ ?_
      refine r_iload 4 dX12_says_27 rfl ?_
      refine r_ok (fun h9 => ?_)
      refine r_imul dX12_says_29 h9 ?_
      refine r_iload_n 3 dX12_says_30 rfl rfl ?_
      refine r_ok (fun h10 => ?_)
      refine r_iadd dX12_says_31 h10 ?_
      refine r_iload 5 dX12_says_32 rfl ?_
      refine r_invv (a := 337) hu ⟨Nat.le_refl _, Nat.le_refl _⟩ dX12_says_34 kM_X12_431 (ci := 12) rfl kd_337 rfl rfl (by decide) (by decide) [(0, a2), (0, (12 * a4) + a3), (0, a5)] rfl (sk := []) rfl (Nat.le_of_ble_eq_true rfl) rfl (m_X12_shows hu M6 a2 ((12 * a4) + a3) a5) (fun r11 M12 => ?_)
      refine r_aload_n 0 dX12_says_37 rfl rfl ?_
      refine r_iload_n 1 dX12_says_38 rfl rfl ?_
      refine r_inv (a := 337) hu ⟨Nat.le_refl _, Nat.le_refl _⟩ dX12_says_39 kM_X12_439 (ci := 12) rfl kd_337 rfl rfl (by decide) (by decide) [(0, a1)] rfl (sk := []) rfl (Nat.le_of_ble_eq_true rfl) rfl rfl (m_X12_isSaid hu M12 a1) (fun r13 M14 => ?_)
      refine r_if_eq (tgt := 49) dX12_says_42 rfl (fun h15 => ?_) (fun h16 => ?_)
      · refine r_iconst dX12_says_49 ⟨by decide, by decide⟩ ?_
        exact r_iret rfl rfl (Or.inl rfl) dX12_says_50
      · refine r_iconst dX12_says_45 ⟨by decide, by decide⟩ ?_
        refine r_goto (tgt := 50) dX12_says_46 rfl ?_
        exact r_iret rfl rfl (Or.inl rfl) dX12_says_50
theorem dX12_above_0 : decode cX12_above 0 = .ok (.iload_n 2, 1) := by decide +kernel
theorem dX12_above_1 : decode cX12_above 1 = .ok (.ifCond .eq 14, 3) := by decide +kernel
theorem dX12_above_4 : decode cX12_above 4 = .ok (.iload_n 0, 1) := by decide +kernel
theorem dX12_above_5 : decode cX12_above 5 = .ok (.iload_n 1, 1) := by decide +kernel
theorem dX12_above_6 : decode cX12_above 6 = .ok (.imul, 1) := by decide +kernel
theorem dX12_above_7 : decode cX12_above 7 = .ok (.bipush 100, 2) := by decide +kernel
theorem dX12_above_9 : decode cX12_above 9 = .ok (.iadd, 1) := by decide +kernel
theorem dX12_above_10 : decode cX12_above 10 = .ok (.iload_n 0, 1) := by decide +kernel
theorem dX12_above_11 : decode cX12_above 11 = .ok (.isub, 1) := by decide +kernel
theorem dX12_above_12 : decode cX12_above 12 = .ok (.goto 7, 3) := by decide +kernel
theorem dX12_above_15 : decode cX12_above 15 = .ok (.bipush 100, 2) := by decide +kernel
theorem dX12_above_17 : decode cX12_above 17 = .ok (.iload_n 0, 1) := by decide +kernel
theorem dX12_above_18 : decode cX12_above 18 = .ok (.isub, 1) := by decide +kernel
theorem dX12_above_19 : decode cX12_above 19 = .ok (.ireturn, 1) := by decide +kernel
set_option maxRecDepth 100000 in
theorem m_X12_above {g : GT} {n nf : Int} (hu : Up false nf n) (M : Mem) (a0 a1 a2 : Int) : AM g false yX12_above cX12_above 3 (some .int) (0) n n nf [(0, a0), (0, a1), (0, a2)] M (f_X12_above M a0 a1 a2) := by
  refine AM_of (by decide +kernel) (Nat.le_of_ble_eq_true rfl) (fun h => absurd h (Int.lt_irrefl n)) ?_
  show AW g false RX12 cX12_above 3 (some .int) (0) n n nf 0 [(0, 0, a0), (1, 0, a1), (2, 0, a2)] [] n M (f_X12_above M a0 a1 a2)
  unfold f_X12_above
  refine r_iload_n 2 dX12_above_0 rfl rfl ?_
  refine r_if_eq (tgt := 15) dX12_above_1 rfl (fun h1 => ?_) (fun h2 => ?_)
  · refine r_bipush dX12_above_15 (by decide) ⟨by decide, by decide⟩ ?_
    refine r_iload_n 0 dX12_above_17 rfl rfl ?_
    refine r_ok (fun h3 => ?_)
    refine r_isub dX12_above_18 h3 ?_
    exact r_iret rfl rfl (Or.inl rfl) dX12_above_19
  · refine r_iload_n 0 dX12_above_4 rfl rfl ?_
    refine r_iload_n 1 dX12_above_5 rfl rfl ?_
    refine r_ok (fun h4 => ?_)
    refine r_imul dX12_above_6 h4 ?_
    refine r_bipush dX12_above_7 (by decide) ⟨by decide, by decide⟩ ?_
    refine r_ok (fun h5 => ?_)
    refine r_iadd dX12_above_9 h5 ?_
    refine r_iload_n 0 dX12_above_10 rfl rfl ?_
    refine r_ok (fun h6 => ?_)
    refine r_isub dX12_above_11 h6 ?_
    refine r_goto (tgt := 19) dX12_above_12 rfl ?_
    exact r_iret rfl rfl (Or.inl rfl) dX12_above_19
theorem dX12_common_0 : decode cX12_common 0 = .ok (.lload_n 0, 1) := by decide +kernel
theorem dX12_common_1 : decode cX12_common 1 = .ok (.lstore 4, 2) := by decide +kernel
theorem dX12_common_3 : decode cX12_common 3 = .ok (.lload_n 2, 1) := by decide +kernel
theorem dX12_common_4 : decode cX12_common 4 = .ok (.lstore 6, 2) := by decide +kernel
theorem dX12_common_6 : decode cX12_common 6 = .ok (.lload 6, 2) := by decide +kernel
theorem dX12_common_8 : decode cX12_common 8 = .ok (.lconst 0, 1) := by decide +kernel
theorem dX12_common_9 : decode cX12_common 9 = .ok (.lcmp, 1) := by decide +kernel
theorem dX12_common_10 : decode cX12_common 10 = .ok (.ifCond .eq 21, 3) := by decide +kernel
theorem dX12_common_13 : decode cX12_common 13 = .ok (.lload 4, 2) := by decide +kernel
theorem dX12_common_15 : decode cX12_common 15 = .ok (.lload 6, 2) := by decide +kernel
theorem dX12_common_17 : decode cX12_common 17 = .ok (.lrem, 1) := by decide +kernel
theorem dX12_common_18 : decode cX12_common 18 = .ok (.lstore 8, 2) := by decide +kernel
theorem dX12_common_20 : decode cX12_common 20 = .ok (.lload 6, 2) := by decide +kernel
theorem dX12_common_22 : decode cX12_common 22 = .ok (.lstore 4, 2) := by decide +kernel
theorem dX12_common_24 : decode cX12_common 24 = .ok (.lload 8, 2) := by decide +kernel
theorem dX12_common_26 : decode cX12_common 26 = .ok (.lstore 6, 2) := by decide +kernel
theorem dX12_common_28 : decode cX12_common 28 = .ok (.goto (-22), 3) := by decide +kernel
theorem dX12_common_31 : decode cX12_common 31 = .ok (.lload 4, 2) := by decide +kernel
theorem dX12_common_33 : decode cX12_common 33 = .ok (.lreturn, 1) := by decide +kernel
set_option maxRecDepth 100000 in
theorem tb_X12_common_6 {g : GT} {n nf : Int} (hu : Up false nf n) (w6 : Mem → Int → Int → Res) (hw6 : ∀ (M : Mem) (x4 x6 : Int), AW g false RX12 cX12_common 10 (some .long) (0) n n nf 6 [(4, 1, x4), (6, 1, x6)] [] n M (w6 M x4 x6)) (M : Mem) (x4 x6 : Int) : AW g false RX12 cX12_common 10 (some .long) (0) n n nf 6 [(4, 1, x4), (6, 1, x6)] [] n M (b_X12_common_6 w6 M x4 x6) := by
  unfold b_X12_common_6
  refine r_lload 1 dX12_common_6 rfl ?_
  refine r_lconst (v := 0) dX12_common_8 (by decide) ⟨by decide, by decide⟩ ?_
  refine r_lif_eq (tgt := 31) dX12_common_9 dX12_common_10 rfl (fun h1 => ?_) (fun h2 => ?_)
  · refine r_lload 0 dX12_common_31 rfl ?_
    exact r_lret rfl rfl dX12_common_33
  · refine r_lload 0 dX12_common_13 rfl ?_
    refine r_lload 1 dX12_common_15 rfl ?_
    refine r_ok (fun h3 => ?_)
    refine r_lremP dX12_common_17 h3 ?_
    refine r_lstoreB dX12_common_18 (by decide) (lf := fun y4 => [(8, 1, y4), (4, 1, x4), (6, 1, x6)]) (fun _ => rfl) (fun y4 ey4 => ?_)
    refine r_lload 2 dX12_common_20 rfl ?_
    refine r_lstore dX12_common_22 (by decide) (ls' := [(4, 1, x6), (8, 1, y4), (6, 1, x6)]) rfl ?_
    refine r_lload 1 dX12_common_24 rfl ?_
    refine r_lstore dX12_common_26 (by decide) (ls' := [(6, 1, y4), (4, 1, x6), (8, 1, y4)]) rfl ?_
    refine r_goto (tgt := 6) dX12_common_28 rfl ?_
    refine r_sub [1, 0] (ls' := [(4, 1, x6), (6, 1, y4)]) rfl ?_
    exact hw6 M x6 y4
set_option maxRecDepth 100000 in
theorem m_X12_common {g : GT} {n nf : Int} (hu : Up false nf n) (M : Mem) (a0 a2 : Int) : AM g false yX12_common cX12_common 10 (some .long) (0) n n nf [(1, a0), (1, a2)] M (f_X12_common M a0 a2) := by
  refine AM_of (by decide +kernel) (Nat.le_of_ble_eq_true rfl) (fun h => absurd h (Int.lt_irrefl n)) ?_
  show AW g false RX12 cX12_common 10 (some .long) (0) n n nf 0 [(0, 1, a0), (2, 1, a2)] [] n M (f_X12_common M a0 a2)
  unfold f_X12_common
  refine r_lload_n 0 dX12_common_0 rfl rfl ?_
  refine r_lstore dX12_common_1 (by decide) (ls' := [(4, 1, a0), (0, 1, a0), (2, 1, a2)]) rfl ?_
  refine r_lload_n 2 dX12_common_3 rfl rfl ?_
  refine r_lstore dX12_common_4 (by decide) (ls' := [(6, 1, a2), (4, 1, a0), (0, 1, a0), (2, 1, a2)]) rfl ?_
  refine r_sub [1, 0] (ls' := [(4, 1, a0), (6, 1, a2)]) rfl ?_
  exact wl2_aw (P := fun M x4 x6 o => AW g false RX12 cX12_common 10 (some .long) (0) n n nf 6 [(4, 1, x4), (6, 1, x6)] [] n M (o)) (fun M x4 x6 => aw_none) (fun w hw M x4 x6 => tb_X12_common_6 hu w hw M x4 x6) FU M a0 a2
theorem dX12_odds_0 : decode cX12_odds 0 = .ok (.aload_n 0, 1) := by decide +kernel
theorem dX12_odds_1 : decode cX12_odds 1 = .ok (.iload_n 1, 1) := by decide +kernel
theorem dX12_odds_2 : decode cX12_odds 2 = .ok (.invokevirtual 459, 3) := by decide +kernel
theorem dX12_odds_5 : decode cX12_odds 5 = .ok (.ifCond .eq 16, 3) := by decide +kernel
theorem dX12_odds_8 : decode cX12_odds 8 = .ok (.aload_n 0, 1) := by decide +kernel
theorem dX12_odds_9 : decode cX12_odds 9 = .ok (.iload_n 2, 1) := by decide +kernel
theorem dX12_odds_10 : decode cX12_odds 10 = .ok (.iload_n 3, 1) := by decide +kernel
theorem dX12_odds_11 : decode cX12_odds 11 = .ok (.iload 4, 2) := by decide +kernel
theorem dX12_odds_13 : decode cX12_odds 13 = .ok (.iload 5, 2) := by decide +kernel
theorem dX12_odds_15 : decode cX12_odds 15 = .ok (.invokevirtual 541, 3) := by decide +kernel
theorem dX12_odds_18 : decode cX12_odds 18 = .ok (.ifCond .ne 5, 3) := by decide +kernel
theorem dX12_odds_21 : decode cX12_odds 21 = .ok (.iconst (-1), 1) := by decide +kernel
theorem dX12_odds_22 : decode cX12_odds 22 = .ok (.ireturn, 1) := by decide +kernel
theorem dX12_odds_23 : decode cX12_odds 23 = .ok (.aload_n 0, 1) := by decide +kernel
theorem dX12_odds_24 : decode cX12_odds 24 = .ok (.iload_n 2, 1) := by decide +kernel
theorem dX12_odds_25 : decode cX12_odds 25 = .ok (.bipush 12, 2) := by decide +kernel
theorem dX12_odds_27 : decode cX12_odds 27 = .ok (.iload 4, 2) := by decide +kernel
theorem dX12_odds_29 : decode cX12_odds 29 = .ok (.imul, 1) := by decide +kernel
theorem dX12_odds_30 : decode cX12_odds 30 = .ok (.iload_n 3, 1) := by decide +kernel
theorem dX12_odds_31 : decode cX12_odds 31 = .ok (.iadd, 1) := by decide +kernel
theorem dX12_odds_32 : decode cX12_odds 32 = .ok (.iload 5, 2) := by decide +kernel
theorem dX12_odds_34 : decode cX12_odds 34 = .ok (.invokevirtual 431, 3) := by decide +kernel
theorem dX12_odds_37 : decode cX12_odds 37 = .ok (.aload_n 0, 1) := by decide +kernel
theorem dX12_odds_38 : decode cX12_odds 38 = .ok (.getfield 125, 3) := by decide +kernel
theorem dX12_odds_41 : decode cX12_odds 41 = .ok (.iconst 5, 1) := by decide +kernel
theorem dX12_odds_42 : decode cX12_odds 42 = .ok (.iload_n 2, 1) := by decide +kernel
theorem dX12_odds_43 : decode cX12_odds 43 = .ok (.iadd, 1) := by decide +kernel
theorem dX12_odds_44 : decode cX12_odds 44 = .ok (.iaload, 1) := by decide +kernel
theorem dX12_odds_45 : decode cX12_odds 45 = .ok (.istore 8, 2) := by decide +kernel
theorem dX12_odds_47 : decode cX12_odds 47 = .ok (.aload_n 0, 1) := by decide +kernel
theorem dX12_odds_48 : decode cX12_odds 48 = .ok (.iload_n 1, 1) := by decide +kernel
theorem dX12_odds_49 : decode cX12_odds 49 = .ok (.iconst 0, 1) := by decide +kernel
theorem dX12_odds_50 : decode cX12_odds 50 = .ok (.invokevirtual 435, 3) := by decide +kernel
theorem dX12_odds_53 : decode cX12_odds 53 = .ok (.iload 8, 2) := by decide +kernel
theorem dX12_odds_55 : decode cX12_odds 55 = .ok (.iload 6, 2) := by decide +kernel
theorem dX12_odds_57 : decode cX12_odds 57 = .ok (.invokestatic 547, 3) := by decide +kernel
theorem dX12_odds_60 : decode cX12_odds 60 = .ok (.istore 9, 2) := by decide +kernel
theorem dX12_odds_62 : decode cX12_odds 62 = .ok (.iload 9, 2) := by decide +kernel
theorem dX12_odds_64 : decode cX12_odds 64 = .ok (.i2l, 1) := by decide +kernel
theorem dX12_odds_65 : decode cX12_odds 65 = .ok (.ldc2_w 450, 3) := by decide +kernel
theorem dX12_odds_68 : decode cX12_odds 68 = .ok (.iload 8, 2) := by decide +kernel
theorem dX12_odds_70 : decode cX12_odds 70 = .ok (.i2l, 1) := by decide +kernel
theorem dX12_odds_71 : decode cX12_odds 71 = .ok (.lmul, 1) := by decide +kernel
theorem dX12_odds_72 : decode cX12_odds 72 = .ok (.invokestatic 551, 3) := by decide +kernel
theorem dX12_odds_75 : decode cX12_odds 75 = .ok (.l2i, 1) := by decide +kernel
theorem dX12_odds_76 : decode cX12_odds 76 = .ok (.istore 10, 2) := by decide +kernel
theorem dX12_odds_78 : decode cX12_odds 78 = .ok (.iload 7, 2) := by decide +kernel
theorem dX12_odds_80 : decode cX12_odds 80 = .ok (.ifCond .eq 8, 3) := by decide +kernel
theorem dX12_odds_83 : decode cX12_odds 83 = .ok (.iload 9, 2) := by decide +kernel
theorem dX12_odds_85 : decode cX12_odds 85 = .ok (.goto 8, 3) := by decide +kernel
theorem dX12_odds_88 : decode cX12_odds 88 = .ok (.bipush 100, 2) := by decide +kernel
theorem dX12_odds_90 : decode cX12_odds 90 = .ok (.iload 8, 2) := by decide +kernel
theorem dX12_odds_92 : decode cX12_odds 92 = .ok (.imul, 1) := by decide +kernel
theorem dX12_odds_93 : decode cX12_odds 93 = .ok (.iload 10, 2) := by decide +kernel
theorem dX12_odds_95 : decode cX12_odds 95 = .ok (.idiv, 1) := by decide +kernel
theorem dX12_odds_96 : decode cX12_odds 96 = .ok (.ireturn, 1) := by decide +kernel
set_option maxRecDepth 100000 in
theorem m_X12_odds {g : GT} {n nf : Int} (hu : Up false nf n) (M : Mem) (a1 a2 a3 a4 a5 a6 a7 : Int) : AM g false yX12_odds cX12_odds 11 (some .int) (5) n n nf [(2, 337), (0, a1), (0, a2), (0, a3), (0, a4), (0, a5), (0, a6), (0, a7)] M (f_X12_odds M a1 a2 a3 a4 a5 a6 a7) := by
  refine AM_of (by decide +kernel) (Nat.le_of_ble_eq_true rfl) (fun h => absurd h (Int.lt_irrefl n)) ?_
  show AW g false RX12 cX12_odds 11 (some .int) (5) n n nf 0 [(0, 2, 337), (1, 0, a1), (2, 0, a2), (3, 0, a3), (4, 0, a4), (5, 0, a5), (6, 0, a6), (7, 0, a7)] [] n M (f_X12_odds M a1 a2 a3 a4 a5 a6 a7)
  unfold f_X12_odds
  refine r_aload_n 0 dX12_odds_0 rfl rfl ?_
  refine r_iload_n 1 dX12_odds_1 rfl rfl ?_
  refine r_inv (a := 337) hu ⟨Nat.le_refl _, Nat.le_refl _⟩ dX12_odds_2 kM_X12_459 (ci := 12) rfl kd_337 rfl rfl (by decide) (by decide) [(0, a1)] rfl (sk := []) rfl (Nat.le_of_ble_eq_true rfl) rfl rfl (m_X12_isLaw hu M a1) (fun r1 M2 => ?_)
  refine r_if_eq (tgt := 21) dX12_odds_5 rfl (fun h3 => ?_) (fun h4 => ?_)
  · refine r_iconst dX12_odds_21 ⟨by decide, by decide⟩ ?_
    exact r_iret rfl rfl (Or.inl rfl) dX12_odds_22
  · refine r_aload_n 0 dX12_odds_8 rfl rfl ?_
    refine r_iload_n 2 dX12_odds_9 rfl rfl ?_
    refine r_iload_n 3 dX12_odds_10 rfl rfl ?_
    refine r_iload 4 dX12_odds_11 rfl ?_
    refine r_iload 5 dX12_odds_13 rfl ?_
    refine r_inv (a := 337) hu ⟨Nat.le_refl _, Nat.le_refl _⟩ dX12_odds_15 kM_X12_541 (ci := 12) rfl kd_337 rfl rfl (by decide) (by decide) [(0, a2), (0, a3), (0, a4), (0, a5)] rfl (sk := []) rfl (Nat.le_of_ble_eq_true rfl) rfl rfl (m_X12_isShowing hu M2 a2 a3 a4 a5) (fun r5 M6 => ?_)
    refine r_if_ne (tgt := 23) dX12_odds_18 rfl (fun h7 => ?_) (fun h8 => ?_)
    · refine r_iconst dX12_odds_21 ⟨by decide, by decide⟩ ?_
      exact r_iret rfl rfl (Or.inl rfl) dX12_odds_22
    · refine r_aload_n 0 dX12_odds_23 rfl rfl ?_
      refine r_iload_n 2 dX12_odds_24 rfl rfl ?_
      refine r_bipush dX12_odds_25 (by decide) ⟨by decide, by decide⟩ ?_
      refine r_iload 4 dX12_odds_27 rfl ?_
      refine r_ok (fun h9 => ?_)
      refine r_imul dX12_odds_29 h9 ?_
      refine r_iload_n 3 dX12_odds_30 rfl rfl ?_
      refine r_ok (fun h10 => ?_)
      refine r_iadd dX12_odds_31 h10 ?_
      refine r_iload 5 dX12_odds_32 rfl ?_
      refine r_invv (a := 337) hu ⟨Nat.le_refl _, Nat.le_refl _⟩ dX12_odds_34 kM_X12_431 (ci := 12) rfl kd_337 rfl rfl (by decide) (by decide) [(0, a2), (0, (12 * a4) + a3), (0, a5)] rfl (sk := []) rfl (Nat.le_of_ble_eq_true rfl) rfl (m_X12_shows hu M6 a2 ((12 * a4) + a3) a5) (fun r11 M12 => ?_)
      refine r_aload_n 0 dX12_odds_37 rfl rfl ?_
      refine r_gx (kz := 49) rfl hu dX12_odds_38 kF_X12_125 kd_337 rfl rfl rfl fx_337_49 ?_
      refine r_iconst dX12_odds_41 ⟨by decide, by decide⟩ ?_
      refine r_iload_n 2 dX12_odds_42 rfl rfl ?_
      refine r_ok (fun h13 => ?_)
      refine r_iadd dX12_odds_43 h13 ?_
      refine r_ok (fun h14 => ?_)
      refine r_iald hu dX12_odds_44 kd_374 rfl (Or.inl rfl) rfl ln_374 h14 ?_
      refine r_istoreB dX12_odds_45 (by decide) (lf := fun y15 => [(8, 0, y15), (0, 2, 337), (1, 0, a1), (2, 0, a2), (3, 0, a3), (4, 0, a4), (5, 0, a5), (6, 0, a6), (7, 0, a7)]) (fun _ => rfl) (fun y15 ey15 => ?_)
      refine r_aload_n 1 dX12_odds_47 rfl rfl ?_
      refine r_iload_n 2 dX12_odds_48 rfl rfl ?_
      refine r_iconst dX12_odds_49 ⟨by decide, by decide⟩ ?_
      refine r_inv (a := 337) hu ⟨Nat.le_refl _, Nat.le_refl _⟩ dX12_odds_50 kM_X12_435 (ci := 12) rfl kd_337 rfl rfl (by decide) (by decide) [(0, a1), (0, 0)] rfl (sk := []) rfl (Nat.le_of_ble_eq_true rfl) rfl rfl (m_X12_carried hu M12 a1 0) (fun r16 M17 => ?_)
      refine r_iload 0 dX12_odds_53 rfl ?_
      refine r_iload 7 dX12_odds_55 rfl ?_
      refine r_ins (a := 0) ⟨Nat.le_refl _, Nat.le_refl _⟩ dX12_odds_57 kM_X12_547 (by decide) (by decide) [(0, r16), (0, y15), (0, a6)] rfl (sk := []) rfl (Nat.le_of_ble_eq_true rfl) rfl rfl (m_X12_above hu M17 r16 y15 a6) (fun r18 M19 => ?_)
      refine r_istore dX12_odds_60 (by decide) (ls' := [(9, 0, r18), (8, 0, y15), (0, 2, 337), (1, 0, a1), (2, 0, a2), (3, 0, a3), (4, 0, a4), (5, 0, a5), (6, 0, a6), (7, 0, a7)]) rfl ?_
      refine r_iload 0 dX12_odds_62 rfl ?_
      refine r_i2l dX12_odds_64 ?_
      refine r_ldc2 (v := 100) dX12_odds_65 kC_X12_450 rfl ⟨by decide, by decide⟩ ?_
      refine r_iload 1 dX12_odds_68 rfl ?_
      refine r_i2l dX12_odds_70 ?_
      refine r_ok (fun h20 => ?_)
      refine r_lmul dX12_odds_71 h20 ?_
      refine r_ins (a := 0) ⟨Nat.le_refl _, Nat.le_refl _⟩ dX12_odds_72 kM_X12_551 (by decide) (by decide) [(1, r18), (1, 100 * y15)] rfl (sk := []) rfl (Nat.le_of_ble_eq_true rfl) rfl rfl (m_X12_common hu M19 r18 (100 * y15)) (fun r21 M22 => ?_)
      refine r_ok (fun h23 => ?_)
      refine r_l2i dX12_odds_75 h23 ?_
      refine r_istore dX12_odds_76 (by decide) (ls' := [(10, 0, r21), (9, 0, r18), (8, 0, y15), (0, 2, 337), (1, 0, a1), (2, 0, a2), (3, 0, a3), (4, 0, a4), (5, 0, a5), (6, 0, a6), (7, 0, a7)]) rfl ?_
      refine r_iload 10 dX12_odds_78 rfl ?_
      refine r_if_eq (tgt := 88) dX12_odds_80 rfl (fun h24 => ?_) (fun h25 => ?_)
      · refine r_bipush dX12_odds_88 (by decide) ⟨by decide, by decide⟩ ?_
        refine r_iload 2 dX12_odds_90 rfl ?_
        refine r_ok (fun h26 => ?_)
        refine r_imul dX12_odds_92 h26 ?_
        refine r_iload 0 dX12_odds_93 rfl ?_
        refine r_ok (fun h27 => ?_)
        refine r_idivP dX12_odds_95 h27 ?_
        exact r_iret rfl rfl (Or.inl rfl) dX12_odds_96
      · refine r_iload 1 dX12_odds_83 rfl ?_
        refine r_goto (tgt := 93) dX12_odds_85 rfl ?_
        refine r_iload 0 dX12_odds_93 rfl ?_
        refine r_ok (fun h28 => ?_)
        refine r_idivP dX12_odds_95 h28 ?_
        exact r_iret rfl rfl (Or.inl rfl) dX12_odds_96
theorem dX12_draw_0 : decode cX12_draw 0 = .ok (.aload_n 0, 1) := by decide +kernel
theorem dX12_draw_1 : decode cX12_draw 1 = .ok (.iload_n 1, 1) := by decide +kernel
theorem dX12_draw_2 : decode cX12_draw 2 = .ok (.invokevirtual 459, 3) := by decide +kernel
theorem dX12_draw_5 : decode cX12_draw 5 = .ok (.ifCond .eq 42, 3) := by decide +kernel
theorem dX12_draw_8 : decode cX12_draw 8 = .ok (.aload_n 0, 1) := by decide +kernel
theorem dX12_draw_9 : decode cX12_draw 9 = .ok (.iload_n 2, 1) := by decide +kernel
theorem dX12_draw_10 : decode cX12_draw 10 = .ok (.iload_n 3, 1) := by decide +kernel
theorem dX12_draw_11 : decode cX12_draw 11 = .ok (.iload 4, 2) := by decide +kernel
theorem dX12_draw_13 : decode cX12_draw 13 = .ok (.iload 5, 2) := by decide +kernel
theorem dX12_draw_15 : decode cX12_draw 15 = .ok (.invokevirtual 541, 3) := by decide +kernel
theorem dX12_draw_18 : decode cX12_draw 18 = .ok (.ifCond .eq 29, 3) := by decide +kernel
theorem dX12_draw_21 : decode cX12_draw 21 = .ok (.iload 7, 2) := by decide +kernel
theorem dX12_draw_23 : decode cX12_draw 23 = .ok (.ifCond .lt 24, 3) := by decide +kernel
theorem dX12_draw_26 : decode cX12_draw 26 = .ok (.iload 6, 2) := by decide +kernel
theorem dX12_draw_28 : decode cX12_draw 28 = .ok (.i2l, 1) := by decide +kernel
theorem dX12_draw_29 : decode cX12_draw 29 = .ok (.lconst 0, 1) := by decide +kernel
theorem dX12_draw_30 : decode cX12_draw 30 = .ok (.aload_n 0, 1) := by decide +kernel
theorem dX12_draw_31 : decode cX12_draw 31 = .ok (.getfield 125, 3) := by decide +kernel
theorem dX12_draw_34 : decode cX12_draw 34 = .ok (.iconst 5, 1) := by decide +kernel
theorem dX12_draw_35 : decode cX12_draw 35 = .ok (.iload_n 2, 1) := by decide +kernel
theorem dX12_draw_36 : decode cX12_draw 36 = .ok (.iadd, 1) := by decide +kernel
theorem dX12_draw_37 : decode cX12_draw 37 = .ok (.iaload, 1) := by decide +kernel
theorem dX12_draw_38 : decode cX12_draw 38 = .ok (.iconst 1, 1) := by decide +kernel
theorem dX12_draw_39 : decode cX12_draw 39 = .ok (.isub, 1) := by decide +kernel
theorem dX12_draw_40 : decode cX12_draw 40 = .ok (.i2l, 1) := by decide +kernel
theorem dX12_draw_41 : decode cX12_draw 41 = .ok (.invokestatic 267, 3) := by decide +kernel
theorem dX12_draw_44 : decode cX12_draw 44 = .ok (.ifCond .ne 5, 3) := by decide +kernel
theorem dX12_draw_47 : decode cX12_draw 47 = .ok (.iconst (-1), 1) := by decide +kernel
theorem dX12_draw_48 : decode cX12_draw 48 = .ok (.ireturn, 1) := by decide +kernel
theorem dX12_draw_49 : decode cX12_draw 49 = .ok (.aload_n 0, 1) := by decide +kernel
theorem dX12_draw_50 : decode cX12_draw 50 = .ok (.iload_n 2, 1) := by decide +kernel
theorem dX12_draw_51 : decode cX12_draw 51 = .ok (.bipush 12, 2) := by decide +kernel
theorem dX12_draw_53 : decode cX12_draw 53 = .ok (.iload 4, 2) := by decide +kernel
theorem dX12_draw_55 : decode cX12_draw 55 = .ok (.imul, 1) := by decide +kernel
theorem dX12_draw_56 : decode cX12_draw 56 = .ok (.iload_n 3, 1) := by decide +kernel
theorem dX12_draw_57 : decode cX12_draw 57 = .ok (.iadd, 1) := by decide +kernel
theorem dX12_draw_58 : decode cX12_draw 58 = .ok (.iload 5, 2) := by decide +kernel
theorem dX12_draw_60 : decode cX12_draw 60 = .ok (.invokevirtual 431, 3) := by decide +kernel
theorem dX12_draw_63 : decode cX12_draw 63 = .ok (.iload 7, 2) := by decide +kernel
theorem dX12_draw_65 : decode cX12_draw 65 = .ok (.i2l, 1) := by decide +kernel
theorem dX12_draw_66 : decode cX12_draw 66 = .ok (.invokestatic 446, 3) := by decide +kernel
theorem dX12_draw_69 : decode cX12_draw 69 = .ok (.lstore 8, 2) := by decide +kernel
theorem dX12_draw_71 : decode cX12_draw 71 = .ok (.lload 8, 2) := by decide +kernel
theorem dX12_draw_73 : decode cX12_draw 73 = .ok (.ldc2_w 448, 3) := by decide +kernel
theorem dX12_draw_76 : decode cX12_draw 76 = .ok (.ldiv, 1) := by decide +kernel
theorem dX12_draw_77 : decode cX12_draw 77 = .ok (.ldc2_w 450, 3) := by decide +kernel
theorem dX12_draw_80 : decode cX12_draw 80 = .ok (.lrem, 1) := by decide +kernel
theorem dX12_draw_81 : decode cX12_draw 81 = .ok (.aload_n 0, 1) := by decide +kernel
theorem dX12_draw_82 : decode cX12_draw 82 = .ok (.iload_n 1, 1) := by decide +kernel
theorem dX12_draw_83 : decode cX12_draw 83 = .ok (.iconst 0, 1) := by decide +kernel
theorem dX12_draw_84 : decode cX12_draw 84 = .ok (.invokevirtual 435, 3) := by decide +kernel
theorem dX12_draw_87 : decode cX12_draw 87 = .ok (.i2l, 1) := by decide +kernel
theorem dX12_draw_88 : decode cX12_draw 88 = .ok (.lcmp, 1) := by decide +kernel
theorem dX12_draw_89 : decode cX12_draw 89 = .ok (.ifCond .ge 6, 3) := by decide +kernel
theorem dX12_draw_92 : decode cX12_draw 92 = .ok (.iload 6, 2) := by decide +kernel
theorem dX12_draw_94 : decode cX12_draw 94 = .ok (.ireturn, 1) := by decide +kernel
theorem dX12_draw_95 : decode cX12_draw 95 = .ok (.lload 8, 2) := by decide +kernel
theorem dX12_draw_97 : decode cX12_draw 97 = .ok (.invokestatic 446, 3) := by decide +kernel
theorem dX12_draw_100 : decode cX12_draw 100 = .ok (.lstore 8, 2) := by decide +kernel
theorem dX12_draw_102 : decode cX12_draw 102 = .ok (.lload 8, 2) := by decide +kernel
theorem dX12_draw_104 : decode cX12_draw 104 = .ok (.ldc2_w 448, 3) := by decide +kernel
theorem dX12_draw_107 : decode cX12_draw 107 = .ok (.ldiv, 1) := by decide +kernel
theorem dX12_draw_108 : decode cX12_draw 108 = .ok (.aload_n 0, 1) := by decide +kernel
theorem dX12_draw_109 : decode cX12_draw 109 = .ok (.getfield 125, 3) := by decide +kernel
theorem dX12_draw_112 : decode cX12_draw 112 = .ok (.iconst 5, 1) := by decide +kernel
theorem dX12_draw_113 : decode cX12_draw 113 = .ok (.iload_n 2, 1) := by decide +kernel
theorem dX12_draw_114 : decode cX12_draw 114 = .ok (.iadd, 1) := by decide +kernel
theorem dX12_draw_115 : decode cX12_draw 115 = .ok (.iaload, 1) := by decide +kernel
theorem dX12_draw_116 : decode cX12_draw 116 = .ok (.i2l, 1) := by decide +kernel
theorem dX12_draw_117 : decode cX12_draw 117 = .ok (.lrem, 1) := by decide +kernel
theorem dX12_draw_118 : decode cX12_draw 118 = .ok (.l2i, 1) := by decide +kernel
theorem dX12_draw_119 : decode cX12_draw 119 = .ok (.ireturn, 1) := by decide +kernel
set_option maxRecDepth 100000 in
theorem m_X12_draw {g : GT} {n nf : Int} (hu : Up false nf n) (M : Mem) (a1 a2 a3 a4 a5 a6 a7 : Int) : AM g false yX12_draw cX12_draw 10 (some .int) (5) n n nf [(2, 337), (0, a1), (0, a2), (0, a3), (0, a4), (0, a5), (0, a6), (0, a7)] M (f_X12_draw M a1 a2 a3 a4 a5 a6 a7) := by
  refine AM_of (by decide +kernel) (Nat.le_of_ble_eq_true rfl) (fun h => absurd h (Int.lt_irrefl n)) ?_
  show AW g false RX12 cX12_draw 10 (some .int) (5) n n nf 0 [(0, 2, 337), (1, 0, a1), (2, 0, a2), (3, 0, a3), (4, 0, a4), (5, 0, a5), (6, 0, a6), (7, 0, a7)] [] n M (f_X12_draw M a1 a2 a3 a4 a5 a6 a7)
  unfold f_X12_draw
  refine r_aload_n 0 dX12_draw_0 rfl rfl ?_
  refine r_iload_n 1 dX12_draw_1 rfl rfl ?_
  refine r_inv (a := 337) hu ⟨Nat.le_refl _, Nat.le_refl _⟩ dX12_draw_2 kM_X12_459 (ci := 12) rfl kd_337 rfl rfl (by decide) (by decide) [(0, a1)] rfl (sk := []) rfl (Nat.le_of_ble_eq_true rfl) rfl rfl (m_X12_isLaw hu M a1) (fun r1 M2 => ?_)
  refine r_if_eq (tgt := 47) dX12_draw_5 rfl (fun h3 => ?_) (fun h4 => ?_)
  · refine r_iconst dX12_draw_47 ⟨by decide, by decide⟩ ?_
    exact r_iret rfl rfl (Or.inl rfl) dX12_draw_48
  · refine r_aload_n 0 dX12_draw_8 rfl rfl ?_
    refine r_iload_n 2 dX12_draw_9 rfl rfl ?_
    refine r_iload_n 3 dX12_draw_10 rfl rfl ?_
    refine r_iload 4 dX12_draw_11 rfl ?_
    refine r_iload 5 dX12_draw_13 rfl ?_
    refine r_inv (a := 337) hu ⟨Nat.le_refl _, Nat.le_refl _⟩ dX12_draw_15 kM_X12_541 (ci := 12) rfl kd_337 rfl rfl (by decide) (by decide) [(0, a2), (0, a3), (0, a4), (0, a5)] rfl (sk := []) rfl (Nat.le_of_ble_eq_true rfl) rfl rfl (m_X12_isShowing hu M2 a2 a3 a4 a5) (fun r5 M6 => ?_)
    refine r_if_eq (tgt := 47) dX12_draw_18 rfl (fun h7 => ?_) (fun h8 => ?_)
    · refine r_iconst dX12_draw_47 ⟨by decide, by decide⟩ ?_
      exact r_iret rfl rfl (Or.inl rfl) dX12_draw_48
    · refine r_iload 7 dX12_draw_21 rfl ?_
      refine r_if_lt (tgt := 47) dX12_draw_23 rfl (fun h9 => ?_) (fun h10 => ?_)
      · refine r_iconst dX12_draw_47 ⟨by decide, by decide⟩ ?_
        exact r_iret rfl rfl (Or.inl rfl) dX12_draw_48
      · refine r_iload 6 dX12_draw_26 rfl ?_
        refine r_i2l dX12_draw_28 ?_
        refine r_lconst (v := 0) dX12_draw_29 (by decide) ⟨by decide, by decide⟩ ?_
        refine r_aload_n 0 dX12_draw_30 rfl rfl ?_
        refine r_gx (kz := 49) rfl hu dX12_draw_31 kF_X12_125 kd_337 rfl rfl rfl fx_337_49 ?_
        refine r_iconst dX12_draw_34 ⟨by decide, by decide⟩ ?_
        refine r_iload_n 2 dX12_draw_35 rfl rfl ?_
        refine r_ok (fun h11 => ?_)
        refine r_iadd dX12_draw_36 h11 ?_
        refine r_ok (fun h12 => ?_)
        refine r_iald hu dX12_draw_37 kd_374 rfl (Or.inl rfl) rfl ln_374 h12 ?_
        refine r_iconst dX12_draw_38 ⟨by decide, by decide⟩ ?_
        refine r_ok (fun h13 => ?_)
        refine r_isub dX12_draw_39 h13 ?_
        refine r_i2l dX12_draw_40 ?_
        refine r_ins (a := 0) ⟨Nat.le_refl _, Nat.le_refl _⟩ dX12_draw_41 kM_X12_267 (by decide) (by decide) [(1, a6), (1, 0), (1, (M6 374 (5 + a2)) - 1)] rfl (sk := []) rfl (Nat.le_of_ble_eq_true rfl) rfl rfl (m_X12_isIn hu M6 a6 0 ((M6 374 (5 + a2)) - 1)) (fun r14 M15 => ?_)
        refine r_if_ne (tgt := 49) dX12_draw_44 rfl (fun h16 => ?_) (fun h17 => ?_)
        · refine r_iconst dX12_draw_47 ⟨by decide, by decide⟩ ?_
          exact r_iret rfl rfl (Or.inl rfl) dX12_draw_48
        · refine r_aload_n 0 dX12_draw_49 rfl rfl ?_
          refine r_iload_n 2 dX12_draw_50 rfl rfl ?_
          refine r_bipush dX12_draw_51 (by decide) ⟨by decide, by decide⟩ ?_
          refine r_iload 4 dX12_draw_53 rfl ?_
          refine r_ok (fun h18 => ?_)
          refine r_imul dX12_draw_55 h18 ?_
          refine r_iload_n 3 dX12_draw_56 rfl rfl ?_
          refine r_ok (fun h19 => ?_)
          refine r_iadd dX12_draw_57 h19 ?_
          refine r_iload 5 dX12_draw_58 rfl ?_
          refine r_invv (a := 337) hu ⟨Nat.le_refl _, Nat.le_refl _⟩ dX12_draw_60 kM_X12_431 (ci := 12) rfl kd_337 rfl rfl (by decide) (by decide) [(0, a2), (0, (12 * a4) + a3), (0, a5)] rfl (sk := []) rfl (Nat.le_of_ble_eq_true rfl) rfl (m_X12_shows hu M15 a2 ((12 * a4) + a3) a5) (fun r20 M21 => ?_)
          refine r_iload 7 dX12_draw_63 rfl ?_
          refine r_i2l dX12_draw_65 ?_
          refine r_ins (a := 0) ⟨Nat.le_refl _, Nat.le_refl _⟩ dX12_draw_66 kM_X12_446 (by decide) (by decide) [(1, a7)] rfl (sk := []) rfl (Nat.le_of_ble_eq_true rfl) rfl rfl (m_X12_goesOn_ hu M21 a7) (fun r22 M23 => ?_)
          refine r_lstore dX12_draw_69 (by decide) (ls' := [(8, 1, r22), (0, 2, 337), (1, 0, a1), (2, 0, a2), (3, 0, a3), (4, 0, a4), (5, 0, a5), (6, 0, a6), (7, 0, a7)]) rfl ?_
          refine r_lload 0 dX12_draw_71 rfl ?_
          refine r_ldc2 (v := 256) dX12_draw_73 kC_X12_448 rfl ⟨by decide, by decide⟩ ?_
          refine r_ok (fun h24 => ?_)
          refine r_ldivP dX12_draw_76 ⟨h24, by decide⟩ ?_
          refine r_ldc2 (v := 100) dX12_draw_77 kC_X12_450 rfl ⟨by decide, by decide⟩ ?_
          refine r_ok (fun h25 => ?_)
          refine r_lremP dX12_draw_80 ⟨h25, by decide⟩ ?_
          refine r_aload_n 1 dX12_draw_81 rfl rfl ?_
          refine r_iload_n 2 dX12_draw_82 rfl rfl ?_
          refine r_iconst dX12_draw_83 ⟨by decide, by decide⟩ ?_
          refine r_inv (a := 337) hu ⟨Nat.le_refl _, Nat.le_refl _⟩ dX12_draw_84 kM_X12_435 (ci := 12) rfl kd_337 rfl rfl (by decide) (by decide) [(0, a1), (0, 0)] rfl (sk := [(1, (r22 / 256) % 100)]) rfl (Nat.le_of_ble_eq_true rfl) rfl rfl (m_X12_carried hu M23 a1 0) (fun r26 M27 => ?_)
          refine r_i2l dX12_draw_87 ?_
          refine r_lif_ge (tgt := 95) dX12_draw_88 dX12_draw_89 rfl (fun h28 => ?_) (fun h29 => ?_)
          · refine r_lload 0 dX12_draw_95 rfl ?_
            refine r_ins (a := 0) ⟨Nat.le_refl _, Nat.le_refl _⟩ dX12_draw_97 kM_X12_446 (by decide) (by decide) [(1, r22)] rfl (sk := []) rfl (Nat.le_of_ble_eq_true rfl) rfl rfl (m_X12_goesOn_ hu M27 r22) (fun r30 M31 => ?_)
            refine r_lstore dX12_draw_100 (by decide) (ls' := [(8, 1, r30), (0, 2, 337), (1, 0, a1), (2, 0, a2), (3, 0, a3), (4, 0, a4), (5, 0, a5), (6, 0, a6), (7, 0, a7)]) rfl ?_
            refine r_lload 0 dX12_draw_102 rfl ?_
            refine r_ldc2 (v := 256) dX12_draw_104 kC_X12_448 rfl ⟨by decide, by decide⟩ ?_
            refine r_ok (fun h32 => ?_)
            refine r_ldivP dX12_draw_107 ⟨h32, by decide⟩ ?_
            refine r_aload_n 1 dX12_draw_108 rfl rfl ?_
            refine r_gx (kz := 49) rfl hu dX12_draw_109 kF_X12_125 kd_337 rfl rfl rfl fx_337_49 ?_
            refine r_iconst dX12_draw_112 ⟨by decide, by decide⟩ ?_
            refine r_iload_n 3 dX12_draw_113 rfl rfl ?_
            refine r_iadd dX12_draw_114 h11 ?_
            refine r_iald hu dX12_draw_115 kd_374 rfl (Or.inl rfl) rfl ln_374 h12 ?_
            refine r_i2l dX12_draw_116 ?_
            refine r_ok (fun h33 => ?_)
            refine r_lremP dX12_draw_117 h33 ?_
            refine r_ok (fun h34 => ?_)
            refine r_l2i dX12_draw_118 h34 ?_
            exact r_iret rfl rfl (Or.inl rfl) dX12_draw_119
          · refine r_iload 7 dX12_draw_92 rfl ?_
            exact r_iret rfl rfl (Or.inl rfl) dX12_draw_94
theorem dX12_isTrial_0 : decode cX12_isTrial 0 = .ok (.aload_n 0, 1) := by decide +kernel
theorem dX12_isTrial_1 : decode cX12_isTrial 1 = .ok (.iload_n 1, 1) := by decide +kernel
theorem dX12_isTrial_2 : decode cX12_isTrial 2 = .ok (.invokevirtual 489, 3) := by decide +kernel
theorem dX12_isTrial_5 : decode cX12_isTrial 5 = .ok (.ifCond .eq 60, 3) := by decide +kernel
theorem dX12_isTrial_8 : decode cX12_isTrial 8 = .ok (.iload_n 2, 1) := by decide +kernel
theorem dX12_isTrial_9 : decode cX12_isTrial 9 = .ok (.i2l, 1) := by decide +kernel
theorem dX12_isTrial_10 : decode cX12_isTrial 10 = .ok (.lconst 0, 1) := by decide +kernel
theorem dX12_isTrial_11 : decode cX12_isTrial 11 = .ok (.aload_n 0, 1) := by decide +kernel
theorem dX12_isTrial_12 : decode cX12_isTrial 12 = .ok (.getfield 125, 3) := by decide +kernel
theorem dX12_isTrial_15 : decode cX12_isTrial 15 = .ok (.iconst 5, 1) := by decide +kernel
theorem dX12_isTrial_16 : decode cX12_isTrial 16 = .ok (.iload_n 1, 1) := by decide +kernel
theorem dX12_isTrial_17 : decode cX12_isTrial 17 = .ok (.iadd, 1) := by decide +kernel
theorem dX12_isTrial_18 : decode cX12_isTrial 18 = .ok (.iaload, 1) := by decide +kernel
theorem dX12_isTrial_19 : decode cX12_isTrial 19 = .ok (.iconst 1, 1) := by decide +kernel
theorem dX12_isTrial_20 : decode cX12_isTrial 20 = .ok (.isub, 1) := by decide +kernel
theorem dX12_isTrial_21 : decode cX12_isTrial 21 = .ok (.i2l, 1) := by decide +kernel
theorem dX12_isTrial_22 : decode cX12_isTrial 22 = .ok (.invokestatic 267, 3) := by decide +kernel
theorem dX12_isTrial_25 : decode cX12_isTrial 25 = .ok (.ifCond .eq 40, 3) := by decide +kernel
theorem dX12_isTrial_28 : decode cX12_isTrial 28 = .ok (.iload_n 3, 1) := by decide +kernel
theorem dX12_isTrial_29 : decode cX12_isTrial 29 = .ok (.i2l, 1) := by decide +kernel
theorem dX12_isTrial_30 : decode cX12_isTrial 30 = .ok (.lconst 0, 1) := by decide +kernel
theorem dX12_isTrial_31 : decode cX12_isTrial 31 = .ok (.aload_n 0, 1) := by decide +kernel
theorem dX12_isTrial_32 : decode cX12_isTrial 32 = .ok (.getfield 125, 3) := by decide +kernel
theorem dX12_isTrial_35 : decode cX12_isTrial 35 = .ok (.iconst 5, 1) := by decide +kernel
theorem dX12_isTrial_36 : decode cX12_isTrial 36 = .ok (.iload_n 1, 1) := by decide +kernel
theorem dX12_isTrial_37 : decode cX12_isTrial 37 = .ok (.iadd, 1) := by decide +kernel
theorem dX12_isTrial_38 : decode cX12_isTrial 38 = .ok (.iaload, 1) := by decide +kernel
theorem dX12_isTrial_39 : decode cX12_isTrial 39 = .ok (.iconst 1, 1) := by decide +kernel
theorem dX12_isTrial_40 : decode cX12_isTrial 40 = .ok (.isub, 1) := by decide +kernel
theorem dX12_isTrial_41 : decode cX12_isTrial 41 = .ok (.i2l, 1) := by decide +kernel
theorem dX12_isTrial_42 : decode cX12_isTrial 42 = .ok (.invokestatic 267, 3) := by decide +kernel
theorem dX12_isTrial_45 : decode cX12_isTrial 45 = .ok (.ifCond .eq 20, 3) := by decide +kernel
theorem dX12_isTrial_48 : decode cX12_isTrial 48 = .ok (.iload 4, 2) := by decide +kernel
theorem dX12_isTrial_50 : decode cX12_isTrial 50 = .ok (.i2l, 1) := by decide +kernel
theorem dX12_isTrial_51 : decode cX12_isTrial 51 = .ok (.lconst 0, 1) := by decide +kernel
theorem dX12_isTrial_52 : decode cX12_isTrial 52 = .ok (.ldc2_w 560, 3) := by decide +kernel
theorem dX12_isTrial_55 : decode cX12_isTrial 55 = .ok (.invokestatic 267, 3) := by decide +kernel
theorem dX12_isTrial_58 : decode cX12_isTrial 58 = .ok (.ifCond .eq 7, 3) := by decide +kernel
theorem dX12_isTrial_61 : decode cX12_isTrial 61 = .ok (.iconst 1, 1) := by decide +kernel
theorem dX12_isTrial_62 : decode cX12_isTrial 62 = .ok (.goto 4, 3) := by decide +kernel
theorem dX12_isTrial_65 : decode cX12_isTrial 65 = .ok (.iconst 0, 1) := by decide +kernel
theorem dX12_isTrial_66 : decode cX12_isTrial 66 = .ok (.ireturn, 1) := by decide +kernel
set_option maxRecDepth 100000 in
theorem m_X12_isTrial {g : GT} {n nf : Int} (hu : Up false nf n) (M : Mem) (a1 a2 a3 a4 : Int) : AM g false yX12_isTrial cX12_isTrial 5 (some .boolean) (2) n n nf [(2, 337), (0, a1), (0, a2), (0, a3), (0, a4)] M (f_X12_isTrial M a1 a2 a3 a4) := by
  refine AM_of (by decide +kernel) (Nat.le_of_ble_eq_true rfl) (fun h => absurd h (Int.lt_irrefl n)) ?_
  show AW g false RX12 cX12_isTrial 5 (some .boolean) (2) n n nf 0 [(0, 2, 337), (1, 0, a1), (2, 0, a2), (3, 0, a3), (4, 0, a4)] [] n M (f_X12_isTrial M a1 a2 a3 a4)
  unfold f_X12_isTrial
  refine r_aload_n 0 dX12_isTrial_0 rfl rfl ?_
  refine r_iload_n 1 dX12_isTrial_1 rfl rfl ?_
  refine r_inv (a := 337) hu ⟨Nat.le_refl _, Nat.le_refl _⟩ dX12_isTrial_2 kM_X12_489 (ci := 12) rfl kd_337 rfl rfl (by decide) (by decide) [(0, a1)] rfl (sk := []) rfl (Nat.le_of_ble_eq_true rfl) rfl rfl (m_X12_isThing hu M a1) (fun r1 M2 => ?_)
  refine r_if_eq (tgt := 65) dX12_isTrial_5 rfl (fun h3 => ?_) (fun h4 => ?_)
  · refine r_iconst dX12_isTrial_65 ⟨by decide, by decide⟩ ?_
    exact r_iret rfl rfl (Or.inr ⟨rfl, Or.inl rfl⟩) dX12_isTrial_66
  · refine r_iload_n 2 dX12_isTrial_8 rfl rfl ?_
    refine r_i2l dX12_isTrial_9 ?_
    refine r_lconst (v := 0) dX12_isTrial_10 (by decide) ⟨by decide, by decide⟩ ?_
    refine r_aload_n 0 dX12_isTrial_11 rfl rfl ?_
    refine r_gx (kz := 49) rfl hu dX12_isTrial_12 kF_X12_125 kd_337 rfl rfl rfl fx_337_49 ?_
    refine r_iconst dX12_isTrial_15 ⟨by decide, by decide⟩ ?_
    refine r_iload_n 1 dX12_isTrial_16 rfl rfl ?_
    refine r_ok (fun h5 => ?_)
    refine r_iadd dX12_isTrial_17 h5 ?_
    refine r_ok (fun h6 => ?_)
    refine r_iald hu dX12_isTrial_18 kd_374 rfl (Or.inl rfl) rfl ln_374 h6 ?_
    refine r_iconst dX12_isTrial_19 ⟨by decide, by decide⟩ ?_
    refine r_ok (fun h7 => ?_)
    refine r_isub dX12_isTrial_20 h7 ?_
    refine r_i2l dX12_isTrial_21 ?_
    refine r_ins (a := 0) ⟨Nat.le_refl _, Nat.le_refl _⟩ dX12_isTrial_22 kM_X12_267 (by decide) (by decide) [(1, a2), (1, 0), (1, (M2 374 (5 + a1)) - 1)] rfl (sk := []) rfl (Nat.le_of_ble_eq_true rfl) rfl rfl (m_X12_isIn hu M2 a2 0 ((M2 374 (5 + a1)) - 1)) (fun r8 M9 => ?_)
    refine r_if_eq (tgt := 65) dX12_isTrial_25 rfl (fun h10 => ?_) (fun h11 => ?_)
    · refine r_iconst dX12_isTrial_65 ⟨by decide, by decide⟩ ?_
      exact r_iret rfl rfl (Or.inr ⟨rfl, Or.inl rfl⟩) dX12_isTrial_66
    · refine r_iload_n 3 dX12_isTrial_28 rfl rfl ?_
      refine r_i2l dX12_isTrial_29 ?_
      refine r_lconst (v := 0) dX12_isTrial_30 (by decide) ⟨by decide, by decide⟩ ?_
      refine r_aload_n 0 dX12_isTrial_31 rfl rfl ?_
      refine r_gx (kz := 49) rfl hu dX12_isTrial_32 kF_X12_125 kd_337 rfl rfl rfl fx_337_49 ?_
      refine r_iconst dX12_isTrial_35 ⟨by decide, by decide⟩ ?_
      refine r_iload_n 1 dX12_isTrial_36 rfl rfl ?_
      refine r_iadd dX12_isTrial_37 h5 ?_
      refine r_iald hu dX12_isTrial_38 kd_374 rfl (Or.inl rfl) rfl ln_374 h6 ?_
      refine r_iconst dX12_isTrial_39 ⟨by decide, by decide⟩ ?_
      refine r_ok (fun h12 => ?_)
      refine r_isub dX12_isTrial_40 h12 ?_
      refine r_i2l dX12_isTrial_41 ?_
      refine r_ins (a := 0) ⟨Nat.le_refl _, Nat.le_refl _⟩ dX12_isTrial_42 kM_X12_267 (by decide) (by decide) [(1, a3), (1, 0), (1, (M9 374 (5 + a1)) - 1)] rfl (sk := []) rfl (Nat.le_of_ble_eq_true rfl) rfl rfl (m_X12_isIn hu M9 a3 0 ((M9 374 (5 + a1)) - 1)) (fun r13 M14 => ?_)
      refine r_if_eq (tgt := 65) dX12_isTrial_45 rfl (fun h15 => ?_) (fun h16 => ?_)
      · refine r_iconst dX12_isTrial_65 ⟨by decide, by decide⟩ ?_
        exact r_iret rfl rfl (Or.inr ⟨rfl, Or.inl rfl⟩) dX12_isTrial_66
      · refine r_iload 4 dX12_isTrial_48 rfl ?_
        refine r_i2l dX12_isTrial_50 ?_
        refine r_lconst (v := 0) dX12_isTrial_51 (by decide) ⟨by decide, by decide⟩ ?_
        refine r_ldc2 (v := 9) dX12_isTrial_52 kC_X12_560 rfl ⟨by decide, by decide⟩ ?_
        refine r_ins (a := 0) ⟨Nat.le_refl _, Nat.le_refl _⟩ dX12_isTrial_55 kM_X12_267 (by decide) (by decide) [(1, a4), (1, 0), (1, 9)] rfl (sk := []) rfl (Nat.le_of_ble_eq_true rfl) rfl rfl (m_X12_isIn hu M14 a4 0 9) (fun r17 M18 => ?_)
        refine r_if_eq (tgt := 65) dX12_isTrial_58 rfl (fun h19 => ?_) (fun h20 => ?_)
        · refine r_iconst dX12_isTrial_65 ⟨by decide, by decide⟩ ?_
          exact r_iret rfl rfl (Or.inr ⟨rfl, Or.inl rfl⟩) dX12_isTrial_66
        · refine r_iconst dX12_isTrial_61 ⟨by decide, by decide⟩ ?_
          refine r_goto (tgt := 66) dX12_isTrial_62 rfl ?_
          exact r_iret rfl rfl (Or.inr ⟨rfl, Or.inr rfl⟩) dX12_isTrial_66
theorem dX12_moved_0 : decode cX12_moved 0 = .ok (.iload_n 1, 1) := by decide +kernel
theorem dX12_moved_1 : decode cX12_moved 1 = .ok (.i2l, 1) := by decide +kernel
theorem dX12_moved_2 : decode cX12_moved 2 = .ok (.lconst 0, 1) := by decide +kernel
theorem dX12_moved_3 : decode cX12_moved 3 = .ok (.aload_n 0, 1) := by decide +kernel
theorem dX12_moved_4 : decode cX12_moved 4 = .ok (.getfield 452, 3) := by decide +kernel
theorem dX12_moved_7 : decode cX12_moved 7 = .ok (.iconst 1, 1) := by decide +kernel
theorem dX12_moved_8 : decode cX12_moved 8 = .ok (.isub, 1) := by decide +kernel
theorem dX12_moved_9 : decode cX12_moved 9 = .ok (.i2l, 1) := by decide +kernel
theorem dX12_moved_10 : decode cX12_moved 10 = .ok (.invokestatic 267, 3) := by decide +kernel
theorem dX12_moved_13 : decode cX12_moved 13 = .ok (.ifCond .eq 48, 3) := by decide +kernel
theorem dX12_moved_16 : decode cX12_moved 16 = .ok (.aload_n 0, 1) := by decide +kernel
theorem dX12_moved_17 : decode cX12_moved 17 = .ok (.getfield 197, 3) := by decide +kernel
theorem dX12_moved_20 : decode cX12_moved 20 = .ok (.iload_n 1, 1) := by decide +kernel
theorem dX12_moved_21 : decode cX12_moved 21 = .ok (.baload, 1) := by decide +kernel
theorem dX12_moved_22 : decode cX12_moved 22 = .ok (.ifCond .ne 39, 3) := by decide +kernel
theorem dX12_moved_25 : decode cX12_moved 25 = .ok (.iload_n 2, 1) := by decide +kernel
theorem dX12_moved_26 : decode cX12_moved 26 = .ok (.ifCond .ne 7, 3) := by decide +kernel
theorem dX12_moved_29 : decode cX12_moved 29 = .ok (.iload_n 3, 1) := by decide +kernel
theorem dX12_moved_30 : decode cX12_moved 30 = .ok (.ifCond .eq 31, 3) := by decide +kernel
theorem dX12_moved_33 : decode cX12_moved 33 = .ok (.iload_n 2, 1) := by decide +kernel
theorem dX12_moved_34 : decode cX12_moved 34 = .ok (.i2l, 1) := by decide +kernel
theorem dX12_moved_35 : decode cX12_moved 35 = .ok (.ldc2_w 562, 3) := by decide +kernel
theorem dX12_moved_38 : decode cX12_moved 38 = .ok (.ldc2_w 564, 3) := by decide +kernel
theorem dX12_moved_41 : decode cX12_moved 41 = .ok (.invokestatic 267, 3) := by decide +kernel
theorem dX12_moved_44 : decode cX12_moved 44 = .ok (.ifCond .eq 17, 3) := by decide +kernel
theorem dX12_moved_47 : decode cX12_moved 47 = .ok (.iload_n 3, 1) := by decide +kernel
theorem dX12_moved_48 : decode cX12_moved 48 = .ok (.i2l, 1) := by decide +kernel
theorem dX12_moved_49 : decode cX12_moved 49 = .ok (.ldc2_w 566, 3) := by decide +kernel
theorem dX12_moved_52 : decode cX12_moved 52 = .ok (.ldc2_w 568, 3) := by decide +kernel
theorem dX12_moved_55 : decode cX12_moved 55 = .ok (.invokestatic 267, 3) := by decide +kernel
theorem dX12_moved_58 : decode cX12_moved 58 = .ok (.ifCond .ne 5, 3) := by decide +kernel
theorem dX12_moved_61 : decode cX12_moved 61 = .ok (.iconst 0, 1) := by decide +kernel
theorem dX12_moved_62 : decode cX12_moved 62 = .ok (.ireturn, 1) := by decide +kernel
theorem dX12_moved_63 : decode cX12_moved 63 = .ok (.aload_n 0, 1) := by decide +kernel
theorem dX12_moved_64 : decode cX12_moved 64 = .ok (.getfield 182, 3) := by decide +kernel
theorem dX12_moved_67 : decode cX12_moved 67 = .ok (.iload_n 1, 1) := by decide +kernel
theorem dX12_moved_68 : decode cX12_moved 68 = .ok (.iaload, 1) := by decide +kernel
theorem dX12_moved_69 : decode cX12_moved 69 = .ok (.bipush 12, 2) := by decide +kernel
theorem dX12_moved_71 : decode cX12_moved 71 = .ok (.irem, 1) := by decide +kernel
theorem dX12_moved_72 : decode cX12_moved 72 = .ok (.iload_n 2, 1) := by decide +kernel
theorem dX12_moved_73 : decode cX12_moved 73 = .ok (.iadd, 1) := by decide +kernel
theorem dX12_moved_74 : decode cX12_moved 74 = .ok (.istore 4, 2) := by decide +kernel
theorem dX12_moved_76 : decode cX12_moved 76 = .ok (.aload_n 0, 1) := by decide +kernel
theorem dX12_moved_77 : decode cX12_moved 77 = .ok (.getfield 182, 3) := by decide +kernel
theorem dX12_moved_80 : decode cX12_moved 80 = .ok (.iload_n 1, 1) := by decide +kernel
theorem dX12_moved_81 : decode cX12_moved 81 = .ok (.iaload, 1) := by decide +kernel
theorem dX12_moved_82 : decode cX12_moved 82 = .ok (.bipush 12, 2) := by decide +kernel
theorem dX12_moved_84 : decode cX12_moved 84 = .ok (.idiv, 1) := by decide +kernel
theorem dX12_moved_85 : decode cX12_moved 85 = .ok (.iload_n 3, 1) := by decide +kernel
theorem dX12_moved_86 : decode cX12_moved 86 = .ok (.iadd, 1) := by decide +kernel
theorem dX12_moved_87 : decode cX12_moved 87 = .ok (.istore 5, 2) := by decide +kernel
theorem dX12_moved_89 : decode cX12_moved 89 = .ok (.iload 4, 2) := by decide +kernel
theorem dX12_moved_91 : decode cX12_moved 91 = .ok (.iload 5, 2) := by decide +kernel
theorem dX12_moved_93 : decode cX12_moved 93 = .ok (.invokestatic 518, 3) := by decide +kernel
theorem dX12_moved_96 : decode cX12_moved 96 = .ok (.ifCond .ne 5, 3) := by decide +kernel
theorem dX12_moved_99 : decode cX12_moved 99 = .ok (.iconst 0, 1) := by decide +kernel
theorem dX12_moved_100 : decode cX12_moved 100 = .ok (.ireturn, 1) := by decide +kernel
theorem dX12_moved_101 : decode cX12_moved 101 = .ok (.aload_n 0, 1) := by decide +kernel
theorem dX12_moved_102 : decode cX12_moved 102 = .ok (.getfield 182, 3) := by decide +kernel
theorem dX12_moved_105 : decode cX12_moved 105 = .ok (.iload_n 1, 1) := by decide +kernel
theorem dX12_moved_106 : decode cX12_moved 106 = .ok (.bipush 12, 2) := by decide +kernel
theorem dX12_moved_108 : decode cX12_moved 108 = .ok (.iload 5, 2) := by decide +kernel
theorem dX12_moved_110 : decode cX12_moved 110 = .ok (.imul, 1) := by decide +kernel
theorem dX12_moved_111 : decode cX12_moved 111 = .ok (.iload 4, 2) := by decide +kernel
theorem dX12_moved_113 : decode cX12_moved 113 = .ok (.iadd, 1) := by decide +kernel
theorem dX12_moved_114 : decode cX12_moved 114 = .ok (.iastore, 1) := by decide +kernel
theorem dX12_moved_115 : decode cX12_moved 115 = .ok (.aload_n 0, 1) := by decide +kernel
theorem dX12_moved_116 : decode cX12_moved 116 = .ok (.getfield 197, 3) := by decide +kernel
theorem dX12_moved_119 : decode cX12_moved 119 = .ok (.iload_n 1, 1) := by decide +kernel
theorem dX12_moved_120 : decode cX12_moved 120 = .ok (.iconst 1, 1) := by decide +kernel
theorem dX12_moved_121 : decode cX12_moved 121 = .ok (.bastore, 1) := by decide +kernel
theorem dX12_moved_122 : decode cX12_moved 122 = .ok (.iconst 1, 1) := by decide +kernel
theorem dX12_moved_123 : decode cX12_moved 123 = .ok (.ireturn, 1) := by decide +kernel
set_option maxRecDepth 100000 in
theorem tj_X12_moved_33 {g : GT} {n nf : Int} (hu : Up false nf n) (a1 a2 a3 : Int) (M : Mem) : AW g false RX12 cX12_moved 6 (some .boolean) (2) n n nf 33 [(0, 2, 337), (1, 0, a1), (2, 0, a2), (3, 0, a3)] [] n M (j_X12_moved_33 a1 a2 a3 M) := by
  unfold j_X12_moved_33
  refine r_iload_n 2 dX12_moved_33 rfl rfl ?_
  refine r_i2l dX12_moved_34 ?_
  refine r_ldc2 (v := (-12)) dX12_moved_35 kC_X12_562 rfl ⟨by decide, by decide⟩ ?_
  refine r_ldc2 (v := 12) dX12_moved_38 kC_X12_564 rfl ⟨by decide, by decide⟩ ?_
  refine r_ins (a := 0) ⟨Nat.le_refl _, Nat.le_refl _⟩ dX12_moved_41 kM_X12_267 (by decide) (by decide) [(1, a2), (1, (-12)), (1, 12)] rfl (sk := []) rfl (Nat.le_of_ble_eq_true rfl) rfl rfl (m_X12_isIn hu M a2 (-12) 12) (fun r13 M14 => ?_)
  refine r_if_eq (tgt := 61) dX12_moved_44 rfl (fun h15 => ?_) (fun h16 => ?_)
  · refine r_iconst dX12_moved_61 ⟨by decide, by decide⟩ ?_
    exact r_iret rfl rfl (Or.inr ⟨rfl, Or.inl rfl⟩) dX12_moved_62
  · refine r_iload_n 3 dX12_moved_47 rfl rfl ?_
    refine r_i2l dX12_moved_48 ?_
    refine r_ldc2 (v := (-8)) dX12_moved_49 kC_X12_566 rfl ⟨by decide, by decide⟩ ?_
    refine r_ldc2 (v := 8) dX12_moved_52 kC_X12_568 rfl ⟨by decide, by decide⟩ ?_
    refine r_ins (a := 0) ⟨Nat.le_refl _, Nat.le_refl _⟩ dX12_moved_55 kM_X12_267 (by decide) (by decide) [(1, a3), (1, (-8)), (1, 8)] rfl (sk := []) rfl (Nat.le_of_ble_eq_true rfl) rfl rfl (m_X12_isIn hu M14 a3 (-8) 8) (fun r17 M18 => ?_)
    refine r_if_ne (tgt := 63) dX12_moved_58 rfl (fun h19 => ?_) (fun h20 => ?_)
    · refine r_iconst dX12_moved_61 ⟨by decide, by decide⟩ ?_
      exact r_iret rfl rfl (Or.inr ⟨rfl, Or.inl rfl⟩) dX12_moved_62
    · refine r_aload_n 0 dX12_moved_63 rfl rfl ?_
      refine r_gx (kz := 81) rfl hu dX12_moved_64 kF_X12_182 kd_337 rfl rfl rfl fx_337_81 ?_
      refine r_iload_n 1 dX12_moved_67 rfl rfl ?_
      refine r_ok (fun h21 => ?_)
      refine r_iald hu dX12_moved_68 kd_393 rfl (Or.inl rfl) rfl ln_393 h21 ?_
      refine r_bipush dX12_moved_69 (by decide) ⟨by decide, by decide⟩ ?_
      refine r_ok (fun h22 => ?_)
      refine r_iremP dX12_moved_71 ⟨h22, by decide⟩ ?_
      refine r_iload_n 2 dX12_moved_72 rfl rfl ?_
      refine r_ok (fun h23 => ?_)
      refine r_iadd dX12_moved_73 h23 ?_
      refine r_istoreB dX12_moved_74 (by decide) (lf := fun y24 => [(4, 0, y24), (0, 2, 337), (1, 0, a1), (2, 0, a2), (3, 0, a3)]) (fun _ => rfl) (fun y24 ey24 => ?_)
      refine r_aload_n 1 dX12_moved_76 rfl rfl ?_
      refine r_gx (kz := 81) rfl hu dX12_moved_77 kF_X12_182 kd_337 rfl rfl rfl fx_337_81 ?_
      refine r_iload_n 2 dX12_moved_80 rfl rfl ?_
      refine r_iald hu dX12_moved_81 kd_393 rfl (Or.inl rfl) rfl ln_393 h21 ?_
      refine r_bipush dX12_moved_82 (by decide) ⟨by decide, by decide⟩ ?_
      refine r_idivP dX12_moved_84 ⟨h22, by decide⟩ ?_
      refine r_iload_n 4 dX12_moved_85 rfl rfl ?_
      refine r_ok (fun h25 => ?_)
      refine r_iadd dX12_moved_86 h25 ?_
      refine r_istoreB dX12_moved_87 (by decide) (lf := fun y26 => [(5, 0, y26), (4, 0, y24), (0, 2, 337), (1, 0, a1), (2, 0, a2), (3, 0, a3)]) (fun _ => rfl) (fun y26 ey26 => ?_)
      refine r_iload 1 dX12_moved_89 rfl ?_
      refine r_iload 0 dX12_moved_91 rfl ?_
      refine r_ins (a := 0) ⟨Nat.le_refl _, Nat.le_refl _⟩ dX12_moved_93 kM_X12_518 (by decide) (by decide) [(0, y24), (0, y26)] rfl (sk := []) rfl (Nat.le_of_ble_eq_true rfl) rfl rfl (m_X12_isSquare hu M18 y24 y26) (fun r27 M28 => ?_)
      refine r_if_ne (tgt := 101) dX12_moved_96 rfl (fun h29 => ?_) (fun h30 => ?_)
      · refine r_iconst dX12_moved_99 ⟨by decide, by decide⟩ ?_
        exact r_iret rfl rfl (Or.inr ⟨rfl, Or.inl rfl⟩) dX12_moved_100
      · refine r_aload_n 2 dX12_moved_101 rfl rfl ?_
        refine r_gx (kz := 81) rfl hu dX12_moved_102 kF_X12_182 kd_337 rfl rfl rfl fx_337_81 ?_
        refine r_iload_n 3 dX12_moved_105 rfl rfl ?_
        refine r_bipush dX12_moved_106 (by decide) ⟨by decide, by decide⟩ ?_
        refine r_iload 0 dX12_moved_108 rfl ?_
        refine r_ok (fun h31 => ?_)
        refine r_imul dX12_moved_110 h31 ?_
        refine r_iload 1 dX12_moved_111 rfl ?_
        refine r_ok (fun h32 => ?_)
        refine r_iadd dX12_moved_113 h32 ?_
        refine r_iast hu dX12_moved_114 kd_393 rfl (Or.inl rfl) rfl ln_393 h21 rfl (fun M33 eM33 => ?_)
        refine r_aload_n 2 dX12_moved_115 rfl rfl ?_
        refine r_gx (kz := 86) rfl hu dX12_moved_116 kF_X12_197 kd_337 rfl rfl rfl fx_337_86 ?_
        refine r_iload_n 3 dX12_moved_119 rfl rfl ?_
        refine r_iconst dX12_moved_120 ⟨by decide, by decide⟩ ?_
        refine r_zast hu dX12_moved_121 kd_398 rfl rfl rfl ln_398 h21 (Or.inr rfl) rfl (fun M34 eM34 => ?_)
        refine r_iconst dX12_moved_122 ⟨by decide, by decide⟩ ?_
        exact r_iret rfl rfl (Or.inr ⟨rfl, Or.inr rfl⟩) dX12_moved_123
set_option maxRecDepth 100000 in
theorem m_X12_moved {g : GT} {n nf : Int} (hu : Up false nf n) (M : Mem) (a1 a2 a3 : Int) : AM g false yX12_moved cX12_moved 6 (some .boolean) (2) n n nf [(2, 337), (0, a1), (0, a2), (0, a3)] M (f_X12_moved M a1 a2 a3) := by
  refine AM_of (by decide +kernel) (Nat.le_of_ble_eq_true rfl) (fun h => absurd h (Int.lt_irrefl n)) ?_
  show AW g false RX12 cX12_moved 6 (some .boolean) (2) n n nf 0 [(0, 2, 337), (1, 0, a1), (2, 0, a2), (3, 0, a3)] [] n M (f_X12_moved M a1 a2 a3)
  unfold f_X12_moved
  refine r_iload_n 1 dX12_moved_0 rfl rfl ?_
  refine r_i2l dX12_moved_1 ?_
  refine r_lconst (v := 0) dX12_moved_2 (by decide) ⟨by decide, by decide⟩ ?_
  refine r_aload_n 0 dX12_moved_3 rfl rfl ?_
  refine r_gf (t := 0) (kz := 79) rfl hu dX12_moved_4 kF_X12_452 kd_337 rfl rfl rfl ?_
  refine r_iconst dX12_moved_7 ⟨by decide, by decide⟩ ?_
  refine r_ok (fun h1 => ?_)
  refine r_isub dX12_moved_8 h1 ?_
  refine r_i2l dX12_moved_9 ?_
  refine r_ins (a := 0) ⟨Nat.le_refl _, Nat.le_refl _⟩ dX12_moved_10 kM_X12_267 (by decide) (by decide) [(1, a1), (1, 0), (1, (M 337 79) - 1)] rfl (sk := []) rfl (Nat.le_of_ble_eq_true rfl) rfl rfl (m_X12_isIn hu M a1 0 ((M 337 79) - 1)) (fun r2 M3 => ?_)
  refine r_if_eq (tgt := 61) dX12_moved_13 rfl (fun h4 => ?_) (fun h5 => ?_)
  · refine r_iconst dX12_moved_61 ⟨by decide, by decide⟩ ?_
    exact r_iret rfl rfl (Or.inr ⟨rfl, Or.inl rfl⟩) dX12_moved_62
  · refine r_aload_n 0 dX12_moved_16 rfl rfl ?_
    refine r_gx (kz := 86) rfl hu dX12_moved_17 kF_X12_197 kd_337 rfl rfl rfl fx_337_86 ?_
    refine r_iload_n 1 dX12_moved_20 rfl rfl ?_
    refine r_ok (fun h6 => ?_)
    refine r_zald hu dX12_moved_21 kd_398 rfl rfl rfl ln_398 h6 ?_
    refine r_if_ne (tgt := 61) dX12_moved_22 rfl (fun h7 => ?_) (fun h8 => ?_)
    · refine r_iload_n 2 dX12_moved_25 rfl rfl ?_
      refine r_if_ne (tgt := 33) dX12_moved_26 rfl (fun h9 => ?_) (fun h10 => ?_)
      · refine r_iload_n 3 dX12_moved_29 rfl rfl ?_
        refine r_if_eq (tgt := 61) dX12_moved_30 rfl (fun h11 => ?_) (fun h12 => ?_)
        · refine r_iconst dX12_moved_61 ⟨by decide, by decide⟩ ?_
          exact r_iret rfl rfl (Or.inr ⟨rfl, Or.inl rfl⟩) dX12_moved_62
        · exact tj_X12_moved_33 hu a1 a2 a3 M3
      · exact tj_X12_moved_33 hu a1 a2 a3 M3
    · refine r_iconst dX12_moved_61 ⟨by decide, by decide⟩ ?_
      exact r_iret rfl rfl (Or.inr ⟨rfl, Or.inl rfl⟩) dX12_moved_62
theorem dX12_voice_0 : decode cX12_voice 0 = .ok (.iload_n 1, 1) := by decide +kernel
theorem dX12_voice_1 : decode cX12_voice 1 = .ok (.i2l, 1) := by decide +kernel
theorem dX12_voice_2 : decode cX12_voice 2 = .ok (.lconst 0, 1) := by decide +kernel
theorem dX12_voice_3 : decode cX12_voice 3 = .ok (.aload_n 0, 1) := by decide +kernel
theorem dX12_voice_4 : decode cX12_voice 4 = .ok (.getfield 452, 3) := by decide +kernel
theorem dX12_voice_7 : decode cX12_voice 7 = .ok (.iconst 1, 1) := by decide +kernel
theorem dX12_voice_8 : decode cX12_voice 8 = .ok (.isub, 1) := by decide +kernel
theorem dX12_voice_9 : decode cX12_voice 9 = .ok (.i2l, 1) := by decide +kernel
theorem dX12_voice_10 : decode cX12_voice 10 = .ok (.invokestatic 267, 3) := by decide +kernel
theorem dX12_voice_13 : decode cX12_voice 13 = .ok (.ifCond .eq 38, 3) := by decide +kernel
theorem dX12_voice_16 : decode cX12_voice 16 = .ok (.aload_n 0, 1) := by decide +kernel
theorem dX12_voice_17 : decode cX12_voice 17 = .ok (.getfield 200, 3) := by decide +kernel
theorem dX12_voice_20 : decode cX12_voice 20 = .ok (.iload_n 1, 1) := by decide +kernel
theorem dX12_voice_21 : decode cX12_voice 21 = .ok (.iaload, 1) := by decide +kernel
theorem dX12_voice_22 : decode cX12_voice 22 = .ok (.iconst (-1), 1) := by decide +kernel
theorem dX12_voice_23 : decode cX12_voice 23 = .ok (.if_icmp .ne 28, 3) := by decide +kernel
theorem dX12_voice_26 : decode cX12_voice 26 = .ok (.iload_n 2, 1) := by decide +kernel
theorem dX12_voice_27 : decode cX12_voice 27 = .ok (.i2l, 1) := by decide +kernel
theorem dX12_voice_28 : decode cX12_voice 28 = .ok (.lconst 0, 1) := by decide +kernel
theorem dX12_voice_29 : decode cX12_voice 29 = .ok (.aload_n 0, 1) := by decide +kernel
theorem dX12_voice_30 : decode cX12_voice 30 = .ok (.getfield 125, 3) := by decide +kernel
theorem dX12_voice_33 : decode cX12_voice 33 = .ok (.iconst 5, 1) := by decide +kernel
theorem dX12_voice_34 : decode cX12_voice 34 = .ok (.aload_n 0, 1) := by decide +kernel
theorem dX12_voice_35 : decode cX12_voice 35 = .ok (.getfield 179, 3) := by decide +kernel
theorem dX12_voice_38 : decode cX12_voice 38 = .ok (.iload_n 1, 1) := by decide +kernel
theorem dX12_voice_39 : decode cX12_voice 39 = .ok (.iaload, 1) := by decide +kernel
theorem dX12_voice_40 : decode cX12_voice 40 = .ok (.iadd, 1) := by decide +kernel
theorem dX12_voice_41 : decode cX12_voice 41 = .ok (.iaload, 1) := by decide +kernel
theorem dX12_voice_42 : decode cX12_voice 42 = .ok (.iconst 1, 1) := by decide +kernel
theorem dX12_voice_43 : decode cX12_voice 43 = .ok (.isub, 1) := by decide +kernel
theorem dX12_voice_44 : decode cX12_voice 44 = .ok (.i2l, 1) := by decide +kernel
theorem dX12_voice_45 : decode cX12_voice 45 = .ok (.invokestatic 267, 3) := by decide +kernel
theorem dX12_voice_48 : decode cX12_voice 48 = .ok (.ifCond .ne 5, 3) := by decide +kernel
theorem dX12_voice_51 : decode cX12_voice 51 = .ok (.iconst 0, 1) := by decide +kernel
theorem dX12_voice_52 : decode cX12_voice 52 = .ok (.ireturn, 1) := by decide +kernel
theorem dX12_voice_53 : decode cX12_voice 53 = .ok (.aload_n 0, 1) := by decide +kernel
theorem dX12_voice_54 : decode cX12_voice 54 = .ok (.getfield 200, 3) := by decide +kernel
theorem dX12_voice_57 : decode cX12_voice 57 = .ok (.iload_n 1, 1) := by decide +kernel
theorem dX12_voice_58 : decode cX12_voice 58 = .ok (.iload_n 2, 1) := by decide +kernel
theorem dX12_voice_59 : decode cX12_voice 59 = .ok (.iastore, 1) := by decide +kernel
theorem dX12_voice_60 : decode cX12_voice 60 = .ok (.iconst 1, 1) := by decide +kernel
theorem dX12_voice_61 : decode cX12_voice 61 = .ok (.ireturn, 1) := by decide +kernel
set_option maxRecDepth 100000 in
theorem m_X12_voice {g : GT} {n nf : Int} (hu : Up false nf n) (M : Mem) (a1 a2 : Int) : AM g false yX12_voice cX12_voice 3 (some .boolean) (1) n n nf [(2, 337), (0, a1), (0, a2)] M (f_X12_voice M a1 a2) := by
  refine AM_of (by decide +kernel) (Nat.le_of_ble_eq_true rfl) (fun h => absurd h (Int.lt_irrefl n)) ?_
  show AW g false RX12 cX12_voice 3 (some .boolean) (1) n n nf 0 [(0, 2, 337), (1, 0, a1), (2, 0, a2)] [] n M (f_X12_voice M a1 a2)
  unfold f_X12_voice
  refine r_iload_n 1 dX12_voice_0 rfl rfl ?_
  refine r_i2l dX12_voice_1 ?_
  refine r_lconst (v := 0) dX12_voice_2 (by decide) ⟨by decide, by decide⟩ ?_
  refine r_aload_n 0 dX12_voice_3 rfl rfl ?_
  refine r_gf (t := 0) (kz := 79) rfl hu dX12_voice_4 kF_X12_452 kd_337 rfl rfl rfl ?_
  refine r_iconst dX12_voice_7 ⟨by decide, by decide⟩ ?_
  refine r_ok (fun h1 => ?_)
  refine r_isub dX12_voice_8 h1 ?_
  refine r_i2l dX12_voice_9 ?_
  refine r_ins (a := 0) ⟨Nat.le_refl _, Nat.le_refl _⟩ dX12_voice_10 kM_X12_267 (by decide) (by decide) [(1, a1), (1, 0), (1, (M 337 79) - 1)] rfl (sk := []) rfl (Nat.le_of_ble_eq_true rfl) rfl rfl (m_X12_isIn hu M a1 0 ((M 337 79) - 1)) (fun r2 M3 => ?_)
  refine r_if_eq (tgt := 51) dX12_voice_13 rfl (fun h4 => ?_) (fun h5 => ?_)
  · refine r_iconst dX12_voice_51 ⟨by decide, by decide⟩ ?_
    exact r_iret rfl rfl (Or.inr ⟨rfl, Or.inl rfl⟩) dX12_voice_52
  · refine r_aload_n 0 dX12_voice_16 rfl rfl ?_
    refine r_gx (kz := 87) rfl hu dX12_voice_17 kF_X12_200 kd_337 rfl rfl rfl fx_337_87 ?_
    refine r_iload_n 1 dX12_voice_20 rfl rfl ?_
    refine r_ok (fun h6 => ?_)
    refine r_iald hu dX12_voice_21 kd_399 rfl (Or.inl rfl) rfl ln_399 h6 ?_
    refine r_iconst dX12_voice_22 ⟨by decide, by decide⟩ ?_
    refine r_icmp_ne (tgt := 51) dX12_voice_23 rfl (fun h7 => ?_) (fun h8 => ?_)
    · refine r_iload_n 2 dX12_voice_26 rfl rfl ?_
      refine r_i2l dX12_voice_27 ?_
      refine r_lconst (v := 0) dX12_voice_28 (by decide) ⟨by decide, by decide⟩ ?_
      refine r_aload_n 0 dX12_voice_29 rfl rfl ?_
      refine r_gx (kz := 49) rfl hu dX12_voice_30 kF_X12_125 kd_337 rfl rfl rfl fx_337_49 ?_
      refine r_iconst dX12_voice_33 ⟨by decide, by decide⟩ ?_
      refine r_aload_n 0 dX12_voice_34 rfl rfl ?_
      refine r_gx (kz := 80) rfl hu dX12_voice_35 kF_X12_179 kd_337 rfl rfl rfl fx_337_80 ?_
      refine r_iload_n 1 dX12_voice_38 rfl rfl ?_
      refine r_iald hu dX12_voice_39 kd_392 rfl (Or.inl rfl) rfl ln_392 h6 ?_
      refine r_ok (fun h9 => ?_)
      refine r_iadd dX12_voice_40 h9 ?_
      refine r_ok (fun h10 => ?_)
      refine r_iald hu dX12_voice_41 kd_374 rfl (Or.inl rfl) rfl ln_374 h10 ?_
      refine r_iconst dX12_voice_42 ⟨by decide, by decide⟩ ?_
      refine r_ok (fun h11 => ?_)
      refine r_isub dX12_voice_43 h11 ?_
      refine r_i2l dX12_voice_44 ?_
      refine r_ins (a := 0) ⟨Nat.le_refl _, Nat.le_refl _⟩ dX12_voice_45 kM_X12_267 (by decide) (by decide) [(1, a2), (1, 0), (1, (M3 374 (5 + (M3 392 a1))) - 1)] rfl (sk := []) rfl (Nat.le_of_ble_eq_true rfl) rfl rfl (m_X12_isIn hu M3 a2 0 ((M3 374 (5 + (M3 392 a1))) - 1)) (fun r12 M13 => ?_)
      refine r_if_ne (tgt := 53) dX12_voice_48 rfl (fun h14 => ?_) (fun h15 => ?_)
      · refine r_iconst dX12_voice_51 ⟨by decide, by decide⟩ ?_
        exact r_iret rfl rfl (Or.inr ⟨rfl, Or.inl rfl⟩) dX12_voice_52
      · refine r_aload_n 0 dX12_voice_53 rfl rfl ?_
        refine r_gx (kz := 87) rfl hu dX12_voice_54 kF_X12_200 kd_337 rfl rfl rfl fx_337_87 ?_
        refine r_iload_n 1 dX12_voice_57 rfl rfl ?_
        refine r_iload_n 2 dX12_voice_58 rfl rfl ?_
        refine r_iast hu dX12_voice_59 kd_399 rfl (Or.inl rfl) rfl ln_399 h6 rfl (fun M16 eM16 => ?_)
        refine r_iconst dX12_voice_60 ⟨by decide, by decide⟩ ?_
        exact r_iret rfl rfl (Or.inr ⟨rfl, Or.inr rfl⟩) dX12_voice_61
    · refine r_iconst dX12_voice_51 ⟨by decide, by decide⟩ ?_
      exact r_iret rfl rfl (Or.inr ⟨rfl, Or.inl rfl⟩) dX12_voice_52
theorem dX12_isLed_0 : decode cX12_isLed 0 = .ok (.aload_n 0, 1) := by decide +kernel
theorem dX12_isLed_1 : decode cX12_isLed 1 = .ok (.getfield 200, 3) := by decide +kernel
theorem dX12_isLed_4 : decode cX12_isLed 4 = .ok (.iload_n 1, 1) := by decide +kernel
theorem dX12_isLed_5 : decode cX12_isLed 5 = .ok (.iaload, 1) := by decide +kernel
theorem dX12_isLed_6 : decode cX12_isLed 6 = .ok (.iconst (-1), 1) := by decide +kernel
theorem dX12_isLed_7 : decode cX12_isLed 7 = .ok (.if_icmp .eq 22, 3) := by decide +kernel
theorem dX12_isLed_10 : decode cX12_isLed 10 = .ok (.aload_n 0, 1) := by decide +kernel
theorem dX12_isLed_11 : decode cX12_isLed 11 = .ok (.getfield 200, 3) := by decide +kernel
theorem dX12_isLed_14 : decode cX12_isLed 14 = .ok (.iload_n 1, 1) := by decide +kernel
theorem dX12_isLed_15 : decode cX12_isLed 15 = .ok (.iaload, 1) := by decide +kernel
theorem dX12_isLed_16 : decode cX12_isLed 16 = .ok (.aload_n 0, 1) := by decide +kernel
theorem dX12_isLed_17 : decode cX12_isLed 17 = .ok (.getfield 191, 3) := by decide +kernel
theorem dX12_isLed_20 : decode cX12_isLed 20 = .ok (.iload_n 1, 1) := by decide +kernel
theorem dX12_isLed_21 : decode cX12_isLed 21 = .ok (.iaload, 1) := by decide +kernel
theorem dX12_isLed_22 : decode cX12_isLed 22 = .ok (.if_icmp .ne 7, 3) := by decide +kernel
theorem dX12_isLed_25 : decode cX12_isLed 25 = .ok (.iconst 1, 1) := by decide +kernel
theorem dX12_isLed_26 : decode cX12_isLed 26 = .ok (.goto 4, 3) := by decide +kernel
theorem dX12_isLed_29 : decode cX12_isLed 29 = .ok (.iconst 0, 1) := by decide +kernel
theorem dX12_isLed_30 : decode cX12_isLed 30 = .ok (.ireturn, 1) := by decide +kernel
set_option maxRecDepth 100000 in
theorem m_X12_isLed {g : GT} {n nf : Int} (hu : Up false nf n) (M : Mem) (a1 : Int) : AM g false yX12_isLed cX12_isLed 2 (some .boolean) (0) n n nf [(2, 337), (0, a1)] M (f_X12_isLed M a1) := by
  refine AM_of (by decide +kernel) (Nat.le_of_ble_eq_true rfl) (fun h => absurd h (Int.lt_irrefl n)) ?_
  show AW g false RX12 cX12_isLed 2 (some .boolean) (0) n n nf 0 [(0, 2, 337), (1, 0, a1)] [] n M (f_X12_isLed M a1)
  unfold f_X12_isLed
  refine r_aload_n 0 dX12_isLed_0 rfl rfl ?_
  refine r_gx (kz := 87) rfl hu dX12_isLed_1 kF_X12_200 kd_337 rfl rfl rfl fx_337_87 ?_
  refine r_iload_n 1 dX12_isLed_4 rfl rfl ?_
  refine r_ok (fun h1 => ?_)
  refine r_iald hu dX12_isLed_5 kd_399 rfl (Or.inl rfl) rfl ln_399 h1 ?_
  refine r_iconst dX12_isLed_6 ⟨by decide, by decide⟩ ?_
  refine r_icmp_eq (tgt := 29) dX12_isLed_7 rfl (fun h2 => ?_) (fun h3 => ?_)
  · refine r_iconst dX12_isLed_29 ⟨by decide, by decide⟩ ?_
    exact r_iret rfl rfl (Or.inr ⟨rfl, Or.inl rfl⟩) dX12_isLed_30
  · refine r_aload_n 0 dX12_isLed_10 rfl rfl ?_
    refine r_gx (kz := 87) rfl hu dX12_isLed_11 kF_X12_200 kd_337 rfl rfl rfl fx_337_87 ?_
    refine r_iload_n 1 dX12_isLed_14 rfl rfl ?_
    refine r_iald hu dX12_isLed_15 kd_399 rfl (Or.inl rfl) rfl ln_399 h1 ?_
    refine r_aload_n 0 dX12_isLed_16 rfl rfl ?_
    refine r_gx (kz := 84) rfl hu dX12_isLed_17 kF_X12_191 kd_337 rfl rfl rfl fx_337_84 ?_
    refine r_iload_n 1 dX12_isLed_20 rfl rfl ?_
    refine r_iald hu dX12_isLed_21 kd_396 rfl (Or.inl rfl) rfl ln_396 h1 ?_
    refine r_icmp_ne (tgt := 29) dX12_isLed_22 rfl (fun h4 => ?_) (fun h5 => ?_)
    · refine r_iconst dX12_isLed_25 ⟨by decide, by decide⟩ ?_
      refine r_goto (tgt := 30) dX12_isLed_26 rfl ?_
      exact r_iret rfl rfl (Or.inr ⟨rfl, Or.inr rfl⟩) dX12_isLed_30
    · refine r_iconst dX12_isLed_29 ⟨by decide, by decide⟩ ?_
      exact r_iret rfl rfl (Or.inr ⟨rfl, Or.inl rfl⟩) dX12_isLed_30
theorem dX12_isRight_0 : decode cX12_isRight 0 = .ok (.aload_n 0, 1) := by decide +kernel
theorem dX12_isRight_1 : decode cX12_isRight 1 = .ok (.getfield 188, 3) := by decide +kernel
theorem dX12_isRight_4 : decode cX12_isRight 4 = .ok (.iload_n 1, 1) := by decide +kernel
theorem dX12_isRight_5 : decode cX12_isRight 5 = .ok (.iaload, 1) := by decide +kernel
theorem dX12_isRight_6 : decode cX12_isRight 6 = .ok (.aload_n 0, 1) := by decide +kernel
theorem dX12_isRight_7 : decode cX12_isRight 7 = .ok (.getfield 191, 3) := by decide +kernel
theorem dX12_isRight_10 : decode cX12_isRight 10 = .ok (.iload_n 1, 1) := by decide +kernel
theorem dX12_isRight_11 : decode cX12_isRight 11 = .ok (.iaload, 1) := by decide +kernel
theorem dX12_isRight_12 : decode cX12_isRight 12 = .ok (.if_icmp .ne 7, 3) := by decide +kernel
theorem dX12_isRight_15 : decode cX12_isRight 15 = .ok (.iconst 1, 1) := by decide +kernel
theorem dX12_isRight_16 : decode cX12_isRight 16 = .ok (.goto 4, 3) := by decide +kernel
theorem dX12_isRight_19 : decode cX12_isRight 19 = .ok (.iconst 0, 1) := by decide +kernel
theorem dX12_isRight_20 : decode cX12_isRight 20 = .ok (.ireturn, 1) := by decide +kernel
set_option maxRecDepth 100000 in
theorem m_X12_isRight {g : GT} {n nf : Int} (hu : Up false nf n) (M : Mem) (a1 : Int) : AM g false yX12_isRight cX12_isRight 2 (some .boolean) (0) n n nf [(2, 337), (0, a1)] M (f_X12_isRight M a1) := by
  refine AM_of (by decide +kernel) (Nat.le_of_ble_eq_true rfl) (fun h => absurd h (Int.lt_irrefl n)) ?_
  show AW g false RX12 cX12_isRight 2 (some .boolean) (0) n n nf 0 [(0, 2, 337), (1, 0, a1)] [] n M (f_X12_isRight M a1)
  unfold f_X12_isRight
  refine r_aload_n 0 dX12_isRight_0 rfl rfl ?_
  refine r_gx (kz := 83) rfl hu dX12_isRight_1 kF_X12_188 kd_337 rfl rfl rfl fx_337_83 ?_
  refine r_iload_n 1 dX12_isRight_4 rfl rfl ?_
  refine r_ok (fun h1 => ?_)
  refine r_iald hu dX12_isRight_5 kd_395 rfl (Or.inl rfl) rfl ln_395 h1 ?_
  refine r_aload_n 0 dX12_isRight_6 rfl rfl ?_
  refine r_gx (kz := 84) rfl hu dX12_isRight_7 kF_X12_191 kd_337 rfl rfl rfl fx_337_84 ?_
  refine r_iload_n 1 dX12_isRight_10 rfl rfl ?_
  refine r_iald hu dX12_isRight_11 kd_396 rfl (Or.inl rfl) rfl ln_396 h1 ?_
  refine r_icmp_ne (tgt := 19) dX12_isRight_12 rfl (fun h2 => ?_) (fun h3 => ?_)
  · refine r_iconst dX12_isRight_15 ⟨by decide, by decide⟩ ?_
    refine r_goto (tgt := 20) dX12_isRight_16 rfl ?_
    exact r_iret rfl rfl (Or.inr ⟨rfl, Or.inr rfl⟩) dX12_isRight_20
  · refine r_iconst dX12_isRight_19 ⟨by decide, by decide⟩ ?_
    exact r_iret rfl rfl (Or.inr ⟨rfl, Or.inl rfl⟩) dX12_isRight_20
theorem dX12_showsTrial_0 : decode cX12_showsTrial 0 = .ok (.aload_n 0, 1) := by decide +kernel
theorem dX12_showsTrial_1 : decode cX12_showsTrial 1 = .ok (.aload_n 0, 1) := by decide +kernel
theorem dX12_showsTrial_2 : decode cX12_showsTrial 2 = .ok (.getfield 179, 3) := by decide +kernel
theorem dX12_showsTrial_5 : decode cX12_showsTrial 5 = .ok (.iload_n 1, 1) := by decide +kernel
theorem dX12_showsTrial_6 : decode cX12_showsTrial 6 = .ok (.iaload, 1) := by decide +kernel
theorem dX12_showsTrial_7 : decode cX12_showsTrial 7 = .ok (.aload_n 0, 1) := by decide +kernel
theorem dX12_showsTrial_8 : decode cX12_showsTrial 8 = .ok (.getfield 182, 3) := by decide +kernel
theorem dX12_showsTrial_11 : decode cX12_showsTrial 11 = .ok (.iload_n 1, 1) := by decide +kernel
theorem dX12_showsTrial_12 : decode cX12_showsTrial 12 = .ok (.iaload, 1) := by decide +kernel
theorem dX12_showsTrial_13 : decode cX12_showsTrial 13 = .ok (.aload_n 0, 1) := by decide +kernel
theorem dX12_showsTrial_14 : decode cX12_showsTrial 14 = .ok (.getfield 185, 3) := by decide +kernel
theorem dX12_showsTrial_17 : decode cX12_showsTrial 17 = .ok (.iload_n 1, 1) := by decide +kernel
theorem dX12_showsTrial_18 : decode cX12_showsTrial 18 = .ok (.iaload, 1) := by decide +kernel
theorem dX12_showsTrial_19 : decode cX12_showsTrial 19 = .ok (.invokevirtual 431, 3) := by decide +kernel
theorem dX12_showsTrial_22 : decode cX12_showsTrial 22 = .ok (.return_, 1) := by decide +kernel
set_option maxRecDepth 100000 in
theorem m_X12_showsTrial {g : GT} {n nf : Int} (hu : Up false nf n) (M : Mem) (a1 : Int) : AM g false yX12_showsTrial cX12_showsTrial 2 none (2) n n nf [(2, 337), (0, a1)] M (f_X12_showsTrial M a1) := by
  refine AM_of (by decide +kernel) (Nat.le_of_ble_eq_true rfl) (fun h => absurd h (Int.lt_irrefl n)) ?_
  show AW g false RX12 cX12_showsTrial 2 none (2) n n nf 0 [(0, 2, 337), (1, 0, a1)] [] n M (f_X12_showsTrial M a1)
  unfold f_X12_showsTrial
  refine r_aload_n 0 dX12_showsTrial_0 rfl rfl ?_
  refine r_aload_n 0 dX12_showsTrial_1 rfl rfl ?_
  refine r_gx (kz := 80) rfl hu dX12_showsTrial_2 kF_X12_179 kd_337 rfl rfl rfl fx_337_80 ?_
  refine r_iload_n 1 dX12_showsTrial_5 rfl rfl ?_
  refine r_ok (fun h1 => ?_)
  refine r_iald hu dX12_showsTrial_6 kd_392 rfl (Or.inl rfl) rfl ln_392 h1 ?_
  refine r_aload_n 0 dX12_showsTrial_7 rfl rfl ?_
  refine r_gx (kz := 81) rfl hu dX12_showsTrial_8 kF_X12_182 kd_337 rfl rfl rfl fx_337_81 ?_
  refine r_iload_n 1 dX12_showsTrial_11 rfl rfl ?_
  refine r_iald hu dX12_showsTrial_12 kd_393 rfl (Or.inl rfl) rfl ln_393 h1 ?_
  refine r_aload_n 0 dX12_showsTrial_13 rfl rfl ?_
  refine r_gx (kz := 82) rfl hu dX12_showsTrial_14 kF_X12_185 kd_337 rfl rfl rfl fx_337_82 ?_
  refine r_iload_n 1 dX12_showsTrial_17 rfl rfl ?_
  refine r_iald hu dX12_showsTrial_18 kd_394 rfl (Or.inl rfl) rfl ln_394 h1 ?_
  refine r_invv (a := 337) hu ⟨Nat.le_refl _, Nat.le_refl _⟩ dX12_showsTrial_19 kM_X12_431 (ci := 12) rfl kd_337 rfl rfl (by decide) (by decide) [(0, M 392 a1), (0, M 393 a1), (0, M 394 a1)] rfl (sk := []) rfl (Nat.le_of_ble_eq_true rfl) rfl (m_X12_shows hu M (M 392 a1) (M 393 a1) (M 394 a1)) (fun r2 M3 => ?_)
  exact r_vret rfl rfl dX12_showsTrial_22
theorem dX12_kindOf_0 : decode cX12_kindOf 0 = .ok (.aload_n 0, 1) := by decide +kernel
theorem dX12_kindOf_1 : decode cX12_kindOf 1 = .ok (.iload_n 2, 1) := by decide +kernel
theorem dX12_kindOf_2 : decode cX12_kindOf 2 = .ok (.invokevirtual 570, 3) := by decide +kernel
theorem dX12_kindOf_5 : decode cX12_kindOf 5 = .ok (.ifCond .ne 5, 3) := by decide +kernel
theorem dX12_kindOf_8 : decode cX12_kindOf 8 = .ok (.iconst 0, 1) := by decide +kernel
theorem dX12_kindOf_9 : decode cX12_kindOf 9 = .ok (.ireturn, 1) := by decide +kernel
theorem dX12_kindOf_10 : decode cX12_kindOf 10 = .ok (.aload_n 0, 1) := by decide +kernel
theorem dX12_kindOf_11 : decode cX12_kindOf 11 = .ok (.getfield 197, 3) := by decide +kernel
theorem dX12_kindOf_14 : decode cX12_kindOf 14 = .ok (.iload_n 2, 1) := by decide +kernel
theorem dX12_kindOf_15 : decode cX12_kindOf 15 = .ok (.baload, 1) := by decide +kernel
theorem dX12_kindOf_16 : decode cX12_kindOf 16 = .ok (.ifCond .eq 5, 3) := by decide +kernel
theorem dX12_kindOf_19 : decode cX12_kindOf 19 = .ok (.iconst 1, 1) := by decide +kernel
theorem dX12_kindOf_20 : decode cX12_kindOf 20 = .ok (.ireturn, 1) := by decide +kernel
theorem dX12_kindOf_21 : decode cX12_kindOf 21 = .ok (.aload_n 0, 1) := by decide +kernel
theorem dX12_kindOf_22 : decode cX12_kindOf 22 = .ok (.iload_n 2, 1) := by decide +kernel
theorem dX12_kindOf_23 : decode cX12_kindOf 23 = .ok (.invokevirtual 573, 3) := by decide +kernel
theorem dX12_kindOf_26 : decode cX12_kindOf 26 = .ok (.ifCond .eq 5, 3) := by decide +kernel
theorem dX12_kindOf_29 : decode cX12_kindOf 29 = .ok (.iconst 2, 1) := by decide +kernel
theorem dX12_kindOf_30 : decode cX12_kindOf 30 = .ok (.ireturn, 1) := by decide +kernel
theorem dX12_kindOf_31 : decode cX12_kindOf 31 = .ok (.aload_n 0, 1) := by decide +kernel
theorem dX12_kindOf_32 : decode cX12_kindOf 32 = .ok (.getfield 194, 3) := by decide +kernel
theorem dX12_kindOf_35 : decode cX12_kindOf 35 = .ok (.iload_n 2, 1) := by decide +kernel
theorem dX12_kindOf_36 : decode cX12_kindOf 36 = .ok (.baload, 1) := by decide +kernel
theorem dX12_kindOf_37 : decode cX12_kindOf 37 = .ok (.ifCond .eq 5, 3) := by decide +kernel
theorem dX12_kindOf_40 : decode cX12_kindOf 40 = .ok (.iconst 3, 1) := by decide +kernel
theorem dX12_kindOf_41 : decode cX12_kindOf 41 = .ok (.ireturn, 1) := by decide +kernel
theorem dX12_kindOf_42 : decode cX12_kindOf 42 = .ok (.aload_n 0, 1) := by decide +kernel
theorem dX12_kindOf_43 : decode cX12_kindOf 43 = .ok (.iload_n 2, 1) := by decide +kernel
theorem dX12_kindOf_44 : decode cX12_kindOf 44 = .ok (.invokevirtual 576, 3) := by decide +kernel
theorem dX12_kindOf_47 : decode cX12_kindOf 47 = .ok (.aload_n 0, 1) := by decide +kernel
theorem dX12_kindOf_48 : decode cX12_kindOf 48 = .ok (.getfield 416, 3) := by decide +kernel
theorem dX12_kindOf_51 : decode cX12_kindOf 51 = .ok (.ifCond .ne 13, 3) := by decide +kernel
theorem dX12_kindOf_54 : decode cX12_kindOf 54 = .ok (.aload_n 0, 1) := by decide +kernel
theorem dX12_kindOf_55 : decode cX12_kindOf 55 = .ok (.getfield 419, 3) := by decide +kernel
theorem dX12_kindOf_58 : decode cX12_kindOf 58 = .ok (.iconst 5, 1) := by decide +kernel
theorem dX12_kindOf_59 : decode cX12_kindOf 59 = .ok (.if_icmp .lt 5, 3) := by decide +kernel
theorem dX12_kindOf_62 : decode cX12_kindOf 62 = .ok (.iconst 4, 1) := by decide +kernel
theorem dX12_kindOf_63 : decode cX12_kindOf 63 = .ok (.ireturn, 1) := by decide +kernel
theorem dX12_kindOf_64 : decode cX12_kindOf 64 = .ok (.aload_n 0, 1) := by decide +kernel
theorem dX12_kindOf_65 : decode cX12_kindOf 65 = .ok (.aload_n 0, 1) := by decide +kernel
theorem dX12_kindOf_66 : decode cX12_kindOf 66 = .ok (.getfield 182, 3) := by decide +kernel
theorem dX12_kindOf_69 : decode cX12_kindOf 69 = .ok (.iload_n 2, 1) := by decide +kernel
theorem dX12_kindOf_70 : decode cX12_kindOf 70 = .ok (.iaload, 1) := by decide +kernel
theorem dX12_kindOf_71 : decode cX12_kindOf 71 = .ok (.invokevirtual 579, 3) := by decide +kernel
theorem dX12_kindOf_74 : decode cX12_kindOf 74 = .ok (.ifCond .eq 5, 3) := by decide +kernel
theorem dX12_kindOf_77 : decode cX12_kindOf 77 = .ok (.iconst 5, 1) := by decide +kernel
theorem dX12_kindOf_78 : decode cX12_kindOf 78 = .ok (.ireturn, 1) := by decide +kernel
theorem dX12_kindOf_79 : decode cX12_kindOf 79 = .ok (.aload_n 0, 1) := by decide +kernel
theorem dX12_kindOf_80 : decode cX12_kindOf 80 = .ok (.iload_n 1, 1) := by decide +kernel
theorem dX12_kindOf_81 : decode cX12_kindOf 81 = .ok (.iconst 1, 1) := by decide +kernel
theorem dX12_kindOf_82 : decode cX12_kindOf 82 = .ok (.invokevirtual 435, 3) := by decide +kernel
theorem dX12_kindOf_85 : decode cX12_kindOf 85 = .ok (.istore_n 3, 1) := by decide +kernel
theorem dX12_kindOf_86 : decode cX12_kindOf 86 = .ok (.iload_n 3, 1) := by decide +kernel
theorem dX12_kindOf_87 : decode cX12_kindOf 87 = .ok (.ifCond .le 17, 3) := by decide +kernel
theorem dX12_kindOf_90 : decode cX12_kindOf 90 = .ok (.iload_n 3, 1) := by decide +kernel
theorem dX12_kindOf_91 : decode cX12_kindOf 91 = .ok (.aload_n 0, 1) := by decide +kernel
theorem dX12_kindOf_92 : decode cX12_kindOf 92 = .ok (.iload_n 1, 1) := by decide +kernel
theorem dX12_kindOf_93 : decode cX12_kindOf 93 = .ok (.invokevirtual 537, 3) := by decide +kernel
theorem dX12_kindOf_96 : decode cX12_kindOf 96 = .ok (.if_icmp .ge 8, 3) := by decide +kernel
theorem dX12_kindOf_99 : decode cX12_kindOf 99 = .ok (.bipush 6, 2) := by decide +kernel
theorem dX12_kindOf_101 : decode cX12_kindOf 101 = .ok (.goto 5, 3) := by decide +kernel
theorem dX12_kindOf_104 : decode cX12_kindOf 104 = .ok (.bipush 7, 2) := by decide +kernel
theorem dX12_kindOf_106 : decode cX12_kindOf 106 = .ok (.ireturn, 1) := by decide +kernel
set_option maxRecDepth 100000 in
theorem tj_X12_kindOf_64 {g : GT} {n nf : Int} (hu : Up false nf n) (a1 a2 : Int) (M : Mem) : AW g false RX12 cX12_kindOf 4 (some .int) (5) n n nf 64 [(0, 2, 337), (1, 0, a1), (2, 0, a2)] [] n M (j_X12_kindOf_64 a1 a2 M) := by
  unfold j_X12_kindOf_64
  refine r_aload_n 0 dX12_kindOf_64 rfl rfl ?_
  refine r_aload_n 0 dX12_kindOf_65 rfl rfl ?_
  refine r_gx (kz := 81) rfl hu dX12_kindOf_66 kF_X12_182 kd_337 rfl rfl rfl fx_337_81 ?_
  refine r_iload_n 2 dX12_kindOf_69 rfl rfl ?_
  refine r_ok (fun h20 => ?_)
  refine r_iald hu dX12_kindOf_70 kd_393 rfl (Or.inl rfl) rfl ln_393 h20 ?_
  refine r_inv (a := 337) hu ⟨Nat.le_refl _, Nat.le_refl _⟩ dX12_kindOf_71 kM_X12_579 (ci := 12) rfl kd_337 rfl rfl (by decide) (by decide) [(0, M 393 a2)] rfl (sk := []) rfl (Nat.le_of_ble_eq_true rfl) rfl rfl (m_X12_isIsland hu M (M 393 a2)) (fun r21 M22 => ?_)
  refine r_if_eq (tgt := 79) dX12_kindOf_74 rfl (fun h23 => ?_) (fun h24 => ?_)
  · refine r_aload_n 0 dX12_kindOf_79 rfl rfl ?_
    refine r_iload_n 1 dX12_kindOf_80 rfl rfl ?_
    refine r_iconst dX12_kindOf_81 ⟨by decide, by decide⟩ ?_
    refine r_inv (a := 337) hu ⟨Nat.le_refl _, Nat.le_refl _⟩ dX12_kindOf_82 kM_X12_435 (ci := 12) rfl kd_337 rfl rfl (by decide) (by decide) [(0, a1), (0, 1)] rfl (sk := []) rfl (Nat.le_of_ble_eq_true rfl) rfl rfl (m_X12_carried hu M22 a1 1) (fun r25 M26 => ?_)
    refine r_istore_n dX12_kindOf_85 rfl (by decide) (ls' := [(3, 0, r25), (0, 2, 337), (1, 0, a1), (2, 0, a2)]) rfl ?_
    refine r_iload_n 0 dX12_kindOf_86 rfl rfl ?_
    refine r_if_le (tgt := 104) dX12_kindOf_87 rfl (fun h27 => ?_) (fun h28 => ?_)
    · refine r_bipush dX12_kindOf_104 (by decide) ⟨by decide, by decide⟩ ?_
      exact r_iret rfl rfl (Or.inl rfl) dX12_kindOf_106
    · refine r_iload_n 0 dX12_kindOf_90 rfl rfl ?_
      refine r_aload_n 1 dX12_kindOf_91 rfl rfl ?_
      refine r_iload_n 2 dX12_kindOf_92 rfl rfl ?_
      refine r_inv (a := 337) hu ⟨Nat.le_refl _, Nat.le_refl _⟩ dX12_kindOf_93 kM_X12_537 (ci := 12) rfl kd_337 rfl rfl (by decide) (by decide) [(0, a1)] rfl (sk := [(0, r25)]) rfl (Nat.le_of_ble_eq_true rfl) rfl rfl (m_X12_lineOf hu M26 a1) (fun r29 M30 => ?_)
      refine r_icmp_ge (tgt := 104) dX12_kindOf_96 rfl (fun h31 => ?_) (fun h32 => ?_)
      · refine r_bipush dX12_kindOf_104 (by decide) ⟨by decide, by decide⟩ ?_
        exact r_iret rfl rfl (Or.inl rfl) dX12_kindOf_106
      · refine r_bipush dX12_kindOf_99 (by decide) ⟨by decide, by decide⟩ ?_
        refine r_goto (tgt := 106) dX12_kindOf_101 rfl ?_
        exact r_iret rfl rfl (Or.inl rfl) dX12_kindOf_106
  · refine r_iconst dX12_kindOf_77 ⟨by decide, by decide⟩ ?_
    exact r_iret rfl rfl (Or.inl rfl) dX12_kindOf_78
set_option maxRecDepth 100000 in
theorem m_X12_kindOf {g : GT} {n nf : Int} (hu : Up false nf n) (M : Mem) (a1 a2 : Int) : AM g false yX12_kindOf cX12_kindOf 4 (some .int) (5) n n nf [(2, 337), (0, a1), (0, a2)] M (f_X12_kindOf M a1 a2) := by
  refine AM_of (by decide +kernel) (Nat.le_of_ble_eq_true rfl) (fun h => absurd h (Int.lt_irrefl n)) ?_
  show AW g false RX12 cX12_kindOf 4 (some .int) (5) n n nf 0 [(0, 2, 337), (1, 0, a1), (2, 0, a2)] [] n M (f_X12_kindOf M a1 a2)
  unfold f_X12_kindOf
  refine r_aload_n 0 dX12_kindOf_0 rfl rfl ?_
  refine r_iload_n 2 dX12_kindOf_1 rfl rfl ?_
  refine r_inv (a := 337) hu ⟨Nat.le_refl _, Nat.le_refl _⟩ dX12_kindOf_2 kM_X12_570 (ci := 12) rfl kd_337 rfl rfl (by decide) (by decide) [(0, a2)] rfl (sk := []) rfl (Nat.le_of_ble_eq_true rfl) rfl rfl (m_X12_isRight hu M a2) (fun r1 M2 => ?_)
  refine r_if_ne (tgt := 10) dX12_kindOf_5 rfl (fun h3 => ?_) (fun h4 => ?_)
  · refine r_iconst dX12_kindOf_8 ⟨by decide, by decide⟩ ?_
    exact r_iret rfl rfl (Or.inl rfl) dX12_kindOf_9
  · refine r_aload_n 0 dX12_kindOf_10 rfl rfl ?_
    refine r_gx (kz := 86) rfl hu dX12_kindOf_11 kF_X12_197 kd_337 rfl rfl rfl fx_337_86 ?_
    refine r_iload_n 2 dX12_kindOf_14 rfl rfl ?_
    refine r_ok (fun h5 => ?_)
    refine r_zald hu dX12_kindOf_15 kd_398 rfl rfl rfl ln_398 h5 ?_
    refine r_if_eq (tgt := 21) dX12_kindOf_16 rfl (fun h6 => ?_) (fun h7 => ?_)
    · refine r_aload_n 0 dX12_kindOf_21 rfl rfl ?_
      refine r_iload_n 2 dX12_kindOf_22 rfl rfl ?_
      refine r_inv (a := 337) hu ⟨Nat.le_refl _, Nat.le_refl _⟩ dX12_kindOf_23 kM_X12_573 (ci := 12) rfl kd_337 rfl rfl (by decide) (by decide) [(0, a2)] rfl (sk := []) rfl (Nat.le_of_ble_eq_true rfl) rfl rfl (m_X12_isLed hu M2 a2) (fun r8 M9 => ?_)
      refine r_if_eq (tgt := 31) dX12_kindOf_26 rfl (fun h10 => ?_) (fun h11 => ?_)
      · refine r_aload_n 0 dX12_kindOf_31 rfl rfl ?_
        refine r_gx (kz := 85) rfl hu dX12_kindOf_32 kF_X12_194 kd_337 rfl rfl rfl fx_337_85 ?_
        refine r_iload_n 2 dX12_kindOf_35 rfl rfl ?_
        refine r_zald hu dX12_kindOf_36 kd_397 rfl rfl rfl ln_397 h5 ?_
        refine r_if_eq (tgt := 42) dX12_kindOf_37 rfl (fun h12 => ?_) (fun h13 => ?_)
        · refine r_aload_n 0 dX12_kindOf_42 rfl rfl ?_
          refine r_iload_n 2 dX12_kindOf_43 rfl rfl ?_
          refine r_invv (a := 337) hu ⟨Nat.le_refl _, Nat.le_refl _⟩ dX12_kindOf_44 kM_X12_576 (ci := 12) rfl kd_337 rfl rfl (by decide) (by decide) [(0, a2)] rfl (sk := []) rfl (Nat.le_of_ble_eq_true rfl) rfl (m_X12_showsTrial hu M9 a2) (fun r14 M15 => ?_)
          refine r_aload_n 0 dX12_kindOf_47 rfl rfl ?_
          refine r_gf (t := 0) (kz := 71) rfl hu dX12_kindOf_48 kF_X12_416 kd_337 rfl rfl rfl ?_
          refine r_if_ne (tgt := 64) dX12_kindOf_51 rfl (fun h16 => ?_) (fun h17 => ?_)
          · refine r_aload_n 0 dX12_kindOf_54 rfl rfl ?_
            refine r_gf (t := 0) (kz := 72) rfl hu dX12_kindOf_55 kF_X12_419 kd_337 rfl rfl rfl ?_
            refine r_iconst dX12_kindOf_58 ⟨by decide, by decide⟩ ?_
            refine r_icmp_lt (tgt := 64) dX12_kindOf_59 rfl (fun h18 => ?_) (fun h19 => ?_)
            · exact tj_X12_kindOf_64 hu a1 a2 M15
            · refine r_iconst dX12_kindOf_62 ⟨by decide, by decide⟩ ?_
              exact r_iret rfl rfl (Or.inl rfl) dX12_kindOf_63
          · exact tj_X12_kindOf_64 hu a1 a2 M15
        · refine r_iconst dX12_kindOf_40 ⟨by decide, by decide⟩ ?_
          exact r_iret rfl rfl (Or.inl rfl) dX12_kindOf_41
      · refine r_iconst dX12_kindOf_29 ⟨by decide, by decide⟩ ?_
        exact r_iret rfl rfl (Or.inl rfl) dX12_kindOf_30
    · refine r_iconst dX12_kindOf_19 ⟨by decide, by decide⟩ ?_
      exact r_iret rfl rfl (Or.inl rfl) dX12_kindOf_20
theorem dX12_kind_0 : decode cX12_kind 0 = .ok (.aload_n 0, 1) := by decide +kernel
theorem dX12_kind_1 : decode cX12_kind 1 = .ok (.iload_n 1, 1) := by decide +kernel
theorem dX12_kind_2 : decode cX12_kind 2 = .ok (.invokevirtual 459, 3) := by decide +kernel
theorem dX12_kind_5 : decode cX12_kind 5 = .ok (.ifCond .eq 28, 3) := by decide +kernel
theorem dX12_kind_8 : decode cX12_kind 8 = .ok (.iload_n 2, 1) := by decide +kernel
theorem dX12_kind_9 : decode cX12_kind 9 = .ok (.i2l, 1) := by decide +kernel
theorem dX12_kind_10 : decode cX12_kind 10 = .ok (.lconst 0, 1) := by decide +kernel
theorem dX12_kind_11 : decode cX12_kind 11 = .ok (.aload_n 0, 1) := by decide +kernel
theorem dX12_kind_12 : decode cX12_kind 12 = .ok (.getfield 452, 3) := by decide +kernel
theorem dX12_kind_15 : decode cX12_kind 15 = .ok (.iconst 1, 1) := by decide +kernel
theorem dX12_kind_16 : decode cX12_kind 16 = .ok (.isub, 1) := by decide +kernel
theorem dX12_kind_17 : decode cX12_kind 17 = .ok (.i2l, 1) := by decide +kernel
theorem dX12_kind_18 : decode cX12_kind 18 = .ok (.invokestatic 267, 3) := by decide +kernel
theorem dX12_kind_21 : decode cX12_kind 21 = .ok (.ifCond .eq 12, 3) := by decide +kernel
theorem dX12_kind_24 : decode cX12_kind 24 = .ok (.aload_n 0, 1) := by decide +kernel
theorem dX12_kind_25 : decode cX12_kind 25 = .ok (.iload_n 1, 1) := by decide +kernel
theorem dX12_kind_26 : decode cX12_kind 26 = .ok (.iload_n 2, 1) := by decide +kernel
theorem dX12_kind_27 : decode cX12_kind 27 = .ok (.invokevirtual 582, 3) := by decide +kernel
theorem dX12_kind_30 : decode cX12_kind 30 = .ok (.goto 4, 3) := by decide +kernel
theorem dX12_kind_33 : decode cX12_kind 33 = .ok (.iconst (-1), 1) := by decide +kernel
theorem dX12_kind_34 : decode cX12_kind 34 = .ok (.ireturn, 1) := by decide +kernel
set_option maxRecDepth 100000 in
theorem m_X12_kind {g : GT} {n nf : Int} (hu : Up false nf n) (M : Mem) (a1 a2 : Int) : AM g false yX12_kind cX12_kind 3 (some .int) (6) n n nf [(2, 337), (0, a1), (0, a2)] M (f_X12_kind M a1 a2) := by
  refine AM_of (by decide +kernel) (Nat.le_of_ble_eq_true rfl) (fun h => absurd h (Int.lt_irrefl n)) ?_
  show AW g false RX12 cX12_kind 3 (some .int) (6) n n nf 0 [(0, 2, 337), (1, 0, a1), (2, 0, a2)] [] n M (f_X12_kind M a1 a2)
  unfold f_X12_kind
  refine r_aload_n 0 dX12_kind_0 rfl rfl ?_
  refine r_iload_n 1 dX12_kind_1 rfl rfl ?_
  refine r_inv (a := 337) hu ⟨Nat.le_refl _, Nat.le_refl _⟩ dX12_kind_2 kM_X12_459 (ci := 12) rfl kd_337 rfl rfl (by decide) (by decide) [(0, a1)] rfl (sk := []) rfl (Nat.le_of_ble_eq_true rfl) rfl rfl (m_X12_isLaw hu M a1) (fun r1 M2 => ?_)
  refine r_if_eq (tgt := 33) dX12_kind_5 rfl (fun h3 => ?_) (fun h4 => ?_)
  · refine r_iconst dX12_kind_33 ⟨by decide, by decide⟩ ?_
    exact r_iret rfl rfl (Or.inl rfl) dX12_kind_34
  · refine r_iload_n 2 dX12_kind_8 rfl rfl ?_
    refine r_i2l dX12_kind_9 ?_
    refine r_lconst (v := 0) dX12_kind_10 (by decide) ⟨by decide, by decide⟩ ?_
    refine r_aload_n 0 dX12_kind_11 rfl rfl ?_
    refine r_gf (t := 0) (kz := 79) rfl hu dX12_kind_12 kF_X12_452 kd_337 rfl rfl rfl ?_
    refine r_iconst dX12_kind_15 ⟨by decide, by decide⟩ ?_
    refine r_ok (fun h5 => ?_)
    refine r_isub dX12_kind_16 h5 ?_
    refine r_i2l dX12_kind_17 ?_
    refine r_ins (a := 0) ⟨Nat.le_refl _, Nat.le_refl _⟩ dX12_kind_18 kM_X12_267 (by decide) (by decide) [(1, a2), (1, 0), (1, (M2 337 79) - 1)] rfl (sk := []) rfl (Nat.le_of_ble_eq_true rfl) rfl rfl (m_X12_isIn hu M2 a2 0 ((M2 337 79) - 1)) (fun r6 M7 => ?_)
    refine r_if_eq (tgt := 33) dX12_kind_21 rfl (fun h8 => ?_) (fun h9 => ?_)
    · refine r_iconst dX12_kind_33 ⟨by decide, by decide⟩ ?_
      exact r_iret rfl rfl (Or.inl rfl) dX12_kind_34
    · refine r_aload_n 0 dX12_kind_24 rfl rfl ?_
      refine r_iload_n 1 dX12_kind_25 rfl rfl ?_
      refine r_iload_n 2 dX12_kind_26 rfl rfl ?_
      refine r_inv (a := 337) hu ⟨Nat.le_refl _, Nat.le_refl _⟩ dX12_kind_27 kM_X12_582 (ci := 12) rfl kd_337 rfl rfl (by decide) (by decide) [(0, a1), (0, a2)] rfl (sk := []) rfl (Nat.le_of_ble_eq_true rfl) rfl rfl (m_X12_kindOf hu M7 a1 a2) (fun r10 M11 => ?_)
      refine r_goto (tgt := 34) dX12_kind_30 rfl ?_
      exact r_iret rfl rfl (Or.inl rfl) dX12_kind_34
theorem dX12_kinds_0 : decode cX12_kinds 0 = .ok (.aload_n 0, 1) := by decide +kernel
theorem dX12_kinds_1 : decode cX12_kinds 1 = .ok (.iload_n 1, 1) := by decide +kernel
theorem dX12_kinds_2 : decode cX12_kinds 2 = .ok (.invokevirtual 459, 3) := by decide +kernel
theorem dX12_kinds_5 : decode cX12_kinds 5 = .ok (.ifCond .eq 15, 3) := by decide +kernel
theorem dX12_kinds_8 : decode cX12_kinds 8 = .ok (.iload_n 2, 1) := by decide +kernel
theorem dX12_kinds_9 : decode cX12_kinds 9 = .ok (.i2l, 1) := by decide +kernel
theorem dX12_kinds_10 : decode cX12_kinds 10 = .ok (.lconst 0, 1) := by decide +kernel
theorem dX12_kinds_11 : decode cX12_kinds 11 = .ok (.ldc2_w 485, 3) := by decide +kernel
theorem dX12_kinds_14 : decode cX12_kinds 14 = .ok (.invokestatic 267, 3) := by decide +kernel
theorem dX12_kinds_17 : decode cX12_kinds 17 = .ok (.ifCond .ne 5, 3) := by decide +kernel
theorem dX12_kinds_20 : decode cX12_kinds 20 = .ok (.iconst (-1), 1) := by decide +kernel
theorem dX12_kinds_21 : decode cX12_kinds 21 = .ok (.ireturn, 1) := by decide +kernel
theorem dX12_kinds_22 : decode cX12_kinds 22 = .ok (.iconst 0, 1) := by decide +kernel
theorem dX12_kinds_23 : decode cX12_kinds 23 = .ok (.istore_n 3, 1) := by decide +kernel
theorem dX12_kinds_24 : decode cX12_kinds 24 = .ok (.iconst 0, 1) := by decide +kernel
theorem dX12_kinds_25 : decode cX12_kinds 25 = .ok (.istore 4, 2) := by decide +kernel
theorem dX12_kinds_27 : decode cX12_kinds 27 = .ok (.iload 4, 2) := by decide +kernel
theorem dX12_kinds_29 : decode cX12_kinds 29 = .ok (.aload_n 0, 1) := by decide +kernel
theorem dX12_kinds_30 : decode cX12_kinds 30 = .ok (.getfield 452, 3) := by decide +kernel
theorem dX12_kinds_33 : decode cX12_kinds 33 = .ok (.if_icmp .ge 23, 3) := by decide +kernel
theorem dX12_kinds_36 : decode cX12_kinds 36 = .ok (.aload_n 0, 1) := by decide +kernel
theorem dX12_kinds_37 : decode cX12_kinds 37 = .ok (.iload_n 1, 1) := by decide +kernel
theorem dX12_kinds_38 : decode cX12_kinds 38 = .ok (.iload 4, 2) := by decide +kernel
theorem dX12_kinds_40 : decode cX12_kinds 40 = .ok (.invokevirtual 582, 3) := by decide +kernel
theorem dX12_kinds_43 : decode cX12_kinds 43 = .ok (.iload_n 2, 1) := by decide +kernel
theorem dX12_kinds_44 : decode cX12_kinds 44 = .ok (.if_icmp .ne 6, 3) := by decide +kernel
theorem dX12_kinds_47 : decode cX12_kinds 47 = .ok (.iinc 3 1, 3) := by decide +kernel
theorem dX12_kinds_50 : decode cX12_kinds 50 = .ok (.iinc 4 1, 3) := by decide +kernel
theorem dX12_kinds_53 : decode cX12_kinds 53 = .ok (.goto (-26), 3) := by decide +kernel
theorem dX12_kinds_56 : decode cX12_kinds 56 = .ok (.iload_n 3, 1) := by decide +kernel
theorem dX12_kinds_57 : decode cX12_kinds 57 = .ok (.ireturn, 1) := by decide +kernel
set_option maxRecDepth 100000 in
theorem tb_X12_kinds_27 {g : GT} {n nf : Int} (hu : Up false nf n) (a1 a2 : Int) (w27 : Mem → Int → Int → Res) (hw27 : ∀ (M : Mem) (x3 x4 : Int), AW g false RX12 cX12_kinds 5 (some .int) (6) n n nf 27 [(0, 2, 337), (1, 0, a1), (2, 0, a2), (3, 0, x3), (4, 0, x4)] [] n M (w27 M x3 x4)) (M : Mem) (x3 x4 : Int) : AW g false RX12 cX12_kinds 5 (some .int) (6) n n nf 27 [(0, 2, 337), (1, 0, a1), (2, 0, a2), (3, 0, x3), (4, 0, x4)] [] n M (b_X12_kinds_27 a1 a2 w27 M x3 x4) := by
  unfold b_X12_kinds_27
  refine r_iload 4 dX12_kinds_27 rfl ?_
  refine r_aload_n 0 dX12_kinds_29 rfl rfl ?_
  refine r_gf (t := 0) (kz := 79) rfl hu dX12_kinds_30 kF_X12_452 kd_337 rfl rfl rfl ?_
  refine r_icmp_ge (tgt := 56) dX12_kinds_33 rfl (fun h9 => ?_) (fun h10 => ?_)
  · refine r_iload_n 3 dX12_kinds_56 rfl rfl ?_
    exact r_iret rfl rfl (Or.inl rfl) dX12_kinds_57
  · refine r_aload_n 0 dX12_kinds_36 rfl rfl ?_
    refine r_iload_n 1 dX12_kinds_37 rfl rfl ?_
    refine r_iload 4 dX12_kinds_38 rfl ?_
    refine r_inv (a := 337) hu ⟨Nat.le_refl _, Nat.le_refl _⟩ dX12_kinds_40 kM_X12_582 (ci := 12) rfl kd_337 rfl rfl (by decide) (by decide) [(0, a1), (0, x4)] rfl (sk := []) rfl (Nat.le_of_ble_eq_true rfl) rfl rfl (m_X12_kindOf hu M a1 x4) (fun r11 M12 => ?_)
    refine r_iload_n 2 dX12_kinds_43 rfl rfl ?_
    refine r_icmp_ne (tgt := 50) dX12_kinds_44 rfl (fun h13 => ?_) (fun h14 => ?_)
    · refine r_ok (fun h15 => ?_)
      refine r_iincB 3 dX12_kinds_47 rfl h15 (by decide) (lf := fun y16 => [(3, 0, y16), (0, 2, 337), (1, 0, a1), (2, 0, a2), (4, 0, x4)]) (fun _ => rfl) (fun y16 ey16 => ?_)
      refine r_ok (fun h17 => ?_)
      refine r_iincB 4 dX12_kinds_50 rfl h17 (by decide) (lf := fun y18 => [(4, 0, y18), (3, 0, y16), (0, 2, 337), (1, 0, a1), (2, 0, a2)]) (fun _ => rfl) (fun y18 ey18 => ?_)
      refine r_goto (tgt := 27) dX12_kinds_53 rfl ?_
      refine r_sub [2, 3, 4, 1, 0] (ls' := [(0, 2, 337), (1, 0, a1), (2, 0, a2), (3, 0, y16), (4, 0, y18)]) rfl ?_
      exact hw27 M12 y16 y18
    · refine r_ok (fun h19 => ?_)
      refine r_iincB 4 dX12_kinds_50 rfl h19 (by decide) (lf := fun y20 => [(4, 0, y20), (0, 2, 337), (1, 0, a1), (2, 0, a2), (3, 0, x3)]) (fun _ => rfl) (fun y20 ey20 => ?_)
      refine r_goto (tgt := 27) dX12_kinds_53 rfl ?_
      refine r_sub [1, 2, 3, 4, 0] (ls' := [(0, 2, 337), (1, 0, a1), (2, 0, a2), (3, 0, x3), (4, 0, y20)]) rfl ?_
      exact hw27 M12 x3 y20
set_option maxRecDepth 100000 in
theorem m_X12_kinds {g : GT} {n nf : Int} (hu : Up false nf n) (M : Mem) (a1 a2 : Int) : AM g false yX12_kinds cX12_kinds 5 (some .int) (6) n n nf [(2, 337), (0, a1), (0, a2)] M (f_X12_kinds M a1 a2) := by
  refine AM_of (by decide +kernel) (Nat.le_of_ble_eq_true rfl) (fun h => absurd h (Int.lt_irrefl n)) ?_
  show AW g false RX12 cX12_kinds 5 (some .int) (6) n n nf 0 [(0, 2, 337), (1, 0, a1), (2, 0, a2)] [] n M (f_X12_kinds M a1 a2)
  unfold f_X12_kinds
  refine r_aload_n 0 dX12_kinds_0 rfl rfl ?_
  refine r_iload_n 1 dX12_kinds_1 rfl rfl ?_
  refine r_inv (a := 337) hu ⟨Nat.le_refl _, Nat.le_refl _⟩ dX12_kinds_2 kM_X12_459 (ci := 12) rfl kd_337 rfl rfl (by decide) (by decide) [(0, a1)] rfl (sk := []) rfl (Nat.le_of_ble_eq_true rfl) rfl rfl (m_X12_isLaw hu M a1) (fun r1 M2 => ?_)
  refine r_if_eq (tgt := 20) dX12_kinds_5 rfl (fun h3 => ?_) (fun h4 => ?_)
  · refine r_iconst dX12_kinds_20 ⟨by decide, by decide⟩ ?_
    exact r_iret rfl rfl (Or.inl rfl) dX12_kinds_21
  · refine r_iload_n 2 dX12_kinds_8 rfl rfl ?_
    refine r_i2l dX12_kinds_9 ?_
    refine r_lconst (v := 0) dX12_kinds_10 (by decide) ⟨by decide, by decide⟩ ?_
    refine r_ldc2 (v := 7) dX12_kinds_11 kC_X12_485 rfl ⟨by decide, by decide⟩ ?_
    refine r_ins (a := 0) ⟨Nat.le_refl _, Nat.le_refl _⟩ dX12_kinds_14 kM_X12_267 (by decide) (by decide) [(1, a2), (1, 0), (1, 7)] rfl (sk := []) rfl (Nat.le_of_ble_eq_true rfl) rfl rfl (m_X12_isIn hu M2 a2 0 7) (fun r5 M6 => ?_)
    refine r_if_ne (tgt := 22) dX12_kinds_17 rfl (fun h7 => ?_) (fun h8 => ?_)
    · refine r_iconst dX12_kinds_20 ⟨by decide, by decide⟩ ?_
      exact r_iret rfl rfl (Or.inl rfl) dX12_kinds_21
    · refine r_iconst dX12_kinds_22 ⟨by decide, by decide⟩ ?_
      refine r_istore_n dX12_kinds_23 rfl (by decide) (ls' := [(3, 0, 0), (0, 2, 337), (1, 0, a1), (2, 0, a2)]) rfl ?_
      refine r_iconst dX12_kinds_24 ⟨by decide, by decide⟩ ?_
      refine r_istore dX12_kinds_25 (by decide) (ls' := [(4, 0, 0), (3, 0, 0), (0, 2, 337), (1, 0, a1), (2, 0, a2)]) rfl ?_
      refine r_sub [2, 3, 4, 1, 0] (ls' := [(0, 2, 337), (1, 0, a1), (2, 0, a2), (3, 0, 0), (4, 0, 0)]) rfl ?_
      exact wl2_aw (P := fun M x3 x4 o => AW g false RX12 cX12_kinds 5 (some .int) (6) n n nf 27 [(0, 2, 337), (1, 0, a1), (2, 0, a2), (3, 0, x3), (4, 0, x4)] [] n M (o)) (fun M x3 x4 => aw_none) (fun w hw M x3 x4 => tb_X12_kinds_27 hu a1 a2 w hw M x3 x4) FU M6 0 0
theorem dX12_trial_0 : decode cX12_trial 0 = .ok (.aload_n 0, 1) := by decide +kernel
theorem dX12_trial_1 : decode cX12_trial 1 = .ok (.getfield 452, 3) := by decide +kernel
theorem dX12_trial_4 : decode cX12_trial 4 = .ok (.bipush 40, 2) := by decide +kernel
theorem dX12_trial_6 : decode cX12_trial 6 = .ok (.if_icmp .eq 29, 3) := by decide +kernel
theorem dX12_trial_9 : decode cX12_trial 9 = .ok (.aload_n 0, 1) := by decide +kernel
theorem dX12_trial_10 : decode cX12_trial 10 = .ok (.iload_n 1, 1) := by decide +kernel
theorem dX12_trial_11 : decode cX12_trial 11 = .ok (.iload_n 2, 1) := by decide +kernel
theorem dX12_trial_12 : decode cX12_trial 12 = .ok (.iload_n 3, 1) := by decide +kernel
theorem dX12_trial_13 : decode cX12_trial 13 = .ok (.iload 4, 2) := by decide +kernel
theorem dX12_trial_15 : decode cX12_trial 15 = .ok (.invokevirtual 541, 3) := by decide +kernel
theorem dX12_trial_18 : decode cX12_trial 18 = .ok (.ifCond .eq 17, 3) := by decide +kernel
theorem dX12_trial_21 : decode cX12_trial 21 = .ok (.aload_n 0, 1) := by decide +kernel
theorem dX12_trial_22 : decode cX12_trial 22 = .ok (.iload_n 1, 1) := by decide +kernel
theorem dX12_trial_23 : decode cX12_trial 23 = .ok (.iload 5, 2) := by decide +kernel
theorem dX12_trial_25 : decode cX12_trial 25 = .ok (.iload 6, 2) := by decide +kernel
theorem dX12_trial_27 : decode cX12_trial 27 = .ok (.iload 8, 2) := by decide +kernel
theorem dX12_trial_29 : decode cX12_trial 29 = .ok (.invokevirtual 585, 3) := by decide +kernel
theorem dX12_trial_32 : decode cX12_trial 32 = .ok (.ifCond .ne 5, 3) := by decide +kernel
theorem dX12_trial_35 : decode cX12_trial 35 = .ok (.iconst (-1), 1) := by decide +kernel
theorem dX12_trial_36 : decode cX12_trial 36 = .ok (.ireturn, 1) := by decide +kernel
theorem dX12_trial_37 : decode cX12_trial 37 = .ok (.aload_n 0, 1) := by decide +kernel
theorem dX12_trial_38 : decode cX12_trial 38 = .ok (.aload_n 0, 1) := by decide +kernel
theorem dX12_trial_39 : decode cX12_trial 39 = .ok (.getfield 452, 3) := by decide +kernel
theorem dX12_trial_42 : decode cX12_trial 42 = .ok (.iload_n 1, 1) := by decide +kernel
theorem dX12_trial_43 : decode cX12_trial 43 = .ok (.bipush 12, 2) := by decide +kernel
theorem dX12_trial_45 : decode cX12_trial 45 = .ok (.iload_n 3, 1) := by decide +kernel
theorem dX12_trial_46 : decode cX12_trial 46 = .ok (.imul, 1) := by decide +kernel
theorem dX12_trial_47 : decode cX12_trial 47 = .ok (.iload_n 2, 1) := by decide +kernel
theorem dX12_trial_48 : decode cX12_trial 48 = .ok (.iadd, 1) := by decide +kernel
theorem dX12_trial_49 : decode cX12_trial 49 = .ok (.iload 4, 2) := by decide +kernel
theorem dX12_trial_51 : decode cX12_trial 51 = .ok (.iload 5, 2) := by decide +kernel
theorem dX12_trial_53 : decode cX12_trial 53 = .ok (.iload 6, 2) := by decide +kernel
theorem dX12_trial_55 : decode cX12_trial 55 = .ok (.iload 7, 2) := by decide +kernel
theorem dX12_trial_57 : decode cX12_trial 57 = .ok (.iload 8, 2) := by decide +kernel
theorem dX12_trial_59 : decode cX12_trial 59 = .ok (.invokevirtual 455, 3) := by decide +kernel
theorem dX12_trial_62 : decode cX12_trial 62 = .ok (.aload_n 0, 1) := by decide +kernel
theorem dX12_trial_63 : decode cX12_trial 63 = .ok (.dup, 1) := by decide +kernel
theorem dX12_trial_64 : decode cX12_trial 64 = .ok (.getfield 452, 3) := by decide +kernel
theorem dX12_trial_67 : decode cX12_trial 67 = .ok (.iconst 1, 1) := by decide +kernel
theorem dX12_trial_68 : decode cX12_trial 68 = .ok (.iadd, 1) := by decide +kernel
theorem dX12_trial_69 : decode cX12_trial 69 = .ok (.putfield 452, 3) := by decide +kernel
theorem dX12_trial_72 : decode cX12_trial 72 = .ok (.aload_n 0, 1) := by decide +kernel
theorem dX12_trial_73 : decode cX12_trial 73 = .ok (.getfield 452, 3) := by decide +kernel
theorem dX12_trial_76 : decode cX12_trial 76 = .ok (.ireturn, 1) := by decide +kernel
set_option maxRecDepth 100000 in
theorem m_X12_trial {g : GT} {n nf : Int} (hu : Up false nf n) (M : Mem) (a1 a2 a3 a4 a5 a6 a7 a8 : Int) : AM g false yX12_trial cX12_trial 9 (some .int) (3) n n nf [(2, 337), (0, a1), (0, a2), (0, a3), (0, a4), (0, a5), (0, a6), (0, a7), (0, a8)] M (f_X12_trial M a1 a2 a3 a4 a5 a6 a7 a8) := by
  refine AM_of (by decide +kernel) (Nat.le_of_ble_eq_true rfl) (fun h => absurd h (Int.lt_irrefl n)) ?_
  show AW g false RX12 cX12_trial 9 (some .int) (3) n n nf 0 [(0, 2, 337), (1, 0, a1), (2, 0, a2), (3, 0, a3), (4, 0, a4), (5, 0, a5), (6, 0, a6), (7, 0, a7), (8, 0, a8)] [] n M (f_X12_trial M a1 a2 a3 a4 a5 a6 a7 a8)
  unfold f_X12_trial
  refine r_aload_n 0 dX12_trial_0 rfl rfl ?_
  refine r_gf (t := 0) (kz := 79) rfl hu dX12_trial_1 kF_X12_452 kd_337 rfl rfl rfl ?_
  refine r_bipush dX12_trial_4 (by decide) ⟨by decide, by decide⟩ ?_
  refine r_icmp_eq (tgt := 35) dX12_trial_6 rfl (fun h1 => ?_) (fun h2 => ?_)
  · refine r_iconst dX12_trial_35 ⟨by decide, by decide⟩ ?_
    exact r_iret rfl rfl (Or.inl rfl) dX12_trial_36
  · refine r_aload_n 0 dX12_trial_9 rfl rfl ?_
    refine r_iload_n 1 dX12_trial_10 rfl rfl ?_
    refine r_iload_n 2 dX12_trial_11 rfl rfl ?_
    refine r_iload_n 3 dX12_trial_12 rfl rfl ?_
    refine r_iload 4 dX12_trial_13 rfl ?_
    refine r_inv (a := 337) hu ⟨Nat.le_refl _, Nat.le_refl _⟩ dX12_trial_15 kM_X12_541 (ci := 12) rfl kd_337 rfl rfl (by decide) (by decide) [(0, a1), (0, a2), (0, a3), (0, a4)] rfl (sk := []) rfl (Nat.le_of_ble_eq_true rfl) rfl rfl (m_X12_isShowing hu M a1 a2 a3 a4) (fun r3 M4 => ?_)
    refine r_if_eq (tgt := 35) dX12_trial_18 rfl (fun h5 => ?_) (fun h6 => ?_)
    · refine r_iconst dX12_trial_35 ⟨by decide, by decide⟩ ?_
      exact r_iret rfl rfl (Or.inl rfl) dX12_trial_36
    · refine r_aload_n 0 dX12_trial_21 rfl rfl ?_
      refine r_iload_n 1 dX12_trial_22 rfl rfl ?_
      refine r_iload 5 dX12_trial_23 rfl ?_
      refine r_iload 6 dX12_trial_25 rfl ?_
      refine r_iload 8 dX12_trial_27 rfl ?_
      refine r_inv (a := 337) hu ⟨Nat.le_refl _, Nat.le_refl _⟩ dX12_trial_29 kM_X12_585 (ci := 12) rfl kd_337 rfl rfl (by decide) (by decide) [(0, a1), (0, a5), (0, a6), (0, a8)] rfl (sk := []) rfl (Nat.le_of_ble_eq_true rfl) rfl rfl (m_X12_isTrial hu M4 a1 a5 a6 a8) (fun r7 M8 => ?_)
      refine r_if_ne (tgt := 37) dX12_trial_32 rfl (fun h9 => ?_) (fun h10 => ?_)
      · refine r_iconst dX12_trial_35 ⟨by decide, by decide⟩ ?_
        exact r_iret rfl rfl (Or.inl rfl) dX12_trial_36
      · refine r_aload_n 0 dX12_trial_37 rfl rfl ?_
        refine r_aload_n 0 dX12_trial_38 rfl rfl ?_
        refine r_gf (t := 0) (kz := 79) rfl hu dX12_trial_39 kF_X12_452 kd_337 rfl rfl rfl ?_
        refine r_iload_n 1 dX12_trial_42 rfl rfl ?_
        refine r_bipush dX12_trial_43 (by decide) ⟨by decide, by decide⟩ ?_
        refine r_iload_n 3 dX12_trial_45 rfl rfl ?_
        refine r_ok (fun h11 => ?_)
        refine r_imul dX12_trial_46 h11 ?_
        refine r_iload_n 2 dX12_trial_47 rfl rfl ?_
        refine r_ok (fun h12 => ?_)
        refine r_iadd dX12_trial_48 h12 ?_
        refine r_iload 4 dX12_trial_49 rfl ?_
        refine r_iload 5 dX12_trial_51 rfl ?_
        refine r_iload 6 dX12_trial_53 rfl ?_
        refine r_iload 7 dX12_trial_55 rfl ?_
        refine r_iload 8 dX12_trial_57 rfl ?_
        refine r_invv (a := 337) hu ⟨Nat.le_refl _, Nat.le_refl _⟩ dX12_trial_59 kM_X12_455 (ci := 12) rfl kd_337 rfl rfl (by decide) (by decide) [(0, M8 337 79), (0, a1), (0, (12 * a3) + a2), (0, a4), (0, a5), (0, a6), (0, a7), (0, a8)] rfl (sk := []) rfl (Nat.le_of_ble_eq_true rfl) rfl (m_X12_lays hu M8 (M8 337 79) a1 ((12 * a3) + a2) a4 a5 a6 a7 a8) (fun r13 M14 => ?_)
        refine r_aload_n 0 dX12_trial_62 rfl rfl ?_
        refine r_dup dX12_trial_63 (nz2 _) ?_
        refine r_gf (t := 0) (kz := 79) rfl hu dX12_trial_64 kF_X12_452 kd_337 rfl rfl rfl ?_
        refine r_iconst dX12_trial_67 ⟨by decide, by decide⟩ ?_
        refine r_ok (fun h15 => ?_)
        refine r_iadd dX12_trial_68 h15 ?_
        refine r_pf (t := 0) (kz := 79) rfl hu dX12_trial_69 kF_X12_452 kd_337 rfl rfl rfl (fun h => absurd h (by decide)) rfl kX_12_79 (fun M16 eM16 => ?_)
        refine r_aload_n 0 dX12_trial_72 rfl rfl ?_
        refine r_gf (t := 0) (kz := 79) rfl hu dX12_trial_73 kF_X12_452 kd_337 rfl rfl rfl ?_
        exact r_iret rfl rfl (Or.inl rfl) dX12_trial_76
theorem dX12_undo_0 : decode cX12_undo 0 = .ok (.aload_n 0, 1) := by decide +kernel
theorem dX12_undo_1 : decode cX12_undo 1 = .ok (.getfield 452, 3) := by decide +kernel
theorem dX12_undo_4 : decode cX12_undo 4 = .ok (.ifCond .ne 5, 3) := by decide +kernel
theorem dX12_undo_7 : decode cX12_undo 7 = .ok (.iconst (-1), 1) := by decide +kernel
theorem dX12_undo_8 : decode cX12_undo 8 = .ok (.ireturn, 1) := by decide +kernel
theorem dX12_undo_9 : decode cX12_undo 9 = .ok (.aload_n 0, 1) := by decide +kernel
theorem dX12_undo_10 : decode cX12_undo 10 = .ok (.dup, 1) := by decide +kernel
theorem dX12_undo_11 : decode cX12_undo 11 = .ok (.getfield 452, 3) := by decide +kernel
theorem dX12_undo_14 : decode cX12_undo 14 = .ok (.iconst 1, 1) := by decide +kernel
theorem dX12_undo_15 : decode cX12_undo 15 = .ok (.isub, 1) := by decide +kernel
theorem dX12_undo_16 : decode cX12_undo 16 = .ok (.putfield 452, 3) := by decide +kernel
theorem dX12_undo_19 : decode cX12_undo 19 = .ok (.aload_n 0, 1) := by decide +kernel
theorem dX12_undo_20 : decode cX12_undo 20 = .ok (.getfield 452, 3) := by decide +kernel
theorem dX12_undo_23 : decode cX12_undo 23 = .ok (.ireturn, 1) := by decide +kernel
set_option maxRecDepth 100000 in
theorem m_X12_undo {g : GT} {n nf : Int} (hu : Up false nf n) (M : Mem) : AM g false yX12_undo cX12_undo 1 (some .int) (0) n n nf [(2, 337)] M (f_X12_undo M) := by
  refine AM_of (by decide +kernel) (Nat.le_of_ble_eq_true rfl) (fun h => absurd h (Int.lt_irrefl n)) ?_
  show AW g false RX12 cX12_undo 1 (some .int) (0) n n nf 0 [(0, 2, 337)] [] n M (f_X12_undo M)
  unfold f_X12_undo
  refine r_aload_n 0 dX12_undo_0 rfl rfl ?_
  refine r_gf (t := 0) (kz := 79) rfl hu dX12_undo_1 kF_X12_452 kd_337 rfl rfl rfl ?_
  refine r_if_ne (tgt := 9) dX12_undo_4 rfl (fun h1 => ?_) (fun h2 => ?_)
  · refine r_iconst dX12_undo_7 ⟨by decide, by decide⟩ ?_
    exact r_iret rfl rfl (Or.inl rfl) dX12_undo_8
  · refine r_aload_n 0 dX12_undo_9 rfl rfl ?_
    refine r_dup dX12_undo_10 (nz2 _) ?_
    refine r_gf (t := 0) (kz := 79) rfl hu dX12_undo_11 kF_X12_452 kd_337 rfl rfl rfl ?_
    refine r_iconst dX12_undo_14 ⟨by decide, by decide⟩ ?_
    refine r_ok (fun h3 => ?_)
    refine r_isub dX12_undo_15 h3 ?_
    refine r_pf (t := 0) (kz := 79) rfl hu dX12_undo_16 kF_X12_452 kd_337 rfl rfl rfl (fun h => absurd h (by decide)) rfl kX_12_79 (fun M4 eM4 => ?_)
    refine r_aload_n 0 dX12_undo_19 rfl rfl ?_
    refine r_gf (t := 0) (kz := 79) rfl hu dX12_undo_20 kF_X12_452 kd_337 rfl rfl rfl ?_
    exact r_iret rfl rfl (Or.inl rfl) dX12_undo_23
theorem dX12_tried_0 : decode cX12_tried 0 = .ok (.iload_n 1, 1) := by decide +kernel
theorem dX12_tried_1 : decode cX12_tried 1 = .ok (.i2l, 1) := by decide +kernel
theorem dX12_tried_2 : decode cX12_tried 2 = .ok (.lconst 0, 1) := by decide +kernel
theorem dX12_tried_3 : decode cX12_tried 3 = .ok (.aload_n 0, 1) := by decide +kernel
theorem dX12_tried_4 : decode cX12_tried 4 = .ok (.getfield 452, 3) := by decide +kernel
theorem dX12_tried_7 : decode cX12_tried 7 = .ok (.iconst 1, 1) := by decide +kernel
theorem dX12_tried_8 : decode cX12_tried 8 = .ok (.isub, 1) := by decide +kernel
theorem dX12_tried_9 : decode cX12_tried 9 = .ok (.i2l, 1) := by decide +kernel
theorem dX12_tried_10 : decode cX12_tried 10 = .ok (.invokestatic 267, 3) := by decide +kernel
theorem dX12_tried_13 : decode cX12_tried 13 = .ok (.ifCond .ne 5, 3) := by decide +kernel
theorem dX12_tried_16 : decode cX12_tried 16 = .ok (.iconst (-1), 1) := by decide +kernel
theorem dX12_tried_17 : decode cX12_tried 17 = .ok (.ireturn, 1) := by decide +kernel
theorem dX12_tried_18 : decode cX12_tried 18 = .ok (.iload_n 2, 1) := by decide +kernel
theorem dX12_tried_19 : decode cX12_tried 19 = .ok (.tableswitch 184 0 11 #[61, 68, 78, 88, 95, 102, 109, 124, 131, 145, 162, 177], 61) := by decide +kernel
theorem dX12_tried_80 : decode cX12_tried 80 = .ok (.aload_n 0, 1) := by decide +kernel
theorem dX12_tried_81 : decode cX12_tried 81 = .ok (.getfield 179, 3) := by decide +kernel
theorem dX12_tried_84 : decode cX12_tried 84 = .ok (.iload_n 1, 1) := by decide +kernel
theorem dX12_tried_85 : decode cX12_tried 85 = .ok (.iaload, 1) := by decide +kernel
theorem dX12_tried_86 : decode cX12_tried 86 = .ok (.ireturn, 1) := by decide +kernel
theorem dX12_tried_87 : decode cX12_tried 87 = .ok (.aload_n 0, 1) := by decide +kernel
theorem dX12_tried_88 : decode cX12_tried 88 = .ok (.getfield 182, 3) := by decide +kernel
theorem dX12_tried_91 : decode cX12_tried 91 = .ok (.iload_n 1, 1) := by decide +kernel
theorem dX12_tried_92 : decode cX12_tried 92 = .ok (.iaload, 1) := by decide +kernel
theorem dX12_tried_93 : decode cX12_tried 93 = .ok (.bipush 12, 2) := by decide +kernel
theorem dX12_tried_95 : decode cX12_tried 95 = .ok (.irem, 1) := by decide +kernel
theorem dX12_tried_96 : decode cX12_tried 96 = .ok (.ireturn, 1) := by decide +kernel
theorem dX12_tried_97 : decode cX12_tried 97 = .ok (.aload_n 0, 1) := by decide +kernel
theorem dX12_tried_98 : decode cX12_tried 98 = .ok (.getfield 182, 3) := by decide +kernel
theorem dX12_tried_101 : decode cX12_tried 101 = .ok (.iload_n 1, 1) := by decide +kernel
theorem dX12_tried_102 : decode cX12_tried 102 = .ok (.iaload, 1) := by decide +kernel
theorem dX12_tried_103 : decode cX12_tried 103 = .ok (.bipush 12, 2) := by decide +kernel
theorem dX12_tried_105 : decode cX12_tried 105 = .ok (.idiv, 1) := by decide +kernel
theorem dX12_tried_106 : decode cX12_tried 106 = .ok (.ireturn, 1) := by decide +kernel
theorem dX12_tried_107 : decode cX12_tried 107 = .ok (.aload_n 0, 1) := by decide +kernel
theorem dX12_tried_108 : decode cX12_tried 108 = .ok (.getfield 185, 3) := by decide +kernel
theorem dX12_tried_111 : decode cX12_tried 111 = .ok (.iload_n 1, 1) := by decide +kernel
theorem dX12_tried_112 : decode cX12_tried 112 = .ok (.iaload, 1) := by decide +kernel
theorem dX12_tried_113 : decode cX12_tried 113 = .ok (.ireturn, 1) := by decide +kernel
theorem dX12_tried_114 : decode cX12_tried 114 = .ok (.aload_n 0, 1) := by decide +kernel
theorem dX12_tried_115 : decode cX12_tried 115 = .ok (.getfield 188, 3) := by decide +kernel
theorem dX12_tried_118 : decode cX12_tried 118 = .ok (.iload_n 1, 1) := by decide +kernel
theorem dX12_tried_119 : decode cX12_tried 119 = .ok (.iaload, 1) := by decide +kernel
theorem dX12_tried_120 : decode cX12_tried 120 = .ok (.ireturn, 1) := by decide +kernel
theorem dX12_tried_121 : decode cX12_tried 121 = .ok (.aload_n 0, 1) := by decide +kernel
theorem dX12_tried_122 : decode cX12_tried 122 = .ok (.getfield 191, 3) := by decide +kernel
theorem dX12_tried_125 : decode cX12_tried 125 = .ok (.iload_n 1, 1) := by decide +kernel
theorem dX12_tried_126 : decode cX12_tried 126 = .ok (.iaload, 1) := by decide +kernel
theorem dX12_tried_127 : decode cX12_tried 127 = .ok (.ireturn, 1) := by decide +kernel
theorem dX12_tried_128 : decode cX12_tried 128 = .ok (.aload_n 0, 1) := by decide +kernel
theorem dX12_tried_129 : decode cX12_tried 129 = .ok (.getfield 194, 3) := by decide +kernel
theorem dX12_tried_132 : decode cX12_tried 132 = .ok (.iload_n 1, 1) := by decide +kernel
theorem dX12_tried_133 : decode cX12_tried 133 = .ok (.baload, 1) := by decide +kernel
theorem dX12_tried_134 : decode cX12_tried 134 = .ok (.ifCond .eq 7, 3) := by decide +kernel
theorem dX12_tried_137 : decode cX12_tried 137 = .ok (.iconst 1, 1) := by decide +kernel
theorem dX12_tried_138 : decode cX12_tried 138 = .ok (.goto 4, 3) := by decide +kernel
theorem dX12_tried_141 : decode cX12_tried 141 = .ok (.iconst 0, 1) := by decide +kernel
theorem dX12_tried_142 : decode cX12_tried 142 = .ok (.ireturn, 1) := by decide +kernel
theorem dX12_tried_143 : decode cX12_tried 143 = .ok (.aload_n 0, 1) := by decide +kernel
theorem dX12_tried_144 : decode cX12_tried 144 = .ok (.getfield 203, 3) := by decide +kernel
theorem dX12_tried_147 : decode cX12_tried 147 = .ok (.iload_n 1, 1) := by decide +kernel
theorem dX12_tried_148 : decode cX12_tried 148 = .ok (.iaload, 1) := by decide +kernel
theorem dX12_tried_149 : decode cX12_tried 149 = .ok (.ireturn, 1) := by decide +kernel
theorem dX12_tried_150 : decode cX12_tried 150 = .ok (.aload_n 0, 1) := by decide +kernel
theorem dX12_tried_151 : decode cX12_tried 151 = .ok (.iload_n 1, 1) := by decide +kernel
theorem dX12_tried_152 : decode cX12_tried 152 = .ok (.invokevirtual 570, 3) := by decide +kernel
theorem dX12_tried_155 : decode cX12_tried 155 = .ok (.ifCond .eq 7, 3) := by decide +kernel
theorem dX12_tried_158 : decode cX12_tried 158 = .ok (.iconst 1, 1) := by decide +kernel
theorem dX12_tried_159 : decode cX12_tried 159 = .ok (.goto 4, 3) := by decide +kernel
theorem dX12_tried_162 : decode cX12_tried 162 = .ok (.iconst 0, 1) := by decide +kernel
theorem dX12_tried_163 : decode cX12_tried 163 = .ok (.ireturn, 1) := by decide +kernel
theorem dX12_tried_164 : decode cX12_tried 164 = .ok (.aload_n 0, 1) := by decide +kernel
theorem dX12_tried_165 : decode cX12_tried 165 = .ok (.aload_n 0, 1) := by decide +kernel
theorem dX12_tried_166 : decode cX12_tried 166 = .ok (.getfield 182, 3) := by decide +kernel
theorem dX12_tried_169 : decode cX12_tried 169 = .ok (.iload_n 1, 1) := by decide +kernel
theorem dX12_tried_170 : decode cX12_tried 170 = .ok (.iaload, 1) := by decide +kernel
theorem dX12_tried_171 : decode cX12_tried 171 = .ok (.aload_n 0, 1) := by decide +kernel
theorem dX12_tried_172 : decode cX12_tried 172 = .ok (.getfield 185, 3) := by decide +kernel
theorem dX12_tried_175 : decode cX12_tried 175 = .ok (.iload_n 1, 1) := by decide +kernel
theorem dX12_tried_176 : decode cX12_tried 176 = .ok (.iaload, 1) := by decide +kernel
theorem dX12_tried_177 : decode cX12_tried 177 = .ok (.invokevirtual 531, 3) := by decide +kernel
theorem dX12_tried_180 : decode cX12_tried 180 = .ok (.ireturn, 1) := by decide +kernel
theorem dX12_tried_181 : decode cX12_tried 181 = .ok (.aload_n 0, 1) := by decide +kernel
theorem dX12_tried_182 : decode cX12_tried 182 = .ok (.getfield 197, 3) := by decide +kernel
theorem dX12_tried_185 : decode cX12_tried 185 = .ok (.iload_n 1, 1) := by decide +kernel
theorem dX12_tried_186 : decode cX12_tried 186 = .ok (.baload, 1) := by decide +kernel
theorem dX12_tried_187 : decode cX12_tried 187 = .ok (.ifCond .eq 7, 3) := by decide +kernel
theorem dX12_tried_190 : decode cX12_tried 190 = .ok (.iconst 1, 1) := by decide +kernel
theorem dX12_tried_191 : decode cX12_tried 191 = .ok (.goto 4, 3) := by decide +kernel
theorem dX12_tried_194 : decode cX12_tried 194 = .ok (.iconst 0, 1) := by decide +kernel
theorem dX12_tried_195 : decode cX12_tried 195 = .ok (.ireturn, 1) := by decide +kernel
theorem dX12_tried_196 : decode cX12_tried 196 = .ok (.aload_n 0, 1) := by decide +kernel
theorem dX12_tried_197 : decode cX12_tried 197 = .ok (.getfield 200, 3) := by decide +kernel
theorem dX12_tried_200 : decode cX12_tried 200 = .ok (.iload_n 1, 1) := by decide +kernel
theorem dX12_tried_201 : decode cX12_tried 201 = .ok (.iaload, 1) := by decide +kernel
theorem dX12_tried_202 : decode cX12_tried 202 = .ok (.ireturn, 1) := by decide +kernel
theorem dX12_tried_203 : decode cX12_tried 203 = .ok (.iconst (-1), 1) := by decide +kernel
theorem dX12_tried_204 : decode cX12_tried 204 = .ok (.ireturn, 1) := by decide +kernel
set_option maxRecDepth 100000 in
theorem m_X12_tried {g : GT} {n nf : Int} (hu : Up false nf n) (M : Mem) (a1 a2 : Int) : AM g false yX12_tried cX12_tried 3 (some .int) (1) n n nf [(2, 337), (0, a1), (0, a2)] M (f_X12_tried M a1 a2) := by
  refine AM_of (by decide +kernel) (Nat.le_of_ble_eq_true rfl) (fun h => absurd h (Int.lt_irrefl n)) ?_
  show AW g false RX12 cX12_tried 3 (some .int) (1) n n nf 0 [(0, 2, 337), (1, 0, a1), (2, 0, a2)] [] n M (f_X12_tried M a1 a2)
  unfold f_X12_tried
  refine r_iload_n 1 dX12_tried_0 rfl rfl ?_
  refine r_i2l dX12_tried_1 ?_
  refine r_lconst (v := 0) dX12_tried_2 (by decide) ⟨by decide, by decide⟩ ?_
  refine r_aload_n 0 dX12_tried_3 rfl rfl ?_
  refine r_gf (t := 0) (kz := 79) rfl hu dX12_tried_4 kF_X12_452 kd_337 rfl rfl rfl ?_
  refine r_iconst dX12_tried_7 ⟨by decide, by decide⟩ ?_
  refine r_ok (fun h1 => ?_)
  refine r_isub dX12_tried_8 h1 ?_
  refine r_i2l dX12_tried_9 ?_
  refine r_ins (a := 0) ⟨Nat.le_refl _, Nat.le_refl _⟩ dX12_tried_10 kM_X12_267 (by decide) (by decide) [(1, a1), (1, 0), (1, (M 337 79) - 1)] rfl (sk := []) rfl (Nat.le_of_ble_eq_true rfl) rfl rfl (m_X12_isIn hu M a1 0 ((M 337 79) - 1)) (fun r2 M3 => ?_)
  refine r_if_ne (tgt := 18) dX12_tried_13 rfl (fun h4 => ?_) (fun h5 => ?_)
  · refine r_iconst dX12_tried_16 ⟨by decide, by decide⟩ ?_
    exact r_iret rfl rfl (Or.inl rfl) dX12_tried_17
  · refine r_iload_n 2 dX12_tried_18 rfl rfl ?_
    refine r_tsw (tgt := 80) 0 dX12_tried_19 ⟨by decide, by decide⟩ rfl rfl (fun h6 => ?_) (fun h7 => ?_)
    · refine r_aload_n 0 dX12_tried_80 rfl rfl ?_
      refine r_gx (kz := 80) rfl hu dX12_tried_81 kF_X12_179 kd_337 rfl rfl rfl fx_337_80 ?_
      refine r_iload_n 1 dX12_tried_84 rfl rfl ?_
      refine r_ok (fun h8 => ?_)
      refine r_iald hu dX12_tried_85 kd_392 rfl (Or.inl rfl) rfl ln_392 h8 ?_
      exact r_iret rfl rfl (Or.inl rfl) dX12_tried_86
    · refine r_tsw (tgt := 87) 1 dX12_tried_19 ⟨by decide, by decide⟩ rfl rfl (fun h9 => ?_) (fun h10 => ?_)
      · refine r_aload_n 0 dX12_tried_87 rfl rfl ?_
        refine r_gx (kz := 81) rfl hu dX12_tried_88 kF_X12_182 kd_337 rfl rfl rfl fx_337_81 ?_
        refine r_iload_n 1 dX12_tried_91 rfl rfl ?_
        refine r_ok (fun h11 => ?_)
        refine r_iald hu dX12_tried_92 kd_393 rfl (Or.inl rfl) rfl ln_393 h11 ?_
        refine r_bipush dX12_tried_93 (by decide) ⟨by decide, by decide⟩ ?_
        refine r_ok (fun h12 => ?_)
        refine r_iremP dX12_tried_95 ⟨h12, by decide⟩ ?_
        exact r_iret rfl rfl (Or.inl rfl) dX12_tried_96
      · refine r_tsw (tgt := 97) 2 dX12_tried_19 ⟨by decide, by decide⟩ rfl rfl (fun h13 => ?_) (fun h14 => ?_)
        · refine r_aload_n 0 dX12_tried_97 rfl rfl ?_
          refine r_gx (kz := 81) rfl hu dX12_tried_98 kF_X12_182 kd_337 rfl rfl rfl fx_337_81 ?_
          refine r_iload_n 1 dX12_tried_101 rfl rfl ?_
          refine r_ok (fun h15 => ?_)
          refine r_iald hu dX12_tried_102 kd_393 rfl (Or.inl rfl) rfl ln_393 h15 ?_
          refine r_bipush dX12_tried_103 (by decide) ⟨by decide, by decide⟩ ?_
          refine r_ok (fun h16 => ?_)
          refine r_idivP dX12_tried_105 ⟨h16, by decide⟩ ?_
          exact r_iret rfl rfl (Or.inl rfl) dX12_tried_106
        · refine r_tsw (tgt := 107) 3 dX12_tried_19 ⟨by decide, by decide⟩ rfl rfl (fun h17 => ?_) (fun h18 => ?_)
          · refine r_aload_n 0 dX12_tried_107 rfl rfl ?_
            refine r_gx (kz := 82) rfl hu dX12_tried_108 kF_X12_185 kd_337 rfl rfl rfl fx_337_82 ?_
            refine r_iload_n 1 dX12_tried_111 rfl rfl ?_
            refine r_ok (fun h19 => ?_)
            refine r_iald hu dX12_tried_112 kd_394 rfl (Or.inl rfl) rfl ln_394 h19 ?_
            exact r_iret rfl rfl (Or.inl rfl) dX12_tried_113
          · refine r_tsw (tgt := 114) 4 dX12_tried_19 ⟨by decide, by decide⟩ rfl rfl (fun h20 => ?_) (fun h21 => ?_)
            · refine r_aload_n 0 dX12_tried_114 rfl rfl ?_
              refine r_gx (kz := 83) rfl hu dX12_tried_115 kF_X12_188 kd_337 rfl rfl rfl fx_337_83 ?_
              refine r_iload_n 1 dX12_tried_118 rfl rfl ?_
              refine r_ok (fun h22 => ?_)
              refine r_iald hu dX12_tried_119 kd_395 rfl (Or.inl rfl) rfl ln_395 h22 ?_
              exact r_iret rfl rfl (Or.inl rfl) dX12_tried_120
            · refine r_tsw (tgt := 121) 5 dX12_tried_19 ⟨by decide, by decide⟩ rfl rfl (fun h23 => ?_) (fun h24 => ?_)
              · refine r_aload_n 0 dX12_tried_121 rfl rfl ?_
                refine r_gx (kz := 84) rfl hu dX12_tried_122 kF_X12_191 kd_337 rfl rfl rfl fx_337_84 ?_
                refine r_iload_n 1 dX12_tried_125 rfl rfl ?_
                refine r_ok (fun h25 => ?_)
                refine r_iald hu dX12_tried_126 kd_396 rfl (Or.inl rfl) rfl ln_396 h25 ?_
                exact r_iret rfl rfl (Or.inl rfl) dX12_tried_127
              · refine r_tsw (tgt := 128) 6 dX12_tried_19 ⟨by decide, by decide⟩ rfl rfl (fun h26 => ?_) (fun h27 => ?_)
                · refine r_aload_n 0 dX12_tried_128 rfl rfl ?_
                  refine r_gx (kz := 85) rfl hu dX12_tried_129 kF_X12_194 kd_337 rfl rfl rfl fx_337_85 ?_
                  refine r_iload_n 1 dX12_tried_132 rfl rfl ?_
                  refine r_ok (fun h28 => ?_)
                  refine r_zald hu dX12_tried_133 kd_397 rfl rfl rfl ln_397 h28 ?_
                  refine r_if_eq (tgt := 141) dX12_tried_134 rfl (fun h29 => ?_) (fun h30 => ?_)
                  · refine r_iconst dX12_tried_141 ⟨by decide, by decide⟩ ?_
                    exact r_iret rfl rfl (Or.inl rfl) dX12_tried_142
                  · refine r_iconst dX12_tried_137 ⟨by decide, by decide⟩ ?_
                    refine r_goto (tgt := 142) dX12_tried_138 rfl ?_
                    exact r_iret rfl rfl (Or.inl rfl) dX12_tried_142
                · refine r_tsw (tgt := 143) 7 dX12_tried_19 ⟨by decide, by decide⟩ rfl rfl (fun h31 => ?_) (fun h32 => ?_)
                  · refine r_aload_n 0 dX12_tried_143 rfl rfl ?_
                    refine r_gx (kz := 88) rfl hu dX12_tried_144 kF_X12_203 kd_337 rfl rfl rfl fx_337_88 ?_
                    refine r_iload_n 1 dX12_tried_147 rfl rfl ?_
                    refine r_ok (fun h33 => ?_)
                    refine r_iald hu dX12_tried_148 kd_400 rfl (Or.inl rfl) rfl ln_400 h33 ?_
                    exact r_iret rfl rfl (Or.inl rfl) dX12_tried_149
                  · refine r_tsw (tgt := 150) 8 dX12_tried_19 ⟨by decide, by decide⟩ rfl rfl (fun h34 => ?_) (fun h35 => ?_)
                    · refine r_aload_n 0 dX12_tried_150 rfl rfl ?_
                      refine r_iload_n 1 dX12_tried_151 rfl rfl ?_
                      refine r_inv (a := 337) hu ⟨Nat.le_refl _, Nat.le_refl _⟩ dX12_tried_152 kM_X12_570 (ci := 12) rfl kd_337 rfl rfl (by decide) (by decide) [(0, a1)] rfl (sk := []) rfl (Nat.le_of_ble_eq_true rfl) rfl rfl (m_X12_isRight hu M3 a1) (fun r36 M37 => ?_)
                      refine r_if_eq (tgt := 162) dX12_tried_155 rfl (fun h38 => ?_) (fun h39 => ?_)
                      · refine r_iconst dX12_tried_162 ⟨by decide, by decide⟩ ?_
                        exact r_iret rfl rfl (Or.inl rfl) dX12_tried_163
                      · refine r_iconst dX12_tried_158 ⟨by decide, by decide⟩ ?_
                        refine r_goto (tgt := 163) dX12_tried_159 rfl ?_
                        exact r_iret rfl rfl (Or.inl rfl) dX12_tried_163
                    · refine r_tsw (tgt := 164) 9 dX12_tried_19 ⟨by decide, by decide⟩ rfl rfl (fun h40 => ?_) (fun h41 => ?_)
                      · refine r_aload_n 0 dX12_tried_164 rfl rfl ?_
                        refine r_aload_n 0 dX12_tried_165 rfl rfl ?_
                        refine r_gx (kz := 81) rfl hu dX12_tried_166 kF_X12_182 kd_337 rfl rfl rfl fx_337_81 ?_
                        refine r_iload_n 1 dX12_tried_169 rfl rfl ?_
                        refine r_ok (fun h42 => ?_)
                        refine r_iald hu dX12_tried_170 kd_393 rfl (Or.inl rfl) rfl ln_393 h42 ?_
                        refine r_aload_n 0 dX12_tried_171 rfl rfl ?_
                        refine r_gx (kz := 82) rfl hu dX12_tried_172 kF_X12_185 kd_337 rfl rfl rfl fx_337_82 ?_
                        refine r_iload_n 1 dX12_tried_175 rfl rfl ?_
                        refine r_iald hu dX12_tried_176 kd_394 rfl (Or.inl rfl) rfl ln_394 h42 ?_
                        refine r_inv (a := 337) hu ⟨Nat.le_refl _, Nat.le_refl _⟩ dX12_tried_177 kM_X12_531 (ci := 12) rfl kd_337 rfl rfl (by decide) (by decide) [(0, M3 393 a1), (0, M3 394 a1)] rfl (sk := []) rfl (Nat.le_of_ble_eq_true rfl) rfl rfl (m_X12_lightAt hu M3 (M3 393 a1) (M3 394 a1)) (fun r43 M44 => ?_)
                        exact r_iret rfl rfl (Or.inl rfl) dX12_tried_180
                      · refine r_tsw (tgt := 181) 10 dX12_tried_19 ⟨by decide, by decide⟩ rfl rfl (fun h45 => ?_) (fun h46 => ?_)
                        · refine r_aload_n 0 dX12_tried_181 rfl rfl ?_
                          refine r_gx (kz := 86) rfl hu dX12_tried_182 kF_X12_197 kd_337 rfl rfl rfl fx_337_86 ?_
                          refine r_iload_n 1 dX12_tried_185 rfl rfl ?_
                          refine r_ok (fun h47 => ?_)
                          refine r_zald hu dX12_tried_186 kd_398 rfl rfl rfl ln_398 h47 ?_
                          refine r_if_eq (tgt := 194) dX12_tried_187 rfl (fun h48 => ?_) (fun h49 => ?_)
                          · refine r_iconst dX12_tried_194 ⟨by decide, by decide⟩ ?_
                            exact r_iret rfl rfl (Or.inl rfl) dX12_tried_195
                          · refine r_iconst dX12_tried_190 ⟨by decide, by decide⟩ ?_
                            refine r_goto (tgt := 195) dX12_tried_191 rfl ?_
                            exact r_iret rfl rfl (Or.inl rfl) dX12_tried_195
                        · refine r_tsw (tgt := 196) 11 dX12_tried_19 ⟨by decide, by decide⟩ rfl rfl (fun h50 => ?_) (fun h51 => ?_)
                          · refine r_aload_n 0 dX12_tried_196 rfl rfl ?_
                            refine r_gx (kz := 87) rfl hu dX12_tried_197 kF_X12_200 kd_337 rfl rfl rfl fx_337_87 ?_
                            refine r_iload_n 1 dX12_tried_200 rfl rfl ?_
                            refine r_ok (fun h52 => ?_)
                            refine r_iald hu dX12_tried_201 kd_399 rfl (Or.inl rfl) rfl ln_399 h52 ?_
                            exact r_iret rfl rfl (Or.inl rfl) dX12_tried_202
                          · refine r_tswd (tgt := 203) dX12_tried_19 (by omega) rfl ?_
                            refine r_iconst dX12_tried_203 ⟨by decide, by decide⟩ ?_
                            exact r_iret rfl rfl (Or.inl rfl) dX12_tried_204
theorem dX12_isGone_0 : decode cX12_isGone 0 = .ok (.aload_n 0, 1) := by decide +kernel
theorem dX12_isGone_1 : decode cX12_isGone 1 = .ok (.getfield 167, 3) := by decide +kernel
theorem dX12_isGone_4 : decode cX12_isGone 4 = .ok (.aload_n 0, 1) := by decide +kernel
theorem dX12_isGone_5 : decode cX12_isGone 5 = .ok (.getfield 182, 3) := by decide +kernel
theorem dX12_isGone_8 : decode cX12_isGone 8 = .ok (.iload_n 1, 1) := by decide +kernel
theorem dX12_isGone_9 : decode cX12_isGone 9 = .ok (.iaload, 1) := by decide +kernel
theorem dX12_isGone_10 : decode cX12_isGone 10 = .ok (.iaload, 1) := by decide +kernel
theorem dX12_isGone_11 : decode cX12_isGone 11 = .ok (.ifCond .ne 22, 3) := by decide +kernel
theorem dX12_isGone_14 : decode cX12_isGone 14 = .ok (.aload_n 0, 1) := by decide +kernel
theorem dX12_isGone_15 : decode cX12_isGone 15 = .ok (.getfield 182, 3) := by decide +kernel
theorem dX12_isGone_18 : decode cX12_isGone 18 = .ok (.iload_n 1, 1) := by decide +kernel
theorem dX12_isGone_19 : decode cX12_isGone 19 = .ok (.iaload, 1) := by decide +kernel
theorem dX12_isGone_20 : decode cX12_isGone 20 = .ok (.aload_n 0, 1) := by decide +kernel
theorem dX12_isGone_21 : decode cX12_isGone 21 = .ok (.getfield 128, 3) := by decide +kernel
theorem dX12_isGone_24 : decode cX12_isGone 24 = .ok (.iconst 1, 1) := by decide +kernel
theorem dX12_isGone_25 : decode cX12_isGone 25 = .ok (.iaload, 1) := by decide +kernel
theorem dX12_isGone_26 : decode cX12_isGone 26 = .ok (.if_icmp .eq 7, 3) := by decide +kernel
theorem dX12_isGone_29 : decode cX12_isGone 29 = .ok (.iconst 1, 1) := by decide +kernel
theorem dX12_isGone_30 : decode cX12_isGone 30 = .ok (.goto 4, 3) := by decide +kernel
theorem dX12_isGone_33 : decode cX12_isGone 33 = .ok (.iconst 0, 1) := by decide +kernel
theorem dX12_isGone_34 : decode cX12_isGone 34 = .ok (.ireturn, 1) := by decide +kernel
set_option maxRecDepth 100000 in
theorem m_X12_isGone {g : GT} {n nf : Int} (hu : Up false nf n) (M : Mem) (a1 : Int) : AM g false yX12_isGone cX12_isGone 2 (some .boolean) (0) n n nf [(2, 337), (0, a1)] M (f_X12_isGone M a1) := by
  refine AM_of (by decide +kernel) (Nat.le_of_ble_eq_true rfl) (fun h => absurd h (Int.lt_irrefl n)) ?_
  show AW g false RX12 cX12_isGone 2 (some .boolean) (0) n n nf 0 [(0, 2, 337), (1, 0, a1)] [] n M (f_X12_isGone M a1)
  unfold f_X12_isGone
  refine r_aload_n 0 dX12_isGone_0 rfl rfl ?_
  refine r_gx (kz := 74) rfl hu dX12_isGone_1 kF_X12_167 kd_337 rfl rfl rfl fx_337_74 ?_
  refine r_aload_n 0 dX12_isGone_4 rfl rfl ?_
  refine r_gx (kz := 81) rfl hu dX12_isGone_5 kF_X12_182 kd_337 rfl rfl rfl fx_337_81 ?_
  refine r_iload_n 1 dX12_isGone_8 rfl rfl ?_
  refine r_ok (fun h1 => ?_)
  refine r_iald hu dX12_isGone_9 kd_393 rfl (Or.inl rfl) rfl ln_393 h1 ?_
  refine r_ok (fun h2 => ?_)
  refine r_iald hu dX12_isGone_10 kd_388 rfl (Or.inl rfl) rfl ln_388 h2 ?_
  refine r_if_ne (tgt := 33) dX12_isGone_11 rfl (fun h3 => ?_) (fun h4 => ?_)
  · refine r_aload_n 0 dX12_isGone_14 rfl rfl ?_
    refine r_gx (kz := 81) rfl hu dX12_isGone_15 kF_X12_182 kd_337 rfl rfl rfl fx_337_81 ?_
    refine r_iload_n 1 dX12_isGone_18 rfl rfl ?_
    refine r_iald hu dX12_isGone_19 kd_393 rfl (Or.inl rfl) rfl ln_393 h1 ?_
    refine r_aload_n 0 dX12_isGone_20 rfl rfl ?_
    refine r_gx (kz := 50) rfl hu dX12_isGone_21 kF_X12_128 kd_337 rfl rfl rfl fx_337_50 ?_
    refine r_iconst dX12_isGone_24 ⟨by decide, by decide⟩ ?_
    refine r_iald hu dX12_isGone_25 kd_375 rfl (Or.inl rfl) rfl ln_375 ⟨by decide, by decide⟩ ?_
    refine r_icmp_eq (tgt := 33) dX12_isGone_26 rfl (fun h5 => ?_) (fun h6 => ?_)
    · refine r_iconst dX12_isGone_33 ⟨by decide, by decide⟩ ?_
      exact r_iret rfl rfl (Or.inr ⟨rfl, Or.inl rfl⟩) dX12_isGone_34
    · refine r_iconst dX12_isGone_29 ⟨by decide, by decide⟩ ?_
      refine r_goto (tgt := 34) dX12_isGone_30 rfl ?_
      exact r_iret rfl rfl (Or.inr ⟨rfl, Or.inr rfl⟩) dX12_isGone_34
  · refine r_iconst dX12_isGone_33 ⟨by decide, by decide⟩ ?_
    exact r_iret rfl rfl (Or.inr ⟨rfl, Or.inl rfl⟩) dX12_isGone_34
theorem dX12_isWhere_0 : decode cX12_isWhere 0 = .ok (.iload_n 2, 1) := by decide +kernel
theorem dX12_isWhere_1 : decode cX12_isWhere 1 = .ok (.tableswitch 151 0 8 #[51, 53, 60, 75, 81, 102, 117, 128, 144], 51) := by decide +kernel
theorem dX12_isWhere_52 : decode cX12_isWhere 52 = .ok (.iconst 1, 1) := by decide +kernel
theorem dX12_isWhere_53 : decode cX12_isWhere 53 = .ok (.ireturn, 1) := by decide +kernel
theorem dX12_isWhere_54 : decode cX12_isWhere 54 = .ok (.aload_n 0, 1) := by decide +kernel
theorem dX12_isWhere_55 : decode cX12_isWhere 55 = .ok (.getfield 194, 3) := by decide +kernel
theorem dX12_isWhere_58 : decode cX12_isWhere 58 = .ok (.iload_n 1, 1) := by decide +kernel
theorem dX12_isWhere_59 : decode cX12_isWhere 59 = .ok (.baload, 1) := by decide +kernel
theorem dX12_isWhere_60 : decode cX12_isWhere 60 = .ok (.ireturn, 1) := by decide +kernel
theorem dX12_isWhere_61 : decode cX12_isWhere 61 = .ok (.aload_n 0, 1) := by decide +kernel
theorem dX12_isWhere_62 : decode cX12_isWhere 62 = .ok (.getfield 194, 3) := by decide +kernel
theorem dX12_isWhere_65 : decode cX12_isWhere 65 = .ok (.iload_n 1, 1) := by decide +kernel
theorem dX12_isWhere_66 : decode cX12_isWhere 66 = .ok (.baload, 1) := by decide +kernel
theorem dX12_isWhere_67 : decode cX12_isWhere 67 = .ok (.ifCond .ne 7, 3) := by decide +kernel
theorem dX12_isWhere_70 : decode cX12_isWhere 70 = .ok (.iconst 1, 1) := by decide +kernel
theorem dX12_isWhere_71 : decode cX12_isWhere 71 = .ok (.goto 4, 3) := by decide +kernel
theorem dX12_isWhere_74 : decode cX12_isWhere 74 = .ok (.iconst 0, 1) := by decide +kernel
theorem dX12_isWhere_75 : decode cX12_isWhere 75 = .ok (.ireturn, 1) := by decide +kernel
theorem dX12_isWhere_76 : decode cX12_isWhere 76 = .ok (.aload_n 0, 1) := by decide +kernel
theorem dX12_isWhere_77 : decode cX12_isWhere 77 = .ok (.iload_n 1, 1) := by decide +kernel
theorem dX12_isWhere_78 : decode cX12_isWhere 78 = .ok (.invokevirtual 588, 3) := by decide +kernel
theorem dX12_isWhere_81 : decode cX12_isWhere 81 = .ok (.ireturn, 1) := by decide +kernel
theorem dX12_isWhere_82 : decode cX12_isWhere 82 = .ok (.aload_n 0, 1) := by decide +kernel
theorem dX12_isWhere_83 : decode cX12_isWhere 83 = .ok (.getfield 182, 3) := by decide +kernel
theorem dX12_isWhere_86 : decode cX12_isWhere 86 = .ok (.iload_n 1, 1) := by decide +kernel
theorem dX12_isWhere_87 : decode cX12_isWhere 87 = .ok (.iaload, 1) := by decide +kernel
theorem dX12_isWhere_88 : decode cX12_isWhere 88 = .ok (.aload_n 0, 1) := by decide +kernel
theorem dX12_isWhere_89 : decode cX12_isWhere 89 = .ok (.getfield 128, 3) := by decide +kernel
theorem dX12_isWhere_92 : decode cX12_isWhere 92 = .ok (.iconst 1, 1) := by decide +kernel
theorem dX12_isWhere_93 : decode cX12_isWhere 93 = .ok (.iaload, 1) := by decide +kernel
theorem dX12_isWhere_94 : decode cX12_isWhere 94 = .ok (.if_icmp .ne 7, 3) := by decide +kernel
theorem dX12_isWhere_97 : decode cX12_isWhere 97 = .ok (.iconst 1, 1) := by decide +kernel
theorem dX12_isWhere_98 : decode cX12_isWhere 98 = .ok (.goto 4, 3) := by decide +kernel
theorem dX12_isWhere_101 : decode cX12_isWhere 101 = .ok (.iconst 0, 1) := by decide +kernel
theorem dX12_isWhere_102 : decode cX12_isWhere 102 = .ok (.ireturn, 1) := by decide +kernel
theorem dX12_isWhere_103 : decode cX12_isWhere 103 = .ok (.aload_n 0, 1) := by decide +kernel
theorem dX12_isWhere_104 : decode cX12_isWhere 104 = .ok (.getfield 185, 3) := by decide +kernel
theorem dX12_isWhere_107 : decode cX12_isWhere 107 = .ok (.iload_n 1, 1) := by decide +kernel
theorem dX12_isWhere_108 : decode cX12_isWhere 108 = .ok (.iaload, 1) := by decide +kernel
theorem dX12_isWhere_109 : decode cX12_isWhere 109 = .ok (.ifCond .ne 7, 3) := by decide +kernel
theorem dX12_isWhere_112 : decode cX12_isWhere 112 = .ok (.iconst 1, 1) := by decide +kernel
theorem dX12_isWhere_113 : decode cX12_isWhere 113 = .ok (.goto 4, 3) := by decide +kernel
theorem dX12_isWhere_116 : decode cX12_isWhere 116 = .ok (.iconst 0, 1) := by decide +kernel
theorem dX12_isWhere_117 : decode cX12_isWhere 117 = .ok (.ireturn, 1) := by decide +kernel
theorem dX12_isWhere_118 : decode cX12_isWhere 118 = .ok (.aload_n 0, 1) := by decide +kernel
theorem dX12_isWhere_119 : decode cX12_isWhere 119 = .ok (.aload_n 0, 1) := by decide +kernel
theorem dX12_isWhere_120 : decode cX12_isWhere 120 = .ok (.getfield 182, 3) := by decide +kernel
theorem dX12_isWhere_123 : decode cX12_isWhere 123 = .ok (.iload_n 1, 1) := by decide +kernel
theorem dX12_isWhere_124 : decode cX12_isWhere 124 = .ok (.iaload, 1) := by decide +kernel
theorem dX12_isWhere_125 : decode cX12_isWhere 125 = .ok (.invokevirtual 579, 3) := by decide +kernel
theorem dX12_isWhere_128 : decode cX12_isWhere 128 = .ok (.ireturn, 1) := by decide +kernel
theorem dX12_isWhere_129 : decode cX12_isWhere 129 = .ok (.aload_n 0, 1) := by decide +kernel
theorem dX12_isWhere_130 : decode cX12_isWhere 130 = .ok (.getfield 203, 3) := by decide +kernel
theorem dX12_isWhere_133 : decode cX12_isWhere 133 = .ok (.iload_n 1, 1) := by decide +kernel
theorem dX12_isWhere_134 : decode cX12_isWhere 134 = .ok (.iaload, 1) := by decide +kernel
theorem dX12_isWhere_135 : decode cX12_isWhere 135 = .ok (.iconst 5, 1) := by decide +kernel
theorem dX12_isWhere_136 : decode cX12_isWhere 136 = .ok (.if_icmp .lt 7, 3) := by decide +kernel
theorem dX12_isWhere_139 : decode cX12_isWhere 139 = .ok (.iconst 1, 1) := by decide +kernel
theorem dX12_isWhere_140 : decode cX12_isWhere 140 = .ok (.goto 4, 3) := by decide +kernel
theorem dX12_isWhere_143 : decode cX12_isWhere 143 = .ok (.iconst 0, 1) := by decide +kernel
theorem dX12_isWhere_144 : decode cX12_isWhere 144 = .ok (.ireturn, 1) := by decide +kernel
theorem dX12_isWhere_145 : decode cX12_isWhere 145 = .ok (.aload_n 0, 1) := by decide +kernel
theorem dX12_isWhere_146 : decode cX12_isWhere 146 = .ok (.getfield 197, 3) := by decide +kernel
theorem dX12_isWhere_149 : decode cX12_isWhere 149 = .ok (.iload_n 1, 1) := by decide +kernel
theorem dX12_isWhere_150 : decode cX12_isWhere 150 = .ok (.baload, 1) := by decide +kernel
theorem dX12_isWhere_151 : decode cX12_isWhere 151 = .ok (.ireturn, 1) := by decide +kernel
theorem dX12_isWhere_152 : decode cX12_isWhere 152 = .ok (.aload_n 0, 1) := by decide +kernel
theorem dX12_isWhere_153 : decode cX12_isWhere 153 = .ok (.iload_n 1, 1) := by decide +kernel
theorem dX12_isWhere_154 : decode cX12_isWhere 154 = .ok (.invokevirtual 573, 3) := by decide +kernel
theorem dX12_isWhere_157 : decode cX12_isWhere 157 = .ok (.ireturn, 1) := by decide +kernel
set_option maxRecDepth 100000 in
theorem m_X12_isWhere {g : GT} {n nf : Int} (hu : Up false nf n) (M : Mem) (a1 a2 : Int) : AM g false yX12_isWhere cX12_isWhere 3 (some .boolean) (2) n n nf [(2, 337), (0, a1), (0, a2)] M (f_X12_isWhere M a1 a2) := by
  refine AM_of (by decide +kernel) (Nat.le_of_ble_eq_true rfl) (fun h => absurd h (Int.lt_irrefl n)) ?_
  show AW g false RX12 cX12_isWhere 3 (some .boolean) (2) n n nf 0 [(0, 2, 337), (1, 0, a1), (2, 0, a2)] [] n M (f_X12_isWhere M a1 a2)
  unfold f_X12_isWhere
  refine r_iload_n 2 dX12_isWhere_0 rfl rfl ?_
  refine r_tsw (tgt := 52) 0 dX12_isWhere_1 ⟨by decide, by decide⟩ rfl rfl (fun h1 => ?_) (fun h2 => ?_)
  · refine r_iconst dX12_isWhere_52 ⟨by decide, by decide⟩ ?_
    exact r_iret rfl rfl (Or.inr ⟨rfl, Or.inr rfl⟩) dX12_isWhere_53
  · refine r_tsw (tgt := 54) 1 dX12_isWhere_1 ⟨by decide, by decide⟩ rfl rfl (fun h3 => ?_) (fun h4 => ?_)
    · refine r_aload_n 0 dX12_isWhere_54 rfl rfl ?_
      refine r_gx (kz := 85) rfl hu dX12_isWhere_55 kF_X12_194 kd_337 rfl rfl rfl fx_337_85 ?_
      refine r_iload_n 1 dX12_isWhere_58 rfl rfl ?_
      refine r_ok (fun h5 => ?_)
      refine r_zald hu dX12_isWhere_59 kd_397 rfl rfl rfl ln_397 h5 ?_
      refine r_ok (fun h6 => ?_)
      exact r_iret rfl rfl (Or.inr ⟨rfl, h6⟩) dX12_isWhere_60
    · refine r_tsw (tgt := 61) 2 dX12_isWhere_1 ⟨by decide, by decide⟩ rfl rfl (fun h7 => ?_) (fun h8 => ?_)
      · refine r_aload_n 0 dX12_isWhere_61 rfl rfl ?_
        refine r_gx (kz := 85) rfl hu dX12_isWhere_62 kF_X12_194 kd_337 rfl rfl rfl fx_337_85 ?_
        refine r_iload_n 1 dX12_isWhere_65 rfl rfl ?_
        refine r_ok (fun h9 => ?_)
        refine r_zald hu dX12_isWhere_66 kd_397 rfl rfl rfl ln_397 h9 ?_
        refine r_if_ne (tgt := 74) dX12_isWhere_67 rfl (fun h10 => ?_) (fun h11 => ?_)
        · refine r_iconst dX12_isWhere_70 ⟨by decide, by decide⟩ ?_
          refine r_goto (tgt := 75) dX12_isWhere_71 rfl ?_
          exact r_iret rfl rfl (Or.inr ⟨rfl, Or.inr rfl⟩) dX12_isWhere_75
        · refine r_iconst dX12_isWhere_74 ⟨by decide, by decide⟩ ?_
          exact r_iret rfl rfl (Or.inr ⟨rfl, Or.inl rfl⟩) dX12_isWhere_75
      · refine r_tsw (tgt := 76) 3 dX12_isWhere_1 ⟨by decide, by decide⟩ rfl rfl (fun h12 => ?_) (fun h13 => ?_)
        · refine r_aload_n 0 dX12_isWhere_76 rfl rfl ?_
          refine r_iload_n 1 dX12_isWhere_77 rfl rfl ?_
          refine r_inv (a := 337) hu ⟨Nat.le_refl _, Nat.le_refl _⟩ dX12_isWhere_78 kM_X12_588 (ci := 12) rfl kd_337 rfl rfl (by decide) (by decide) [(0, a1)] rfl (sk := []) rfl (Nat.le_of_ble_eq_true rfl) rfl rfl (m_X12_isGone hu M a1) (fun r14 M15 => ?_)
          refine r_ok (fun h16 => ?_)
          exact r_iret rfl rfl (Or.inr ⟨rfl, h16⟩) dX12_isWhere_81
        · refine r_tsw (tgt := 82) 4 dX12_isWhere_1 ⟨by decide, by decide⟩ rfl rfl (fun h17 => ?_) (fun h18 => ?_)
          · refine r_aload_n 0 dX12_isWhere_82 rfl rfl ?_
            refine r_gx (kz := 81) rfl hu dX12_isWhere_83 kF_X12_182 kd_337 rfl rfl rfl fx_337_81 ?_
            refine r_iload_n 1 dX12_isWhere_86 rfl rfl ?_
            refine r_ok (fun h19 => ?_)
            refine r_iald hu dX12_isWhere_87 kd_393 rfl (Or.inl rfl) rfl ln_393 h19 ?_
            refine r_aload_n 0 dX12_isWhere_88 rfl rfl ?_
            refine r_gx (kz := 50) rfl hu dX12_isWhere_89 kF_X12_128 kd_337 rfl rfl rfl fx_337_50 ?_
            refine r_iconst dX12_isWhere_92 ⟨by decide, by decide⟩ ?_
            refine r_iald hu dX12_isWhere_93 kd_375 rfl (Or.inl rfl) rfl ln_375 ⟨by decide, by decide⟩ ?_
            refine r_icmp_ne (tgt := 101) dX12_isWhere_94 rfl (fun h20 => ?_) (fun h21 => ?_)
            · refine r_iconst dX12_isWhere_97 ⟨by decide, by decide⟩ ?_
              refine r_goto (tgt := 102) dX12_isWhere_98 rfl ?_
              exact r_iret rfl rfl (Or.inr ⟨rfl, Or.inr rfl⟩) dX12_isWhere_102
            · refine r_iconst dX12_isWhere_101 ⟨by decide, by decide⟩ ?_
              exact r_iret rfl rfl (Or.inr ⟨rfl, Or.inl rfl⟩) dX12_isWhere_102
          · refine r_tsw (tgt := 103) 5 dX12_isWhere_1 ⟨by decide, by decide⟩ rfl rfl (fun h22 => ?_) (fun h23 => ?_)
            · refine r_aload_n 0 dX12_isWhere_103 rfl rfl ?_
              refine r_gx (kz := 82) rfl hu dX12_isWhere_104 kF_X12_185 kd_337 rfl rfl rfl fx_337_82 ?_
              refine r_iload_n 1 dX12_isWhere_107 rfl rfl ?_
              refine r_ok (fun h24 => ?_)
              refine r_iald hu dX12_isWhere_108 kd_394 rfl (Or.inl rfl) rfl ln_394 h24 ?_
              refine r_if_ne (tgt := 116) dX12_isWhere_109 rfl (fun h25 => ?_) (fun h26 => ?_)
              · refine r_iconst dX12_isWhere_112 ⟨by decide, by decide⟩ ?_
                refine r_goto (tgt := 117) dX12_isWhere_113 rfl ?_
                exact r_iret rfl rfl (Or.inr ⟨rfl, Or.inr rfl⟩) dX12_isWhere_117
              · refine r_iconst dX12_isWhere_116 ⟨by decide, by decide⟩ ?_
                exact r_iret rfl rfl (Or.inr ⟨rfl, Or.inl rfl⟩) dX12_isWhere_117
            · refine r_tsw (tgt := 118) 6 dX12_isWhere_1 ⟨by decide, by decide⟩ rfl rfl (fun h27 => ?_) (fun h28 => ?_)
              · refine r_aload_n 0 dX12_isWhere_118 rfl rfl ?_
                refine r_aload_n 0 dX12_isWhere_119 rfl rfl ?_
                refine r_gx (kz := 81) rfl hu dX12_isWhere_120 kF_X12_182 kd_337 rfl rfl rfl fx_337_81 ?_
                refine r_iload_n 1 dX12_isWhere_123 rfl rfl ?_
                refine r_ok (fun h29 => ?_)
                refine r_iald hu dX12_isWhere_124 kd_393 rfl (Or.inl rfl) rfl ln_393 h29 ?_
                refine r_inv (a := 337) hu ⟨Nat.le_refl _, Nat.le_refl _⟩ dX12_isWhere_125 kM_X12_579 (ci := 12) rfl kd_337 rfl rfl (by decide) (by decide) [(0, M 393 a1)] rfl (sk := []) rfl (Nat.le_of_ble_eq_true rfl) rfl rfl (m_X12_isIsland hu M (M 393 a1)) (fun r30 M31 => ?_)
                refine r_ok (fun h32 => ?_)
                exact r_iret rfl rfl (Or.inr ⟨rfl, h32⟩) dX12_isWhere_128
              · refine r_tsw (tgt := 129) 7 dX12_isWhere_1 ⟨by decide, by decide⟩ rfl rfl (fun h33 => ?_) (fun h34 => ?_)
                · refine r_aload_n 0 dX12_isWhere_129 rfl rfl ?_
                  refine r_gx (kz := 88) rfl hu dX12_isWhere_130 kF_X12_203 kd_337 rfl rfl rfl fx_337_88 ?_
                  refine r_iload_n 1 dX12_isWhere_133 rfl rfl ?_
                  refine r_ok (fun h35 => ?_)
                  refine r_iald hu dX12_isWhere_134 kd_400 rfl (Or.inl rfl) rfl ln_400 h35 ?_
                  refine r_iconst dX12_isWhere_135 ⟨by decide, by decide⟩ ?_
                  refine r_icmp_lt (tgt := 143) dX12_isWhere_136 rfl (fun h36 => ?_) (fun h37 => ?_)
                  · refine r_iconst dX12_isWhere_143 ⟨by decide, by decide⟩ ?_
                    exact r_iret rfl rfl (Or.inr ⟨rfl, Or.inl rfl⟩) dX12_isWhere_144
                  · refine r_iconst dX12_isWhere_139 ⟨by decide, by decide⟩ ?_
                    refine r_goto (tgt := 144) dX12_isWhere_140 rfl ?_
                    exact r_iret rfl rfl (Or.inr ⟨rfl, Or.inr rfl⟩) dX12_isWhere_144
                · refine r_tsw (tgt := 145) 8 dX12_isWhere_1 ⟨by decide, by decide⟩ rfl rfl (fun h38 => ?_) (fun h39 => ?_)
                  · refine r_aload_n 0 dX12_isWhere_145 rfl rfl ?_
                    refine r_gx (kz := 86) rfl hu dX12_isWhere_146 kF_X12_197 kd_337 rfl rfl rfl fx_337_86 ?_
                    refine r_iload_n 1 dX12_isWhere_149 rfl rfl ?_
                    refine r_ok (fun h40 => ?_)
                    refine r_zald hu dX12_isWhere_150 kd_398 rfl rfl rfl ln_398 h40 ?_
                    refine r_ok (fun h41 => ?_)
                    exact r_iret rfl rfl (Or.inr ⟨rfl, h41⟩) dX12_isWhere_151
                  · refine r_tswd (tgt := 152) dX12_isWhere_1 (by omega) rfl ?_
                    refine r_aload_n 0 dX12_isWhere_152 rfl rfl ?_
                    refine r_iload_n 1 dX12_isWhere_153 rfl rfl ?_
                    refine r_inv (a := 337) hu ⟨Nat.le_refl _, Nat.le_refl _⟩ dX12_isWhere_154 kM_X12_573 (ci := 12) rfl kd_337 rfl rfl (by decide) (by decide) [(0, a1)] rfl (sk := []) rfl (Nat.le_of_ble_eq_true rfl) rfl rfl (m_X12_isLed hu M a1) (fun r42 M43 => ?_)
                    refine r_ok (fun h44 => ?_)
                    exact r_iret rfl rfl (Or.inr ⟨rfl, h44⟩) dX12_isWhere_157
theorem dX12_isOf_0 : decode cX12_isOf 0 = .ok (.iload_n 2, 1) := by decide +kernel
theorem dX12_isOf_1 : decode cX12_isOf 1 = .ok (.iconst (-1), 1) := by decide +kernel
theorem dX12_isOf_2 : decode cX12_isOf 2 = .ok (.if_icmp .eq 13, 3) := by decide +kernel
theorem dX12_isOf_5 : decode cX12_isOf 5 = .ok (.aload_n 0, 1) := by decide +kernel
theorem dX12_isOf_6 : decode cX12_isOf 6 = .ok (.getfield 179, 3) := by decide +kernel
theorem dX12_isOf_9 : decode cX12_isOf 9 = .ok (.iload_n 1, 1) := by decide +kernel
theorem dX12_isOf_10 : decode cX12_isOf 10 = .ok (.iaload, 1) := by decide +kernel
theorem dX12_isOf_11 : decode cX12_isOf 11 = .ok (.iload_n 2, 1) := by decide +kernel
theorem dX12_isOf_12 : decode cX12_isOf 12 = .ok (.if_icmp .ne 7, 3) := by decide +kernel
theorem dX12_isOf_15 : decode cX12_isOf 15 = .ok (.iconst 1, 1) := by decide +kernel
theorem dX12_isOf_16 : decode cX12_isOf 16 = .ok (.goto 4, 3) := by decide +kernel
theorem dX12_isOf_19 : decode cX12_isOf 19 = .ok (.iconst 0, 1) := by decide +kernel
theorem dX12_isOf_20 : decode cX12_isOf 20 = .ok (.ireturn, 1) := by decide +kernel
set_option maxRecDepth 100000 in
theorem m_X12_isOf {g : GT} {n nf : Int} (hu : Up false nf n) (M : Mem) (a1 a2 : Int) : AM g false yX12_isOf cX12_isOf 3 (some .boolean) (0) n n nf [(2, 337), (0, a1), (0, a2)] M (f_X12_isOf M a1 a2) := by
  refine AM_of (by decide +kernel) (Nat.le_of_ble_eq_true rfl) (fun h => absurd h (Int.lt_irrefl n)) ?_
  show AW g false RX12 cX12_isOf 3 (some .boolean) (0) n n nf 0 [(0, 2, 337), (1, 0, a1), (2, 0, a2)] [] n M (f_X12_isOf M a1 a2)
  unfold f_X12_isOf
  refine r_iload_n 2 dX12_isOf_0 rfl rfl ?_
  refine r_iconst dX12_isOf_1 ⟨by decide, by decide⟩ ?_
  refine r_icmp_eq (tgt := 15) dX12_isOf_2 rfl (fun h1 => ?_) (fun h2 => ?_)
  · refine r_iconst dX12_isOf_15 ⟨by decide, by decide⟩ ?_
    refine r_goto (tgt := 20) dX12_isOf_16 rfl ?_
    exact r_iret rfl rfl (Or.inr ⟨rfl, Or.inr rfl⟩) dX12_isOf_20
  · refine r_aload_n 0 dX12_isOf_5 rfl rfl ?_
    refine r_gx (kz := 80) rfl hu dX12_isOf_6 kF_X12_179 kd_337 rfl rfl rfl fx_337_80 ?_
    refine r_iload_n 1 dX12_isOf_9 rfl rfl ?_
    refine r_ok (fun h3 => ?_)
    refine r_iald hu dX12_isOf_10 kd_392 rfl (Or.inl rfl) rfl ln_392 h3 ?_
    refine r_iload_n 2 dX12_isOf_11 rfl rfl ?_
    refine r_icmp_ne (tgt := 19) dX12_isOf_12 rfl (fun h4 => ?_) (fun h5 => ?_)
    · refine r_iconst dX12_isOf_15 ⟨by decide, by decide⟩ ?_
      refine r_goto (tgt := 20) dX12_isOf_16 rfl ?_
      exact r_iret rfl rfl (Or.inr ⟨rfl, Or.inr rfl⟩) dX12_isOf_20
    · refine r_iconst dX12_isOf_19 ⟨by decide, by decide⟩ ?_
      exact r_iret rfl rfl (Or.inr ⟨rfl, Or.inl rfl⟩) dX12_isOf_20
theorem dX12_count_0 : decode cX12_count 0 = .ok (.iload_n 1, 1) := by decide +kernel
theorem dX12_count_1 : decode cX12_count 1 = .ok (.iconst (-1), 1) := by decide +kernel
theorem dX12_count_2 : decode cX12_count 2 = .ok (.if_icmp .eq 11, 3) := by decide +kernel
theorem dX12_count_5 : decode cX12_count 5 = .ok (.aload_n 0, 1) := by decide +kernel
theorem dX12_count_6 : decode cX12_count 6 = .ok (.iload_n 1, 1) := by decide +kernel
theorem dX12_count_7 : decode cX12_count 7 = .ok (.invokevirtual 489, 3) := by decide +kernel
theorem dX12_count_10 : decode cX12_count 10 = .ok (.ifCond .eq 15, 3) := by decide +kernel
theorem dX12_count_13 : decode cX12_count 13 = .ok (.iload_n 2, 1) := by decide +kernel
theorem dX12_count_14 : decode cX12_count 14 = .ok (.i2l, 1) := by decide +kernel
theorem dX12_count_15 : decode cX12_count 15 = .ok (.lconst 0, 1) := by decide +kernel
theorem dX12_count_16 : decode cX12_count 16 = .ok (.ldc2_w 560, 3) := by decide +kernel
theorem dX12_count_19 : decode cX12_count 19 = .ok (.invokestatic 267, 3) := by decide +kernel
theorem dX12_count_22 : decode cX12_count 22 = .ok (.ifCond .ne 5, 3) := by decide +kernel
theorem dX12_count_25 : decode cX12_count 25 = .ok (.iconst (-1), 1) := by decide +kernel
theorem dX12_count_26 : decode cX12_count 26 = .ok (.ireturn, 1) := by decide +kernel
theorem dX12_count_27 : decode cX12_count 27 = .ok (.iconst 0, 1) := by decide +kernel
theorem dX12_count_28 : decode cX12_count 28 = .ok (.istore 4, 2) := by decide +kernel
theorem dX12_count_30 : decode cX12_count 30 = .ok (.iconst 0, 1) := by decide +kernel
theorem dX12_count_31 : decode cX12_count 31 = .ok (.istore 5, 2) := by decide +kernel
theorem dX12_count_33 : decode cX12_count 33 = .ok (.iload 5, 2) := by decide +kernel
theorem dX12_count_35 : decode cX12_count 35 = .ok (.aload_n 0, 1) := by decide +kernel
theorem dX12_count_36 : decode cX12_count 36 = .ok (.getfield 452, 3) := by decide +kernel
theorem dX12_count_39 : decode cX12_count 39 = .ok (.if_icmp .ge 45, 3) := by decide +kernel
theorem dX12_count_42 : decode cX12_count 42 = .ok (.aload_n 0, 1) := by decide +kernel
theorem dX12_count_43 : decode cX12_count 43 = .ok (.iload 5, 2) := by decide +kernel
theorem dX12_count_45 : decode cX12_count 45 = .ok (.iload_n 1, 1) := by decide +kernel
theorem dX12_count_46 : decode cX12_count 46 = .ok (.invokevirtual 591, 3) := by decide +kernel
theorem dX12_count_49 : decode cX12_count 49 = .ok (.ifCond .eq 29, 3) := by decide +kernel
theorem dX12_count_52 : decode cX12_count 52 = .ok (.aload_n 0, 1) := by decide +kernel
theorem dX12_count_53 : decode cX12_count 53 = .ok (.iload 5, 2) := by decide +kernel
theorem dX12_count_55 : decode cX12_count 55 = .ok (.iload_n 2, 1) := by decide +kernel
theorem dX12_count_56 : decode cX12_count 56 = .ok (.invokevirtual 594, 3) := by decide +kernel
theorem dX12_count_59 : decode cX12_count 59 = .ok (.ifCond .eq 19, 3) := by decide +kernel
theorem dX12_count_62 : decode cX12_count 62 = .ok (.iload_n 3, 1) := by decide +kernel
theorem dX12_count_63 : decode cX12_count 63 = .ok (.ifCond .eq 12, 3) := by decide +kernel
theorem dX12_count_66 : decode cX12_count 66 = .ok (.aload_n 0, 1) := by decide +kernel
theorem dX12_count_67 : decode cX12_count 67 = .ok (.iload 5, 2) := by decide +kernel
theorem dX12_count_69 : decode cX12_count 69 = .ok (.invokevirtual 570, 3) := by decide +kernel
theorem dX12_count_72 : decode cX12_count 72 = .ok (.ifCond .eq 6, 3) := by decide +kernel
theorem dX12_count_75 : decode cX12_count 75 = .ok (.iinc 4 1, 3) := by decide +kernel
theorem dX12_count_78 : decode cX12_count 78 = .ok (.iinc 5 1, 3) := by decide +kernel
theorem dX12_count_81 : decode cX12_count 81 = .ok (.goto (-48), 3) := by decide +kernel
theorem dX12_count_84 : decode cX12_count 84 = .ok (.iload 4, 2) := by decide +kernel
theorem dX12_count_86 : decode cX12_count 86 = .ok (.ireturn, 1) := by decide +kernel
set_option maxRecDepth 100000 in
theorem tb_X12_count_33 {g : GT} {n nf : Int} (hu : Up false nf n) (a1 a2 a3 : Int) (w33 : Mem → Int → Int → Res) (hw33 : ∀ (M : Mem) (x4 x5 : Int), AW g false RX12 cX12_count 6 (some .int) (3) n n nf 33 [(0, 2, 337), (1, 0, a1), (2, 0, a2), (3, 0, a3), (4, 0, x4), (5, 0, x5)] [] n M (w33 M x4 x5)) (M : Mem) (x4 x5 : Int) : AW g false RX12 cX12_count 6 (some .int) (3) n n nf 33 [(0, 2, 337), (1, 0, a1), (2, 0, a2), (3, 0, a3), (4, 0, x4), (5, 0, x5)] [] n M (b_X12_count_33 a1 a2 a3 w33 M x4 x5) := by
  unfold b_X12_count_33
  refine r_iload 5 dX12_count_33 rfl ?_
  refine r_aload_n 0 dX12_count_35 rfl rfl ?_
  refine r_gf (t := 0) (kz := 79) rfl hu dX12_count_36 kF_X12_452 kd_337 rfl rfl rfl ?_
  refine r_icmp_ge (tgt := 84) dX12_count_39 rfl (fun h7 => ?_) (fun h8 => ?_)
  · refine r_iload 4 dX12_count_84 rfl ?_
    exact r_iret rfl rfl (Or.inl rfl) dX12_count_86
  · refine r_aload_n 0 dX12_count_42 rfl rfl ?_
    refine r_iload 5 dX12_count_43 rfl ?_
    refine r_iload_n 1 dX12_count_45 rfl rfl ?_
    refine r_inv (a := 337) hu ⟨Nat.le_refl _, Nat.le_refl _⟩ dX12_count_46 kM_X12_591 (ci := 12) rfl kd_337 rfl rfl (by decide) (by decide) [(0, x5), (0, a1)] rfl (sk := []) rfl (Nat.le_of_ble_eq_true rfl) rfl rfl (m_X12_isOf hu M x5 a1) (fun r9 M10 => ?_)
    refine r_if_eq (tgt := 78) dX12_count_49 rfl (fun h11 => ?_) (fun h12 => ?_)
    · refine r_ok (fun h13 => ?_)
      refine r_iincB 5 dX12_count_78 rfl h13 (by decide) (lf := fun y14 => [(5, 0, y14), (0, 2, 337), (1, 0, a1), (2, 0, a2), (3, 0, a3), (4, 0, x4)]) (fun _ => rfl) (fun y14 ey14 => ?_)
      refine r_goto (tgt := 33) dX12_count_81 rfl ?_
      refine r_sub [1, 2, 3, 4, 5, 0] (ls' := [(0, 2, 337), (1, 0, a1), (2, 0, a2), (3, 0, a3), (4, 0, x4), (5, 0, y14)]) rfl ?_
      exact hw33 M10 x4 y14
    · refine r_aload_n 0 dX12_count_52 rfl rfl ?_
      refine r_iload 5 dX12_count_53 rfl ?_
      refine r_iload_n 2 dX12_count_55 rfl rfl ?_
      refine r_inv (a := 337) hu ⟨Nat.le_refl _, Nat.le_refl _⟩ dX12_count_56 kM_X12_594 (ci := 12) rfl kd_337 rfl rfl (by decide) (by decide) [(0, x5), (0, a2)] rfl (sk := []) rfl (Nat.le_of_ble_eq_true rfl) rfl rfl (m_X12_isWhere hu M10 x5 a2) (fun r15 M16 => ?_)
      refine r_if_eq (tgt := 78) dX12_count_59 rfl (fun h17 => ?_) (fun h18 => ?_)
      · refine r_ok (fun h19 => ?_)
        refine r_iincB 5 dX12_count_78 rfl h19 (by decide) (lf := fun y20 => [(5, 0, y20), (0, 2, 337), (1, 0, a1), (2, 0, a2), (3, 0, a3), (4, 0, x4)]) (fun _ => rfl) (fun y20 ey20 => ?_)
        refine r_goto (tgt := 33) dX12_count_81 rfl ?_
        refine r_sub [1, 2, 3, 4, 5, 0] (ls' := [(0, 2, 337), (1, 0, a1), (2, 0, a2), (3, 0, a3), (4, 0, x4), (5, 0, y20)]) rfl ?_
        exact hw33 M16 x4 y20
      · refine r_iload_n 3 dX12_count_62 rfl rfl ?_
        refine r_if_eq (tgt := 75) dX12_count_63 rfl (fun h21 => ?_) (fun h22 => ?_)
        · refine r_ok (fun h23 => ?_)
          refine r_iincB 4 dX12_count_75 rfl h23 (by decide) (lf := fun y24 => [(4, 0, y24), (0, 2, 337), (1, 0, a1), (2, 0, a2), (3, 0, a3), (5, 0, x5)]) (fun _ => rfl) (fun y24 ey24 => ?_)
          refine r_ok (fun h25 => ?_)
          refine r_iincB 5 dX12_count_78 rfl h25 (by decide) (lf := fun y26 => [(5, 0, y26), (4, 0, y24), (0, 2, 337), (1, 0, a1), (2, 0, a2), (3, 0, a3)]) (fun _ => rfl) (fun y26 ey26 => ?_)
          refine r_goto (tgt := 33) dX12_count_81 rfl ?_
          refine r_sub [2, 3, 4, 5, 1, 0] (ls' := [(0, 2, 337), (1, 0, a1), (2, 0, a2), (3, 0, a3), (4, 0, y24), (5, 0, y26)]) rfl ?_
          exact hw33 M16 y24 y26
        · refine r_aload_n 0 dX12_count_66 rfl rfl ?_
          refine r_iload 5 dX12_count_67 rfl ?_
          refine r_inv (a := 337) hu ⟨Nat.le_refl _, Nat.le_refl _⟩ dX12_count_69 kM_X12_570 (ci := 12) rfl kd_337 rfl rfl (by decide) (by decide) [(0, x5)] rfl (sk := []) rfl (Nat.le_of_ble_eq_true rfl) rfl rfl (m_X12_isRight hu M16 x5) (fun r27 M28 => ?_)
          refine r_if_eq (tgt := 78) dX12_count_72 rfl (fun h29 => ?_) (fun h30 => ?_)
          · refine r_ok (fun h31 => ?_)
            refine r_iincB 5 dX12_count_78 rfl h31 (by decide) (lf := fun y32 => [(5, 0, y32), (0, 2, 337), (1, 0, a1), (2, 0, a2), (3, 0, a3), (4, 0, x4)]) (fun _ => rfl) (fun y32 ey32 => ?_)
            refine r_goto (tgt := 33) dX12_count_81 rfl ?_
            refine r_sub [1, 2, 3, 4, 5, 0] (ls' := [(0, 2, 337), (1, 0, a1), (2, 0, a2), (3, 0, a3), (4, 0, x4), (5, 0, y32)]) rfl ?_
            exact hw33 M28 x4 y32
          · refine r_ok (fun h33 => ?_)
            refine r_iincB 4 dX12_count_75 rfl h33 (by decide) (lf := fun y34 => [(4, 0, y34), (0, 2, 337), (1, 0, a1), (2, 0, a2), (3, 0, a3), (5, 0, x5)]) (fun _ => rfl) (fun y34 ey34 => ?_)
            refine r_ok (fun h35 => ?_)
            refine r_iincB 5 dX12_count_78 rfl h35 (by decide) (lf := fun y36 => [(5, 0, y36), (4, 0, y34), (0, 2, 337), (1, 0, a1), (2, 0, a2), (3, 0, a3)]) (fun _ => rfl) (fun y36 ey36 => ?_)
            refine r_goto (tgt := 33) dX12_count_81 rfl ?_
            refine r_sub [2, 3, 4, 5, 1, 0] (ls' := [(0, 2, 337), (1, 0, a1), (2, 0, a2), (3, 0, a3), (4, 0, y34), (5, 0, y36)]) rfl ?_
            exact hw33 M28 y34 y36
set_option maxRecDepth 100000 in
theorem tj_X12_count_13 {g : GT} {n nf : Int} (hu : Up false nf n) (a1 a2 a3 : Int) (M : Mem) : AW g false RX12 cX12_count 6 (some .int) (3) n n nf 13 [(0, 2, 337), (1, 0, a1), (2, 0, a2), (3, 0, a3)] [] n M (j_X12_count_13 a1 a2 a3 M) := by
  unfold j_X12_count_13
  refine r_iload_n 2 dX12_count_13 rfl rfl ?_
  refine r_i2l dX12_count_14 ?_
  refine r_lconst (v := 0) dX12_count_15 (by decide) ⟨by decide, by decide⟩ ?_
  refine r_ldc2 (v := 9) dX12_count_16 kC_X12_560 rfl ⟨by decide, by decide⟩ ?_
  refine r_ins (a := 0) ⟨Nat.le_refl _, Nat.le_refl _⟩ dX12_count_19 kM_X12_267 (by decide) (by decide) [(1, a2), (1, 0), (1, 9)] rfl (sk := []) rfl (Nat.le_of_ble_eq_true rfl) rfl rfl (m_X12_isIn hu M a2 0 9) (fun r3 M4 => ?_)
  refine r_if_ne (tgt := 27) dX12_count_22 rfl (fun h5 => ?_) (fun h6 => ?_)
  · refine r_iconst dX12_count_25 ⟨by decide, by decide⟩ ?_
    exact r_iret rfl rfl (Or.inl rfl) dX12_count_26
  · refine r_iconst dX12_count_27 ⟨by decide, by decide⟩ ?_
    refine r_istore dX12_count_28 (by decide) (ls' := [(4, 0, 0), (0, 2, 337), (1, 0, a1), (2, 0, a2), (3, 0, a3)]) rfl ?_
    refine r_iconst dX12_count_30 ⟨by decide, by decide⟩ ?_
    refine r_istore dX12_count_31 (by decide) (ls' := [(5, 0, 0), (4, 0, 0), (0, 2, 337), (1, 0, a1), (2, 0, a2), (3, 0, a3)]) rfl ?_
    refine r_sub [2, 3, 4, 5, 1, 0] (ls' := [(0, 2, 337), (1, 0, a1), (2, 0, a2), (3, 0, a3), (4, 0, 0), (5, 0, 0)]) rfl ?_
    exact wl2_aw (P := fun M x4 x5 o => AW g false RX12 cX12_count 6 (some .int) (3) n n nf 33 [(0, 2, 337), (1, 0, a1), (2, 0, a2), (3, 0, a3), (4, 0, x4), (5, 0, x5)] [] n M (o)) (fun M x4 x5 => aw_none) (fun w hw M x4 x5 => tb_X12_count_33 hu a1 a2 a3 w hw M x4 x5) FU M4 0 0
set_option maxRecDepth 100000 in
theorem m_X12_count {g : GT} {n nf : Int} (hu : Up false nf n) (M : Mem) (a1 a2 a3 : Int) : AM g false yX12_count cX12_count 6 (some .int) (3) n n nf [(2, 337), (0, a1), (0, a2), (0, a3)] M (f_X12_count M a1 a2 a3) := by
  refine AM_of (by decide +kernel) (Nat.le_of_ble_eq_true rfl) (fun h => absurd h (Int.lt_irrefl n)) ?_
  show AW g false RX12 cX12_count 6 (some .int) (3) n n nf 0 [(0, 2, 337), (1, 0, a1), (2, 0, a2), (3, 0, a3)] [] n M (f_X12_count M a1 a2 a3)
  unfold f_X12_count
  refine r_iload_n 1 dX12_count_0 rfl rfl ?_
  refine r_iconst dX12_count_1 ⟨by decide, by decide⟩ ?_
  refine r_icmp_eq (tgt := 13) dX12_count_2 rfl (fun h1 => ?_) (fun h2 => ?_)
  · exact tj_X12_count_13 hu a1 a2 a3 M
  · refine r_aload_n 0 dX12_count_5 rfl rfl ?_
    refine r_iload_n 1 dX12_count_6 rfl rfl ?_
    refine r_inv (a := 337) hu ⟨Nat.le_refl _, Nat.le_refl _⟩ dX12_count_7 kM_X12_489 (ci := 12) rfl kd_337 rfl rfl (by decide) (by decide) [(0, a1)] rfl (sk := []) rfl (Nat.le_of_ble_eq_true rfl) rfl rfl (m_X12_isThing hu M a1) (fun r37 M38 => ?_)
    refine r_if_eq (tgt := 25) dX12_count_10 rfl (fun h39 => ?_) (fun h40 => ?_)
    · refine r_iconst dX12_count_25 ⟨by decide, by decide⟩ ?_
      exact r_iret rfl rfl (Or.inl rfl) dX12_count_26
    · exact tj_X12_count_13 hu a1 a2 a3 M38
