/-! the class's constructors -/
theorem dX8_init_0 : decode cX8_init 0 = .ok (.aload_n 0, 1) := by decide +kernel
theorem dX8_init_1 : decode cX8_init 1 = .ok (.invokespecial 1, 3) := by decide +kernel
theorem dX8_init_4 : decode cX8_init 4 = .ok (.return_, 1) := by decide +kernel
theorem ci_X8_init {g : GT} {n nf : Int} (M : Mem) (h1 : 1 ≤ n) (hok : okS [(2, n)]) : RM g yX8_init cX8_init 1 none 1 n n nf [(2, n)] M M 0 := by
  refine RM_of (by decide +kernel) (Nat.le_of_ble_eq_true rfl) (fun p e s m args below meth c hC hr hname => ?_) hok
  have hC : Cx g p s m meth c RX8 cX8_init 1 := hC
  refine b_aload_n (q := 0) hC dX8_init_0 rfl rfl ?_
  refine b_obj hC dX8_init_1 (List.mem_of_getElem? (i := 515) (by decide +kernel)) (List.mem_of_getElem? (i := 203) (by decide +kernel)) (List.mem_of_getElem? (i := 204) (by decide +kernel)) h1 (by decide) (show 1 ≤ 1 by decide) (show 20 ≤ 64 * 1 by decide) ?_
  exact b_vret hC hr dX8_init_4
theorem dX10_init_0 : decode cX10_init 0 = .ok (.aload_n 0, 1) := by decide +kernel
theorem dX10_init_1 : decode cX10_init 1 = .ok (.invokespecial 3, 3) := by decide +kernel
theorem dX10_init_4 : decode cX10_init 4 = .ok (.return_, 1) := by decide +kernel
theorem ci_X10_init {g : GT} {n nf : Int} (M : Mem) (h1 : 1 ≤ n) (hok : okS [(2, n)]) : RM g yX10_init cX10_init 1 none 1 n n nf [(2, n)] M M 0 := by
  refine RM_of (by decide +kernel) (Nat.le_of_ble_eq_true rfl) (fun p e s m args below meth c hC hr hname => ?_) hok
  have hC : Cx g p s m meth c RX10 cX10_init 1 := hC
  refine b_aload_n (q := 0) hC dX10_init_0 rfl rfl ?_
  refine b_obj hC dX10_init_1 (List.mem_of_getElem? (i := 422) (by decide +kernel)) (List.mem_of_getElem? (i := 203) (by decide +kernel)) (List.mem_of_getElem? (i := 204) (by decide +kernel)) h1 (by decide) (show 1 ≤ 1 by decide) (show 20 ≤ 64 * 1 by decide) ?_
  exact b_vret hC hr dX10_init_4
theorem dX2_init_0 : decode cX2_init 0 = .ok (.aload_n 0, 1) := by decide +kernel
theorem dX2_init_1 : decode cX2_init 1 = .ok (.invokespecial 1, 3) := by decide +kernel
theorem dX2_init_4 : decode cX2_init 4 = .ok (.return_, 1) := by decide +kernel
theorem ci_X2_init {g : GT} {n nf : Int} (M : Mem) (h1 : 1 ≤ n) (hok : okS [(2, n)]) : RM g yX2_init cX2_init 1 none 1 n n nf [(2, n)] M M 0 := by
  refine RM_of (by decide +kernel) (Nat.le_of_ble_eq_true rfl) (fun p e s m args below meth c hC hr hname => ?_) hok
  have hC : Cx g p s m meth c RX2 cX2_init 1 := hC
  refine b_aload_n (q := 0) hC dX2_init_0 rfl rfl ?_
  refine b_obj hC dX2_init_1 (List.mem_of_getElem? (i := 496) (by decide +kernel)) (List.mem_of_getElem? (i := 203) (by decide +kernel)) (List.mem_of_getElem? (i := 204) (by decide +kernel)) h1 (by decide) (show 1 ≤ 1 by decide) (show 20 ≤ 64 * 1 by decide) ?_
  exact b_vret hC hr dX2_init_4
theorem dX9_init_0 : decode cX9_init 0 = .ok (.aload_n 0, 1) := by decide +kernel
theorem dX9_init_1 : decode cX9_init 1 = .ok (.invokespecial 3, 3) := by decide +kernel
theorem dX9_init_4 : decode cX9_init 4 = .ok (.aload_n 0, 1) := by decide +kernel
theorem dX9_init_5 : decode cX9_init 5 = .ok (.sipush 900, 3) := by decide +kernel
theorem dX9_init_8 : decode cX9_init 8 = .ok (.newarray .int, 2) := by decide +kernel
theorem dX9_init_10 : decode cX9_init 10 = .ok (.putfield 9, 3) := by decide +kernel
theorem dX9_init_13 : decode cX9_init 13 = .ok (.return_, 1) := by decide +kernel
theorem kI_X9_9 : LkF RX9 9 9 0 := ⟨_, _, _, rfl, by decide, Or.inl (List.mem_of_getElem? (i := 211) (by decide +kernel))⟩
theorem ci_X9_init {g : GT} (M : Mem) (hok : okS [(2, 2)]) : RM g yX9_init cX9_init 1 none 1 2 3 0 [(2, 2)] M (st (M) 2 0 3) 0 := by
  refine RM_of (by decide +kernel) (Nat.le_of_ble_eq_true rfl) (fun p e s m args below meth c hC hr hname => ?_) hok
  have hC : Cx g p s m meth c RX9 cX9_init 1 := hC
  show BW g p e (rmOf 1 (cs 2 3) (sl 2 3)) s m args below meth c (MQ below (QcA g 3 0 (st (M) 2 0 3) none 0) args s (cs 2 3) (sl 2 3) (Ag g)) (cs 2 2) (sl 2 2) 0 [(0, 2, 2)] [] 2 0 M
  refine b_aload_n (q := 0) hC dX9_init_0 rfl rfl ?_
  refine b_obj hC dX9_init_1 (List.mem_of_getElem? (i := 210) (by decide +kernel)) (List.mem_of_getElem? (i := 203) (by decide +kernel)) (List.mem_of_getElem? (i := 204) (by decide +kernel)) (by decide) (by decide) (show 1 ≤ 1 by decide) (show 20 ≤ 64 * 1 by decide) ?_
  refine b_aload_n (q := 0) hC dX9_init_4 rfl rfl ?_
  refine b_sipush hC dX9_init_5 (by decide) ⟨by decide, by decide⟩ ?_
  refine c_newa (b := 1) (n' := 3) (v := 900) hC rfl (pl := 0) rfl rfl id dX9_init_8 (List.mem_of_getElem? (i := 220) (by decide +kernel)) (dk := 1) kd_3 rfl ⟨by decide, by decide⟩ ln_3 ⟨by decide, by decide⟩ (by decide) (by decide) rfl ⟨by decide, by decide, by decide, by decide⟩ ?_
  refine b_pf (t := 2) hC dX9_init_10 kI_X9_9 kd_2 rfl (by decide) rfl (fun h => absurd h (by decide)) (Or.inr (by decide)) (fun C T N h => by cases h; exact Or.inr ⟨hname, rfl, List.mem_of_getElem? (i := 211) (by decide +kernel)⟩) ?_
  exact b_vret hC hr dX9_init_13
theorem dX6_init_0 : decode cX6_init 0 = .ok (.aload_n 0, 1) := by decide +kernel
theorem dX6_init_1 : decode cX6_init 1 = .ok (.invokespecial 3, 3) := by decide +kernel
theorem dX6_init_4 : decode cX6_init 4 = .ok (.aload_n 0, 1) := by decide +kernel
theorem dX6_init_5 : decode cX6_init 5 = .ok (.bipush 21, 2) := by decide +kernel
theorem dX6_init_7 : decode cX6_init 7 = .ok (.newarray .int, 2) := by decide +kernel
theorem dX6_init_9 : decode cX6_init 9 = .ok (.putfield 9, 3) := by decide +kernel
theorem dX6_init_12 : decode cX6_init 12 = .ok (.aload_n 0, 1) := by decide +kernel
theorem dX6_init_13 : decode cX6_init 13 = .ok (.bipush 64, 2) := by decide +kernel
theorem dX6_init_15 : decode cX6_init 15 = .ok (.newarray .int, 2) := by decide +kernel
theorem dX6_init_17 : decode cX6_init 17 = .ok (.putfield 15, 3) := by decide +kernel
theorem dX6_init_20 : decode cX6_init 20 = .ok (.return_, 1) := by decide +kernel
theorem kI_X6_9 : LkF RX6 9 6 0 := ⟨_, _, _, rfl, by decide, Or.inl (List.mem_of_getElem? (i := 351) (by decide +kernel))⟩
theorem kI_X6_15 : LkF RX6 15 6 1 := ⟨_, _, _, rfl, by decide, Or.inl (List.mem_of_getElem? (i := 354) (by decide +kernel))⟩
theorem ci_X6_init {g : GT} (M : Mem) (hok : okS [(2, 10)]) : RM g yX6_init cX6_init 1 none 1 10 12 0 [(2, 10)] M (st (st (M) 10 0 11) 10 1 12) 0 := by
  refine RM_of (by decide +kernel) (Nat.le_of_ble_eq_true rfl) (fun p e s m args below meth c hC hr hname => ?_) hok
  have hC : Cx g p s m meth c RX6 cX6_init 1 := hC
  show BW g p e (rmOf 1 (cs 10 12) (sl 10 12)) s m args below meth c (MQ below (QcA g 12 0 (st (st (M) 10 0 11) 10 1 12) none 0) args s (cs 10 12) (sl 10 12) (Ag g)) (cs 10 10) (sl 10 10) 0 [(0, 2, 10)] [] 10 0 M
  refine b_aload_n (q := 0) hC dX6_init_0 rfl rfl ?_
  refine b_obj hC dX6_init_1 (List.mem_of_getElem? (i := 350) (by decide +kernel)) (List.mem_of_getElem? (i := 203) (by decide +kernel)) (List.mem_of_getElem? (i := 204) (by decide +kernel)) (by decide) (by decide) (show 1 ≤ 1 by decide) (show 20 ≤ 64 * 1 by decide) ?_
  refine b_aload_n (q := 0) hC dX6_init_4 rfl rfl ?_
  refine b_bipush hC dX6_init_5 (by decide) ⟨by decide, by decide⟩ ?_
  refine c_newa (b := 1) (n' := 11) (v := 21) hC rfl (pl := 0) rfl rfl id dX6_init_7 (List.mem_of_getElem? (i := 220) (by decide +kernel)) (dk := 1) kd_11 rfl ⟨by decide, by decide⟩ ln_11 ⟨by decide, by decide⟩ (by decide) (by decide) rfl ⟨by decide, by decide, by decide, by decide⟩ ?_
  refine b_pf (t := 2) hC dX6_init_9 kI_X6_9 kd_10 rfl (by decide) rfl (fun h => absurd h (by decide)) (Or.inr (by decide)) (fun C T N h => by cases h; exact Or.inr ⟨hname, rfl, List.mem_of_getElem? (i := 351) (by decide +kernel)⟩) ?_
  refine b_aload_n (q := 0) hC dX6_init_12 rfl rfl ?_
  refine b_bipush hC dX6_init_13 (by decide) ⟨by decide, by decide⟩ ?_
  refine c_newa (b := 1) (n' := 12) (v := 64) hC rfl (pl := 0) rfl rfl id dX6_init_15 (List.mem_of_getElem? (i := 220) (by decide +kernel)) (dk := 1) kd_12 rfl ⟨by decide, by decide⟩ ln_12 ⟨by decide, by decide⟩ (by decide) (by decide) rfl ⟨by decide, by decide, by decide, by decide⟩ ?_
  refine b_pf (t := 2) hC dX6_init_17 kI_X6_15 kd_10 rfl (by decide) rfl (fun h => absurd h (by decide)) (Or.inr (by decide)) (fun C T N h => by cases h; exact Or.inr ⟨hname, rfl, List.mem_of_getElem? (i := 354) (by decide +kernel)⟩) ?_
  exact b_vret hC hr dX6_init_20
theorem dX3_init_0 : decode cX3_init 0 = .ok (.aload_n 0, 1) := by decide +kernel
theorem dX3_init_1 : decode cX3_init 1 = .ok (.invokespecial 3, 3) := by decide +kernel
theorem dX3_init_4 : decode cX3_init 4 = .ok (.aload_n 0, 1) := by decide +kernel
theorem dX3_init_5 : decode cX3_init 5 = .ok (.bipush 96, 2) := by decide +kernel
theorem dX3_init_7 : decode cX3_init 7 = .ok (.newarray .int, 2) := by decide +kernel
theorem dX3_init_9 : decode cX3_init 9 = .ok (.putfield 9, 3) := by decide +kernel
theorem dX3_init_12 : decode cX3_init 12 = .ok (.aload_n 0, 1) := by decide +kernel
theorem dX3_init_13 : decode cX3_init 13 = .ok (.bipush 96, 2) := by decide +kernel
theorem dX3_init_15 : decode cX3_init 15 = .ok (.newarray .int, 2) := by decide +kernel
theorem dX3_init_17 : decode cX3_init 17 = .ok (.putfield 15, 3) := by decide +kernel
theorem dX3_init_20 : decode cX3_init 20 = .ok (.aload_n 0, 1) := by decide +kernel
theorem dX3_init_21 : decode cX3_init 21 = .ok (.bipush 96, 2) := by decide +kernel
theorem dX3_init_23 : decode cX3_init 23 = .ok (.newarray .int, 2) := by decide +kernel
theorem dX3_init_25 : decode cX3_init 25 = .ok (.putfield 18, 3) := by decide +kernel
theorem dX3_init_28 : decode cX3_init 28 = .ok (.aload_n 0, 1) := by decide +kernel
theorem dX3_init_29 : decode cX3_init 29 = .ok (.bipush 96, 2) := by decide +kernel
theorem dX3_init_31 : decode cX3_init 31 = .ok (.newarray .int, 2) := by decide +kernel
theorem dX3_init_33 : decode cX3_init 33 = .ok (.putfield 21, 3) := by decide +kernel
theorem dX3_init_36 : decode cX3_init 36 = .ok (.aload_n 0, 1) := by decide +kernel
theorem dX3_init_37 : decode cX3_init 37 = .ok (.bipush 96, 2) := by decide +kernel
theorem dX3_init_39 : decode cX3_init 39 = .ok (.newarray .int, 2) := by decide +kernel
theorem dX3_init_41 : decode cX3_init 41 = .ok (.putfield 24, 3) := by decide +kernel
theorem dX3_init_44 : decode cX3_init 44 = .ok (.aload_n 0, 1) := by decide +kernel
theorem dX3_init_45 : decode cX3_init 45 = .ok (.bipush 96, 2) := by decide +kernel
theorem dX3_init_47 : decode cX3_init 47 = .ok (.newarray .int, 2) := by decide +kernel
theorem dX3_init_49 : decode cX3_init 49 = .ok (.putfield 27, 3) := by decide +kernel
theorem dX3_init_52 : decode cX3_init 52 = .ok (.aload_n 0, 1) := by decide +kernel
theorem dX3_init_53 : decode cX3_init 53 = .ok (.bipush 96, 2) := by decide +kernel
theorem dX3_init_55 : decode cX3_init 55 = .ok (.newarray .int, 2) := by decide +kernel
theorem dX3_init_57 : decode cX3_init 57 = .ok (.putfield 30, 3) := by decide +kernel
theorem dX3_init_60 : decode cX3_init 60 = .ok (.return_, 1) := by decide +kernel
theorem kI_X3_9 : LkF RX3 9 3 0 := ⟨_, _, _, rfl, by decide, Or.inl (List.mem_of_getElem? (i := 366) (by decide +kernel))⟩
theorem kI_X3_15 : LkF RX3 15 3 1 := ⟨_, _, _, rfl, by decide, Or.inl (List.mem_of_getElem? (i := 368) (by decide +kernel))⟩
theorem kI_X3_18 : LkF RX3 18 3 2 := ⟨_, _, _, rfl, by decide, Or.inl (List.mem_of_getElem? (i := 370) (by decide +kernel))⟩
theorem kI_X3_21 : LkF RX3 21 3 3 := ⟨_, _, _, rfl, by decide, Or.inl (List.mem_of_getElem? (i := 372) (by decide +kernel))⟩
theorem kI_X3_24 : LkF RX3 24 3 4 := ⟨_, _, _, rfl, by decide, Or.inl (List.mem_of_getElem? (i := 374) (by decide +kernel))⟩
theorem kI_X3_27 : LkF RX3 27 3 5 := ⟨_, _, _, rfl, by decide, Or.inl (List.mem_of_getElem? (i := 375) (by decide +kernel))⟩
theorem kI_X3_30 : LkF RX3 30 3 6 := ⟨_, _, _, rfl, by decide, Or.inl (List.mem_of_getElem? (i := 376) (by decide +kernel))⟩
theorem ci_X3_init {g : GT} (M : Mem) (hok : okS [(2, 13)]) : RM g yX3_init cX3_init 1 none 1 13 20 0 [(2, 13)] M (st (st (st (st (st (st (st (M) 13 0 14) 13 1 15) 13 2 16) 13 3 17) 13 4 18) 13 5 19) 13 6 20) 0 := by
  refine RM_of (by decide +kernel) (Nat.le_of_ble_eq_true rfl) (fun p e s m args below meth c hC hr hname => ?_) hok
  have hC : Cx g p s m meth c RX3 cX3_init 1 := hC
  show BW g p e (rmOf 1 (cs 13 20) (sl 13 20)) s m args below meth c (MQ below (QcA g 20 0 (st (st (st (st (st (st (st (M) 13 0 14) 13 1 15) 13 2 16) 13 3 17) 13 4 18) 13 5 19) 13 6 20) none 0) args s (cs 13 20) (sl 13 20) (Ag g)) (cs 13 13) (sl 13 13) 0 [(0, 2, 13)] [] 13 0 M
  refine b_aload_n (q := 0) hC dX3_init_0 rfl rfl ?_
  refine b_obj hC dX3_init_1 (List.mem_of_getElem? (i := 365) (by decide +kernel)) (List.mem_of_getElem? (i := 203) (by decide +kernel)) (List.mem_of_getElem? (i := 204) (by decide +kernel)) (by decide) (by decide) (show 1 ≤ 1 by decide) (show 20 ≤ 64 * 1 by decide) ?_
  refine b_aload_n (q := 0) hC dX3_init_4 rfl rfl ?_
  refine b_bipush hC dX3_init_5 (by decide) ⟨by decide, by decide⟩ ?_
  refine c_newa (b := 1) (n' := 14) (v := 96) hC rfl (pl := 0) rfl rfl id dX3_init_7 (List.mem_of_getElem? (i := 220) (by decide +kernel)) (dk := 1) kd_14 rfl ⟨by decide, by decide⟩ ln_14 ⟨by decide, by decide⟩ (by decide) (by decide) rfl ⟨by decide, by decide, by decide, by decide⟩ ?_
  refine b_pf (t := 2) hC dX3_init_9 kI_X3_9 kd_13 rfl (by decide) rfl (fun h => absurd h (by decide)) (Or.inr (by decide)) (fun C T N h => by cases h; exact Or.inr ⟨hname, rfl, List.mem_of_getElem? (i := 366) (by decide +kernel)⟩) ?_
  refine b_aload_n (q := 0) hC dX3_init_12 rfl rfl ?_
  refine b_bipush hC dX3_init_13 (by decide) ⟨by decide, by decide⟩ ?_
  refine c_newa (b := 1) (n' := 15) (v := 96) hC rfl (pl := 0) rfl rfl id dX3_init_15 (List.mem_of_getElem? (i := 220) (by decide +kernel)) (dk := 1) kd_15 rfl ⟨by decide, by decide⟩ ln_15 ⟨by decide, by decide⟩ (by decide) (by decide) rfl ⟨by decide, by decide, by decide, by decide⟩ ?_
  refine b_pf (t := 2) hC dX3_init_17 kI_X3_15 kd_13 rfl (by decide) rfl (fun h => absurd h (by decide)) (Or.inr (by decide)) (fun C T N h => by cases h; exact Or.inr ⟨hname, rfl, List.mem_of_getElem? (i := 368) (by decide +kernel)⟩) ?_
  refine b_aload_n (q := 0) hC dX3_init_20 rfl rfl ?_
  refine b_bipush hC dX3_init_21 (by decide) ⟨by decide, by decide⟩ ?_
  refine c_newa (b := 1) (n' := 16) (v := 96) hC rfl (pl := 0) rfl rfl id dX3_init_23 (List.mem_of_getElem? (i := 220) (by decide +kernel)) (dk := 1) kd_16 rfl ⟨by decide, by decide⟩ ln_16 ⟨by decide, by decide⟩ (by decide) (by decide) rfl ⟨by decide, by decide, by decide, by decide⟩ ?_
  refine b_pf (t := 2) hC dX3_init_25 kI_X3_18 kd_13 rfl (by decide) rfl (fun h => absurd h (by decide)) (Or.inr (by decide)) (fun C T N h => by cases h; exact Or.inr ⟨hname, rfl, List.mem_of_getElem? (i := 370) (by decide +kernel)⟩) ?_
  refine b_aload_n (q := 0) hC dX3_init_28 rfl rfl ?_
  refine b_bipush hC dX3_init_29 (by decide) ⟨by decide, by decide⟩ ?_
  refine c_newa (b := 1) (n' := 17) (v := 96) hC rfl (pl := 0) rfl rfl id dX3_init_31 (List.mem_of_getElem? (i := 220) (by decide +kernel)) (dk := 1) kd_17 rfl ⟨by decide, by decide⟩ ln_17 ⟨by decide, by decide⟩ (by decide) (by decide) rfl ⟨by decide, by decide, by decide, by decide⟩ ?_
  refine b_pf (t := 2) hC dX3_init_33 kI_X3_21 kd_13 rfl (by decide) rfl (fun h => absurd h (by decide)) (Or.inr (by decide)) (fun C T N h => by cases h; exact Or.inr ⟨hname, rfl, List.mem_of_getElem? (i := 372) (by decide +kernel)⟩) ?_
  refine b_aload_n (q := 0) hC dX3_init_36 rfl rfl ?_
  refine b_bipush hC dX3_init_37 (by decide) ⟨by decide, by decide⟩ ?_
  refine c_newa (b := 1) (n' := 18) (v := 96) hC rfl (pl := 0) rfl rfl id dX3_init_39 (List.mem_of_getElem? (i := 220) (by decide +kernel)) (dk := 1) kd_18 rfl ⟨by decide, by decide⟩ ln_18 ⟨by decide, by decide⟩ (by decide) (by decide) rfl ⟨by decide, by decide, by decide, by decide⟩ ?_
  refine b_pf (t := 2) hC dX3_init_41 kI_X3_24 kd_13 rfl (by decide) rfl (fun h => absurd h (by decide)) (Or.inr (by decide)) (fun C T N h => by cases h; exact Or.inr ⟨hname, rfl, List.mem_of_getElem? (i := 374) (by decide +kernel)⟩) ?_
  refine b_aload_n (q := 0) hC dX3_init_44 rfl rfl ?_
  refine b_bipush hC dX3_init_45 (by decide) ⟨by decide, by decide⟩ ?_
  refine c_newa (b := 1) (n' := 19) (v := 96) hC rfl (pl := 0) rfl rfl id dX3_init_47 (List.mem_of_getElem? (i := 220) (by decide +kernel)) (dk := 1) kd_19 rfl ⟨by decide, by decide⟩ ln_19 ⟨by decide, by decide⟩ (by decide) (by decide) rfl ⟨by decide, by decide, by decide, by decide⟩ ?_
  refine b_pf (t := 2) hC dX3_init_49 kI_X3_27 kd_13 rfl (by decide) rfl (fun h => absurd h (by decide)) (Or.inr (by decide)) (fun C T N h => by cases h; exact Or.inr ⟨hname, rfl, List.mem_of_getElem? (i := 375) (by decide +kernel)⟩) ?_
  refine b_aload_n (q := 0) hC dX3_init_52 rfl rfl ?_
  refine b_bipush hC dX3_init_53 (by decide) ⟨by decide, by decide⟩ ?_
  refine c_newa (b := 1) (n' := 20) (v := 96) hC rfl (pl := 0) rfl rfl id dX3_init_55 (List.mem_of_getElem? (i := 220) (by decide +kernel)) (dk := 1) kd_20 rfl ⟨by decide, by decide⟩ ln_20 ⟨by decide, by decide⟩ (by decide) (by decide) rfl ⟨by decide, by decide, by decide, by decide⟩ ?_
  refine b_pf (t := 2) hC dX3_init_57 kI_X3_30 kd_13 rfl (by decide) rfl (fun h => absurd h (by decide)) (Or.inr (by decide)) (fun C T N h => by cases h; exact Or.inr ⟨hname, rfl, List.mem_of_getElem? (i := 376) (by decide +kernel)⟩) ?_
  exact b_vret hC hr dX3_init_60
theorem dX1_init_0 : decode cX1_init 0 = .ok (.aload_n 0, 1) := by decide +kernel
theorem dX1_init_1 : decode cX1_init 1 = .ok (.invokespecial 3, 3) := by decide +kernel
theorem dX1_init_4 : decode cX1_init 4 = .ok (.aload_n 0, 1) := by decide +kernel
theorem dX1_init_5 : decode cX1_init 5 = .ok (.bipush 96, 2) := by decide +kernel
theorem dX1_init_7 : decode cX1_init 7 = .ok (.newarray .boolean, 2) := by decide +kernel
theorem dX1_init_9 : decode cX1_init 9 = .ok (.putfield 9, 3) := by decide +kernel
theorem dX1_init_12 : decode cX1_init 12 = .ok (.aload_n 0, 1) := by decide +kernel
theorem dX1_init_13 : decode cX1_init 13 = .ok (.bipush 8, 2) := by decide +kernel
theorem dX1_init_15 : decode cX1_init 15 = .ok (.newarray .long, 2) := by decide +kernel
theorem dX1_init_17 : decode cX1_init 17 = .ok (.putfield 15, 3) := by decide +kernel
theorem dX1_init_20 : decode cX1_init 20 = .ok (.aload_n 0, 1) := by decide +kernel
theorem dX1_init_21 : decode cX1_init 21 = .ok (.bipush 8, 2) := by decide +kernel
theorem dX1_init_23 : decode cX1_init 23 = .ok (.newarray .long, 2) := by decide +kernel
theorem dX1_init_25 : decode cX1_init 25 = .ok (.putfield 19, 3) := by decide +kernel
theorem dX1_init_28 : decode cX1_init 28 = .ok (.return_, 1) := by decide +kernel
theorem kI_X1_9 : LkF RX1 9 1 0 := ⟨_, _, _, rfl, by decide, Or.inl (List.mem_of_getElem? (i := 475) (by decide +kernel))⟩
theorem kI_X1_15 : LkF RX1 15 1 1 := ⟨_, _, _, rfl, by decide, Or.inl (List.mem_of_getElem? (i := 476) (by decide +kernel))⟩
theorem kI_X1_19 : LkF RX1 19 1 2 := ⟨_, _, _, rfl, by decide, Or.inl (List.mem_of_getElem? (i := 477) (by decide +kernel))⟩
theorem ci_X1_init {g : GT} (M : Mem) (hok : okS [(2, 63)]) : RM g yX1_init cX1_init 1 none 1 63 66 0 [(2, 63)] M (st (st (st (M) 63 0 64) 63 1 65) 63 2 66) 0 := by
  refine RM_of (by decide +kernel) (Nat.le_of_ble_eq_true rfl) (fun p e s m args below meth c hC hr hname => ?_) hok
  have hC : Cx g p s m meth c RX1 cX1_init 1 := hC
  show BW g p e (rmOf 1 (cs 63 66) (sl 63 66)) s m args below meth c (MQ below (QcA g 66 0 (st (st (st (M) 63 0 64) 63 1 65) 63 2 66) none 0) args s (cs 63 66) (sl 63 66) (Ag g)) (cs 63 63) (sl 63 63) 0 [(0, 2, 63)] [] 63 0 M
  refine b_aload_n (q := 0) hC dX1_init_0 rfl rfl ?_
  refine b_obj hC dX1_init_1 (List.mem_of_getElem? (i := 474) (by decide +kernel)) (List.mem_of_getElem? (i := 203) (by decide +kernel)) (List.mem_of_getElem? (i := 204) (by decide +kernel)) (by decide) (by decide) (show 1 ≤ 1 by decide) (show 20 ≤ 64 * 1 by decide) ?_
  refine b_aload_n (q := 0) hC dX1_init_4 rfl rfl ?_
  refine b_bipush hC dX1_init_5 (by decide) ⟨by decide, by decide⟩ ?_
  refine c_newa (b := 3) (n' := 64) (v := 96) hC rfl (pl := 2) rfl rfl id dX1_init_7 (List.mem_of_getElem? (i := 489) (by decide +kernel)) (dk := 3) kd_64 rfl ⟨by decide, by decide⟩ ln_64 ⟨by decide, by decide⟩ (by decide) (by decide) rfl ⟨by decide, by decide, by decide, by decide⟩ ?_
  refine b_pf (t := 2) hC dX1_init_9 kI_X1_9 kd_63 rfl (by decide) rfl (fun h => absurd h (by decide)) (Or.inr (by decide)) (fun C T N h => by cases h; exact Or.inr ⟨hname, rfl, List.mem_of_getElem? (i := 475) (by decide +kernel)⟩) ?_
  refine b_aload_n (q := 0) hC dX1_init_12 rfl rfl ?_
  refine b_bipush hC dX1_init_13 (by decide) ⟨by decide, by decide⟩ ?_
  refine c_newa (b := 2) (n' := 65) (v := 8) hC rfl (pl := 1) rfl rfl id dX1_init_15 (List.mem_of_getElem? (i := 490) (by decide +kernel)) (dk := 2) kd_65 rfl ⟨by decide, by decide⟩ ln_65 ⟨by decide, by decide⟩ (by decide) (by decide) rfl ⟨by decide, by decide, by decide, by decide⟩ ?_
  refine b_pf (t := 2) hC dX1_init_17 kI_X1_15 kd_63 rfl (by decide) rfl (fun h => absurd h (by decide)) (Or.inr (by decide)) (fun C T N h => by cases h; exact Or.inr ⟨hname, rfl, List.mem_of_getElem? (i := 476) (by decide +kernel)⟩) ?_
  refine b_aload_n (q := 0) hC dX1_init_20 rfl rfl ?_
  refine b_bipush hC dX1_init_21 (by decide) ⟨by decide, by decide⟩ ?_
  refine c_newa (b := 2) (n' := 66) (v := 8) hC rfl (pl := 1) rfl rfl id dX1_init_23 (List.mem_of_getElem? (i := 490) (by decide +kernel)) (dk := 2) kd_66 rfl ⟨by decide, by decide⟩ ln_66 ⟨by decide, by decide⟩ (by decide) (by decide) rfl ⟨by decide, by decide, by decide, by decide⟩ ?_
  refine b_pf (t := 2) hC dX1_init_25 kI_X1_19 kd_63 rfl (by decide) rfl (fun h => absurd h (by decide)) (Or.inr (by decide)) (fun C T N h => by cases h; exact Or.inr ⟨hname, rfl, List.mem_of_getElem? (i := 477) (by decide +kernel)⟩) ?_
  exact b_vret hC hr dX1_init_28
theorem dX7_init_0 : decode cX7_init 0 = .ok (.aload_n 0, 1) := by decide +kernel
theorem dX7_init_1 : decode cX7_init 1 = .ok (.invokespecial 3, 3) := by decide +kernel
theorem dX7_init_4 : decode cX7_init 4 = .ok (.aload_n 0, 1) := by decide +kernel
theorem dX7_init_5 : decode cX7_init 5 = .ok (.bipush 40, 2) := by decide +kernel
theorem dX7_init_7 : decode cX7_init 7 = .ok (.anewarray 9, 3) := by decide +kernel
theorem dX7_init_10 : decode cX7_init 10 = .ok (.putfield 11, 3) := by decide +kernel
theorem dX7_init_13 : decode cX7_init 13 = .ok (.aload_n 0, 1) := by decide +kernel
theorem dX7_init_14 : decode cX7_init 14 = .ok (.iconst 5, 1) := by decide +kernel
theorem dX7_init_15 : decode cX7_init 15 = .ok (.newarray .int, 2) := by decide +kernel
theorem dX7_init_17 : decode cX7_init 17 = .ok (.putfield 17, 3) := by decide +kernel
theorem dX7_init_20 : decode cX7_init 20 = .ok (.aload_n 0, 1) := by decide +kernel
theorem dX7_init_21 : decode cX7_init 21 = .ok (.sipush 900, 3) := by decide +kernel
theorem dX7_init_24 : decode cX7_init 24 = .ok (.newarray .int, 2) := by decide +kernel
theorem dX7_init_26 : decode cX7_init 26 = .ok (.putfield 21, 3) := by decide +kernel
theorem dX7_init_29 : decode cX7_init 29 = .ok (.iconst 0, 1) := by decide +kernel
theorem dX7_init_30 : decode cX7_init 30 = .ok (.istore_n 1, 1) := by decide +kernel
theorem dX7_init_31 : decode cX7_init 31 = .ok (.iload_n 1, 1) := by decide +kernel
theorem dX7_init_32 : decode cX7_init 32 = .ok (.bipush 40, 2) := by decide +kernel
theorem dX7_init_34 : decode cX7_init 34 = .ok (.if_icmp .ge 22, 3) := by decide +kernel
theorem dX7_init_37 : decode cX7_init 37 = .ok (.aload_n 0, 1) := by decide +kernel
theorem dX7_init_38 : decode cX7_init 38 = .ok (.getfield 11, 3) := by decide +kernel
theorem dX7_init_41 : decode cX7_init 41 = .ok (.iload_n 1, 1) := by decide +kernel
theorem dX7_init_42 : decode cX7_init 42 = .ok (.new 9, 3) := by decide +kernel
theorem dX7_init_45 : decode cX7_init 45 = .ok (.dup, 1) := by decide +kernel
theorem dX7_init_46 : decode cX7_init 46 = .ok (.invokespecial 24, 3) := by decide +kernel
theorem dX7_init_49 : decode cX7_init 49 = .ok (.aastore, 1) := by decide +kernel
theorem dX7_init_50 : decode cX7_init 50 = .ok (.iinc 1 1, 3) := by decide +kernel
theorem dX7_init_53 : decode cX7_init 53 = .ok (.goto (-22), 3) := by decide +kernel
theorem dX7_init_56 : decode cX7_init 56 = .ok (.return_, 1) := by decide +kernel
theorem kI_X7_11 : LkF RX7 11 7 0 := ⟨_, _, _, rfl, by decide, Or.inl (List.mem_of_getElem? (i := 565) (by decide +kernel))⟩
theorem kI_X7_17 : LkF RX7 17 7 2 := ⟨_, _, _, rfl, by decide, Or.inl (List.mem_of_getElem? (i := 572) (by decide +kernel))⟩
theorem kI_X7_21 : LkF RX7 21 7 4 := ⟨_, _, _, rfl, by decide, Or.inl (List.mem_of_getElem? (i := 576) (by decide +kernel))⟩
theorem kJ_X7_24 : LkI RX7 24 yX8_init cX8_init 1 0 := ⟨List.mem_of_getElem? (i := 514) (by decide +kernel), List.mem_of_getElem? (i := 193) (by decide +kernel), List.mem_of_getElem? (i := 513) (by decide +kernel), rfl, ⟨by decide +kernel, by decide +kernel, by decide +kernel⟩, Or.inr ⟨"BlindSide", List.mem_of_getElem? (i := 512) (by decide +kernel)⟩⟩
def scrL (M : Mem) (a : Int) : Nat → Mem
  | 0 => M
  | k + 1 => st (scrL M a k) (a + 1) k (a + 4 + k)
def scrM (M : Mem) (a : Int) : Mem := scrL (st (st (st M a 0 (a + 1)) a 2 (a + 2)) a 4 (a + 3)) a 40
theorem scrL_at (M : Mem) (a : Int) : ∀ (k : Nat) (c i : Int), scrL M a k c i = if c = a + 1 ∧ 0 ≤ i ∧ i < k then a + 4 + i else M c i
  | 0, c, i => by
    rw [if_neg (by omega)]; rfl
  | k + 1, c, i => by
    show st (scrL M a k) (a + 1) k (a + 4 + k) c i = _
    by_cases h : c = a + 1 ∧ i = k
    · obtain ⟨rfl, rfl⟩ := h
      rw [st_at, if_pos (by omega)]
    · rw [st_ne h, scrL_at M a k c i]
      by_cases h2 : c = a + 1 ∧ 0 ≤ i ∧ i < k
      · rw [if_pos h2, if_pos (by omega)]
      · rw [if_neg h2, if_neg (by omega)]
theorem scrM_at (M : Mem) (a c i : Int) : scrM M a c i = if c = a + 1 ∧ 0 ≤ i ∧ i < 40 then a + 4 + i else if c = a ∧ i = 0 then a + 1 else if c = a ∧ i = 2 then a + 2 else if c = a ∧ i = 4 then a + 3 else M c i := by
  unfold scrM
  rw [scrL_at, show ((40 : Nat) : Int) = 40 from rfl]
  by_cases h : c = a + 1 ∧ 0 ≤ i ∧ i < 40
  · rw [if_pos h, if_pos h]
  · rw [if_neg h, if_neg h]
    unfold st
    by_cases h4 : c = a ∧ i = 4
    · rw [if_pos h4, if_neg (by omega), if_neg (by omega), if_pos h4]
    · rw [if_neg h4]
      by_cases h2 : c = a ∧ i = 2
      · rw [if_pos h2, if_neg (by omega), if_pos h2]
      · rw [if_neg h2]
        by_cases h0 : c = a ∧ i = 0
        · rw [if_pos h0, if_pos h0]
        · rw [if_neg h0, if_neg h0, if_neg h2, if_neg h4]
theorem ln_stm {a : Int} (ha : kd a = 17) {i : Int} (hi : 0 ≤ i ∧ i < 40) : ln (a + 4 + i) = 10 := by
  have e : i = ((i.toNat : Nat) : Int) := by omega
  rw [e]
  exact kd_all (P := fun a => ∀ j : Nat, j < 40 → ln (a + 4 + j) = 10) 17 (by decide) (by decide +kernel) a ha i.toNat (by omega)
theorem scr_loop {g : GT} {p : Program} {e : Env} {s : State} {m : MethodId} {args : Array Value} {below : List Frame} {meth : Method} {c : Code} {M : Mem} {a : Int} (ha : kd a = 17) (hC : Cx g p s m meth c RX7 cX7_init 2) (hr : meth.sig.returnType = none) (hM0 : M a 0 = a + 1) : ∀ (j k : Nat), k + j = 40 → BW g p e (rmOf 2 (cs a (a + 43)) (sl a (a + 43))) s m args below meth c (MQ below (QcA g (a + 43) 0 (scrL M a 40) none 0) args s (cs a (a + 43)) (sl a (a + 43)) (Ag g)) (cs a (a + 3 + k)) (sl a (a + 3 + k)) 31 [(1, 0, k), (0, 2, a)] [] (a + 3 + k) 0 (scrL M a k) := by
  have rg := kd_rg ha
  have kS := kdS a ha
  intro j
  induction j with
  | zero =>
    intro k hk
    have hk : k = 40 := by omega
    subst hk
    refine b_iload_n (q := 0) hC dX7_init_31 rfl rfl ?_
    refine b_bipush hC dX7_init_32 (by decide) ⟨by decide, by decide⟩ ?_
    refine b_icmp_ge (tgt := 56) hC dX7_init_34 rfl (fun _ => ?_) (fun h => absurd (Int.le_refl _) h)
    rw [show a + 3 + ((40 : Nat) : Int) = a + 43 by omega]
    exact b_vret hC hr dX7_init_56
  | succ j ih =>
    intro k hk
    have ih' := ih (k + 1) (by omega)
    rw [show a + 3 + ((k + 1 : Nat) : Int) = a + 4 + k by omega] at ih'
    have e0 : scrL M a k a 0 = a + 1 := by rw [scrL_at, if_neg (by omega)]; exact hM0
    refine b_iload_n (q := 0) hC dX7_init_31 rfl rfl ?_
    refine b_bipush hC dX7_init_32 (by decide) ⟨by decide, by decide⟩ ?_
    refine b_icmp_ge (tgt := 56) hC dX7_init_34 rfl (fun h => absurd h (by omega)) (fun _ => ?_)
    refine b_aload_n (q := 1) hC dX7_init_37 rfl rfl ?_
    refine c_gf (a + 1) e0 hC dX7_init_38 kI_X7_11 ha rfl (by omega) ?_
    refine b_iload_n (q := 0) hC dX7_init_41 rfl rfl ?_
    refine c_new (n' := a + 4 + k) (N := 10) hC dX7_init_42 (List.mem_of_getElem? (i := 509) (by decide +kernel)) (List.mem_of_getElem? (i := 511) (by decide +kernel)) (List.mem_of_getElem? (i := 193) (by decide +kernel)) (ci := 8) rfl (dk := 18) (kdSt a ha k ⟨by omega, by omega⟩) rfl (ln_stm ha ⟨by omega, by omega⟩) (by omega) (by omega) ⟨by omega, by omega, by omega, by omega⟩ ?_
    refine b_dup hC dX7_init_45 (by decide : (2 : Nat) ≠ 1) ?_
    refine c_ini (n' := a + 4 + k) (av := []) (a := a + 4 + k) hC dX7_init_46 kJ_X7_24 (by omega) rfl rfl (show skw [(2, a + 4 + (k : Int)), (0, (k : Int)), (2, a + 1)] ≤ 8 from by simp [skw]) (show 1 + 1 ≤ 2 by decide) (show 8 + (1 + 11) + 64 * 1 ≤ 64 * 2 by decide) ⟨by omega, by omega, by omega, by omega, by omega⟩ (ci_X8_init _ (by omega)) ?_
    refine b_aast (d := 6) (ci := 8) hC dX7_init_49 kS.1 (Or.inr (Or.inl ⟨rfl, rfl⟩)) (by omega) ⟨by omega, by rw [kS.2.1]; omega⟩ (kdSt a ha k ⟨by omega, by omega⟩) (Int.le_refl _) (Or.inr (by omega)) ?_
    refine b_iinc (q := 0) (ls' := [(1, 0, (k : Int) + 1), (0, 2, a)]) hC dX7_init_50 rfl ⟨by omega, by omega⟩ (by decide) rfl ?_
    refine b_goto (tgt := 31) hC dX7_init_53 rfl ?_
    exact ih'
theorem ci_X7_init {g : GT} {a : Int} (ha : kd a = 17) (M : Mem) (hok : okS [(2, a)]) : RM g yX7_init cX7_init 2 none 2 a (a + 43) 0 [(2, a)] M (scrM M a) 0 := by
  have rg := kd_rg ha
  have kS := kdS a ha
  refine RM_of (by decide +kernel) (Nat.le_of_ble_eq_true rfl) (fun p e s m args below meth c hC hr hname => ?_) hok
  have hC : Cx g p s m meth c RX7 cX7_init 2 := hC
  show BW g p e (rmOf 2 (cs a (a + 43)) (sl a (a + 43))) s m args below meth c (MQ below (QcA g (a + 43) 0 (scrM M a) none 0) args s (cs a (a + 43)) (sl a (a + 43)) (Ag g)) (cs a a) (sl a a) 0 [(0, 2, a)] [] a 0 M
  refine b_aload_n (q := 0) hC dX7_init_0 rfl rfl ?_
  refine b_obj hC dX7_init_1 (List.mem_of_getElem? (i := 508) (by decide +kernel)) (List.mem_of_getElem? (i := 203) (by decide +kernel)) (List.mem_of_getElem? (i := 204) (by decide +kernel)) (by omega) (by decide) (show 1 ≤ 2 by decide) (show 20 ≤ 64 * 2 by decide) ?_
  refine b_aload_n (q := 0) hC dX7_init_4 rfl rfl ?_
  refine b_bipush hC dX7_init_5 (by decide) ⟨by decide, by decide⟩ ?_
  refine c_anewa (n' := a + 1) (v := 40) (b := 6) hC (pl := 5) rfl (by decide) hC.2.2.2.2.1.2.2.1 dX7_init_7 (List.mem_of_getElem? (i := 509) (by decide +kernel)) kS.1 kS.2.1 ⟨by decide, by decide⟩ (by omega) rfl ⟨by omega, by omega, by omega, by omega⟩ ?_
  refine b_pf (t := 2) hC dX7_init_10 kI_X7_11 ha rfl (by omega) rfl (fun h => absurd h (by decide)) (Or.inr (by omega)) (fun C T N h => by cases h; exact Or.inr ⟨hname, rfl, List.mem_of_getElem? (i := 565) (by decide +kernel)⟩) ?_
  refine b_aload_n (q := 0) hC dX7_init_13 rfl rfl ?_
  refine b_iconst hC dX7_init_14 ⟨by decide, by decide⟩ ?_
  refine c_newa (b := 1) (n' := a + 2) (v := 5) hC rfl (pl := 0) rfl rfl id dX7_init_15 (List.mem_of_getElem? (i := 220) (by decide +kernel)) (dk := 1) kS.2.2.1 rfl ⟨by decide, by decide⟩ kS.2.2.2.1 ⟨by decide, by decide⟩ (by decide) (by omega) (by omega) ⟨by omega, by omega, by omega, by omega⟩ ?_
  refine b_pf (t := 2) hC dX7_init_17 kI_X7_17 ha rfl (by omega) rfl (fun h => absurd h (by decide)) (Or.inr (by omega)) (fun C T N h => by cases h; exact Or.inr ⟨hname, rfl, List.mem_of_getElem? (i := 572) (by decide +kernel)⟩) ?_
  refine b_aload_n (q := 0) hC dX7_init_20 rfl rfl ?_
  refine b_sipush hC dX7_init_21 (by decide) ⟨by decide, by decide⟩ ?_
  refine c_newa (b := 1) (n' := a + 3) (v := 900) hC rfl (pl := 0) rfl rfl id dX7_init_24 (List.mem_of_getElem? (i := 220) (by decide +kernel)) (dk := 1) kS.2.2.2.2.1 rfl ⟨by decide, by decide⟩ kS.2.2.2.2.2 ⟨by decide, by decide⟩ (by decide) (by omega) (by omega) ⟨by omega, by omega, by omega, by omega⟩ ?_
  refine b_pf (t := 2) hC dX7_init_26 kI_X7_21 ha rfl (by omega) rfl (fun h => absurd h (by decide)) (Or.inr (by omega)) (fun C T N h => by cases h; exact Or.inr ⟨hname, rfl, List.mem_of_getElem? (i := 576) (by decide +kernel)⟩) ?_
  refine b_iconst hC dX7_init_29 ⟨by decide, by decide⟩ ?_
  refine b_istore_n hC dX7_init_30 rfl (by decide) (ls' := [(1, 0, 0), (0, 2, a)]) rfl ?_
  have h := scr_loop (M := st (st (st M a 0 (a + 1)) a 2 (a + 2)) a 4 (a + 3)) (p := p) (e := e) (s := s) (m := m) (args := args) (below := below) (meth := meth) (c := c) ha hC hr (by simp [st]) 40 0 rfl
  rw [show a + 3 + ((0 : Nat) : Int) = a + 3 by omega] at h
  exact h
theorem dX0_init_0 : decode cX0_init 0 = .ok (.aload_n 0, 1) := by decide +kernel
theorem dX0_init_1 : decode cX0_init 1 = .ok (.invokespecial 3, 3) := by decide +kernel
theorem dX0_init_4 : decode cX0_init 4 = .ok (.aload_n 0, 1) := by decide +kernel
theorem dX0_init_5 : decode cX0_init 5 = .ok (.bipush 40, 2) := by decide +kernel
theorem dX0_init_7 : decode cX0_init 7 = .ok (.anewarray 9, 3) := by decide +kernel
theorem dX0_init_10 : decode cX0_init 10 = .ok (.putfield 11, 3) := by decide +kernel
theorem dX0_init_13 : decode cX0_init 13 = .ok (.iconst 0, 1) := by decide +kernel
theorem dX0_init_14 : decode cX0_init 14 = .ok (.istore_n 1, 1) := by decide +kernel
theorem dX0_init_15 : decode cX0_init 15 = .ok (.iload_n 1, 1) := by decide +kernel
theorem dX0_init_16 : decode cX0_init 16 = .ok (.bipush 40, 2) := by decide +kernel
theorem dX0_init_18 : decode cX0_init 18 = .ok (.if_icmp .ge 22, 3) := by decide +kernel
theorem dX0_init_21 : decode cX0_init 21 = .ok (.aload_n 0, 1) := by decide +kernel
theorem dX0_init_22 : decode cX0_init 22 = .ok (.getfield 11, 3) := by decide +kernel
theorem dX0_init_25 : decode cX0_init 25 = .ok (.iload_n 1, 1) := by decide +kernel
theorem dX0_init_26 : decode cX0_init 26 = .ok (.new 9, 3) := by decide +kernel
theorem dX0_init_29 : decode cX0_init 29 = .ok (.dup, 1) := by decide +kernel
theorem dX0_init_30 : decode cX0_init 30 = .ok (.invokespecial 17, 3) := by decide +kernel
theorem dX0_init_33 : decode cX0_init 33 = .ok (.aastore, 1) := by decide +kernel
theorem dX0_init_34 : decode cX0_init 34 = .ok (.iinc 1 1, 3) := by decide +kernel
theorem dX0_init_37 : decode cX0_init 37 = .ok (.goto (-22), 3) := by decide +kernel
theorem dX0_init_40 : decode cX0_init 40 = .ok (.return_, 1) := by decide +kernel
theorem kI_X0_11 : LkF RX0 11 0 0 := ⟨_, _, _, rfl, by decide, Or.inl (List.mem_of_getElem? (i := 460) (by decide +kernel))⟩
theorem kJ_X0_17 : LkI RX0 17 yX10_init cX10_init 1 0 := ⟨List.mem_of_getElem? (i := 421) (by decide +kernel), List.mem_of_getElem? (i := 189) (by decide +kernel), List.mem_of_getElem? (i := 420) (by decide +kernel), rfl, ⟨by decide +kernel, by decide +kernel, by decide +kernel⟩, Or.inr ⟨"BlindSide", List.mem_of_getElem? (i := 419) (by decide +kernel)⟩⟩
def bokL (M : Mem) : Nat → Mem
  | 0 => M
  | k + 1 => st (bokL M k) 22 k (23 + k)
def bokM (M : Mem) : Mem := bokL (st M 21 0 22) 40
theorem bokL_at (M : Mem) : ∀ (k : Nat) (c i : Int), bokL M k c i = if c = 22 ∧ 0 ≤ i ∧ i < k then 23 + i else M c i
  | 0, c, i => by
    rw [if_neg (by omega)]; rfl
  | k + 1, c, i => by
    show st (bokL M k) 22 k (23 + k) c i = _
    by_cases h : c = 22 ∧ i = k
    · obtain ⟨rfl, rfl⟩ := h
      rw [st_at, if_pos (by omega)]
    · rw [st_ne h, bokL_at M k c i]
      by_cases h2 : c = 22 ∧ 0 ≤ i ∧ i < k
      · rw [if_pos h2, if_pos (by omega)]
      · rw [if_neg h2, if_neg (by omega)]
theorem ln_trl : ∀ j : Nat, j < 40 → ln (23 + (j : Int)) = 9 := by decide +kernel
theorem bok_loop {g : GT} {p : Program} {e : Env} {s : State} {m : MethodId} {args : Array Value} {below : List Frame} {meth : Method} {c : Code} {M : Mem} (hC : Cx g p s m meth c RX0 cX0_init 2) (hr : meth.sig.returnType = none) (hM0 : M 21 0 = 22) : ∀ (j k : Nat), k + j = 40 → BW g p e (rmOf 2 (cs 21 62) (sl 21 62)) s m args below meth c (MQ below (QcA g 62 0 (bokL M 40) none 0) args s (cs 21 62) (sl 21 62) (Ag g)) (cs 21 (22 + k)) (sl 21 (22 + k)) 15 [(1, 0, k), (0, 2, 21)] [] (22 + k) 0 (bokL M k) := by
  intro j
  induction j with
  | zero =>
    intro k hk
    have hk : k = 40 := by omega
    subst hk
    refine b_iload_n (q := 0) hC dX0_init_15 rfl rfl ?_
    refine b_bipush hC dX0_init_16 (by decide) ⟨by decide, by decide⟩ ?_
    refine b_icmp_ge (tgt := 40) hC dX0_init_18 rfl (fun _ => ?_) (fun h => absurd (Int.le_refl _) h)
    exact b_vret hC hr dX0_init_40
  | succ j ih =>
    intro k hk
    have ih' := ih (k + 1) (by omega)
    rw [show (22 : Int) + ((k + 1 : Nat) : Int) = 23 + k by omega] at ih'
    have e0 : bokL M k 21 0 = 22 := by rw [bokL_at, if_neg (by omega)]; exact hM0
    refine b_iload_n (q := 0) hC dX0_init_15 rfl rfl ?_
    refine b_bipush hC dX0_init_16 (by decide) ⟨by decide, by decide⟩ ?_
    refine b_icmp_ge (tgt := 40) hC dX0_init_18 rfl (fun h => absurd h (by omega)) (fun _ => ?_)
    refine b_aload_n (q := 1) hC dX0_init_21 rfl rfl ?_
    refine c_gf 22 e0 hC dX0_init_22 kI_X0_11 kd_21 rfl (by omega) ?_
    refine b_iload_n (q := 0) hC dX0_init_25 rfl rfl ?_
    refine c_new (n' := 23 + k) (N := 9) hC dX0_init_26 (List.mem_of_getElem? (i := 416) (by decide +kernel)) (List.mem_of_getElem? (i := 418) (by decide +kernel)) (List.mem_of_getElem? (i := 189) (by decide +kernel)) (ci := 10) rfl (dk := 20) (kdTr k ⟨by omega, by omega⟩) rfl (ln_trl k (by omega)) (by omega) (by omega) ⟨by omega, by omega, by omega, by omega⟩ ?_
    refine b_dup hC dX0_init_29 (by decide : (2 : Nat) ≠ 1) ?_
    refine c_ini (n' := 23 + k) (av := []) (a := 23 + k) hC dX0_init_30 kJ_X0_17 (by omega) rfl rfl (show skw [(2, 23 + (k : Int)), (0, (k : Int)), (2, 22)] ≤ 8 from by simp [skw]) (show 1 + 1 ≤ 2 by decide) (show 8 + (1 + 11) + 64 * 1 ≤ 64 * 2 by decide) ⟨by omega, by omega, by omega, by omega, by omega⟩ (ci_X10_init _ (by omega)) ?_
    refine b_aast (d := 7) (ci := 10) hC dX0_init_33 kd_22 (Or.inr (Or.inr ⟨rfl, rfl⟩)) (by omega) ⟨by omega, by rw [ln_22]; omega⟩ (kdTr k ⟨by omega, by omega⟩) (Int.le_refl _) (Or.inr (by omega)) ?_
    refine b_iinc (q := 0) (ls' := [(1, 0, (k : Int) + 1), (0, 2, 21)]) hC dX0_init_34 rfl ⟨by omega, by omega⟩ (by decide) rfl ?_
    refine b_goto (tgt := 15) hC dX0_init_37 rfl ?_
    exact ih'
theorem ci_X0_init {g : GT} (M : Mem) (hok : okS [(2, 21)]) : RM g yX0_init cX0_init 2 none 2 21 62 0 [(2, 21)] M (bokM M) 0 := by
  refine RM_of (by decide +kernel) (Nat.le_of_ble_eq_true rfl) (fun p e s m args below meth c hC hr hname => ?_) hok
  have hC : Cx g p s m meth c RX0 cX0_init 2 := hC
  show BW g p e (rmOf 2 (cs 21 62) (sl 21 62)) s m args below meth c (MQ below (QcA g 62 0 (bokM M) none 0) args s (cs 21 62) (sl 21 62) (Ag g)) (cs 21 21) (sl 21 21) 0 [(0, 2, 21)] [] 21 0 M
  refine b_aload_n (q := 0) hC dX0_init_0 rfl rfl ?_
  refine b_obj hC dX0_init_1 (List.mem_of_getElem? (i := 415) (by decide +kernel)) (List.mem_of_getElem? (i := 203) (by decide +kernel)) (List.mem_of_getElem? (i := 204) (by decide +kernel)) (by decide) (by decide) (show 1 ≤ 2 by decide) (show 20 ≤ 64 * 2 by decide) ?_
  refine b_aload_n (q := 0) hC dX0_init_4 rfl rfl ?_
  refine b_bipush hC dX0_init_5 (by decide) ⟨by decide, by decide⟩ ?_
  refine c_anewa (n' := 22) (v := 40) (b := 7) hC (pl := 6) rfl (by decide) hC.2.2.2.2.1.2.2.2.1 dX0_init_7 (List.mem_of_getElem? (i := 416) (by decide +kernel)) kd_22 ln_22 ⟨by decide, by decide⟩ (by decide) rfl ⟨by decide, by decide, by decide, by decide⟩ ?_
  refine b_pf (t := 2) hC dX0_init_10 kI_X0_11 kd_21 rfl (by decide) rfl (fun h => absurd h (by decide)) (Or.inr (by decide)) (fun C T N h => by cases h; exact Or.inr ⟨hname, rfl, List.mem_of_getElem? (i := 460) (by decide +kernel)⟩) ?_
  refine b_iconst hC dX0_init_13 ⟨by decide, by decide⟩ ?_
  refine b_istore_n hC dX0_init_14 rfl (by decide) (ls' := [(1, 0, 0), (0, 2, 21)]) rfl ?_
  exact bok_loop (M := st M 21 0 22) hC hr (st_at _ _ _ _) 40 0 rfl
