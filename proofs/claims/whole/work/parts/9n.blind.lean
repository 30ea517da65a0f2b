/-! BlindSide's constructor -/
theorem dX11_init_0 : decode cX11_init 0 = .ok (.aload_n 0, 1) := by decide +kernel
theorem dX11_init_1 : decode cX11_init 1 = .ok (.invokespecial 1, 3) := by decide +kernel
theorem dX11_init_4 : decode cX11_init 4 = .ok (.aload_n 0, 1) := by decide +kernel
theorem dX11_init_5 : decode cX11_init 5 = .ok (.new 7, 3) := by decide +kernel
theorem dX11_init_8 : decode cX11_init 8 = .ok (.dup, 1) := by decide +kernel
theorem dX11_init_9 : decode cX11_init 9 = .ok (.invokespecial 9, 3) := by decide +kernel
theorem dX11_init_12 : decode cX11_init 12 = .ok (.putfield 10, 3) := by decide +kernel
theorem dX11_init_15 : decode cX11_init 15 = .ok (.aload_n 0, 1) := by decide +kernel
theorem dX11_init_16 : decode cX11_init 16 = .ok (.new 16, 3) := by decide +kernel
theorem dX11_init_19 : decode cX11_init 19 = .ok (.dup, 1) := by decide +kernel
theorem dX11_init_20 : decode cX11_init 20 = .ok (.aload_n 0, 1) := by decide +kernel
theorem dX11_init_21 : decode cX11_init 21 = .ok (.getfield 10, 3) := by decide +kernel
theorem dX11_init_24 : decode cX11_init 24 = .ok (.invokespecial 18, 3) := by decide +kernel
theorem dX11_init_27 : decode cX11_init 27 = .ok (.putfield 21, 3) := by decide +kernel
theorem dX11_init_30 : decode cX11_init 30 = .ok (.aload_n 0, 1) := by decide +kernel
theorem dX11_init_31 : decode cX11_init 31 = .ok (.new 25, 3) := by decide +kernel
theorem dX11_init_34 : decode cX11_init 34 = .ok (.dup, 1) := by decide +kernel
theorem dX11_init_35 : decode cX11_init 35 = .ok (.invokespecial 27, 3) := by decide +kernel
theorem dX11_init_38 : decode cX11_init 38 = .ok (.putfield 28, 3) := by decide +kernel
theorem dX11_init_41 : decode cX11_init 41 = .ok (.aload_n 0, 1) := by decide +kernel
theorem dX11_init_42 : decode cX11_init 42 = .ok (.new 32, 3) := by decide +kernel
theorem dX11_init_45 : decode cX11_init 45 = .ok (.dup, 1) := by decide +kernel
theorem dX11_init_46 : decode cX11_init 46 = .ok (.invokespecial 34, 3) := by decide +kernel
theorem dX11_init_49 : decode cX11_init 49 = .ok (.putfield 35, 3) := by decide +kernel
theorem dX11_init_52 : decode cX11_init 52 = .ok (.aload_n 0, 1) := by decide +kernel
theorem dX11_init_53 : decode cX11_init 53 = .ok (.new 39, 3) := by decide +kernel
theorem dX11_init_56 : decode cX11_init 56 = .ok (.dup, 1) := by decide +kernel
theorem dX11_init_57 : decode cX11_init 57 = .ok (.invokespecial 41, 3) := by decide +kernel
theorem dX11_init_60 : decode cX11_init 60 = .ok (.putfield 42, 3) := by decide +kernel
theorem dX11_init_63 : decode cX11_init 63 = .ok (.aload_n 0, 1) := by decide +kernel
theorem dX11_init_64 : decode cX11_init 64 = .ok (.new 46, 3) := by decide +kernel
theorem dX11_init_67 : decode cX11_init 67 = .ok (.dup, 1) := by decide +kernel
theorem dX11_init_68 : decode cX11_init 68 = .ok (.invokespecial 48, 3) := by decide +kernel
theorem dX11_init_71 : decode cX11_init 71 = .ok (.putfield 49, 3) := by decide +kernel
theorem dX11_init_74 : decode cX11_init 74 = .ok (.aload_n 0, 1) := by decide +kernel
theorem dX11_init_75 : decode cX11_init 75 = .ok (.new 53, 3) := by decide +kernel
theorem dX11_init_78 : decode cX11_init 78 = .ok (.dup, 1) := by decide +kernel
theorem dX11_init_79 : decode cX11_init 79 = .ok (.invokespecial 55, 3) := by decide +kernel
theorem dX11_init_82 : decode cX11_init 82 = .ok (.putfield 56, 3) := by decide +kernel
theorem dX11_init_85 : decode cX11_init 85 = .ok (.aload_n 0, 1) := by decide +kernel
theorem dX11_init_86 : decode cX11_init 86 = .ok (.iconst 3, 1) := by decide +kernel
theorem dX11_init_87 : decode cX11_init 87 = .ok (.anewarray 60, 3) := by decide +kernel
theorem dX11_init_90 : decode cX11_init 90 = .ok (.putfield 62, 3) := by decide +kernel
theorem dX11_init_93 : decode cX11_init 93 = .ok (.aload_n 0, 1) := by decide +kernel
theorem dX11_init_94 : decode cX11_init 94 = .ok (.new 60, 3) := by decide +kernel
theorem dX11_init_97 : decode cX11_init 97 = .ok (.dup, 1) := by decide +kernel
theorem dX11_init_98 : decode cX11_init 98 = .ok (.invokespecial 66, 3) := by decide +kernel
theorem dX11_init_101 : decode cX11_init 101 = .ok (.putfield 67, 3) := by decide +kernel
theorem dX11_init_104 : decode cX11_init 104 = .ok (.aload_n 0, 1) := by decide +kernel
theorem dX11_init_105 : decode cX11_init 105 = .ok (.new 60, 3) := by decide +kernel
theorem dX11_init_108 : decode cX11_init 108 = .ok (.dup, 1) := by decide +kernel
theorem dX11_init_109 : decode cX11_init 109 = .ok (.invokespecial 66, 3) := by decide +kernel
theorem dX11_init_112 : decode cX11_init 112 = .ok (.putfield 71, 3) := by decide +kernel
theorem dX11_init_115 : decode cX11_init 115 = .ok (.aload_n 0, 1) := by decide +kernel
theorem dX11_init_116 : decode cX11_init 116 = .ok (.new 60, 3) := by decide +kernel
theorem dX11_init_119 : decode cX11_init 119 = .ok (.dup, 1) := by decide +kernel
theorem dX11_init_120 : decode cX11_init 120 = .ok (.invokespecial 66, 3) := by decide +kernel
theorem dX11_init_123 : decode cX11_init 123 = .ok (.putfield 74, 3) := by decide +kernel
theorem dX11_init_126 : decode cX11_init 126 = .ok (.aload_n 0, 1) := by decide +kernel
theorem dX11_init_127 : decode cX11_init 127 = .ok (.bipush 40, 2) := by decide +kernel
theorem dX11_init_129 : decode cX11_init 129 = .ok (.newarray .int, 2) := by decide +kernel
theorem dX11_init_131 : decode cX11_init 131 = .ok (.putfield 77, 3) := by decide +kernel
theorem dX11_init_134 : decode cX11_init 134 = .ok (.aload_n 0, 1) := by decide +kernel
theorem dX11_init_135 : decode cX11_init 135 = .ok (.sipush 322, 3) := by decide +kernel
theorem dX11_init_138 : decode cX11_init 138 = .ok (.newarray .int, 2) := by decide +kernel
theorem dX11_init_140 : decode cX11_init 140 = .ok (.putfield 81, 3) := by decide +kernel
theorem dX11_init_143 : decode cX11_init 143 = .ok (.aload_n 0, 1) := by decide +kernel
theorem dX11_init_144 : decode cX11_init 144 = .ok (.bipush 41, 2) := by decide +kernel
theorem dX11_init_146 : decode cX11_init 146 = .ok (.newarray .long, 2) := by decide +kernel
theorem dX11_init_148 : decode cX11_init 148 = .ok (.putfield 84, 3) := by decide +kernel
theorem dX11_init_151 : decode cX11_init 151 = .ok (.aload_n 0, 1) := by decide +kernel
theorem dX11_init_152 : decode cX11_init 152 = .ok (.bipush 40, 2) := by decide +kernel
theorem dX11_init_154 : decode cX11_init 154 = .ok (.newarray .int, 2) := by decide +kernel
theorem dX11_init_156 : decode cX11_init 156 = .ok (.putfield 88, 3) := by decide +kernel
theorem dX11_init_159 : decode cX11_init 159 = .ok (.iconst 0, 1) := by decide +kernel
theorem dX11_init_160 : decode cX11_init 160 = .ok (.istore_n 1, 1) := by decide +kernel
theorem dX11_init_161 : decode cX11_init 161 = .ok (.iload_n 1, 1) := by decide +kernel
theorem dX11_init_162 : decode cX11_init 162 = .ok (.iconst 3, 1) := by decide +kernel
theorem dX11_init_163 : decode cX11_init 163 = .ok (.if_icmp .ge 22, 3) := by decide +kernel
theorem dX11_init_166 : decode cX11_init 166 = .ok (.aload_n 0, 1) := by decide +kernel
theorem dX11_init_167 : decode cX11_init 167 = .ok (.getfield 62, 3) := by decide +kernel
theorem dX11_init_170 : decode cX11_init 170 = .ok (.iload_n 1, 1) := by decide +kernel
theorem dX11_init_171 : decode cX11_init 171 = .ok (.new 60, 3) := by decide +kernel
theorem dX11_init_174 : decode cX11_init 174 = .ok (.dup, 1) := by decide +kernel
theorem dX11_init_175 : decode cX11_init 175 = .ok (.invokespecial 66, 3) := by decide +kernel
theorem dX11_init_178 : decode cX11_init 178 = .ok (.aastore, 1) := by decide +kernel
theorem dX11_init_179 : decode cX11_init 179 = .ok (.iinc 1 1, 3) := by decide +kernel
theorem dX11_init_182 : decode cX11_init 182 = .ok (.goto (-21), 3) := by decide +kernel
theorem dX11_init_185 : decode cX11_init 185 = .ok (.aload_n 0, 1) := by decide +kernel
theorem dX11_init_186 : decode cX11_init 186 = .ok (.getfield 35, 3) := by decide +kernel
theorem dX11_init_189 : decode cX11_init 189 = .ok (.aload_n 0, 1) := by decide +kernel
theorem dX11_init_190 : decode cX11_init 190 = .ok (.getfield 67, 3) := by decide +kernel
theorem dX11_init_193 : decode cX11_init 193 = .ok (.aload_n 0, 1) := by decide +kernel
theorem dX11_init_194 : decode cX11_init 194 = .ok (.getfield 28, 3) := by decide +kernel
theorem dX11_init_197 : decode cX11_init 197 = .ok (.invokevirtual 91, 3) := by decide +kernel
theorem dX11_init_200 : decode cX11_init 200 = .ok (.return_, 1) := by decide +kernel
def zM : Mem := fun _ _ => 0
theorem kJ_X11_9 : LkI RX11 9 yX9_init cX9_init 1 0 := ⟨List.mem_of_getElem? (i := 209) (by decide +kernel), List.mem_of_getElem? (i := 179) (by decide +kernel), List.mem_of_getElem? (i := 208) (by decide +kernel), rfl, ⟨by decide +kernel, by decide +kernel, by decide +kernel⟩, Or.inr ⟨"BlindSide", List.mem_of_getElem? (i := 207) (by decide +kernel)⟩⟩
def mB1 : Mem := (st (zM) 2 0 3)
theorem kI_X11_10 : LkF RX11 10 11 0 := ⟨_, _, _, rfl, by decide, Or.inl (List.mem_of_getElem? (i := 661) (by decide +kernel))⟩
def mB2 : Mem := st mB1 1 0 2
theorem kJ_X11_18 : LkI RX11 18 yX5_init cX5_init 2 1 := ⟨List.mem_of_getElem? (i := 225) (by decide +kernel), List.mem_of_getElem? (i := 180) (by decide +kernel), List.mem_of_getElem? (i := 224) (by decide +kernel), rfl, ⟨by decide +kernel, by decide +kernel, by decide +kernel⟩, Or.inr ⟨"BlindSide", List.mem_of_getElem? (i := 223) (by decide +kernel)⟩⟩
def mB3 : Mem := (reaM (mB2))
theorem kI_X11_21 : LkF RX11 21 11 1 := ⟨_, _, _, rfl, by decide, Or.inl (List.mem_of_getElem? (i := 662) (by decide +kernel))⟩
def mB4 : Mem := st mB3 1 1 4
theorem kJ_X11_27 : LkI RX11 27 yX6_init cX6_init 1 0 := ⟨List.mem_of_getElem? (i := 349) (by decide +kernel), List.mem_of_getElem? (i := 186) (by decide +kernel), List.mem_of_getElem? (i := 348) (by decide +kernel), rfl, ⟨by decide +kernel, by decide +kernel, by decide +kernel⟩, Or.inr ⟨"BlindSide", List.mem_of_getElem? (i := 347) (by decide +kernel)⟩⟩
def mB5 : Mem := (st (st (mB4) 10 0 11) 10 1 12)
theorem kI_X11_28 : LkF RX11 28 11 2 := ⟨_, _, _, rfl, by decide, Or.inl (List.mem_of_getElem? (i := 663) (by decide +kernel))⟩
def mB6 : Mem := st mB5 1 2 10
theorem kJ_X11_34 : LkI RX11 34 yX3_init cX3_init 1 0 := ⟨List.mem_of_getElem? (i := 364) (by decide +kernel), List.mem_of_getElem? (i := 187) (by decide +kernel), List.mem_of_getElem? (i := 363) (by decide +kernel), rfl, ⟨by decide +kernel, by decide +kernel, by decide +kernel⟩, Or.inr ⟨"BlindSide", List.mem_of_getElem? (i := 362) (by decide +kernel)⟩⟩
def mB7 : Mem := (st (st (st (st (st (st (st (mB6) 13 0 14) 13 1 15) 13 2 16) 13 3 17) 13 4 18) 13 5 19) 13 6 20)
theorem kI_X11_35 : LkF RX11 35 11 3 := ⟨_, _, _, rfl, by decide, Or.inl (List.mem_of_getElem? (i := 664) (by decide +kernel))⟩
def mB8 : Mem := st mB7 1 3 13
theorem kJ_X11_41 : LkI RX11 41 yX0_init cX0_init 2 0 := ⟨List.mem_of_getElem? (i := 414) (by decide +kernel), List.mem_of_getElem? (i := 188) (by decide +kernel), List.mem_of_getElem? (i := 413) (by decide +kernel), rfl, ⟨by decide +kernel, by decide +kernel, by decide +kernel⟩, Or.inr ⟨"BlindSide", List.mem_of_getElem? (i := 412) (by decide +kernel)⟩⟩
def mB9 : Mem := (bokM (mB8))
theorem kI_X11_42 : LkF RX11 42 11 4 := ⟨_, _, _, rfl, by decide, Or.inl (List.mem_of_getElem? (i := 665) (by decide +kernel))⟩
def mB10 : Mem := st mB9 1 4 21
theorem kJ_X11_48 : LkI RX11 48 yX1_init cX1_init 1 0 := ⟨List.mem_of_getElem? (i := 473) (by decide +kernel), List.mem_of_getElem? (i := 190) (by decide +kernel), List.mem_of_getElem? (i := 472) (by decide +kernel), rfl, ⟨by decide +kernel, by decide +kernel, by decide +kernel⟩, Or.inr ⟨"BlindSide", List.mem_of_getElem? (i := 471) (by decide +kernel)⟩⟩
def mB11 : Mem := (st (st (st (mB10) 63 0 64) 63 1 65) 63 2 66)
theorem kI_X11_49 : LkF RX11 49 11 5 := ⟨_, _, _, rfl, by decide, Or.inl (List.mem_of_getElem? (i := 666) (by decide +kernel))⟩
def mB12 : Mem := st mB11 1 5 63
theorem kJ_X11_55 : LkI RX11 55 yX2_init cX2_init 1 0 := ⟨List.mem_of_getElem? (i := 495) (by decide +kernel), List.mem_of_getElem? (i := 191) (by decide +kernel), List.mem_of_getElem? (i := 494) (by decide +kernel), rfl, ⟨by decide +kernel, by decide +kernel, by decide +kernel⟩, Or.inr ⟨"BlindSide", List.mem_of_getElem? (i := 493) (by decide +kernel)⟩⟩
def mB13 : Mem := (mB12)
theorem kI_X11_56 : LkF RX11 56 11 6 := ⟨_, _, _, rfl, by decide, Or.inl (List.mem_of_getElem? (i := 667) (by decide +kernel))⟩
def mB14 : Mem := st mB13 1 6 67
theorem kI_X11_62 : LkF RX11 62 11 7 := ⟨_, _, _, rfl, by decide, Or.inl (List.mem_of_getElem? (i := 668) (by decide +kernel))⟩
def mB15 : Mem := st mB14 1 7 68
theorem kJ_X11_66 : LkI RX11 66 yX7_init cX7_init 2 0 := ⟨List.mem_of_getElem? (i := 507) (by decide +kernel), List.mem_of_getElem? (i := 192) (by decide +kernel), List.mem_of_getElem? (i := 506) (by decide +kernel), rfl, ⟨by decide +kernel, by decide +kernel, by decide +kernel⟩, Or.inr ⟨"BlindSide", List.mem_of_getElem? (i := 505) (by decide +kernel)⟩⟩
def mB16 : Mem := (scrM (mB15) 69)
theorem kI_X11_67 : LkF RX11 67 11 8 := ⟨_, _, _, rfl, by decide, Or.inl (List.mem_of_getElem? (i := 669) (by decide +kernel))⟩
def mB17 : Mem := st mB16 1 8 69
def mB18 : Mem := (scrM (mB17) 113)
theorem kI_X11_71 : LkF RX11 71 11 9 := ⟨_, _, _, rfl, by decide, Or.inl (List.mem_of_getElem? (i := 670) (by decide +kernel))⟩
def mB19 : Mem := st mB18 1 9 113
def mB20 : Mem := (scrM (mB19) 157)
theorem kI_X11_74 : LkF RX11 74 11 10 := ⟨_, _, _, rfl, by decide, Or.inl (List.mem_of_getElem? (i := 671) (by decide +kernel))⟩
def mB21 : Mem := st mB20 1 10 157
theorem kI_X11_77 : LkF RX11 77 11 11 := ⟨_, _, _, rfl, by decide, Or.inl (List.mem_of_getElem? (i := 672) (by decide +kernel))⟩
def mB22 : Mem := st mB21 1 11 201
theorem kI_X11_81 : LkF RX11 81 11 14 := ⟨_, _, _, rfl, by decide, Or.inl (List.mem_of_getElem? (i := 675) (by decide +kernel))⟩
def mB23 : Mem := st mB22 1 14 202
theorem kI_X11_84 : LkF RX11 84 11 16 := ⟨_, _, _, rfl, by decide, Or.inl (List.mem_of_getElem? (i := 677) (by decide +kernel))⟩
def mB24 : Mem := st mB23 1 16 203
theorem kI_X11_88 : LkF RX11 88 11 17 := ⟨_, _, _, rfl, by decide, Or.inl (List.mem_of_getElem? (i := 678) (by decide +kernel))⟩
def mB25 : Mem := st mB24 1 17 204
def mB26 : Mem := (scrM (mB25) 205)
def mB27 : Mem := st mB26 68 0 205
def mB28 : Mem := (scrM (mB27) 249)
def mB29 : Mem := st mB28 68 1 249
def mB30 : Mem := (scrM (mB29) 293)
def mB31 : Mem := st mB30 68 2 293
theorem mB_fxb : fxl.all (fun t => decide (336 < t.1) || decide (mB31 t.1 t.2.1 = t.2.2)) = true := by decide +kernel
theorem mB_fx : ∀ t ∈ fxl, t.1 ≤ 336 → mB31 t.1 t.2.1 = t.2.2 := by
  intro t ht h
  have q := List.all_eq_true.mp mB_fxb t ht
  rcases (Bool.or_eq_true _ _).mp q with z | z
  · have := of_decide_eq_true z
    omega
  · exact of_decide_eq_true z
theorem ci_X11_init {g : GT} {M1 : Mem} {r0 : Int} (hb : f_X3_build mB31 69 = some (r0, M1)) (hok : okS [(2, 1)]) : RM g yX11_init cX11_init 2 none 6 1 336 0 [(2, 1)] zM (mix true M1 mB31) 0 := by
  refine RM_of (by decide +kernel) (Nat.le_of_ble_eq_true rfl) (fun p e s m args below meth c hC hr hname => ?_) hok
  have hC : Cx g p s m meth c RX11 cX11_init 2 := hC
  show BW g p e (rmOf 6 (cs 1 336) (sl 1 336)) s m args below meth c (MQ below (QcA g 336 0 (mix true M1 mB31) none 0) args s (cs 1 336) (sl 1 336) (Ag g)) (cs 1 1) (sl 1 1) 0 [(0, 2, 1)] [] 1 0 zM
  refine b_aload_n (q := 0) hC dX11_init_0 rfl rfl ?_
  refine b_obj hC dX11_init_1 (List.mem_of_getElem? (i := 202) (by decide +kernel)) (List.mem_of_getElem? (i := 203) (by decide +kernel)) (List.mem_of_getElem? (i := 204) (by decide +kernel)) (by decide) (by decide) (show 1 ≤ 6 by decide) (show 20 ≤ 64 * 6 by decide) ?_
  refine b_aload_n (q := 0) hC dX11_init_4 rfl rfl ?_
  refine c_new (n' := 2) (N := 2) hC dX11_init_5 (List.mem_of_getElem? (i := 205) (by decide +kernel)) (List.mem_of_getElem? (i := 206) (by decide +kernel)) (List.mem_of_getElem? (i := 179) (by decide +kernel)) (ci := 9) rfl (dk := 19) kd_2 rfl (by decide +kernel) (by decide) rfl ⟨by decide, by decide, by decide, by decide⟩ ?_
  refine b_dup hC dX11_init_8 (by decide) ?_
  refine c_ini (n' := 3) (av := []) (a := 2) hC dX11_init_9 kJ_X11_9 (by decide) rfl rfl (by decide) (show 1 + 1 ≤ 6 by decide) (show 8 + (1 + 11) + 64 * 1 ≤ 64 * 6 by decide) ⟨by decide, by decide, by decide, by decide, by decide⟩ (ci_X9_init _) ?_
  change BW g p e _ s m args below meth c _ _ _ _ _ _ _ _ mB1
  refine b_pf (t := 2) hC dX11_init_12 kI_X11_10 kd_1 rfl (by decide) rfl (fun h => absurd h (by decide)) (Or.inr (by decide)) (fun C T N h => by cases h; exact Or.inr ⟨hname, rfl, List.mem_of_getElem? (i := 661) (by decide +kernel)⟩) ?_
  change BW g p e _ s m args below meth c _ _ _ _ _ _ _ _ mB2
  refine b_aload_n (q := 0) hC dX11_init_15 rfl rfl ?_
  refine c_new (n' := 4) (N := 11) hC dX11_init_16 (List.mem_of_getElem? (i := 221) (by decide +kernel)) (List.mem_of_getElem? (i := 222) (by decide +kernel)) (List.mem_of_getElem? (i := 180) (by decide +kernel)) (ci := 5) rfl (dk := 15) kd_4 rfl (by decide +kernel) (by decide) rfl ⟨by decide, by decide, by decide, by decide⟩ ?_
  refine b_dup hC dX11_init_19 (by decide) ?_
  refine b_aload_n (q := 0) hC dX11_init_20 rfl rfl ?_
  refine c_gf 2 (by decide +kernel) hC dX11_init_21 kI_X11_10 kd_1 rfl (by decide) ?_
  refine c_ini (n' := 9) (av := [(2, 2)]) (a := 4) hC dX11_init_24 kJ_X11_18 (by decide) rfl rfl (by decide) (show 5 + 1 ≤ 6 by decide) (show 8 + (2 + 11) + 64 * 5 ≤ 64 * 6 by decide) ⟨by decide, by decide, by decide, by decide, by decide⟩ (ci_X5_init _ (fun j _ _ => rfl)) ?_
  change BW g p e _ s m args below meth c _ _ _ _ _ _ _ _ mB3
  refine b_pf (t := 2) hC dX11_init_27 kI_X11_21 kd_1 rfl (by decide) rfl (fun h => absurd h (by decide)) (Or.inr (by decide)) (fun C T N h => by cases h; exact Or.inr ⟨hname, rfl, List.mem_of_getElem? (i := 662) (by decide +kernel)⟩) ?_
  change BW g p e _ s m args below meth c _ _ _ _ _ _ _ _ mB4
  refine b_aload_n (q := 0) hC dX11_init_30 rfl rfl ?_
  refine c_new (n' := 10) (N := 2) hC dX11_init_31 (List.mem_of_getElem? (i := 345) (by decide +kernel)) (List.mem_of_getElem? (i := 346) (by decide +kernel)) (List.mem_of_getElem? (i := 186) (by decide +kernel)) (ci := 6) rfl (dk := 16) kd_10 rfl (by decide +kernel) (by decide) rfl ⟨by decide, by decide, by decide, by decide⟩ ?_
  refine b_dup hC dX11_init_34 (by decide) ?_
  refine c_ini (n' := 12) (av := []) (a := 10) hC dX11_init_35 kJ_X11_27 (by decide) rfl rfl (by decide) (show 1 + 1 ≤ 6 by decide) (show 8 + (1 + 11) + 64 * 1 ≤ 64 * 6 by decide) ⟨by decide, by decide, by decide, by decide, by decide⟩ (ci_X6_init _) ?_
  change BW g p e _ s m args below meth c _ _ _ _ _ _ _ _ mB5
  refine b_pf (t := 2) hC dX11_init_38 kI_X11_28 kd_1 rfl (by decide) rfl (fun h => absurd h (by decide)) (Or.inr (by decide)) (fun C T N h => by cases h; exact Or.inr ⟨hname, rfl, List.mem_of_getElem? (i := 663) (by decide +kernel)⟩) ?_
  change BW g p e _ s m args below meth c _ _ _ _ _ _ _ _ mB6
  refine b_aload_n (q := 0) hC dX11_init_41 rfl rfl ?_
  refine c_new (n' := 13) (N := 12) hC dX11_init_42 (List.mem_of_getElem? (i := 360) (by decide +kernel)) (List.mem_of_getElem? (i := 361) (by decide +kernel)) (List.mem_of_getElem? (i := 187) (by decide +kernel)) (ci := 3) rfl (dk := 13) kd_13 rfl (by decide +kernel) (by decide) rfl ⟨by decide, by decide, by decide, by decide⟩ ?_
  refine b_dup hC dX11_init_45 (by decide) ?_
  refine c_ini (n' := 20) (av := []) (a := 13) hC dX11_init_46 kJ_X11_34 (by decide) rfl rfl (by decide) (show 1 + 1 ≤ 6 by decide) (show 8 + (1 + 11) + 64 * 1 ≤ 64 * 6 by decide) ⟨by decide, by decide, by decide, by decide, by decide⟩ (ci_X3_init _) ?_
  change BW g p e _ s m args below meth c _ _ _ _ _ _ _ _ mB7
  refine b_pf (t := 2) hC dX11_init_49 kI_X11_35 kd_1 rfl (by decide) rfl (fun h => absurd h (by decide)) (Or.inr (by decide)) (fun C T N h => by cases h; exact Or.inr ⟨hname, rfl, List.mem_of_getElem? (i := 664) (by decide +kernel)⟩) ?_
  change BW g p e _ s m args below meth c _ _ _ _ _ _ _ _ mB8
  refine b_aload_n (q := 0) hC dX11_init_52 rfl rfl ?_
  refine c_new (n' := 21) (N := 2) hC dX11_init_53 (List.mem_of_getElem? (i := 410) (by decide +kernel)) (List.mem_of_getElem? (i := 411) (by decide +kernel)) (List.mem_of_getElem? (i := 188) (by decide +kernel)) (ci := 0) rfl (dk := 10) kd_21 rfl (by decide +kernel) (by decide) rfl ⟨by decide, by decide, by decide, by decide⟩ ?_
  refine b_dup hC dX11_init_56 (by decide) ?_
  refine c_ini (n' := 62) (av := []) (a := 21) hC dX11_init_57 kJ_X11_41 (by decide) rfl rfl (by decide) (show 2 + 1 ≤ 6 by decide) (show 8 + (2 + 11) + 64 * 2 ≤ 64 * 6 by decide) ⟨by decide, by decide, by decide, by decide, by decide⟩ (ci_X0_init _) ?_
  change BW g p e _ s m args below meth c _ _ _ _ _ _ _ _ mB9
  refine b_pf (t := 2) hC dX11_init_60 kI_X11_42 kd_1 rfl (by decide) rfl (fun h => absurd h (by decide)) (Or.inr (by decide)) (fun C T N h => by cases h; exact Or.inr ⟨hname, rfl, List.mem_of_getElem? (i := 665) (by decide +kernel)⟩) ?_
  change BW g p e _ s m args below meth c _ _ _ _ _ _ _ _ mB10
  refine b_aload_n (q := 0) hC dX11_init_63 rfl rfl ?_
  refine c_new (n' := 63) (N := 4) hC dX11_init_64 (List.mem_of_getElem? (i := 469) (by decide +kernel)) (List.mem_of_getElem? (i := 470) (by decide +kernel)) (List.mem_of_getElem? (i := 190) (by decide +kernel)) (ci := 1) rfl (dk := 11) kd_63 rfl (by decide +kernel) (by decide) rfl ⟨by decide, by decide, by decide, by decide⟩ ?_
  refine b_dup hC dX11_init_67 (by decide) ?_
  refine c_ini (n' := 66) (av := []) (a := 63) hC dX11_init_68 kJ_X11_48 (by decide) rfl rfl (by decide) (show 1 + 1 ≤ 6 by decide) (show 8 + (1 + 11) + 64 * 1 ≤ 64 * 6 by decide) ⟨by decide, by decide, by decide, by decide, by decide⟩ (ci_X1_init _) ?_
  change BW g p e _ s m args below meth c _ _ _ _ _ _ _ _ mB11
  refine b_pf (t := 2) hC dX11_init_71 kI_X11_49 kd_1 rfl (by decide) rfl (fun h => absurd h (by decide)) (Or.inr (by decide)) (fun C T N h => by cases h; exact Or.inr ⟨hname, rfl, List.mem_of_getElem? (i := 666) (by decide +kernel)⟩) ?_
  change BW g p e _ s m args below meth c _ _ _ _ _ _ _ _ mB12
  refine b_aload_n (q := 0) hC dX11_init_74 rfl rfl ?_
  refine c_new (n' := 67) (N := 1) hC dX11_init_75 (List.mem_of_getElem? (i := 491) (by decide +kernel)) (List.mem_of_getElem? (i := 492) (by decide +kernel)) (List.mem_of_getElem? (i := 191) (by decide +kernel)) (ci := 2) rfl (dk := 12) kd_67 rfl (by decide +kernel) (by decide) rfl ⟨by decide, by decide, by decide, by decide⟩ ?_
  refine b_dup hC dX11_init_78 (by decide) ?_
  refine c_ini (n' := 67) (av := []) (a := 67) hC dX11_init_79 kJ_X11_55 (by decide) rfl rfl (by decide) (show 1 + 1 ≤ 6 by decide) (show 8 + (1 + 11) + 64 * 1 ≤ 64 * 6 by decide) ⟨by decide, by decide, by decide, by decide, by decide⟩ (ci_X2_init _ (by decide)) ?_
  change BW g p e _ s m args below meth c _ _ _ _ _ _ _ _ mB13
  refine b_pf (t := 2) hC dX11_init_82 kI_X11_56 kd_1 rfl (by decide) rfl (fun h => absurd h (by decide)) (Or.inr (by decide)) (fun C T N h => by cases h; exact Or.inr ⟨hname, rfl, List.mem_of_getElem? (i := 667) (by decide +kernel)⟩) ?_
  change BW g p e _ s m args below meth c _ _ _ _ _ _ _ _ mB14
  refine b_aload_n (q := 0) hC dX11_init_85 rfl rfl ?_
  refine b_iconst hC dX11_init_86 ⟨by decide, by decide⟩ ?_
  refine c_anewa (b := 5) (n' := 68) (v := 3) hC (pl := 4) rfl (by decide) hC.2.2.2.2.1.2.1 dX11_init_87 (List.mem_of_getElem? (i := 502) (by decide +kernel)) kd_68 ln_68 ⟨by decide, by decide⟩ (by decide) rfl ⟨by decide, by decide, by decide, by decide⟩ ?_
  refine b_pf (t := 2) hC dX11_init_90 kI_X11_62 kd_1 rfl (by decide) rfl (fun h => absurd h (by decide)) (Or.inr (by decide)) (fun C T N h => by cases h; exact Or.inr ⟨hname, rfl, List.mem_of_getElem? (i := 668) (by decide +kernel)⟩) ?_
  change BW g p e _ s m args below meth c _ _ _ _ _ _ _ _ mB15
  refine b_aload_n (q := 0) hC dX11_init_93 rfl rfl ?_
  refine c_new (n' := 69) (N := 7) hC dX11_init_94 (List.mem_of_getElem? (i := 502) (by decide +kernel)) (List.mem_of_getElem? (i := 504) (by decide +kernel)) (List.mem_of_getElem? (i := 192) (by decide +kernel)) (ci := 7) rfl (dk := 17) kd_69 rfl (by decide +kernel) (by decide) rfl ⟨by decide, by decide, by decide, by decide⟩ ?_
  refine b_dup hC dX11_init_97 (by decide) ?_
  refine c_ini (n' := 112) (av := []) (a := 69) hC dX11_init_98 kJ_X11_66 (by decide) rfl rfl (by decide) (show 2 + 1 ≤ 6 by decide) (show 8 + (2 + 11) + 64 * 2 ≤ 64 * 6 by decide) ⟨by decide, by decide, by decide, by decide, by decide⟩ (ci_X7_init kd_69 _) ?_
  change BW g p e _ s m args below meth c _ _ _ _ _ _ _ _ mB16
  refine b_pf (t := 2) hC dX11_init_101 kI_X11_67 kd_1 rfl (by decide) rfl (fun h => absurd h (by decide)) (Or.inr (by decide)) (fun C T N h => by cases h; exact Or.inl rfl) ?_
  change BW g p e _ s m args below meth c _ _ _ _ _ _ _ _ mB17
  refine b_aload_n (q := 0) hC dX11_init_104 rfl rfl ?_
  refine c_new (n' := 113) (N := 7) hC dX11_init_105 (List.mem_of_getElem? (i := 502) (by decide +kernel)) (List.mem_of_getElem? (i := 504) (by decide +kernel)) (List.mem_of_getElem? (i := 192) (by decide +kernel)) (ci := 7) rfl (dk := 17) kd_113 rfl (by decide +kernel) (by decide) rfl ⟨by decide, by decide, by decide, by decide⟩ ?_
  refine b_dup hC dX11_init_108 (by decide) ?_
  refine c_ini (n' := 156) (av := []) (a := 113) hC dX11_init_109 kJ_X11_66 (by decide) rfl rfl (by decide) (show 2 + 1 ≤ 6 by decide) (show 8 + (2 + 11) + 64 * 2 ≤ 64 * 6 by decide) ⟨by decide, by decide, by decide, by decide, by decide⟩ (ci_X7_init kd_113 _) ?_
  change BW g p e _ s m args below meth c _ _ _ _ _ _ _ _ mB18
  refine b_pf (t := 2) hC dX11_init_112 kI_X11_71 kd_1 rfl (by decide) rfl (fun h => absurd h (by decide)) (Or.inr (by decide)) (fun C T N h => by cases h; exact Or.inl rfl) ?_
  change BW g p e _ s m args below meth c _ _ _ _ _ _ _ _ mB19
  refine b_aload_n (q := 0) hC dX11_init_115 rfl rfl ?_
  refine c_new (n' := 157) (N := 7) hC dX11_init_116 (List.mem_of_getElem? (i := 502) (by decide +kernel)) (List.mem_of_getElem? (i := 504) (by decide +kernel)) (List.mem_of_getElem? (i := 192) (by decide +kernel)) (ci := 7) rfl (dk := 17) kd_157 rfl (by decide +kernel) (by decide) rfl ⟨by decide, by decide, by decide, by decide⟩ ?_
  refine b_dup hC dX11_init_119 (by decide) ?_
  refine c_ini (n' := 200) (av := []) (a := 157) hC dX11_init_120 kJ_X11_66 (by decide) rfl rfl (by decide) (show 2 + 1 ≤ 6 by decide) (show 8 + (2 + 11) + 64 * 2 ≤ 64 * 6 by decide) ⟨by decide, by decide, by decide, by decide, by decide⟩ (ci_X7_init kd_157 _) ?_
  change BW g p e _ s m args below meth c _ _ _ _ _ _ _ _ mB20
  refine b_pf (t := 2) hC dX11_init_123 kI_X11_74 kd_1 rfl (by decide) rfl (fun h => absurd h (by decide)) (Or.inr (by decide)) (fun C T N h => by cases h; exact Or.inl rfl) ?_
  change BW g p e _ s m args below meth c _ _ _ _ _ _ _ _ mB21
  refine b_aload_n (q := 0) hC dX11_init_126 rfl rfl ?_
  refine b_bipush hC dX11_init_127 (by decide) ⟨by decide, by decide⟩ ?_
  refine c_newa (b := 1) (n' := 201) (v := 40) hC rfl (pl := 0) rfl rfl id dX11_init_129 (List.mem_of_getElem? (i := 220) (by decide +kernel)) (dk := 1) kd_201 rfl ⟨by decide, by decide⟩ ln_201 ⟨by decide, by decide⟩ (by decide) (by decide) rfl ⟨by decide, by decide, by decide, by decide⟩ ?_
  refine b_pf (t := 2) hC dX11_init_131 kI_X11_77 kd_1 rfl (by decide) rfl (fun h => absurd h (by decide)) (Or.inr (by decide)) (fun C T N h => by cases h; exact Or.inr ⟨hname, rfl, List.mem_of_getElem? (i := 672) (by decide +kernel)⟩) ?_
  change BW g p e _ s m args below meth c _ _ _ _ _ _ _ _ mB22
  refine b_aload_n (q := 0) hC dX11_init_134 rfl rfl ?_
  refine b_sipush hC dX11_init_135 (by decide) ⟨by decide, by decide⟩ ?_
  refine c_newa (b := 1) (n' := 202) (v := 322) hC rfl (pl := 0) rfl rfl id dX11_init_138 (List.mem_of_getElem? (i := 220) (by decide +kernel)) (dk := 1) kd_202 rfl ⟨by decide, by decide⟩ ln_202 ⟨by decide, by decide⟩ (by decide) (by decide) rfl ⟨by decide, by decide, by decide, by decide⟩ ?_
  refine b_pf (t := 2) hC dX11_init_140 kI_X11_81 kd_1 rfl (by decide) rfl (fun h => absurd h (by decide)) (Or.inr (by decide)) (fun C T N h => by cases h; exact Or.inr ⟨hname, rfl, List.mem_of_getElem? (i := 675) (by decide +kernel)⟩) ?_
  change BW g p e _ s m args below meth c _ _ _ _ _ _ _ _ mB23
  refine b_aload_n (q := 0) hC dX11_init_143 rfl rfl ?_
  refine b_bipush hC dX11_init_144 (by decide) ⟨by decide, by decide⟩ ?_
  refine c_newa (b := 2) (n' := 203) (v := 41) hC rfl (pl := 1) rfl rfl id dX11_init_146 (List.mem_of_getElem? (i := 490) (by decide +kernel)) (dk := 2) kd_203 rfl ⟨by decide, by decide⟩ ln_203 ⟨by decide, by decide⟩ (by decide) (by decide) rfl ⟨by decide, by decide, by decide, by decide⟩ ?_
  refine b_pf (t := 2) hC dX11_init_148 kI_X11_84 kd_1 rfl (by decide) rfl (fun h => absurd h (by decide)) (Or.inr (by decide)) (fun C T N h => by cases h; exact Or.inr ⟨hname, rfl, List.mem_of_getElem? (i := 677) (by decide +kernel)⟩) ?_
  change BW g p e _ s m args below meth c _ _ _ _ _ _ _ _ mB24
  refine b_aload_n (q := 0) hC dX11_init_151 rfl rfl ?_
  refine b_bipush hC dX11_init_152 (by decide) ⟨by decide, by decide⟩ ?_
  refine c_newa (b := 1) (n' := 204) (v := 40) hC rfl (pl := 0) rfl rfl id dX11_init_154 (List.mem_of_getElem? (i := 220) (by decide +kernel)) (dk := 1) kd_204 rfl ⟨by decide, by decide⟩ ln_204 ⟨by decide, by decide⟩ (by decide) (by decide) rfl ⟨by decide, by decide, by decide, by decide⟩ ?_
  refine b_pf (t := 2) hC dX11_init_156 kI_X11_88 kd_1 rfl (by decide) rfl (fun h => absurd h (by decide)) (Or.inr (by decide)) (fun C T N h => by cases h; exact Or.inr ⟨hname, rfl, List.mem_of_getElem? (i := 678) (by decide +kernel)⟩) ?_
  change BW g p e _ s m args below meth c _ _ _ _ _ _ _ _ mB25
  refine b_iconst hC dX11_init_159 ⟨by decide, by decide⟩ ?_
  refine b_istore_n hC dX11_init_160 rfl (by decide) (ls' := [(1, 0, 0), (0, 2, 1)]) rfl ?_
  refine b_iload_n (q := 0) hC dX11_init_161 rfl rfl ?_
  refine b_iconst hC dX11_init_162 ⟨by decide, by decide⟩ ?_
  refine b_icmp_ge (tgt := 185) hC dX11_init_163 rfl (fun h => absurd h (by decide)) (fun _ => ?_)
  refine b_aload_n (q := 1) hC dX11_init_166 rfl rfl ?_
  refine c_gf 68 (by decide +kernel) hC dX11_init_167 kI_X11_62 kd_1 rfl (by decide) ?_
  refine b_iload_n (q := 0) hC dX11_init_170 rfl rfl ?_
  refine c_new (n' := 205) (N := 7) hC dX11_init_171 (List.mem_of_getElem? (i := 502) (by decide +kernel)) (List.mem_of_getElem? (i := 504) (by decide +kernel)) (List.mem_of_getElem? (i := 192) (by decide +kernel)) (ci := 7) rfl (dk := 17) kd_205 rfl (by decide +kernel) (by decide) rfl ⟨by decide, by decide, by decide, by decide⟩ ?_
  refine b_dup hC dX11_init_174 (by decide) ?_
  refine c_ini (n' := 248) (av := []) (a := 205) hC dX11_init_175 kJ_X11_66 (by decide) rfl rfl (by decide) (show 2 + 1 ≤ 6 by decide) (show 8 + (2 + 11) + 64 * 2 ≤ 64 * 6 by decide) ⟨by decide, by decide, by decide, by decide, by decide⟩ (ci_X7_init kd_205 _) ?_
  change BW g p e _ s m args below meth c _ _ _ _ _ _ _ _ mB26
  refine b_aast (d := 5) (ci := 7) hC dX11_init_178 kd_68 (by decide) (by decide) (by rw [ln_68]; decide) kd_205 (by decide) (Or.inr (by decide)) ?_
  change BW g p e _ s m args below meth c _ _ _ _ _ _ _ _ mB27
  refine b_iinc (q := 0) (ls' := [(1, 0, 1), (0, 2, 1)]) hC dX11_init_179 rfl ⟨by decide, by decide⟩ (by decide) rfl ?_
  refine b_goto (tgt := 161) hC dX11_init_182 rfl ?_
  refine b_iload_n (q := 0) hC dX11_init_161 rfl rfl ?_
  refine b_iconst hC dX11_init_162 ⟨by decide, by decide⟩ ?_
  refine b_icmp_ge (tgt := 185) hC dX11_init_163 rfl (fun h => absurd h (by decide)) (fun _ => ?_)
  refine b_aload_n (q := 1) hC dX11_init_166 rfl rfl ?_
  refine c_gf 68 (by decide +kernel) hC dX11_init_167 kI_X11_62 kd_1 rfl (by decide) ?_
  refine b_iload_n (q := 0) hC dX11_init_170 rfl rfl ?_
  refine c_new (n' := 249) (N := 7) hC dX11_init_171 (List.mem_of_getElem? (i := 502) (by decide +kernel)) (List.mem_of_getElem? (i := 504) (by decide +kernel)) (List.mem_of_getElem? (i := 192) (by decide +kernel)) (ci := 7) rfl (dk := 17) kd_249 rfl (by decide +kernel) (by decide) rfl ⟨by decide, by decide, by decide, by decide⟩ ?_
  refine b_dup hC dX11_init_174 (by decide) ?_
  refine c_ini (n' := 292) (av := []) (a := 249) hC dX11_init_175 kJ_X11_66 (by decide) rfl rfl (by decide) (show 2 + 1 ≤ 6 by decide) (show 8 + (2 + 11) + 64 * 2 ≤ 64 * 6 by decide) ⟨by decide, by decide, by decide, by decide, by decide⟩ (ci_X7_init kd_249 _) ?_
  change BW g p e _ s m args below meth c _ _ _ _ _ _ _ _ mB28
  refine b_aast (d := 5) (ci := 7) hC dX11_init_178 kd_68 (by decide) (by decide) (by rw [ln_68]; decide) kd_249 (by decide) (Or.inr (by decide)) ?_
  change BW g p e _ s m args below meth c _ _ _ _ _ _ _ _ mB29
  refine b_iinc (q := 0) (ls' := [(1, 0, 2), (0, 2, 1)]) hC dX11_init_179 rfl ⟨by decide, by decide⟩ (by decide) rfl ?_
  refine b_goto (tgt := 161) hC dX11_init_182 rfl ?_
  refine b_iload_n (q := 0) hC dX11_init_161 rfl rfl ?_
  refine b_iconst hC dX11_init_162 ⟨by decide, by decide⟩ ?_
  refine b_icmp_ge (tgt := 185) hC dX11_init_163 rfl (fun h => absurd h (by decide)) (fun _ => ?_)
  refine b_aload_n (q := 1) hC dX11_init_166 rfl rfl ?_
  refine c_gf 68 (by decide +kernel) hC dX11_init_167 kI_X11_62 kd_1 rfl (by decide) ?_
  refine b_iload_n (q := 0) hC dX11_init_170 rfl rfl ?_
  refine c_new (n' := 293) (N := 7) hC dX11_init_171 (List.mem_of_getElem? (i := 502) (by decide +kernel)) (List.mem_of_getElem? (i := 504) (by decide +kernel)) (List.mem_of_getElem? (i := 192) (by decide +kernel)) (ci := 7) rfl (dk := 17) kd_293 rfl (by decide +kernel) (by decide) rfl ⟨by decide, by decide, by decide, by decide⟩ ?_
  refine b_dup hC dX11_init_174 (by decide) ?_
  refine c_ini (n' := 336) (av := []) (a := 293) hC dX11_init_175 kJ_X11_66 (by decide) rfl rfl (by decide) (show 2 + 1 ≤ 6 by decide) (show 8 + (2 + 11) + 64 * 2 ≤ 64 * 6 by decide) ⟨by decide, by decide, by decide, by decide, by decide⟩ (ci_X7_init kd_293 _) ?_
  change BW g p e _ s m args below meth c _ _ _ _ _ _ _ _ mB30
  refine b_aast (d := 5) (ci := 7) hC dX11_init_178 kd_68 (by decide) (by decide) (by rw [ln_68]; decide) kd_293 (by decide) (Or.inr (by decide)) ?_
  change BW g p e _ s m args below meth c _ _ _ _ _ _ _ _ mB31
  refine b_iinc (q := 0) (ls' := [(1, 0, 3), (0, 2, 1)]) hC dX11_init_179 rfl ⟨by decide, by decide⟩ (by decide) rfl ?_
  refine b_goto (tgt := 161) hC dX11_init_182 rfl ?_
  refine b_iload_n (q := 0) hC dX11_init_161 rfl rfl ?_
  refine b_iconst hC dX11_init_162 ⟨by decide, by decide⟩ ?_
  refine b_icmp_ge (tgt := 185) hC dX11_init_163 rfl (fun _ => ?_) (fun h => absurd (by decide) h)
  refine b_aload_n (q := 1) hC dX11_init_185 rfl rfl ?_
  refine c_gf 13 (by decide +kernel) hC dX11_init_186 kI_X11_35 kd_1 rfl (by decide) ?_
  refine b_aload_n (q := 1) hC dX11_init_189 rfl rfl ?_
  refine c_gf 69 (by decide +kernel) hC dX11_init_190 kI_X11_67 kd_1 rfl (by decide) ?_
  refine b_aload_n (q := 1) hC dX11_init_193 rfl rfl ?_
  refine c_gf 10 (by decide +kernel) hC dX11_init_194 kI_X11_28 kd_1 rfl (by decide) ?_
  refine b_fix (nf' := 336) mB_fx ?_
  have hbR : okS [(2, 13), (2, 69), (2, 10)] → RM g yX3_build cX3_build 4 none 4 336 336 336 [(2, 13), (2, 69), (2, 10)] mB31 (mix true M1 mB31) r0 := fun hok => by
    have h := m_X3_build (g := g) (n := 336) (nf := 336) ⟨Int.le_refl _, Int.le_refl _⟩ mB31 69 kd_69 hok _ _ hb mB31
    rw [mix_self] at h
    exact h
  refine b_inv (nE := 336) (av := [(2, 69), (2, 10)]) (sk := []) (ci := 3) (dk := 13) hC dX11_init_197 kM_X11_91 rfl kd_13 rfl (by decide) rfl rfl (by decide) (show 4 + 1 ≤ 6 by decide) (show 8 + (4 + 11) + 64 * 4 ≤ 64 * 6 by decide) (by decide +kernel) (by decide +kernel) hbR ?_
  rw [cs_self, sl_self, Nat.add_zero, Nat.add_zero]
  refine b_low (nf' := 0) (by decide) ?_
  exact b_vret hC hr dX11_init_200
abbrev mBZ : Mem := mB31
