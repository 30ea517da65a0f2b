/-! the constructors of Lexer, Reader and BlindSide -/
theorem tb_wl {g : GT} {n nf : Int} (a0 a2 : Int) (w5 : Mem → Int → Int → Res) (hw5 : ∀ (M : Mem) (x3 x4 : Int), AW g true RX11 cX11_withLetter 5 (some .int) (0) n n nf 5 [(0, 0, a0), (2, 0, a2), (3, 0, x3), (4, 0, x4)] [] n M (w5 M x3 x4)) (M : Mem) (x3 x4 : Int) : AW g true RX11 cX11_withLetter 5 (some .int) (0) n n nf 5 [(0, 0, a0), (2, 0, a2), (3, 0, x3), (4, 0, x4)] [] n M (b_X11_withLetter_5 a0 a2 w5 M x3 x4) := by
  unfold b_X11_withLetter_5
  refine r_iload 3 dX11_withLetter_5 rfl ?_
  refine r_iconst dX11_withLetter_7 ⟨by decide, by decide⟩ ?_
  refine r_icmp_ge (tgt := 22) dX11_withLetter_8 rfl (fun h1 => ?_) (fun h2 => ?_)
  · refine r_iload_n 0 dX11_withLetter_22 rfl rfl ?_
    refine r_iload_n 1 dX11_withLetter_23 rfl rfl ?_
    refine r_iload_n 2 dX11_withLetter_24 rfl rfl ?_
    refine r_ok (fun h3 => ?_)
    refine r_imul dX11_withLetter_25 h3 ?_
    refine r_ok (fun h4 => ?_)
    refine r_iadd dX11_withLetter_26 h4 ?_
    exact r_iret rfl rfl (Or.inl rfl) dX11_withLetter_27
  · refine r_iload_n 2 dX11_withLetter_11 rfl rfl ?_
    refine r_bipush dX11_withLetter_12 (by decide) ⟨by decide, by decide⟩ ?_
    refine r_ok (fun h5 => ?_)
    refine r_imul dX11_withLetter_14 h5 ?_
    refine r_istore_nB dX11_withLetter_15 rfl (by decide) (lf := fun y6 => [(3, 0, y6), (0, 0, a0), (2, 0, a2), (4, 0, x4)]) (fun _ => rfl) (fun y6 ey6 => ?_)
    refine r_ok (fun h7 => ?_)
    refine r_iincB 3 dX11_withLetter_16 rfl h7 (by decide) (lf := fun y8 => [(4, 0, y8), (3, 0, y6), (0, 0, a0), (2, 0, a2)]) (fun _ => rfl) (fun y8 ey8 => ?_)
    refine r_goto (tgt := 5) dX11_withLetter_19 rfl ?_
    refine r_sub [2, 3, 1, 0] (ls' := [(0, 0, a0), (2, 0, a2), (3, 0, y6), (4, 0, y8)]) rfl ?_
    exact hw5 M y6 y8
theorem m_wl {g : GT} {n nf : Int} (M : Mem) (a0 a1 a2 : Int) : AM g true yX11_withLetter cX11_withLetter 5 (some .int) (0) n n nf [(0, a0), (0, a1), (0, a2)] M (f_X11_withLetter M a0 a1 a2) := by
  refine AM_of (by decide +kernel) (Nat.le_of_ble_eq_true rfl) (fun h => absurd h (Int.lt_irrefl n)) ?_
  show AW g true RX11 cX11_withLetter 5 (some .int) (0) n n nf 0 [(0, 0, a0), (1, 0, a1), (2, 0, a2)] [] n M (f_X11_withLetter M a0 a1 a2)
  unfold f_X11_withLetter
  refine r_iconst dX11_withLetter_0 ⟨by decide, by decide⟩ ?_
  refine r_istore_n dX11_withLetter_1 rfl (by decide) (ls' := [(3, 0, 1), (0, 0, a0), (1, 0, a1), (2, 0, a2)]) rfl ?_
  refine r_iload_n 2 dX11_withLetter_2 rfl rfl ?_
  refine r_istore dX11_withLetter_3 (by decide) (ls' := [(4, 0, a1), (3, 0, 1), (0, 0, a0), (1, 0, a1), (2, 0, a2)]) rfl ?_
  refine r_sub [2, 4, 1, 0] (ls' := [(0, 0, a0), (2, 0, a2), (3, 0, 1), (4, 0, a1)]) rfl ?_
  exact wl2_aw (P := fun M x3 x4 o => AW g true RX11 cX11_withLetter 5 (some .int) (0) n n nf 5 [(0, 0, a0), (2, 0, a2), (3, 0, x3), (4, 0, x4)] [] n M (o)) (fun M x3 x4 => aw_none) (fun w hw M x3 x4 => tb_wl a0 a2 w hw M x3 x4) FU M 1 a1
theorem mix_self (sd : Bool) (M : Mem) : mix sd M M = M := by
  funext a
  unfold mix
  split <;> rfl
theorem rm_wl {g : GT} {n nf : Int} (M : Mem) {x k l : Int} (hx : 0 ≤ x ∧ x ≤ 400000000) (hk : 0 ≤ k ∧ k ≤ 5) (hl : 1 ≤ l ∧ l ≤ 26) (hok : okS [(0, x), (0, k), (0, l)]) : RM g yX11_withLetter cX11_withLetter 5 (some .int) 0 n n nf [(0, x), (0, k), (0, l)] M M (x + l * pw7 k) := by
  have h := m_wl (g := g) (n := n) (nf := nf) M x k l hok _ _ (e_wl M hx hk hl) M
  rw [mix_self] at h
  exact h
def lxW : List Int := [0, 0, 0, 0, 0, 0, 1, 1, 1, 1, 1, 2, 2, 2, 2, 2, 2, 3, 3, 3, 3, 4, 4, 4, 4, 4, 4, 5, 5, 5, 5, 5, 5, 6, 6, 6, 6, 6, 7, 7, 7, 7, 7, 8, 8, 8, 8, 8, 8, 9, 9, 9, 9, 9, 10, 10, 10, 11, 11, 11, 11, 12, 12, 12, 12, 13, 13, 13, 13, 14, 14, 14, 14, 14, 14, 14, 15, 15, 15, 15, 16, 16, 16, 16, 16, 16, 16, 17, 17, 17, 17, 17, 17, 18, 18, 18, 18, 18, 19, 19, 19, 19, 20, 20, 20, 20, 21]
def lxK : List Int := [0, 1, 2, 3, 4, 5, 0, 1, 2, 3, 4, 0, 1, 2, 3, 4, 5, 0, 1, 2, 3, 0, 1, 2, 3, 4, 5, 0, 1, 2, 3, 4, 5, 0, 1, 2, 3, 4, 0, 1, 2, 3, 4, 0, 1, 2, 3, 4, 5, 0, 1, 2, 3, 4, 0, 1, 2, 0, 1, 2, 3, 0, 1, 2, 3, 0, 1, 2, 3, 0, 1, 2, 3, 4, 5, 6, 0, 1, 2, 3, 0, 1, 2, 3, 4, 5, 6, 0, 1, 2, 3, 4, 5, 0, 1, 2, 3, 4, 0, 1, 2, 3, 0, 1, 2, 3, 0]
def lxX : List Int := [0, 272629233, 277412202, 277549983, 277555815, 277556355, 0, 57395628, 62178597, 62552574, 62554761, 0, 286978140, 291229668, 291406815, 291417021, 291417210, 0, 330024861, 330556302, 331048377, 0, 157837977, 165278151, 165573396, 165590163, 165590676, 0, 28697814, 35075106, 35252253, 35262459, 35262567, 0, 172186884, 176969853, 177245415, 177249060, 0, 272629233, 276880761, 277176006, 277192773, 0, 286978140, 291761109, 292016988, 292020633, 292021146, 0, 330024861, 334276389, 334374804, 334385010, 0, 215233605, 224799543, 0, 14348907, 21789081, 21867813, 0, 200884698, 208856313, 209249973, 0, 14348907, 20726199, 20962395, 0, 43046721, 51018336, 51254532, 51269841, 51270192, 51270206, 0, 258280326, 266251941, 266704650, 0, 28697814, 38263752, 38440899, 38446002, 38446218, 38446238, 0, 172186884, 176969853, 177107634, 177113466, 177114006, 0, 157837977, 162620946, 162896508, 162899424, 0, 186535791, 191318760, 191594322, 0, 186535791, 187067232, 187539624, 0]
def owF : List Int := [277556355, 62554761, 291417210, 331048377, 165590676, 35262567, 177249060, 277192773, 292021146, 334385010, 224799543, 21867813, 209249973, 20962395, 51270206, 266704650, 38446238, 177114006, 162899424, 191594322, 187539624]
def lw_ (i : Nat) : Int := lxW.getD i 0
def lk_ (i : Nat) : Int := lxK.getD i 0
def lx_ (i : Nat) : Int := lxX.getD i 0
/-- OWN NAMES when i letters of the text have been read -/
def memN (M : Mem) (i : Nat) : Mem := fun a j => if a = 6 ∧ 0 ≤ j ∧ j < 21 then (if j < lw_ i then owF.getD j.toNat 0 else if j = lw_ i then lx_ i else 0) else M a j
theorem lx_ok : ∀ i : Nat, i < 106 → ((0 ≤ lw_ i ∧ lw_ i < 21) ∧ (0 ≤ lk_ i ∧ lk_ i ≤ 6) ∧ (0 ≤ lx_ i ∧ lx_ i ≤ 400000000)) ∧ ((owc i = 32 ∧ lw_ (i + 1) = lw_ i + 1 ∧ lk_ (i + 1) = 0 ∧ lx_ (i + 1) = 0 ∧ owF.getD (lw_ i).toNat 0 = lx_ i) ∨ (owc i ≠ 32 ∧ lk_ i ≤ 5 ∧ (97 ≤ owc i ∧ owc i ≤ 122) ∧ lw_ (i + 1) = lw_ i ∧ lk_ (i + 1) = lk_ i + 1 ∧ lx_ (i + 1) = lx_ i + (owc i - 97 + 1) * pw7 (lk_ i))) := by decide +kernel
theorem memN_0 {M : Mem} (h : ∀ j, 0 ≤ j → j < 21 → M 6 j = 0) : memN M 0 = M := by
  funext a j
  unfold memN
  by_cases c : a = 6 ∧ 0 ≤ j ∧ j < 21
  · obtain ⟨rfl, j0, j1⟩ := c
    rw [if_pos ⟨rfl, j0, j1⟩, h j j0 j1, show lw_ 0 = 0 from rfl, show lx_ 0 = 0 from rfl]
    by_cases c2 : j < 0
    · omega
    · rw [if_neg c2]
      split <;> rfl
  · rw [if_neg c]
theorem memN_sp {M : Mem} {i : Nat} (hw : 0 ≤ lw_ i ∧ lw_ i < 21) (h1 : lw_ (i + 1) = lw_ i + 1) (h2 : lx_ (i + 1) = 0) (h3 : owF.getD (lw_ i).toNat 0 = lx_ i) : memN M (i + 1) = memN M i := by
  funext a j
  unfold memN
  by_cases c : a = 6 ∧ 0 ≤ j ∧ j < 21
  · rw [if_pos c, if_pos c, h1, h2]
    by_cases c2 : j < lw_ i
    · rw [if_pos c2, if_pos (by omega)]
    · rw [if_neg c2]
      by_cases c3 : j = lw_ i
      · rw [if_pos c3, if_pos (by omega), c3]; exact h3
      · rw [if_neg c3, if_neg (by omega)]
        split <;> rfl
  · rw [if_neg c, if_neg c]
theorem memN_lt {M : Mem} {i : Nat} {v : Int} (hw : 0 ≤ lw_ i ∧ lw_ i < 21) (h1 : lw_ (i + 1) = lw_ i) (h2 : lx_ (i + 1) = v) : st (memN M i) 6 (lw_ i) v = memN M (i + 1) := by
  funext a j
  by_cases c4 : a = 6 ∧ j = lw_ i
  · obtain ⟨rfl, rfl⟩ := c4
    rw [st_at]
    unfold memN
    rw [if_pos ⟨rfl, hw.1, hw.2⟩, h1, if_neg (Int.lt_irrefl _), if_pos rfl]; exact h2.symm
  · rw [st_ne c4]
    unfold memN
    by_cases c : a = 6 ∧ 0 ≤ j ∧ j < 21
    · rw [if_pos c, if_pos c, h1]
      by_cases c2 : j < lw_ i
      · rw [if_pos c2, if_pos c2]
      · rw [if_neg c2, if_neg c2, if_neg (by omega), if_neg (by omega)]
    · rw [if_neg c, if_neg c]
theorem memN_w {M : Mem} {i : Nat} (hw : 0 ≤ lw_ i ∧ lw_ i < 21) : memN M i 6 (lw_ i) = lx_ i := by
  unfold memN
  rw [if_pos ⟨rfl, hw.1, hw.2⟩, if_neg (Int.lt_irrefl _), if_pos rfl]
theorem dX4_init_0 : decode cX4_init 0 = .ok (.aload_n 0, 1) := by decide +kernel
theorem dX4_init_1 : decode cX4_init 1 = .ok (.invokespecial 3, 3) := by decide +kernel
theorem dX4_init_4 : decode cX4_init 4 = .ok (.aload_n 0, 1) := by decide +kernel
theorem dX4_init_5 : decode cX4_init 5 = .ok (.bipush 21, 2) := by decide +kernel
theorem dX4_init_7 : decode cX4_init 7 = .ok (.newarray .int, 2) := by decide +kernel
theorem dX4_init_9 : decode cX4_init 9 = .ok (.putfield 9, 3) := by decide +kernel
theorem dX4_init_12 : decode cX4_init 12 = .ok (.aload_n 0, 1) := by decide +kernel
theorem dX4_init_13 : decode cX4_init 13 = .ok (.sipush 901, 3) := by decide +kernel
theorem dX4_init_16 : decode cX4_init 16 = .ok (.newarray .int, 2) := by decide +kernel
theorem dX4_init_18 : decode cX4_init 18 = .ok (.putfield 15, 3) := by decide +kernel
theorem dX4_init_21 : decode cX4_init 21 = .ok (.aload_n 0, 1) := by decide +kernel
theorem dX4_init_22 : decode cX4_init 22 = .ok (.sipush 901, 3) := by decide +kernel
theorem dX4_init_25 : decode cX4_init 25 = .ok (.newarray .int, 2) := by decide +kernel
theorem dX4_init_27 : decode cX4_init 27 = .ok (.putfield 18, 3) := by decide +kernel
theorem dX4_init_30 : decode cX4_init 30 = .ok (.aload_n 0, 1) := by decide +kernel
theorem dX4_init_31 : decode cX4_init 31 = .ok (.sipush 901, 3) := by decide +kernel
theorem dX4_init_34 : decode cX4_init 34 = .ok (.newarray .int, 2) := by decide +kernel
theorem dX4_init_36 : decode cX4_init 36 = .ok (.putfield 21, 3) := by decide +kernel
theorem dX4_init_39 : decode cX4_init 39 = .ok (.aload_n 0, 1) := by decide +kernel
theorem dX4_init_40 : decode cX4_init 40 = .ok (.aload_n 1, 1) := by decide +kernel
theorem dX4_init_41 : decode cX4_init 41 = .ok (.putfield 24, 3) := by decide +kernel
theorem dX4_init_44 : decode cX4_init 44 = .ok (.iconst 0, 1) := by decide +kernel
theorem dX4_init_45 : decode cX4_init 45 = .ok (.istore_n 2, 1) := by decide +kernel
theorem dX4_init_46 : decode cX4_init 46 = .ok (.iconst 0, 1) := by decide +kernel
theorem dX4_init_47 : decode cX4_init 47 = .ok (.istore_n 3, 1) := by decide +kernel
theorem dX4_init_48 : decode cX4_init 48 = .ok (.iconst 0, 1) := by decide +kernel
theorem dX4_init_49 : decode cX4_init 49 = .ok (.istore 4, 2) := by decide +kernel
theorem dX4_init_51 : decode cX4_init 51 = .ok (.iload 4, 2) := by decide +kernel
theorem dX4_init_53 : decode cX4_init 53 = .ok (.ldc 28, 2) := by decide +kernel
theorem dX4_init_55 : decode cX4_init 55 = .ok (.invokevirtual 30, 3) := by decide +kernel
theorem dX4_init_58 : decode cX4_init 58 = .ok (.if_icmp .ge 65, 3) := by decide +kernel
theorem dX4_init_61 : decode cX4_init 61 = .ok (.iload_n 2, 1) := by decide +kernel
theorem dX4_init_62 : decode cX4_init 62 = .ok (.bipush 21, 2) := by decide +kernel
theorem dX4_init_64 : decode cX4_init 64 = .ok (.if_icmp .ge 59, 3) := by decide +kernel
theorem dX4_init_67 : decode cX4_init 67 = .ok (.ldc 28, 2) := by decide +kernel
theorem dX4_init_69 : decode cX4_init 69 = .ok (.iload 4, 2) := by decide +kernel
theorem dX4_init_71 : decode cX4_init 71 = .ok (.invokevirtual 36, 3) := by decide +kernel
theorem dX4_init_74 : decode cX4_init 74 = .ok (.istore 5, 2) := by decide +kernel
theorem dX4_init_76 : decode cX4_init 76 = .ok (.iload 5, 2) := by decide +kernel
theorem dX4_init_78 : decode cX4_init 78 = .ok (.bipush 32, 2) := by decide +kernel
theorem dX4_init_80 : decode cX4_init 80 = .ok (.if_icmp .ne 11, 3) := by decide +kernel
theorem dX4_init_83 : decode cX4_init 83 = .ok (.iinc 2 1, 3) := by decide +kernel
theorem dX4_init_86 : decode cX4_init 86 = .ok (.iconst 0, 1) := by decide +kernel
theorem dX4_init_87 : decode cX4_init 87 = .ok (.istore_n 3, 1) := by decide +kernel
theorem dX4_init_88 : decode cX4_init 88 = .ok (.goto 29, 3) := by decide +kernel
theorem dX4_init_91 : decode cX4_init 91 = .ok (.aload_n 0, 1) := by decide +kernel
theorem dX4_init_92 : decode cX4_init 92 = .ok (.getfield 9, 3) := by decide +kernel
theorem dX4_init_95 : decode cX4_init 95 = .ok (.iload_n 2, 1) := by decide +kernel
theorem dX4_init_96 : decode cX4_init 96 = .ok (.aload_n 0, 1) := by decide +kernel
theorem dX4_init_97 : decode cX4_init 97 = .ok (.getfield 9, 3) := by decide +kernel
theorem dX4_init_100 : decode cX4_init 100 = .ok (.iload_n 2, 1) := by decide +kernel
theorem dX4_init_101 : decode cX4_init 101 = .ok (.iaload, 1) := by decide +kernel
theorem dX4_init_102 : decode cX4_init 102 = .ok (.iload_n 3, 1) := by decide +kernel
theorem dX4_init_103 : decode cX4_init 103 = .ok (.iload 5, 2) := by decide +kernel
theorem dX4_init_105 : decode cX4_init 105 = .ok (.bipush 97, 2) := by decide +kernel
theorem dX4_init_107 : decode cX4_init 107 = .ok (.isub, 1) := by decide +kernel
theorem dX4_init_108 : decode cX4_init 108 = .ok (.iconst 1, 1) := by decide +kernel
theorem dX4_init_109 : decode cX4_init 109 = .ok (.iadd, 1) := by decide +kernel
theorem dX4_init_110 : decode cX4_init 110 = .ok (.invokestatic 40, 3) := by decide +kernel
theorem dX4_init_113 : decode cX4_init 113 = .ok (.iastore, 1) := by decide +kernel
theorem dX4_init_114 : decode cX4_init 114 = .ok (.iinc 3 1, 3) := by decide +kernel
theorem dX4_init_117 : decode cX4_init 117 = .ok (.iinc 4 1, 3) := by decide +kernel
theorem dX4_init_120 : decode cX4_init 120 = .ok (.goto (-69), 3) := by decide +kernel
theorem dX4_init_123 : decode cX4_init 123 = .ok (.return_, 1) := by decide +kernel
theorem kI_X4_9 : LkF RX4 9 4 1 := ⟨_, _, _, rfl, by decide, Or.inl (List.mem_of_getElem? (i := 286) (by decide +kernel))⟩
theorem kI_X4_15 : LkF RX4 15 4 2 := ⟨_, _, _, rfl, by decide, Or.inl (List.mem_of_getElem? (i := 287) (by decide +kernel))⟩
theorem kI_X4_18 : LkF RX4 18 4 3 := ⟨_, _, _, rfl, by decide, Or.inl (List.mem_of_getElem? (i := 289) (by decide +kernel))⟩
theorem kI_X4_21 : LkF RX4 21 4 4 := ⟨_, _, _, rfl, by decide, Or.inl (List.mem_of_getElem? (i := 291) (by decide +kernel))⟩
theorem kI_X4_24 : LkF RX4 24 4 0 := ⟨_, _, _, rfl, by decide, Or.inl (List.mem_of_getElem? (i := 285) (by decide +kernel))⟩
def lexM (M : Mem) : Mem := st (st (st (st (st (M) 5 1 6) 5 2 7) 5 3 8) 5 4 9) 5 0 2
theorem lex_loop {g : GT} {p : Program} {e : Env} {s : State} {m : MethodId} {args : Array Value} {below : List Frame} {meth : Method} {c : Code} {M : Mem} (hC : Cx g p s m meth c RX4 cX4_init 6) (hr : meth.sig.returnType = none) (hM0 : M 5 1 = 6) : ∀ (j i : Nat), i + j = 106 → BW g p e (rmOf 4 (cs 5 9) (sl 5 9)) s m args below meth c (MQ below (QcA g 9 0 (memN M 106) none 0) args s (cs 5 9) (sl 5 9) (Ag g)) (cs 5 9) (sl 5 9) 51 [(0, 2, 5), (2, 0, lw_ i), (3, 0, lk_ i), (4, 0, i)] [] 9 0 (memN M i) := by
  intro j
  induction j with
  | zero =>
    intro i hi
    have hi : i = 106 := by omega
    subst hi
    refine b_iload (q := 3) hC dX4_init_51 rfl ?_
    refine b_ldcS hC dX4_init_53 ?_
    refine b_invS (av := []) (sk := [(0, ((106 : Nat) : Int))]) hC dX4_init_55 kS_len rfl rfl rfl (show 1 ≤ 8 by decide) (show 1 + 1 ≤ 4 by decide) (show 8 + (1 + 11) + 64 * 1 ≤ 64 * 4 by decide) (Nat.le_refl _) (Nat.le_refl _) ms_len ?_
    refine b_icmp_ge (tgt := 123) hC dX4_init_58 rfl (fun _ => ?_) (fun h => absurd (Int.le_refl _) h)
    exact b_vret hC hr dX4_init_123
  | succ j ih =>
    intro i hi
    have ih' := ih (i + 1) (by omega)
    have ei : ((i + 1 : Nat) : Int) = (i : Int) + 1 := by omega
    obtain ⟨⟨hw, hk, hx⟩, hc⟩ := lx_ok i (by omega)
    have hi6 : 0 ≤ (i : Int) ∧ (i : Int) < 106 := by omega
    have oc := owc_r hi6
    refine b_iload (q := 3) hC dX4_init_51 rfl ?_
    refine b_ldcS hC dX4_init_53 ?_
    refine b_invS (av := []) (sk := [(0, (i : Int))]) hC dX4_init_55 kS_len rfl rfl rfl (show 1 ≤ 8 by decide) (show 1 + 1 ≤ 4 by decide) (show 8 + (1 + 11) + 64 * 1 ≤ 64 * 4 by decide) (Nat.le_refl _) (Nat.le_refl _) ms_len ?_
    refine b_icmp_ge (tgt := 123) hC dX4_init_58 rfl (fun h => absurd h (by omega)) (fun _ => ?_)
    refine b_iload_n (q := 1) hC dX4_init_61 rfl rfl ?_
    refine b_bipush hC dX4_init_62 (by decide) ⟨by decide, by decide⟩ ?_
    refine b_icmp_ge (tgt := 123) hC dX4_init_64 rfl (fun h => absurd h (by omega)) (fun _ => ?_)
    refine b_ldcS hC dX4_init_67 ?_
    refine b_iload (q := 3) hC dX4_init_69 rfl ?_
    refine b_invS (av := [(0, (i : Int))]) (sk := []) hC dX4_init_71 kS_cha rfl rfl rfl (show 0 ≤ 8 by decide) (show 3 + 1 ≤ 4 by decide) (show 8 + (2 + 11) + 64 * 3 ≤ 64 * 4 by decide) (Nat.le_refl _) (Nat.le_refl _) (ms_cha hi6) ?_
    refine b_istore hC dX4_init_74 (by decide) (ls' := [(5, 0, owc i), (0, 2, 5), (2, 0, lw_ i), (3, 0, lk_ i), (4, 0, i)]) rfl ?_
    refine b_iload (q := 0) hC dX4_init_76 rfl ?_
    refine b_bipush hC dX4_init_78 (by decide) ⟨by decide, by decide⟩ ?_
    refine b_icmp_ne (tgt := 91) hC dX4_init_80 rfl (fun h32 => ?_) (fun h32 => ?_)
    · -- a letter
      rcases hc with ⟨q, -⟩ | ⟨-, h2, h3, h4, h5, h6⟩
      · exact absurd q h32
      have e0 : memN M i 5 1 = 6 := by
        unfold memN
        rw [if_neg (by omega)]; exact hM0
      refine b_aload_n (q := 1) hC dX4_init_91 rfl rfl ?_
      refine c_gf 6 e0 hC dX4_init_92 kI_X4_9 kd_5 rfl (by decide) ?_
      refine b_iload_n (q := 2) hC dX4_init_95 rfl rfl ?_
      refine b_aload_n (q := 1) hC dX4_init_96 rfl rfl ?_
      refine c_gf 6 e0 hC dX4_init_97 kI_X4_9 kd_5 rfl (by decide) ?_
      refine b_iload_n (q := 2) hC dX4_init_100 rfl rfl ?_
      refine b_iald (d := 8) hC dX4_init_101 kd_6 rfl (Or.inr rfl) (by decide) (by rw [ln_6]; exact hw) ?_
      rw [memN_w hw]
      refine b_iload_n (q := 3) hC dX4_init_102 rfl rfl ?_
      refine b_iload (q := 0) hC dX4_init_103 rfl ?_
      refine b_bipush hC dX4_init_105 (by decide) ⟨by decide, by decide⟩ ?_
      refine b_isub hC dX4_init_107 ⟨by omega, by omega⟩ ?_
      refine b_iconst hC dX4_init_108 ⟨by decide, by decide⟩ ?_
      refine b_iadd hC dX4_init_109 ⟨by omega, by omega⟩ ?_
      refine b_insK (av := [(0, lx_ i), (0, lk_ i), (0, owc i - 97 + 1)]) (sk := [(0, lw_ i), (2, 6)]) hC dX4_init_110 kM_X4_40 rfl rfl (show 2 ≤ 8 by decide) (show 0 + 1 ≤ 4 by decide) (show 8 + (5 + 11) + 64 * 0 ≤ 64 * 4 by decide) (Nat.le_refl _) (Nat.le_refl _) (rm_wl (memN M i) hx ⟨hk.1, h2⟩ ⟨by omega, by omega⟩) ?_
      refine b_iast (d := 8) hC dX4_init_113 kd_6 rfl (Or.inr rfl) (by decide) (by rw [ln_6]; exact hw) (Or.inr (by decide)) ?_
      rw [memN_lt hw h4 h6]
      refine b_iinc (q := 3) (ls' := [(3, 0, lk_ i + 1), (5, 0, owc i), (0, 2, 5), (2, 0, lw_ i), (4, 0, i)]) hC dX4_init_114 rfl ⟨by omega, by omega⟩ (by decide) rfl ?_
      refine b_iinc (q := 4) (ls' := [(4, 0, (i : Int) + 1), (3, 0, lk_ i + 1), (5, 0, owc i), (0, 2, 5), (2, 0, lw_ i)]) hC dX4_init_117 rfl ⟨by omega, by omega⟩ (by decide) rfl ?_
      refine b_goto (tgt := 51) hC dX4_init_120 rfl ?_
      refine b_sub hC [3, 4, 1, 0] (ls' := [(0, 2, 5), (2, 0, lw_ i), (3, 0, lk_ i + 1), (4, 0, (i : Int) + 1)]) rfl ?_
      rw [← h4, ← h5, ← ei]
      exact ih'
    · -- a blank
      rcases hc with ⟨h1, h2, h3, h4, h5⟩ | ⟨q, -⟩
      · rw [memN_sp hw h2 h4 h5] at ih'
        refine b_iinc (q := 2) (ls' := [(2, 0, lw_ i + 1), (5, 0, owc i), (0, 2, 5), (3, 0, lk_ i), (4, 0, i)]) hC dX4_init_83 rfl ⟨by omega, by omega⟩ (by decide) rfl ?_
        refine b_iconst hC dX4_init_86 ⟨by decide, by decide⟩ ?_
        refine b_istore_n hC dX4_init_87 rfl (by decide) (ls' := [(3, 0, 0), (2, 0, lw_ i + 1), (5, 0, owc i), (0, 2, 5), (4, 0, i)]) rfl ?_
        refine b_goto (tgt := 117) hC dX4_init_88 rfl ?_
        refine b_iinc (q := 4) (ls' := [(4, 0, (i : Int) + 1), (3, 0, 0), (2, 0, lw_ i + 1), (5, 0, owc i), (0, 2, 5)]) hC dX4_init_117 rfl ⟨by omega, by omega⟩ (by decide) rfl ?_
        refine b_goto (tgt := 51) hC dX4_init_120 rfl ?_
        refine b_sub hC [4, 2, 1, 0] (ls' := [(0, 2, 5), (2, 0, lw_ i + 1), (3, 0, 0), (4, 0, (i : Int) + 1)]) rfl ?_
        rw [← h2, ← ei]
        rw [h3] at ih'
        exact ih'
      · exact absurd q h32
theorem ci_X4_init {g : GT} (M : Mem) (hz : ∀ j, 0 ≤ j → j < 21 → M 6 j = 0) (hok : okS [(2, 5), (2, 2)]) : RM g yX4_init cX4_init 6 none 4 5 9 0 [(2, 5), (2, 2)] M (memN (lexM M) 106) 0 := by
  refine RM_of (by decide +kernel) (Nat.le_of_ble_eq_true rfl) (fun p e s m args below meth c hC hr hname => ?_) hok
  have hC : Cx g p s m meth c RX4 cX4_init 6 := hC
  have hz2 : memN (lexM M) 0 = lexM M := memN_0 (fun j j0 j1 => hz j j0 j1)
  show BW g p e (rmOf 4 (cs 5 9) (sl 5 9)) s m args below meth c (MQ below (QcA g 9 0 (memN (lexM M) 106) none 0) args s (cs 5 9) (sl 5 9) (Ag g)) (cs 5 5) (sl 5 5) 0 [(0, 2, 5), (1, 2, 2)] [] 5 0 M
  refine b_aload_n (q := 0) hC dX4_init_0 rfl rfl ?_
  refine b_obj hC dX4_init_1 (List.mem_of_getElem? (i := 232) (by decide +kernel)) (List.mem_of_getElem? (i := 203) (by decide +kernel)) (List.mem_of_getElem? (i := 204) (by decide +kernel)) (by decide) (by decide) (show 1 ≤ 4 by decide) (show 20 ≤ 64 * 4 by decide) ?_
  refine b_aload_n (q := 0) hC dX4_init_4 rfl rfl ?_
  refine b_bipush hC dX4_init_5 (by decide) ⟨by decide, by decide⟩ ?_
  refine c_newa (b := 8) (n' := 6) (v := 21) hC rfl (pl := 0) rfl rfl id dX4_init_7 (List.mem_of_getElem? (i := 220) (by decide +kernel)) (dk := 8) kd_6 rfl ⟨by decide, by decide⟩ ln_6 ⟨by decide, by decide⟩ (by decide) (by decide) rfl ⟨by decide, by decide, by decide, by decide⟩ ?_
  refine b_pf (t := 2) hC dX4_init_9 kI_X4_9 kd_5 rfl (by decide) rfl (fun h => absurd h (by decide)) (Or.inr (by decide)) (fun C T N h => by cases h; exact Or.inr ⟨hname, rfl, List.mem_of_getElem? (i := 286) (by decide +kernel)⟩) ?_
  refine b_aload_n (q := 0) hC dX4_init_12 rfl rfl ?_
  refine b_sipush hC dX4_init_13 (by decide) ⟨by decide, by decide⟩ ?_
  refine c_newa (b := 1) (n' := 7) (v := 901) hC rfl (pl := 0) rfl rfl id dX4_init_16 (List.mem_of_getElem? (i := 220) (by decide +kernel)) (dk := 1) kd_7 rfl ⟨by decide, by decide⟩ ln_7 ⟨by decide, by decide⟩ (by decide) (by decide) rfl ⟨by decide, by decide, by decide, by decide⟩ ?_
  refine b_pf (t := 2) hC dX4_init_18 kI_X4_15 kd_5 rfl (by decide) rfl (fun h => absurd h (by decide)) (Or.inr (by decide)) (fun C T N h => by cases h; exact Or.inr ⟨hname, rfl, List.mem_of_getElem? (i := 287) (by decide +kernel)⟩) ?_
  refine b_aload_n (q := 0) hC dX4_init_21 rfl rfl ?_
  refine b_sipush hC dX4_init_22 (by decide) ⟨by decide, by decide⟩ ?_
  refine c_newa (b := 1) (n' := 8) (v := 901) hC rfl (pl := 0) rfl rfl id dX4_init_25 (List.mem_of_getElem? (i := 220) (by decide +kernel)) (dk := 1) kd_8 rfl ⟨by decide, by decide⟩ ln_8 ⟨by decide, by decide⟩ (by decide) (by decide) rfl ⟨by decide, by decide, by decide, by decide⟩ ?_
  refine b_pf (t := 2) hC dX4_init_27 kI_X4_18 kd_5 rfl (by decide) rfl (fun h => absurd h (by decide)) (Or.inr (by decide)) (fun C T N h => by cases h; exact Or.inr ⟨hname, rfl, List.mem_of_getElem? (i := 289) (by decide +kernel)⟩) ?_
  refine b_aload_n (q := 0) hC dX4_init_30 rfl rfl ?_
  refine b_sipush hC dX4_init_31 (by decide) ⟨by decide, by decide⟩ ?_
  refine c_newa (b := 1) (n' := 9) (v := 901) hC rfl (pl := 0) rfl rfl id dX4_init_34 (List.mem_of_getElem? (i := 220) (by decide +kernel)) (dk := 1) kd_9 rfl ⟨by decide, by decide⟩ ln_9 ⟨by decide, by decide⟩ (by decide) (by decide) rfl ⟨by decide, by decide, by decide, by decide⟩ ?_
  refine b_pf (t := 2) hC dX4_init_36 kI_X4_21 kd_5 rfl (by decide) rfl (fun h => absurd h (by decide)) (Or.inr (by decide)) (fun C T N h => by cases h; exact Or.inr ⟨hname, rfl, List.mem_of_getElem? (i := 291) (by decide +kernel)⟩) ?_
  refine b_aload_n (q := 0) hC dX4_init_39 rfl rfl ?_
  refine b_aload_n (q := 1) hC dX4_init_40 rfl rfl ?_
  refine b_pf (t := 2) hC dX4_init_41 kI_X4_24 kd_5 rfl (by decide) rfl (fun h => absurd h (by decide)) (Or.inr (by decide)) (fun C T N h => by cases h; exact Or.inr ⟨hname, rfl, List.mem_of_getElem? (i := 285) (by decide +kernel)⟩) ?_
  refine b_iconst hC dX4_init_44 ⟨by decide, by decide⟩ ?_
  refine b_istore_n hC dX4_init_45 rfl (by decide) (ls' := [(2, 0, 0), (0, 2, 5), (1, 2, 2)]) rfl ?_
  refine b_iconst hC dX4_init_46 ⟨by decide, by decide⟩ ?_
  refine b_istore_n hC dX4_init_47 rfl (by decide) (ls' := [(3, 0, 0), (2, 0, 0), (0, 2, 5), (1, 2, 2)]) rfl ?_
  refine b_iconst hC dX4_init_48 ⟨by decide, by decide⟩ ?_
  refine b_istore hC dX4_init_49 (by decide) (ls' := [(4, 0, 0), (3, 0, 0), (2, 0, 0), (0, 2, 5), (1, 2, 2)]) rfl ?_
  refine b_sub hC [3, 2, 1, 0] (ls' := [(0, 2, 5), (2, 0, 0), (3, 0, 0), (4, 0, 0)]) rfl ?_
  have h := lex_loop (M := lexM M) (p := p) (e := e) (s := s) (m := m) (args := args) (below := below) (meth := meth) (c := c) hC hr rfl 106 0 rfl
  rw [hz2] at h
  exact h
theorem dX5_init_0 : decode cX5_init 0 = .ok (.aload_n 0, 1) := by decide +kernel
theorem dX5_init_1 : decode cX5_init 1 = .ok (.invokespecial 3, 3) := by decide +kernel
theorem dX5_init_4 : decode cX5_init 4 = .ok (.aload_n 0, 1) := by decide +kernel
theorem dX5_init_5 : decode cX5_init 5 = .ok (.iconst (-1), 1) := by decide +kernel
theorem dX5_init_6 : decode cX5_init 6 = .ok (.putfield 9, 3) := by decide +kernel
theorem dX5_init_9 : decode cX5_init 9 = .ok (.aload_n 0, 1) := by decide +kernel
theorem dX5_init_10 : decode cX5_init 10 = .ok (.new 15, 3) := by decide +kernel
theorem dX5_init_13 : decode cX5_init 13 = .ok (.dup, 1) := by decide +kernel
theorem dX5_init_14 : decode cX5_init 14 = .ok (.aload_n 1, 1) := by decide +kernel
theorem dX5_init_15 : decode cX5_init 15 = .ok (.invokespecial 17, 3) := by decide +kernel
theorem dX5_init_18 : decode cX5_init 18 = .ok (.putfield 20, 3) := by decide +kernel
theorem dX5_init_21 : decode cX5_init 21 = .ok (.return_, 1) := by decide +kernel
theorem kI_X5_9 : LkF RX5 9 5 5 := ⟨_, _, _, rfl, by decide, Or.inl (List.mem_of_getElem? (i := 315) (by decide +kernel))⟩
theorem kI_X5_20 : LkF RX5 20 5 0 := ⟨_, _, _, rfl, by decide, Or.inl (List.mem_of_getElem? (i := 309) (by decide +kernel))⟩
theorem kJ_X5_17 : LkI RX5 17 yX4_init cX4_init 6 1 := ⟨List.mem_of_getElem? (i := 231) (by decide +kernel), List.mem_of_getElem? (i := 181) (by decide +kernel), List.mem_of_getElem? (i := 230) (by decide +kernel), rfl, ⟨by decide +kernel, by decide +kernel, by decide +kernel⟩, Or.inr ⟨"BlindSide", List.mem_of_getElem? (i := 229) (by decide +kernel)⟩⟩
def reaM (M : Mem) : Mem := st (memN (lexM (st M 4 5 (-1))) 106) 4 0 5
theorem ci_X5_init {g : GT} (M : Mem) (hz : ∀ j, 0 ≤ j → j < 21 → M 6 j = 0) (hok : okS [(2, 4), (2, 2)]) : RM g yX5_init cX5_init 2 none 5 4 9 0 [(2, 4), (2, 2)] M (reaM M) 0 := by
  refine RM_of (by decide +kernel) (Nat.le_of_ble_eq_true rfl) (fun p e s m args below meth c hC hr hname => ?_) hok
  have hC : Cx g p s m meth c RX5 cX5_init 2 := hC
  show BW g p e (rmOf 5 (cs 4 9) (sl 4 9)) s m args below meth c (MQ below (QcA g 9 0 (reaM M) none 0) args s (cs 4 9) (sl 4 9) (Ag g)) (cs 4 4) (sl 4 4) 0 [(0, 2, 4), (1, 2, 2)] [] 4 0 M
  refine b_aload_n (q := 0) hC dX5_init_0 rfl rfl ?_
  refine b_obj hC dX5_init_1 (List.mem_of_getElem? (i := 226) (by decide +kernel)) (List.mem_of_getElem? (i := 203) (by decide +kernel)) (List.mem_of_getElem? (i := 204) (by decide +kernel)) (by decide) (by decide) (show 1 ≤ 5 by decide) (show 20 ≤ 64 * 5 by decide) ?_
  refine b_aload_n (q := 0) hC dX5_init_4 rfl rfl ?_
  refine b_iconst hC dX5_init_5 ⟨by decide, by decide⟩ ?_
  refine b_pf (t := 0) hC dX5_init_6 kI_X5_9 kd_4 rfl (by decide) rfl (fun h => absurd h (by decide)) (Or.inr (by decide)) (fun C T N h => by cases h; exact Or.inl rfl) ?_
  refine b_aload_n (q := 0) hC dX5_init_9 rfl rfl ?_
  refine c_new (n' := 5) (N := 6) hC dX5_init_10 (List.mem_of_getElem? (i := 227) (by decide +kernel)) (List.mem_of_getElem? (i := 228) (by decide +kernel)) (List.mem_of_getElem? (i := 181) (by decide +kernel)) (ci := 4) rfl (dk := 14) kd_5 rfl (by decide +kernel) (by decide) rfl ⟨by decide, by decide, by decide, by decide⟩ ?_
  refine b_dup hC dX5_init_13 (by decide : (2 : Nat) ≠ 1) ?_
  refine b_aload_n (q := 1) hC dX5_init_14 rfl rfl ?_
  refine c_ini (n' := 9) (av := [(2, 2)]) (a := 5) hC dX5_init_15 kJ_X5_17 (by decide) rfl rfl (show 2 ≤ 8 by decide) (show 4 + 1 ≤ 5 by decide) (show 8 + (6 + 11) + 64 * 4 ≤ 64 * 5 by decide) ⟨by decide, by decide, by decide, by decide, by decide⟩ (ci_X4_init _ (fun j j0 j1 => by rw [st_neA (by decide)]; exact hz j j0 j1)) ?_
  refine b_pf (t := 2) hC dX5_init_18 kI_X5_20 kd_4 rfl (by decide) rfl (fun h => absurd h (by decide)) (Or.inr (by decide)) (fun C T N h => by cases h; exact Or.inr ⟨hname, rfl, List.mem_of_getElem? (i := 309) (by decide +kernel)⟩) ?_
  exact b_vret hC hr dX5_init_21
