/-! the law's loop, its start, and the claim -/
def R_law : String := "BlindSideLaw"
def lw_P (b : Addr) (xs : List Int32) (args : Array Value) (s : State) : Prop := args = #[.ref b] ∧ s.IntsAt b xs ∧ xs.length ≤ 4608 ∧ (Jvm.Cond.and given_1 narrow_1).before args s = true
def lw_Q (_ : Array Value) (s : State) (o : Outcome) (t : State) : Prop := o = .returned (some (.int 1)) ∧ Framed s o t [] 600000 7302250
def lw_Z (below : List Frame) (a : Array Value) (s : State) : State → Prop := fun t => ∃ o, t.status = .running ∧ Ended t below o ∧ lw_Q a s o t
/-- the law's own end, with 1 on the stack, nothing written that was there before, its room as the claim has it -/
theorem lw_ret {p : Program} {l : Launch} {e : Env} {s : State} {m : MethodId} {below : List Frame} {meth : Method} {c : Code} {b : Nat} (hx : p.tables.exec = Jvm.exec) (hb : c.code = code) (hr : meth.sig.returnType = ret) (hlocks : meth.locks = false) {pc : Nat} {H : Heap} {ls : Array Slot} (hdg : decode code pc = .ok (.ireturn, 1)) : W p l e room_1 s m #[Value.ref b] below meth c H [] 600000 7302250 (lw_Z below #[Value.ref b] s) (F0 m pc ls [.int 1]) := by
  intro T hT X
  obtain ⟨fs, hret, hrun, hended, hW, hframe⟩ := X.leave (v := some (.int 1)) (hlocks := hlocks) (fun h => by rw [hr] at h; cases h)
  have hmeth' : T.vm.method? m = some meth := X.method'
  refine ⟨T.setFrames fs, ?_, .returned (some (.int 1)), hrun, hended, rfl, ⟨_, rfl⟩, hW, hframe⟩
  jvm_step X.here [X.here.top, hx, hb, hdg, hmeth', hr, ret, narrow_b1]
  (try refine ⟨rfl, ?_⟩); (try refine ⟨rfl, ?_⟩)
  first | (intro acts; rw [hret _ acts rfl rfl rfl]) | rw [hret _ _ rfl rfl rfl]
  exact Steps.refl _
/-- what holds at the law's entry: the machine, the code, the tables' words (any of lw_tbl by 'hts w (by decide +kernel)'), the script of L ints xs at the cell b, what the Statement gives of the start (any of its parts by flat_of_before) -/
def lw_At (p : Program) (s : State) (m : MethodId) (meth : Method) (c : Code) (b L : Nat) (xs : Nat → Int32) : Prop :=
  p.tables.exec = Jvm.exec ∧ c.code = code ∧ meth.sig.returnType = ret ∧ c.maxLocals = 4 ∧ s.vm.findClass R_law = some m.cls ∧ (∀ w ∈ lw_tbl, w.before #[Value.ref b] s = true) ∧ va_X b L xs s s.heap ∧ b < s.heap.size ∧ meth.locks = false ∧ (Jvm.Cond.and given_1 narrow_1).before #[Value.ref b] s = true
theorem dL_0 : decode code 0 = .ok (.new 7, 3) := by decide +kernel
theorem dL_3 : decode code 3 = .ok (.dup, 1) := by decide +kernel
theorem dL_4 : decode code 4 = .ok (.invokespecial 9, 3) := by decide +kernel
theorem dL_7 : decode code 7 = .ok (.astore_n 1, 1) := by decide +kernel
theorem dL_8 : decode code 8 = .ok (.new 10, 3) := by decide +kernel
theorem d2 : decode code 11 = .ok (.dup, 1) := by decide +kernel
theorem d1 : decode code 12 = .ok (.invokespecial 12, 3) := by decide +kernel
theorem dL_15 : decode code 15 = .ok (.astore_n 2, 1) := by decide +kernel
theorem dL_16 : decode code 16 = .ok (.iconst 0, 1) := by decide +kernel
theorem dL_17 : decode code 17 = .ok (.istore_n 3, 1) := by decide +kernel
theorem dL_18 : decode code 18 = .ok (.iload_n 3, 1) := by decide +kernel
theorem dL_19 : decode code 19 = .ok (.aload_n 0, 1) := by decide +kernel
theorem dL_20 : decode code 20 = .ok (.arraylength, 1) := by decide +kernel
theorem dL_21 : decode code 21 = .ok (.bipush 9, 2) := by decide +kernel
theorem dL_23 : decode code 23 = .ok (.isub, 1) := by decide +kernel
theorem dL_24 : decode code 24 = .ok (.if_icmp .gt 2041, 3) := by decide +kernel
theorem dL_27 : decode code 27 = .ok (.aload_n 0, 1) := by decide +kernel
theorem dL_28 : decode code 28 = .ok (.iload_n 3, 1) := by decide +kernel
theorem dL_29 : decode code 29 = .ok (.iaload, 1) := by decide +kernel
theorem dL_30 : decode code 30 = .ok (.bipush 63, 2) := by decide +kernel
theorem dL_32 : decode code 32 = .ok (.iand, 1) := by decide +kernel
theorem dL_33 : decode code 33 = .ok (.tableswitch 2026 0 44 #[195, 258, 281, 294, 317, 330, 353, 376, 419, 452, 485, 518, 561, 636, 699, 798, 917, 1004, 1119, 1152, 1195, 1228, 1241, 1274, 1333, 1357, 1381, 1444, 1477, 1510, 1534, 1557, 1570, 1593, 1642, 1655, 1668, 1717, 1792, 1845, 1904, 1927, 1977, 1990, 2013], 195) := by decide +kernel
theorem dL_2059 : decode code 2059 = .ok (.iinc 3 9, 3) := by decide +kernel
theorem dL_2062 : decode code 2062 = .ok (.goto (-2044), 3) := by decide +kernel
theorem dL_2065 : decode code 2065 = .ok (.iconst 1, 1) := by decide +kernel
theorem dL_2066 : decode code 2066 = .ok (.ireturn, 1) := by decide +kernel
theorem kJL_code : Cond.code yX12_init cX12_init 1 none ∈ lw_tbl := by
  have h : Cond.code yX12_init cX12_init 1 none ∈ tables_1_5 := List.mem_of_getElem? (i := 216) rfl
  exact List.mem_append_right _ (List.mem_append_right _ (List.mem_append_right _ (List.mem_append_right _ (List.mem_append_right _ (List.mem_append_left _ h)))))
theorem kJL_9 : LkI RL 9 yX11_init cX11_init 2 0 := ⟨List.mem_of_getElem? (i := 201) (by decide +kernel), List.mem_of_getElem? (i := 178) (by decide +kernel), List.mem_of_getElem? (i := 200) (by decide +kernel), rfl, ⟨by decide +kernel, by decide +kernel, by decide +kernel⟩, Or.inl (List.mem_of_getElem? (i := 199) (by decide +kernel))⟩
theorem kJ1 : LkI RL 12 yX12_init cX12_init 1 0 := ⟨kJL_code, List.mem_of_getElem? (i := 195) (by decide +kernel), List.mem_of_getElem? (i := 1352) (by decide +kernel), rfl, ⟨by decide +kernel, by decide +kernel, by decide +kernel⟩, Or.inl (List.mem_of_getElem? (i := 1351) (by decide +kernel))⟩
theorem fx_nb : fxl.all (fun t => decide (t.1 ∉ ([11, 12, 14, 15, 16, 17, 18, 20] : List Int)) && decide (t.1 = 13 → t.2.1 < 7)) = true := by decide +kernel
theorem fx_pos : fxl.all (fun t => decide (1 ≤ t.1)) = true := by decide +kernel
theorem M1_fx {M1 : Mem} (hf : Fr ScFx mBZ M1) : ∀ t ∈ fxl, t.1 ≤ 336 → mix true M1 mB31 t.1 t.2.1 = t.2.2 := by
  intro t ht h
  have q := List.all_eq_true.mp fx_nb t ht
  obtain ⟨q1, q2⟩ := (Bool.and_eq_true _ _).mp q
  have q1 := of_decide_eq_true q1
  have q2 := of_decide_eq_true q2
  have e : mix true M1 mB31 t.1 t.2.1 = M1 t.1 t.2.1 := by
    unfold mix
    rw [if_pos (decide_eq_true h)]
  have hn : ¬ ScFx t.1 t.2.1 := by
    unfold ScFx ScSx ScPx
    simp only [List.mem_cons, List.not_mem_nil, or_false, not_or] at q1
    intro z
    obtain ⟨a1, a2, a3, a4, a5, a6, a7, a8⟩ := q1
    rcases z with (z | z | z | z | z | z) | (z | z | z | z | z) | z
    · exact a1 z
    · exact a2 z
    · exact a3 z.1
    · exact a4 z.1
    · exact a8 z.1
    · have := q2 z.1; omega
    · exact a4 z
    · exact a5 z
    · exact a6 z
    · exact a7 z
    · have := q2 z.1; omega
    · have := q2 z.1; omega
  rw [e, hf _ _ hn]
  exact mB_fx t ht h
section LL
variable {g : GT} {p : Program} {e : Env} {RM0 : Room} {s : State} {m : MethodId} {args : Array Value} {below : List Frame} {meth : Method} {c : Code} {Q : State → Prop} {cells slots pc : Nat} {ls : List LV} {sk : List AV} {n nf : Int} {M : Mem}
theorem b_know (k : (∀ a j : Int, n < a → M a j = 0) → BW g p e RM0 s m args below meth c Q cells slots pc ls sk n nf M) : BW g p e RM0 s m args below meth c Q cells slots pc ls sk n nf M := fun H locs A hH hS hl hL hs => k hH.2.2.2.2.1 H locs A hH hS hl hL hs
theorem b_wide {k1 k2 : Nat} (h1 : cells ≤ k1) (h2 : slots ≤ k2) (k : BW g p e RM0 s m args below meth c Q k1 k2 pc ls sk n nf M) : BW g p e RM0 s m args below meth c Q cells slots pc ls sk n nf M := fun H locs A hH hS hl hL hs => W.widen h1 h2 (k H locs A hH hS hl hL hs)
variable {b L : Nat} {xs : Nat → Int32} {i : Int} {Mx Mm : Mem}
theorem l_end (hC : Cx g p s m meth c RL code 4) (hr : meth.sig.returnType = ret) (hlocks : meth.locks = false) (hg : gB g + 1 = s.heap.size) : LW g p e s m #[Value.ref b] below meth c (lw_Z below #[Value.ref b] s) b 2065 i [] M := by
  unfold LW
  refine b_iconst hC dL_2065 ⟨by decide, by decide⟩ ?_
  intro H locs A hH hS hl hL hs
  refine va_forget (fun q hq => ?_) ?_
  · have h : gB g < q.base := hS.2.2 q hq
    omega
  · exact lw_ret hC.1 hC.2.1 hr hlocks dL_2066
theorem l_next (hC : Cx g p s m meth c RL code 4) (hi : 0 ≤ i ∧ i ≤ 5000) (kk : LW g p e s m args below meth c Q b 18 (i + 9) [] M) : LW g p e s m args below meth c Q b 2059 i [] M := by
  unfold LW
  refine b_iinc (q := 0) (ls' := lwS b (i + 9)) hC dL_2059 rfl ⟨by omega, by omega⟩ (by decide) rfl ?_
  exact b_goto (tgt := 18) hC dL_2062 rfl kk
theorem l_sw (hC : Cx g p s m meth c RL code 4) (hX : Scr g b L xs s) (hi : 0 ≤ i ∧ i + 9 ≤ L) (h : R Mx Mm) (kk : ∀ Mx1 Mm1 : Mem, R Mx1 Mm1 → LW g p e s m args below meth c Q b 2059 i [] (mix true Mx1 Mm1)) (x : Int) : LW g p e s m args below meth c Q b 33 i [(0, x)] (mix true Mx Mm) := by
  by_cases hx : x < 0 ∨ 44 < x
  · exact b_tsw_d (tgt := 2059) hC dL_33 hx rfl (kk _ _ h)
  by_cases e0 : x = 0
  · exact b_tsw (tgt := 228) hC dL_33 0 e0 ⟨by decide, by decide⟩ rfl rfl (l_c0 hC hX hi h kk)
  by_cases e1 : x = 1
  · exact b_tsw (tgt := 291) hC dL_33 1 e1 ⟨by decide, by decide⟩ rfl rfl (l_c1 hC hX hi h kk)
  by_cases e2 : x = 2
  · exact b_tsw (tgt := 314) hC dL_33 2 e2 ⟨by decide, by decide⟩ rfl rfl (l_c2 hC hX hi h kk)
  by_cases e3 : x = 3
  · exact b_tsw (tgt := 327) hC dL_33 3 e3 ⟨by decide, by decide⟩ rfl rfl (l_c3 hC hX hi h kk)
  by_cases e4 : x = 4
  · exact b_tsw (tgt := 350) hC dL_33 4 e4 ⟨by decide, by decide⟩ rfl rfl (l_c4 hC hX hi h kk)
  by_cases e5 : x = 5
  · exact b_tsw (tgt := 363) hC dL_33 5 e5 ⟨by decide, by decide⟩ rfl rfl (l_c5 hC hX hi h kk)
  by_cases e6 : x = 6
  · exact b_tsw (tgt := 386) hC dL_33 6 e6 ⟨by decide, by decide⟩ rfl rfl (l_c6 hC hX hi h kk)
  by_cases e7 : x = 7
  · exact b_tsw (tgt := 409) hC dL_33 7 e7 ⟨by decide, by decide⟩ rfl rfl (l_c7 hC hX hi h kk)
  by_cases e8 : x = 8
  · exact b_tsw (tgt := 452) hC dL_33 8 e8 ⟨by decide, by decide⟩ rfl rfl (l_c8 hC hX hi h kk)
  by_cases e9 : x = 9
  · exact b_tsw (tgt := 485) hC dL_33 9 e9 ⟨by decide, by decide⟩ rfl rfl (l_c9 hC hX hi h kk)
  by_cases e10 : x = 10
  · exact b_tsw (tgt := 518) hC dL_33 10 e10 ⟨by decide, by decide⟩ rfl rfl (l_c10 hC hX hi h kk)
  by_cases e11 : x = 11
  · exact b_tsw (tgt := 551) hC dL_33 11 e11 ⟨by decide, by decide⟩ rfl rfl (l_c11 hC hX hi h kk)
  by_cases e12 : x = 12
  · exact b_tsw (tgt := 594) hC dL_33 12 e12 ⟨by decide, by decide⟩ rfl rfl (l_c12 hC hX hi h kk)
  by_cases e13 : x = 13
  · exact b_tsw (tgt := 669) hC dL_33 13 e13 ⟨by decide, by decide⟩ rfl rfl (l_c13 hC hX hi h kk)
  by_cases e14 : x = 14
  · exact b_tsw (tgt := 732) hC dL_33 14 e14 ⟨by decide, by decide⟩ rfl rfl (l_c14 hC hX hi h kk)
  by_cases e15 : x = 15
  · exact b_tsw (tgt := 831) hC dL_33 15 e15 ⟨by decide, by decide⟩ rfl rfl (l_c15 hC hX hi h kk)
  by_cases e16 : x = 16
  · exact b_tsw (tgt := 950) hC dL_33 16 e16 ⟨by decide, by decide⟩ rfl rfl (l_c16 hC hX hi h kk)
  by_cases e17 : x = 17
  · exact b_tsw (tgt := 1037) hC dL_33 17 e17 ⟨by decide, by decide⟩ rfl rfl (l_c17 hC hX hi h kk)
  by_cases e18 : x = 18
  · exact b_tsw (tgt := 1152) hC dL_33 18 e18 ⟨by decide, by decide⟩ rfl rfl (l_c18 hC hX hi h kk)
  by_cases e19 : x = 19
  · exact b_tsw (tgt := 1185) hC dL_33 19 e19 ⟨by decide, by decide⟩ rfl rfl (l_c19 hC hX hi h kk)
  by_cases e20 : x = 20
  · exact b_tsw (tgt := 1228) hC dL_33 20 e20 ⟨by decide, by decide⟩ rfl rfl (l_c20 hC hX hi h kk)
  by_cases e21 : x = 21
  · exact b_tsw (tgt := 1261) hC dL_33 21 e21 ⟨by decide, by decide⟩ rfl rfl (l_c21 hC hX hi h kk)
  by_cases e22 : x = 22
  · exact b_tsw (tgt := 1274) hC dL_33 22 e22 ⟨by decide, by decide⟩ rfl rfl (l_c22 hC hX hi h kk)
  by_cases e23 : x = 23
  · exact b_tsw (tgt := 1307) hC dL_33 23 e23 ⟨by decide, by decide⟩ rfl rfl (l_c23 hC hX hi h kk)
  by_cases e24 : x = 24
  · exact b_tsw (tgt := 1366) hC dL_33 24 e24 ⟨by decide, by decide⟩ rfl rfl (l_c24 hC hX hi h kk)
  by_cases e25 : x = 25
  · exact b_tsw (tgt := 1390) hC dL_33 25 e25 ⟨by decide, by decide⟩ rfl rfl (l_c25 hC hX hi h kk)
  by_cases e26 : x = 26
  · exact b_tsw (tgt := 1414) hC dL_33 26 e26 ⟨by decide, by decide⟩ rfl rfl (l_c26 hC hX hi h kk)
  by_cases e27 : x = 27
  · exact b_tsw (tgt := 1477) hC dL_33 27 e27 ⟨by decide, by decide⟩ rfl rfl (l_c27 hC hX hi h kk)
  by_cases e28 : x = 28
  · exact b_tsw (tgt := 1510) hC dL_33 28 e28 ⟨by decide, by decide⟩ rfl rfl (l_c28 hC hX hi h kk)
  by_cases e29 : x = 29
  · exact b_tsw (tgt := 1543) hC dL_33 29 e29 ⟨by decide, by decide⟩ rfl rfl (l_c29 hC hX hi h kk)
  by_cases e30 : x = 30
  · exact b_tsw (tgt := 1567) hC dL_33 30 e30 ⟨by decide, by decide⟩ rfl rfl (l_c30 hC hX hi h kk)
  by_cases e31 : x = 31
  · exact b_tsw (tgt := 1590) hC dL_33 31 e31 ⟨by decide, by decide⟩ rfl rfl (l_c31 hC hX hi h kk)
  by_cases e32 : x = 32
  · exact b_tsw (tgt := 1603) hC dL_33 32 e32 ⟨by decide, by decide⟩ rfl rfl (l_c32 hC hX hi h kk)
  by_cases e33 : x = 33
  · exact b_tsw (tgt := 1626) hC dL_33 33 e33 ⟨by decide, by decide⟩ rfl rfl (l_c33 hC hX hi h kk)
  by_cases e34 : x = 34
  · exact b_tsw (tgt := 1675) hC dL_33 34 e34 ⟨by decide, by decide⟩ rfl rfl (l_c34 hC hX hi h kk)
  by_cases e35 : x = 35
  · exact b_tsw (tgt := 1688) hC dL_33 35 e35 ⟨by decide, by decide⟩ rfl rfl (l_c35 hC hX hi h kk)
  by_cases e36 : x = 36
  · exact b_tsw (tgt := 1701) hC dL_33 36 e36 ⟨by decide, by decide⟩ rfl rfl (l_c36 hC hX hi h kk)
  by_cases e37 : x = 37
  · exact b_tsw (tgt := 1750) hC dL_33 37 e37 ⟨by decide, by decide⟩ rfl rfl (l_c37 hC hX hi h kk)
  by_cases e38 : x = 38
  · exact b_tsw (tgt := 1825) hC dL_33 38 e38 ⟨by decide, by decide⟩ rfl rfl (l_c38 hC hX hi h kk)
  by_cases e39 : x = 39
  · exact b_tsw (tgt := 1878) hC dL_33 39 e39 ⟨by decide, by decide⟩ rfl rfl (l_c39 hC hX hi h kk)
  by_cases e40 : x = 40
  · exact b_tsw (tgt := 1937) hC dL_33 40 e40 ⟨by decide, by decide⟩ rfl rfl (l_c40 hC hX hi h kk)
  by_cases e41 : x = 41
  · exact b_tsw (tgt := 1960) hC dL_33 41 e41 ⟨by decide, by decide⟩ rfl rfl (l_c41 hC hX hi h kk)
  by_cases e42 : x = 42
  · exact b_tsw (tgt := 2010) hC dL_33 42 e42 ⟨by decide, by decide⟩ rfl rfl (l_c42 hC hX hi h kk)
  by_cases e43 : x = 43
  · exact b_tsw (tgt := 2023) hC dL_33 43 e43 ⟨by decide, by decide⟩ rfl rfl (l_c43 hC hX hi h kk)
  by_cases e44 : x = 44
  · exact b_tsw (tgt := 2046) hC dL_33 44 e44 ⟨by decide, by decide⟩ rfl rfl (l_c44 hC hX hi h kk)
  omega
theorem l_step (hC : Cx g p s m meth c RL code 4) (hX : Scr g b L xs s) (hr : meth.sig.returnType = ret) (hlocks : meth.locks = false) (hg : gB g + 1 = s.heap.size) (hi0 : 0 ≤ i ∧ i ≤ 5000) (h : R Mx Mm) (kk : i + 9 ≤ L → ∀ Mx1 Mm1 : Mem, R Mx1 Mm1 → LW g p e s m #[Value.ref b] below meth c (lw_Z below #[Value.ref b] s) b 18 (i + 9) [] (mix true Mx1 Mm1)) : LW g p e s m #[Value.ref b] below meth c (lw_Z below #[Value.ref b] s) b 18 i [] (mix true Mx Mm) := by
  have hL := hX.2.2.2
  unfold LW
  refine b_iload_n (q := 0) hC dL_18 rfl rfl ?_
  refine b_aload3 (q := 3) hC dL_19 rfl rfl ?_
  refine b_slen hC hX dL_20 ?_
  refine b_bipush hC dL_21 (by decide) ⟨by decide, by decide⟩ ?_
  refine b_isub hC dL_23 ⟨by omega, by omega⟩ ?_
  refine b_icmp_gt (tgt := 2065) hC dL_24 rfl (fun _ => l_end hC hr hlocks hg) (fun hn => ?_)
  have hi : 0 ≤ i ∧ i + 9 ≤ L := ⟨hi0.1, by omega⟩
  refine b_aload3 (q := 3) hC dL_27 rfl rfl ?_
  refine b_iload_n (q := 0) hC dL_28 rfl rfl ?_
  refine b_sld hC hX dL_29 ⟨by omega, by omega⟩ ?_
  refine b_bipush hC dL_30 (by decide) ⟨by decide, by decide⟩ ?_
  refine b_iand hC dL_32 ?_
  exact l_sw hC hX hi h (fun Mx1 Mm1 h1 => l_next hC ⟨by omega, by omega⟩ (kk hi.2 Mx1 Mm1 h1)) _
theorem l_loop (hC : Cx g p s m meth c RL code 4) (hX : Scr g b L xs s) (hr : meth.sig.returnType = ret) (hlocks : meth.locks = false) (hg : gB g + 1 = s.heap.size) : ∀ (f : Nat) (i : Int) (Mx Mm : Mem), 0 ≤ i ∧ i ≤ 5000 → (L : Int) - i < f → R Mx Mm → LW g p e s m #[Value.ref b] below meth c (lw_Z below #[Value.ref b] s) b 18 i [] (mix true Mx Mm)
  | 0, i, Mx, Mm, hi, hf, h => l_step hC hX hr hlocks hg hi h (fun z => absurd hf (by omega))
  | f + 1, i, Mx, Mm, hi, hf, h => l_step hC hX hr hlocks hg hi h (fun z Mx1 Mm1 h1 => l_loop hC hX hr hlocks hg f (i + 9) Mx1 Mm1 (by have := hX.2.2.2; omega) (by omega) h1)
theorem sl_01 : sl 0 1 = 18 := by decide +kernel
theorem sl_2 : sl 336 337 = 96 := by decide +kernel
theorem sl_t : 0 + 18 + sl 1 336 + 96 + sl 337 406 ≤ 7302250 := by decide +kernel
theorem l_start (hC : Cx g p s m meth c RL code 4) (hX : Scr g b L xs s) (hr : meth.sig.returnType = ret) (hlocks : meth.locks = false) (hg : gB g + 1 = s.heap.size) : BW g p e room_1 s m #[Value.ref b] below meth c (lw_Z below #[Value.ref b] s) 0 0 0 [(0, 3, (b : Int))] [] 0 0 zM := by
  obtain ⟨M1, hb, h14, h13, hf⟩ := build0
  have s2 : 0 + 18 + sl 1 336 + 96 ≤ 7302250 := by have := sl_t; omega
  have s3 : 0 + 18 + sl 1 336 ≤ 7302250 := by have := sl_t; omega
  have hL := hX.2.2.2
  refine b_new (ci := 11) (C := RX11) (T := TX11) (N := 18) (dk := 21) hC dL_0 (List.mem_of_getElem? (i := 197) (by decide +kernel)) (List.mem_of_getElem? (i := 198) (by decide +kernel)) (List.mem_of_getElem? (i := 178) (by decide +kernel)) rfl (by decide +kernel) (by decide) sl_01 (by decide) (show 0 + 1 ≤ 600000 by decide) (show 0 + 18 ≤ 7302250 by decide) ?_
  refine b_dup hC dL_3 (show (2 : Nat) ≠ 1 by decide) ?_
  refine b_ini (y := yX11_init) (bytes := cX11_init) (maxL := 2) (d' := 6) (av := []) (a := 1) (sk := [(2, 0 + 1)]) (nE := 336) (M' := mix true M1 mB31) (r := 0) hC dL_4 kJL_9 (by decide) rfl rfl (by decide) (show 6 + 1 ≤ 2048 by decide) (show 8 + (2 + 11) + 64 * 6 ≤ 84000 by decide) (show 0 + 1 + cs 1 336 ≤ 600000 by decide) s3 (fun hok => ci_X11_init hb hok) ?_
  refine b_astore_n (ls' := [(1, 2, 1), (0, 3, (b : Int))]) hC dL_7 rfl (by decide) rfl ?_
  refine b_know (fun hz => ?_)
  refine b_fix (nf' := 336) (M1_fx hf) ?_
  refine b_new (ci := 12) (C := RX12) (T := TX12) (N := 96) (dk := 72) hC dL_8 (List.mem_of_getElem? (i := 1349) (by decide +kernel)) (List.mem_of_getElem? (i := 1350) (by decide +kernel)) (List.mem_of_getElem? (i := 195) (by decide +kernel)) rfl (by decide +kernel) (by decide) sl_2 (by decide) (show 0 + 1 + cs 1 336 + 1 ≤ 600000 by decide) s2 ?_
  refine b_dup hC d2 (show (2 : Nat) ≠ 1 by decide) ?_
  refine b_ini (y := yX12_init) (bytes := cX12_init) (maxL := 1) (d' := 1) (av := []) (a := 337) (sk := [(2, 336 + 1)]) (nE := 406) (M' := mmM (mix true M1 mB31)) (r := 0) hC d1 kJ1 (by decide) rfl rfl (by decide) (show 1 + 1 ≤ 2048 by decide) (show 8 + (1 + 11) + 64 * 1 ≤ 84000 by decide) (show 0 + 1 + cs 1 336 + 1 + cs 337 406 ≤ 600000 by decide) sl_t (fun hok => ci_X12_init _ hok) ?_
  refine b_astore_n (ls' := [(2, 2, 337), (1, 2, 1), (0, 3, (b : Int))]) hC dL_15 rfl (by decide) rfl ?_
  refine b_iconst hC dL_16 ⟨by decide, by decide⟩ ?_
  refine b_istore_n (ls' := lwS b 0) hC dL_17 rfl (by decide) rfl ?_
  have hR : R (mmM (mix true M1 mBZ)) (mmM (mix true M1 mBZ)) := R_start h14 h13 hf (fun a j ha => hz a j ha)
  refine b_wide (k1 := 600000) (k2 := 7302250) (show 0 + 1 + cs 1 336 + 1 + cs 337 406 ≤ 600000 by decide) sl_t ?_
  have hfx : ∀ t ∈ fxl, t.1 ≤ 406 → mmM (mix true M1 mB31) t.1 t.2.1 = t.2.2 := by
    intro t ht h6
    by_cases h3 : 336 < t.1
    · exact mm_fx _ t ht h3
    · have e1 : mmM (mix true M1 mB31) t.1 t.2.1 = mix true M1 mB31 t.1 t.2.1 := by
        have hno : lkL t.1 t.2.1 mmL = none := lkL_no mmL (fun u hu he => by
          have := of_decide_eq_true (List.all_eq_true.mp mm_hi u hu)
          omega)
        rw [mmM_e, stL_at, hno]
        rfl
      rw [e1]
      exact M1_fx hf t ht (by omega)
  refine b_fix (nf' := 406) hfx ?_
  have hl := l_loop (e := e) (below := below) hC hX hr hlocks hg (L + 1) 0 (mmM (mix true M1 mBZ)) (mmM (mix true M1 mBZ)) ⟨by decide, by decide⟩ (by omega) hR
  rw [mix_self] at hl
  exact hl
end LL
theorem Hp_0 {g : GT} {H : Heap} (h1 : gH g = H) (h2 : gB g + 1 = H.size) : Hp g 0 0 zM H := by
  refine ⟨⟨by decide, by decide⟩, by rw [← h2]; rfl, fun a a1 a2 => absurd a1 (by omega), fun a j a1 a2 _ => absurd a1 (by omega), fun _ _ _ => rfl, fun t ht hn => ?_, fun q _ => by rw [h1]⟩
  have := of_decide_eq_true (List.all_eq_true.mp fx_pos t ht)
  omega
def arC : Cond → Bool
  | .arrayClass _ => true
  | _ => false
theorem tb_on : lw_tbl.all (fun w => !tb_ok w || (w.onTables || arC w)) = true := by decide +kernel
theorem cl_inst : ∀ q ∈ vwCl.map (fun q => (q.1, q.2.2)), Cond.instantiable q.1 q.2 ∈ lw_tbl := by decide +kernel
theorem g_cls {s : State} {b : Nat} (hts : ∀ w ∈ lw_tbl, w.before #[Value.ref b] s = true) : ∃ (dC : Nat → ClassId) (dI : Nat → Nat → Nat), ∀ (k : Nat) (q : vw_C), vwCl[k]? = some q → u_Kn s q.1 q.2.1 q.2.2 (dC k) (dI k) := by
  have h : ∀ k : Nat, ∃ d : ClassId × (Nat → Nat), ∀ q : vw_C, vwCl[k]? = some q → u_Kn s q.1 q.2.1 q.2.2 d.1 d.2 := by
    intro k
    rcases hq : vwCl[k]? with _ | ⟨C, T, N⟩
    · exact ⟨(0, fun _ => 0), fun q h => by cases h⟩
    · have hi : Cond.instantiable C N ∈ lw_tbl := cl_inst (C, N) (List.mem_map.mpr ⟨(C, T, N), List.mem_of_getElem? hq, rfl⟩)
      obtain ⟨c0, i0, h0⟩ := u_known (T := T) (N := N) hts (vw_all hq).1 (hts _ hi)
      exact ⟨(c0, i0), fun q h => by cases h; exact h0⟩
  obtain ⟨d, hd⟩ := Classical.axiomOfChoice h
  exact ⟨fun k => (d k).1, fun k => (d k).2, fun k q hq => hd k q hq⟩
theorem g_prim {s : State} {args : Array Value} {ty : FieldType} (h : (Cond.arrayClass ty).before args s = true) : ∃ cA, s.vm.findClass ("[" ++ ty.toString) = some cA ∧ ArrOfT s cA ty := by
  obtain ⟨cA, k, comp, h1, h2, h3⟩ := Cond.arrayClass_spec h
  exact ⟨cA, h1, fun N z => ⟨(fun k h => by cases h), k, h2, comp, h3⟩⟩
theorem g_obj {s : State} {args : Array Value} {C : String} (h : (Cond.arrayOver (.object C)).before args s = true) : ∃ cA, ArrOfT s cA (.object C) ∧ va_RA s cA (.object C) := by
  obtain ⟨comp, cA, k, h1, h2, h3, h4, h5⟩ := Cond.arrayOver_spec h
  exact ⟨cA, fun N z => ⟨(fun k h => by cases h), k, h3, comp, h4⟩, ⟨k, comp, h3, h4, h1, h5⟩⟩
abbrev nwC : Cond := Jvm.Cond.and given_1 narrow_1
theorem nw_ex : Cond.exactly (.string RX4 28) "java/lang/String" ∈ flatC nwC := by decide +kernel
theorem nw_co : Cond.eq (.field (.string RX4 28) "java/lang/String" "coder" "B") (.int 0) ∈ flatC nwC := by decide +kernel
theorem nw_ar : Cond.arrayOf (.field (.string RX4 28) "java/lang/String" "value" "[B") .byte ∈ flatC nwC := by decide +kernel
theorem nw_le : Cond.eq (.length (.field (.string RX4 28) "java/lang/String" "value" "[B")) (.int (Int32.ofNat 106)) ∈ flatC nwC := by decide +kernel
theorem nw_el : ∀ j : Nat, j < 106 → Cond.eq (.elem (.field (.string RX4 28) "java/lang/String" "value" "[B") (.int (Int32.ofNat j))) (.int (owB.getD j 0)) ∈ flatC nwC := by decide +kernel
theorem nw_cs : Cond.eq (.static "java/lang/String" "COMPACT_STRINGS" "Z") (.int 1) ∈ flatC nwC := by decide +kernel
theorem nw_si : Cond.isRef (.static "jdk/internal/util/Preconditions" "SIOOBE_FORMATTER" "Ljava/util/function/BiFunction;") ∈ flatC nwC := by decide +kernel
/-- the world's names, out of the law's start -/
theorem g_start (l : Launch) {s : State} {b : Nat} (hts : ∀ w ∈ lw_tbl, w.before #[Value.ref b] s = true) (hgv : nwC.before #[Value.ref b] s = true) (hbl : b < s.heap.size) : ∃ g : GT, g.1 = l ∧ gB g + 1 = s.heap.size ∧ gH g = s.heap ∧ Kg g s ∧ Tb s := by
  have hs := flat_of_before _ hgv
  obtain ⟨dC, dI, hKc⟩ := g_cls hts
  obtain ⟨c1, f1, a1⟩ := g_prim (hts (.arrayClass .int) (List.mem_of_getElem? (i := 220) (by decide +kernel)))
  obtain ⟨c2, f2, a2⟩ := g_prim (hts (.arrayClass .long) (List.mem_of_getElem? (i := 490) (by decide +kernel)))
  obtain ⟨c3, f3, a3⟩ := g_prim (hts (.arrayClass .boolean) (List.mem_of_getElem? (i := 489) (by decide +kernel)))
  obtain ⟨c4, f4, a4⟩ := g_prim (hts (.arrayClass .char) (List.mem_of_getElem? (i := 1644) (by decide +kernel)))
  have o7 := hts (.arrayOver (.object RX7)) (List.mem_of_getElem? (i := 503) (by decide +kernel))
  have o8 := hts (.arrayOver (.object RX8)) (List.mem_of_getElem? (i := 510) (by decide +kernel))
  have o10 := hts (.arrayOver (.object RX10)) (List.mem_of_getElem? (i := 417) (by decide +kernel))
  obtain ⟨c5, a5, r5⟩ := g_obj o7
  obtain ⟨c6, a6, r6⟩ := g_obj o8
  obtain ⟨c7, a7, r7⟩ := g_obj o10
  have hA : ∀ a : Nat, a < s.heap.size → ¬ (fun q : Nat => s.heap.size - 1 < q) a := fun a ha h => by
    have : s.heap.size - 1 < a := h
    omega
  obtain ⟨adK, adV, hS, hev⟩ := vk_Sof (args := #[Value.ref b]) (s := s) (N := 1) (tm := fun _ => .string RX4 28) (len := [106]) (byt := [owB]) (A := fun q : Nat => s.heap.size - 1 < q)
    (fun i hi => by rw [show i = 0 by omega]; decide) (fun i hi => hs _ nw_ex) (fun i hi => hs _ nw_co) (fun i hi => hs _ nw_ar) (fun i hi => by rw [show i = 0 by omega]; exact hs _ nw_le) (fun i hi j hj => by
      have e : i = 0 := by omega
      subst e
      exact hs _ (nw_el j hj)) (fun i j hi hj hne => absurd (show i = j by omega) hne) hA
  obtain ⟨v, hv1, hv2⟩ := Cond.isRef_spec (hs _ nw_si)
  obtain ⟨r, rfl⟩ : ∃ r, v = rvV r := by
    cases v with
    | ref a => exact ⟨a + 1, by simp [rvV]⟩
    | null => exact ⟨0, rfl⟩
    | _ => exact absurd hv2 (by simp [Value.isRef])
  refine ⟨(l, (dC, dI), (fun k => if k = 1 then c1 else if k = 2 then c2 else if k = 3 then c3 else if k = 4 then c4 else if k = 5 then c5 else if k = 6 then c6 else c7), s.heap.size - 1, s.heap, adK 0, adV 0, r), rfl, ?_, rfl, ⟨⟨hKc, fun k q hk => ?_⟩, o7, o8, o10, ?_⟩, ?_⟩
  · show s.heap.size - 1 + 1 = s.heap.size
    omega
  · match k, hk with
    | 0, hk => cases hk; exact ⟨a1, f1⟩
    | 1, hk => cases hk; exact ⟨a2, f2⟩
    | 2, hk => cases hk; exact ⟨a3, f3⟩
    | 3, hk => cases hk; exact ⟨a4, f4⟩
    | 4, hk => cases hk; exact ⟨a5, r5⟩
    | 5, hk => cases hk; exact ⟨a6, r6⟩
    | 6, hk => cases hk; exact ⟨a7, r7⟩
    | k + 7, hk => simp [tysg] at hk
  · refine ⟨vk_R.of (hts _ (List.mem_of_getElem? (i := 233) (by decide +kernel))) (hev 0 (by decide)), ⟨fun i hi => ?_, fun i j hi hj _ => by omega⟩, va_Zof (hts _ (List.mem_of_getElem? (i := 243) (by decide +kernel))) (hts _ (List.mem_of_getElem? (i := 182) (by decide +kernel))) (va_eqi (hs _ nw_cs)) hA, va_Zof (hts _ (List.mem_of_getElem? (i := 259) (by decide +kernel))) (hts _ (List.mem_of_getElem? (i := 184) (by decide +kernel))) hv1 hA⟩
    have e : i = 0 := by omega
    subst e
    exact hS.1 0 (by decide)
  · intro w hm hk
    have q := List.all_eq_true.mp tb_on w hm
    rw [hk] at q
    rcases (Bool.or_eq_true _ _).mp (show (w.onTables || arC w) = true from q) with q | q
    · exact va_tabs q rfl (hts w hm)
    · obtain ⟨ty, rfl⟩ : ∃ ty, w = .arrayClass ty := by
        cases w <;> first | exact ⟨_, rfl⟩ | cases q
      exact hts _ hm
theorem whole_start {p : Program} {e : Env} {s : State} {m : MethodId} {below : List Frame} {meth : Method} {c : Code} (l : Launch) (hflags : l.flags = flags0) {b L : Nat} {xs : Nat → Int32} (hL : L ≤ 4608) (C0 : lw_At p s m meth c b L xs) : W p l e room_1 s m #[Value.ref b] below meth c s.heap [] 0 0 (lw_Z below #[Value.ref b] s) (entryFrame m ([Value.ref b] : List Value).toArray 4) := by
  obtain ⟨hx, hb, hr, hml, hown, hts, hX, hbl, hlocks, hgv⟩ := C0
  clear hflags
  obtain ⟨g, rfl, hgB, hgH, hK, hT⟩ := g_start l hts hgv hbl
  have hC : Cx g p s m meth c RL code 4 := ⟨hx, hb, hml, hown, hK, hT, hlocks, by omega⟩
  have hXS : Scr g b L xs s := ⟨hX, hbl, by omega, hL⟩
  have hl := lv_entry ([.ref b]) (n := 4) (Nat.le_of_ble_eq_true rfl)
  rw [lg_entry_eq]
  have hK0 := l_start (e := e) (below := below) hC hXS hr hlocks hgB
  refine hK0 s.heap [] _ (Hp_0 hgH hgB) va_S.rf (by rw [hml]; exact hl) (fun v hv => ?_) (fun v hv => by cases hv)
  rw [List.mem_singleton.mp hv]
  exact Int.natCast_nonneg _
set_option maxHeartbeats 4000000 in
theorem lw_walk (l : Launch) (hflags : l.flags = flags0) (b : Addr) (xs : List Int32) : MetFree l x (headSpec (Jvm.Cond.code x code maxLocals ret :: tables_1) room_1) (lw_P b xs) (fun _ _ _ _ _ => True) lw_Q := by
  refine MetFree.of_bodyS (code := code) (maxLocals := maxLocals) (ret := ret) (by decide) ?_ ?_
  · intro args s m h hn
    obtain ⟨meth, c, h1, h2, h3, h4, h5, h6, -, -⟩ := Cond.code_spec hn (atoms_spec (ws := Jvm.Cond.code x code maxLocals ret :: tables_1) h _ List.mem_cons_self)
    exact ⟨meth, c, h1, h2, h3, h4, h5, h6⟩
  · intro p e s m args below meth c s₁ B hml0 hP _
    obtain ⟨rfl, hx, hbd, hgv⟩ := hP
    obtain ⟨scr, harrAt, hlist, hof, hsmall⟩ := hx
    obtain ⟨hcb, hkn, -, -⟩ := State.arrayAt?_spec harrAt
    have hown : s.vm.findClass R_law = some m.cls := findClass_of_methodNamed B.named
    have hts0 : ∀ c ∈ (Jvm.Cond.code x code maxLocals ret :: tables_1), c.before #[Value.ref b] s = true := atoms_spec (ws := Jvm.Cond.code x code maxLocals ret :: tables_1) B.pre
    have hts : ∀ w ∈ lw_tbl, w.before #[Value.ref b] s = true := k2_hts_sels lw_privs (fun w hw => hts0 w (List.mem_cons_of_mem _ hw)) lw_privs_ok
    have hml : c.maxLocals = 4 := B.maxLocals_eq (hts0 _ List.mem_cons_self)
    have X₀ : Stand p l e room_1 s m #[Value.ref b] below meth c s₁ [] 0 0 := Stand.of_body B
    have hh0 : s₁.heap = s.heap := by rw [B.state]; rfl
    have hsz : scr.slots.size = xs.length := by rw [← Array.length_toList, hlist, List.length_map]
    have hval : ∀ j : Nat, j < xs.length → scr.slots[j]? = some (.int (xs.getD j 0)) := fun j hj => by
      rw [← Array.getElem?_toList, hlist]
      simp [hj]
    have hbl : b < s.heap.size := (Array.getElem?_eq_some_iff.mp hcb).1
    have hX : va_X b xs.length (fun j => xs.getD j 0) s s.heap := ⟨scr, hcb, hof, hkn, hsz, hval⟩
    have K : W p l e room_1 s m #[Value.ref b] below meth c s₁.heap [] 0 0 (lw_Z below #[Value.ref b] s) (entryFrame m ([Value.ref b] : List Value).toArray 4) := by
      rw [hh0]
      exact whole_start l hflags hbd ⟨B.exec, B.bytes, B.returns, hml, hown, hts, hX, hbl, B.notSynchronized, hgv⟩
    obtain ⟨t, a1, o, b1, b2, b3⟩ := K s₁ rfl X₀
    exact ⟨t, o, a1, b1, b2, b3⟩
theorem lw_pre_spec {args : Array Value} {s : State} (h : (Jvm.Cond.and given_1 narrow_1).before args s = true) (hr : rest_1_c.before args s = true) : ∃ (b : Addr) (xs : List Int32), lw_P b xs args s := by
  have hs := flat_of_before _ h
  have hq := flat_of_before _ hr
  have hc : (Cond.count 1).before args s = true := hs _ (by decide +kernel)
  have harr : (Cond.arrayOf (.arg 0) .int).before args s = true := hs _ (by decide +kernel)
  have hle : (Cond.le (.length (.arg 0)) (.int 4608)).before args s = true := hs _ (by decide +kernel)
  have hlen : (Cond.isInt (.length (.arg 0))).before args s = true := hq _ (by decide +kernel)
  have hall : (Cond.all (.arg 0) (.isInt (.elem (.arg 0) (.index 0)))).before args s = true := hq _ (by decide +kernel)
  obtain ⟨b, xs, hb, hx⟩ := State.ints_of_pre rfl harr hlen hall
  have hsm : xs.length < 2 ^ 31 := hx.choose_spec.2.2.2
  have hev : (Term.length (.arg 0)).eval args s none [] s = some (.int xs.length.toInt32) := hx.length_eval hb
  have hv := Cond.le_ints hev (show (Term.int 4608).eval args s none [] s = some (.int 4608) from rfl)
  have hd : xs.length.toInt32 ≤ 4608 := by
    simpa [Cond.before, Cond.holds, hv] using hle
  have hN : xs.length ≤ 4608 := (Int32.ofNat_le_ofNat hsm (by decide)).mp (show Int32.ofNat xs.length ≤ Int32.ofNat 4608 from hd)
  exact ⟨b, xs, Cond.one_arg hc (show args[0]? = some (.ref b) from hb), hx, hN, h⟩
theorem lw_comes (l : Launch) (hflags : l.flags = flags0) : Comes l x (Jvm.Cond.code x code maxLocals ret :: tables_1) room_1 (fun tb e args s => Calls_1 tb e args s ∧ rest_1 tb e args s ∧ Pre_1 tb e args s)
    (fun _ _ args s o t => lw_Q args s o t) := by
  intro p e ha hc hk s m args below hf hfit hheap happ hpre
  obtain ⟨b, xs, hP⟩ := lw_pre_spec hpre.2.2 hpre.2.1
  obtain ⟨k, o, h1, h2, h3, hQ⟩ := lw_walk l hflags b xs p e ha hc hk s m args below hf ((Spec.applies_iff_loose hf).mp happ).1 hP trivial
  exact ⟨k, o, h1, h2, h3, hQ⟩
theorem lw_frame {s t : State} {o : Outcome} {args : Array Value} (h : Framed s o t [] 600000 7302250) :
    Framed s o t (fieldLocs frame_1_writes args s ++ arrayLocs frame_1_arrays args s ++ staticLocs frame_1_statics s) 600000 7302250 := h
theorem lw_limb (L : Cond) (hL : ∀ (args : Array Value) (s t : State), L.after args s (.returned (some (.int 1))) t = true) :
    ArmFor flags0 classFile x code maxLocals ret World_1 tables_1 room_1 Calls_1 rest_1 Pre_1
      (fun tb e a s o t => postC L tb e a s o t ∧ Framed s o t (fieldLocs frame_1_writes a s ++ arrayLocs frame_1_arrays a s ++ staticLocs frame_1_statics s) 600000 7302250) := by
  intro l hflags _ _ p e ha hc hk s m args below hf hfit hheap happ hpre
  obtain ⟨k, o, h1, h2, h3, rfl, hF⟩ := lw_comes l hflags p e ha hc hk s m args below hf hfit hheap happ hpre
  exact ⟨k, _, h1, h2, h3, hL args s _, lw_frame hF⟩
theorem i_vc : Claimed_1_1 ∧ Claimed_1_2 := ⟨lw_limb limb_1_1 (fun args s t => by simp [limb_1_1, Cond.after, Cond.holds, Cond.value]), lw_limb limb_1_2 (fun args s t => Cond.after_iff.mpr (by
  first | (rw [show limb_1_2 = Cond.eq .result (.int 1) from rfl, Cond.eq_ints (x := 1) (y := 1) rfl rfl]; simp; done) | (simp [limb_1_2, Cond.value, Term.eval]; done)))⟩
