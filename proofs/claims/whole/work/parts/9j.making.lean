/-! constructors: what each walk of one stands on -/
theorem cs_add {nS n n' : Int} (h1 : nS ≤ n) (h2 : n ≤ n') : cs nS n + cs n n' = cs nS n' := by
  unfold cs
  omega
theorem sl_add {nS n n' : Int} (h0 : 0 ≤ nS) (h1 : nS ≤ n) (h2 : n ≤ n') (h3 : n' ≤ 406) : sl nS n + sl n n' = sl nS n' := by
  have a1 := slt_le h0 h1 (by omega)
  have a2 := slt_le (n := n) (by omega) h2 h3
  unfold sl
  omega
theorem sl_one {n : Int} (h0 : 0 ≤ n) (h : n < 406) : sl n (n + 1) = (ln (n + 1)).toNat := by
  unfold sl
  rw [slt_succ h0 h]
  have := ln_pos (n := n + 1) (by omega) (by omega)
  omega
theorem RM_of {g : GT} {y : MethodName} {cc : ByteArray} {nL d : Nat} {ret : Option FieldType} {nS nE nf r : Int} {av : List AV} {M M' : Mem} (hy : plainName y.cls = true) (hw : argW av ≤ nL) (h : ∀ (p : Program) (e : Env) (s : State) (m : MethodId) (args : Array Value) (below : List Frame) (meth : Method) (c : Code), Cx g p s m meth c y.cls cc nL → meth.sig.returnType = ret → meth.name = y.name → BW g p e (rmOf d (cs nS nE) (sl nS nE)) s m args below meth c (MQ below (QcA g nE nf M' ret r) args s (cs nS nE) (sl nS nE) (Ag g)) (cs nS nS) (sl nS nS) 0 (argL 0 av) [] nS nf M) (hok : okS av) : RM g y cc nL ret d nS nE nf av M M' r := by
  refine Met.ofW (cc := cc) (maxL := nL) (ret := ret) hy rfl ?_
  intro p e s m args below meth c s₁ B hml hv
  obtain ⟨rfl, hH, hK, hT⟩ := hv
  have hown : s.vm.findClass y.cls = some m.cls := findClass_of_methodNamed B.named
  have hname : meth.name = y.name := (name_of_methodNamed B.named B.method).1
  have hsz : gB g < s.heap.size := by rw [hH.2.1]; omega
  have hC : Cx g p s m meth c y.cls cc nL := ⟨B.exec, B.bytes, hml, hown, hK, hT, B.notSynchronized, hsz⟩
  have hb := h p e s m (av.map (tv (gB g))).toArray below meth c hC B.returns hname
  have hl := lv_entry (av.map (tv (gB g))) (n := nL) (by rw [lgsl_len]; exact hw)
  rw [argL_map] at hl
  rw [lg_entry_eq]
  have h0 : cs nS nS = 0 := by unfold cs; omega
  have h1 : sl nS nS = 0 := by unfold sl; omega
  rw [h0, h1] at hb
  exact hb s.heap [] _ hH va_S.rf (by rw [hml]; exact hl) (argL_ok av 0 hok) (fun v hv => by cases hv)
section MK
variable {g : GT} {p : Program} {e : Env} {s : State} {m : MethodId} {args : Array Value} {below : List Frame} {meth : Method} {c : Code} {Q : State → Prop} {pc : Nat} {ls : List LV} {sk : List AV} {n n' nf nS nE : Int} {M M' : Mem} {own : String} {cc : ByteArray} {nL d i : Nat}
theorem c_new (hC : Cx g p s m meth c own cc nL) {ci N : Nat} {C : String} {T : u_T} (hd : decode cc pc = .ok (.new i, 3)) (h1 : Cond.classLink own i C ∈ lw_tbl) (h2 : Cond.instantiable C N ∈ lw_tbl) (h3 : Cond.initialized C ∈ lw_tbl) (hcl : vwCl[ci]? = some (C, T, N)) {dk : Nat} (hk : kd n' = dk) (hci : dk % 50 = 10 + ci) (hl : ln n' = N) (hnf : nf ≤ n) (hn : n' = n + 1) (hr : 0 ≤ nS ∧ nS ≤ n ∧ n < nE ∧ nE ≤ 406) (kk : BW g p e (rmOf d (cs nS nE) (sl nS nE)) s m args below meth c Q (cs nS n') (sl nS n') (pc + 3) ls ((2, n') :: sk) n' nf M) : BW g p e (rmOf d (cs nS nE) (sl nS nE)) s m args below meth c Q (cs nS n) (sl nS n) pc ls sk n nf M := by
  subst hn
  obtain ⟨r0, r1, r2, r3⟩ := hr
  have e1 : cs n (n + 1) = 1 := by unfold cs; omega
  have e2 : sl n (n + 1) = N := by rw [sl_one (by omega) (by omega), hl]; omega
  have a1 := cs_add (nS := nS) r1 (show n ≤ n + 1 by omega)
  have a2 := sl_add (nS := nS) r0 r1 (show n ≤ n + 1 by omega) (by omega)
  have a3 := cs_add (nS := nS) (show nS ≤ n + 1 by omega) (show n + 1 ≤ nE by omega)
  have a4 := sl_add (nS := nS) r0 (show nS ≤ n + 1 by omega) (show n + 1 ≤ nE by omega) r3
  rw [e1] at a1
  rw [e2] at a2
  rw [← a1, ← a2] at kk
  exact b_new hC hd h1 h2 h3 hcl hk hci e2 hnf (show cs nS n + 1 ≤ cs nS nE by omega) (show sl nS n + N ≤ sl nS nE by omega) kk
theorem c_newa (hC : Cx g p s m meth c own cc nL) {at' : ArrayType} {ty : FieldType} (hat : newarray.typeOf at' = ty) {b pl : Nat} (hpl : (tysg g)[pl]? = some (gc g (cyi b), ty)) (hdf : defaultValue ty = fv (gB g) (et b) 0) (hra : va_RA s (gc g (cyi b)) ty → s.vm.findClass ("[" ++ ty.toString) = some (gc g (cyi b))) (hd : decode cc pc = .ok (.newarray at', 2)) (h1 : Cond.arrayClass ty ∈ lw_tbl) {dk : Nat} (hk : kd n' = dk) (hdb : dk % 50 = b) (hb : b < 10 ∧ b ≠ 0) {v : Int} (hv : ln n' = v) (hr : 0 ≤ v ∧ v ≤ 100000) (hcb : componentBytes ty ≤ 8) (hnf : nf ≤ n) (hn : n' = n + 1) (hq : 0 ≤ nS ∧ nS ≤ n ∧ n < nE ∧ nE ≤ 406) (kk : BW g p e (rmOf d (cs nS nE) (sl nS nE)) s m args below meth c Q (cs nS n') (sl nS n') (pc + 2) ls ((2, n') :: sk) n' nf M) : BW g p e (rmOf d (cs nS nE) (sl nS nE)) s m args below meth c Q (cs nS n) (sl nS n) pc ls ((0, v) :: sk) n nf M := by
  subst hn
  obtain ⟨r0, r1, r2, r3⟩ := hq
  have e1 : cs n (n + 1) = 1 := by unfold cs; omega
  have e2 : sl n (n + 1) = v.toNat := by rw [sl_one (by omega) (by omega), hv]
  have a1 := cs_add (nS := nS) r1 (show n ≤ n + 1 by omega)
  have a2 := sl_add (nS := nS) r0 r1 (show n ≤ n + 1 by omega) (by omega)
  have a3 := cs_add (nS := nS) (show nS ≤ n + 1 by omega) (show n + 1 ≤ nE by omega)
  have a4 := sl_add (nS := nS) r0 (show nS ≤ n + 1 by omega) (show n + 1 ≤ nE by omega) r3
  rw [e1] at a1
  rw [e2] at a2
  rw [← a1, ← a2] at kk
  exact b_newa hC hat hpl hdf hra hd h1 hk hdb hb hv hr hcb hnf (show cs nS n + 1 ≤ cs nS nE by omega) (show sl nS n + v.toNat ≤ sl nS nE by omega) kk
theorem c_anewa (hC : Cx g p s m meth c own cc nL) {C : String} {b pl : Nat} (hpl : (tysg g)[pl]? = some (gc g b, .object C)) (hb : b = 5 ∨ b = 6 ∨ b = 7) (hao : va_AO C s) (hd : decode cc pc = .ok (.anewarray i, 3)) (h1 : Cond.classLink own i C ∈ lw_tbl) (hk : kd n' = b) {v : Int} (hv : ln n' = v) (hr : 0 ≤ v ∧ v ≤ 100000) (hnf : nf ≤ n) (hn : n' = n + 1) (hq : 0 ≤ nS ∧ nS ≤ n ∧ n < nE ∧ nE ≤ 406) (kk : BW g p e (rmOf d (cs nS nE) (sl nS nE)) s m args below meth c Q (cs nS n') (sl nS n') (pc + 3) ls ((2, n') :: sk) n' nf M) : BW g p e (rmOf d (cs nS nE) (sl nS nE)) s m args below meth c Q (cs nS n) (sl nS n) pc ls ((0, v) :: sk) n nf M := by
  subst hn
  obtain ⟨r0, r1, r2, r3⟩ := hq
  have e1 : cs n (n + 1) = 1 := by unfold cs; omega
  have e2 : sl n (n + 1) = v.toNat := by rw [sl_one (by omega) (by omega), hv]
  have a1 := cs_add (nS := nS) r1 (show n ≤ n + 1 by omega)
  have a2 := sl_add (nS := nS) r0 r1 (show n ≤ n + 1 by omega) (by omega)
  have a3 := cs_add (nS := nS) (show nS ≤ n + 1 by omega) (show n + 1 ≤ nE by omega)
  have a4 := sl_add (nS := nS) r0 (show nS ≤ n + 1 by omega) (show n + 1 ≤ nE by omega) r3
  rw [e1] at a1
  rw [e2] at a2
  rw [← a1, ← a2] at kk
  exact b_anewa hC hpl hb hao hd h1 hk hv hr hnf (show cs nS n + 1 ≤ cs nS nE by omega) (show sl nS n + v.toNat ≤ sl nS nE by omega) kk
theorem c_ini (hC : Cx g p s m meth c own cc nL) {y : MethodName} {bytes : ByteArray} {maxL d' np : Nat} {av : List AV} {a r : Int} (hd : decode cc pc = .ok (.invokespecial i, 3)) (hlk : LkI own i y bytes maxL np) (ha : 1 ≤ a) (hnp : av.length = np) {st0 : List AV} (h0 : st0 = av.reverse ++ (2, a) :: sk) (hw : skw sk ≤ 8) (hfr : d' + 1 ≤ d) (hlo : 8 + (maxL + 11) + 64 * d' ≤ 64 * d) (hq : 0 ≤ nS ∧ nS ≤ n ∧ n ≤ n' ∧ n' ≤ nE ∧ nE ≤ 406) (hM : okS ((2, a) :: av) → RM g y bytes maxL none d' n n' nf ((2, a) :: av) M M' r) (kk : BW g p e (rmOf d (cs nS nE) (sl nS nE)) s m args below meth c Q (cs nS n') (sl nS n') (pc + 3) ls sk n' nf M') : BW g p e (rmOf d (cs nS nE) (sl nS nE)) s m args below meth c Q (cs nS n) (sl nS n) pc ls st0 n nf M := by
  obtain ⟨r0, r1, r2, r3, r4⟩ := hq
  have a1 := cs_add (nS := nS) r1 r2
  have a2 := sl_add (nS := nS) r0 r1 r2 (by omega)
  have a3 := cs_add (nS := nS) (show nS ≤ n' by omega) r3
  have a4 := sl_add (nS := nS) r0 (show nS ≤ n' by omega) r3 r4
  rw [← a1, ← a2] at kk
  exact b_ini hC hd hlk ha hnp h0 hw hfr hlo (show cs nS n + cs n n' ≤ cs nS nE by omega) (show sl nS n + sl n n' ≤ sl nS nE by omega) hM kk
variable {R : Room} {cells slots : Nat}
theorem c_gf (v : Int) {ci k dk : Nat} {a : Int} (hv : M a k = v) (hC : Cx g p s m meth c own cc nL) (hd : decode cc pc = .ok (.getfield i, 3)) (hlk : LkF own i ci k) (hk : kd a = dk) (hci : dk % 50 = 10 + ci) (ha : a ≤ n) (kk : BW g p e R s m args below meth c Q cells slots (pc + 3) ls ((ft ci k, v) :: sk) n nf M) : BW g p e R s m args below meth c Q cells slots pc ls ((2, a) :: sk) n nf M := by
  refine b_gf hC hd hlk hk hci ha ?_
  rw [hv]
  exact kk
/-- what does not change any more -/
theorem b_fix {nf' : Int} (hf : ∀ t ∈ fxl, t.1 ≤ nf' → M t.1 t.2.1 = t.2.2) (kk : BW g p e R s m args below meth c Q cells slots pc ls sk n nf' M) : BW g p e R s m args below meth c Q cells slots pc ls sk n nf M := fun H locs A hH hS hl hL hs => kk H locs A (hH.raise hf) hS hl hL hs
theorem b_low {nf' : Int} (hf : nf' ≤ nf) (kk : BW g p e R s m args below meth c Q cells slots pc ls sk n nf' M) : BW g p e R s m args below meth c Q cells slots pc ls sk n nf M := fun H locs A hH hS hl hL hs => kk H locs A (hH.lower hf) hS hl hL hs
end MK
