/-! making, calls, returns; and the judgement AW of a method against a pure function of the memory -/
def rmOf (d mc ms : Nat) : Room := { frames := d, cells := mc, slots := ms, locals := 64 * d }
def cs (nS n : Int) : Nat := (n - nS).toNat
def sl (nS n : Int) : Nat := (slt n - slt nS).toNat
def rvl (g : GT) (ret : Option FieldType) (r : Int) : Option Value := match ret with
  | none => none
  | some ty => some (fv (gB g) (tagT ty) r)
def rok (ret : Option FieldType) (r : Int) : Prop := match ret with
  | none => True
  | some ty => okt (tagT ty) r
def rsk (ret : Option FieldType) (r : Int) : List AV := match ret with
  | none => []
  | some ty => [(tagT ty, r)]
def QcA (g : GT) (n nf : Int) (M : Mem) (ret : Option FieldType) (r : Int) : Array Value → State → Outcome → State → Prop := fun _ u oc t => oc = .returned (rvl g ret r) ∧ Hp g n nf M t.heap ∧ Kg g t ∧ Tb t ∧ va_F (Ag g) u t ∧ rok ret r
def PcA (g : GT) (n nf : Int) (M : Mem) (av : List AV) : Array Value → State → Prop := va_Pc (av.map (tv (gB g))) (fun U => Hp g n nf M U.heap ∧ Kg g U ∧ Tb U)
/-- a method's contract over the whole memory -/
def RM (g : GT) (y : MethodName) (cc : ByteArray) (nL : Nat) (ret : Option FieldType) (d : Nat) (nS nE nf : Int) (av : List AV) (M M' : Mem) (r : Int) : Prop :=
  Met g.1 y [Cond.code y cc nL ret] (rmOf d (cs nS nE) (sl nS nE)) (PcA g nS nf M av) (QcA g nE nf M' ret r) (cs nS nE) (sl nS nE) (Ag g)
def skw (sk : List AV) : Nat := (sk.map (fun v => if v.1 = 1 then 2 else 1)).sum
theorem skw_eq (B : Nat) (sk : List AV) : ((sk.map (tv B)).map fun v => v.category).sum = skw sk := by
  unfold skw
  rw [List.map_map]
  congr 1
  apply List.map_congr_left
  intro v _
  show (tv B v).category = _
  have h := tv_cat B v
  rcases lv_cat (tv B v) with q | q
  · rw [q] at h ⊢
    by_cases hv : v.1 = 1
    · rw [hv] at h; exact absurd h (by decide)
    · rw [if_neg hv]
  · rw [q] at h ⊢
    by_cases hv : v.1 = 1
    · rw [if_pos hv]
    · simp [hv] at h
theorem PcA.blind (g : GT) (n nf : Int) (M : Mem) (av : List AV) : FrameBlind (PcA g n nf M av) := by
  rintro a U f mk ⟨h1, h2, h3, h4⟩
  have hW : U.WarmedH (U.calling f mk a).vm := State.WarmedH.refl U
  exact ⟨h1, h2, h3.warm hW, h4.warm hW⟩
def LkV (own : String) (i : Nat) (y : MethodName) (cc : ByteArray) (nL : Nat) (ret : Option FieldType) (np : Nat) : Prop :=
  Cond.code y cc nL ret ∈ lw_tbl ∧ Cond.initialized y.cls ∈ lw_tbl ∧ Cond.instanceMethod y ∈ lw_tbl ∧ Cond.selects y.cls y y ∈ lw_tbl ∧ (y.cls ≠ "java/lang/invoke/MethodHandle" ∧ y.cls ≠ "java/lang/invoke/VarHandle" ∧ (parseMethodDescriptor y.desc).map (fun d => d.parameters.length) = some np) ∧ (Cond.methodLink own i y ∈ lw_tbl ∨ ∃ host, Cond.methodLinkNest own i y host ∈ lw_tbl)
def LkS (own : String) (i : Nat) (y : MethodName) (cc : ByteArray) (nL : Nat) (ret : Option FieldType) (np : Nat) : Prop :=
  Cond.code y cc nL ret ∈ lw_tbl ∧ Cond.initialized y.cls ∈ lw_tbl ∧ Cond.static y ∈ lw_tbl ∧ (y.cls ≠ "java/lang/invoke/MethodHandle" ∧ y.cls ≠ "java/lang/invoke/VarHandle" ∧ (parseMethodDescriptor y.desc).map (fun d => d.parameters.length) = some np) ∧ (Cond.methodLink own i y ∈ lw_tbl ∨ ∃ host, Cond.methodLinkNest own i y host ∈ lw_tbl)
def LkI (own : String) (i : Nat) (y : MethodName) (cc : ByteArray) (nL : Nat) (np : Nat) : Prop :=
  Cond.code y cc nL none ∈ lw_tbl ∧ Cond.initialized y.cls ∈ lw_tbl ∧ Cond.instanceMethod y ∈ lw_tbl ∧ y.name = "<init>" ∧ (y.cls ≠ "java/lang/invoke/MethodHandle" ∧ y.cls ≠ "java/lang/invoke/VarHandle" ∧ (parseMethodDescriptor y.desc).map (fun d => d.parameters.length) = some np) ∧ (Cond.methodLink own i y ∈ lw_tbl ∨ ∃ host, Cond.methodLinkNest own i y host ∈ lw_tbl)
section CR
variable {g : GT} {p : Program} {e : Env} {R : Room} {s : State} {m : MethodId} {args : Array Value} {below : List Frame} {meth : Method} {c : Code} {Q : State → Prop} {cells slots pc : Nat} {ls : List LV} {sk : List AV} {n nf nE : Int} {M M' : Mem} {own : String} {cc : ByteArray} {nL : Nat}
variable {y : MethodName} {bytes : ByteArray} {maxL d' np i : Nat} {ret : Option FieldType} {r a : Int} {av : List AV}
theorem code_w {s : State} (hT : Tb s) (hm : Cond.code y bytes maxL ret ∈ lw_tbl) : ∀ w ∈ [Cond.code y bytes maxL ret], ∀ (a' : Array Value) (U : State), s.WarmedH U.vm → w.before a' U = true := by
  intro w hw a' U hW
  rw [List.mem_singleton] at hw
  subst hw
  exact (hT.warm hW).use hm rfl rfl a'
theorem np_of (h : (parseMethodDescriptor y.desc).map (fun d => d.parameters.length) = some np) : ∀ sig, parseMethodDescriptor y.desc = some sig → np = sig.parameters.length := by
  intro sig hs
  rw [hs] at h
  exact (Option.some.inj h).symm
/-- behind a call -/
theorem b_call {st0 : List AV} {a0 : Array Value} {mc ms : Nat} (hrun : ∀ (H : Heap) (locs : List Loc) (A : Array Slot), Hp g n nf M H → va_S (Ag g) s.heap H locs → lv_has A c.maxLocals (ls.map (lw (gB g))) → okL ls → okS st0 → va_Run p g.1 e R s m args below meth c H locs cells slots mc ms (F0 m pc A (st0.map (tv (gB g)))) (sk.map (tv (gB g))) (QcA g nE nf M' ret r a0) (Ag g)) (hsk : okS st0 → okS sk) (kk : BW g p e R s m args below meth c Q (cells + mc) (slots + ms) (pc + 3) ls (rsk ret r ++ sk) nE nf M') : BW g p e R s m args below meth c Q cells slots pc ls st0 n nf M := by
  intro H locs A hH hS hl hL hs
  intro T hT X
  obtain ⟨v, st₀, t, T', L, h0, X', hLf, e1, e2, ⟨hoc, hHp, hK, hTb, hF, hok⟩, hst⟩ := hrun H locs A hH hS hl hL hs T hT X
  have hv : v = rvl g ret r := by cases hoc; rfl
  subst hv
  have hS' : va_S (Ag g) s.heap T'.heap (locs ++ L) := by
    refine ⟨?_, ?_, ?_⟩
    · rw [e1]; have h5 := hF.1; rw [h0] at h5; exact Nat.le_trans hS.1 h5
    · intro q hq1 hq2
      rw [e1, hF.2 q (by rw [h0]; exact Nat.lt_of_lt_of_le hq1 hS.1) hq2, h0]
      exact hS.2.1 q hq1 hq2
    · intro q hq
      rcases List.mem_append.mp hq with h | h
      · exact hS.2.2 q h
      · exact hLf q h
  have hs' : okS (rsk ret r ++ sk) := by
    cases ret with
    | none => exact hsk hs
    | some ty => exact (hsk hs).cons hok
  obtain ⟨t2, a1, b1⟩ := kk T'.heap (locs ++ L) A (by rw [e1]; exact hHp) hS' hl hL hs' T' rfl X'
  refine ⟨t2, hst t2 ?_, b1⟩
  have eq : (rvl g ret r).toList ++ sk.map (tv (gB g)) = (rsk ret r ++ sk).map (tv (gB g)) := by cases ret <;> rfl
  show Steps p.tables e below (T'.setTop { F0 m pc A (st0.map (tv (gB g))) with pc := pc + 3, stack := (rvl g ret r).toList ++ sk.map (tv (gB g)) }) t2
  rw [eq]
  exact a1
theorem b_inv (hC : Cx g p s m meth c own cc nL) (hd : decode cc pc = .ok (.invokevirtual i, 3)) (hlk : LkV own i y bytes maxL ret np) {ci : Nat} {T : u_T} {N : Nat} (hcl : vwCl[ci]? = some (y.cls, T, N)) {dk : Nat} (hk : kd a = dk) (hci : dk % 50 = 10 + ci) (ha : a ≤ n) (hnp : av.length = np) {st0 : List AV} (h0 : st0 = av.reverse ++ (2, a) :: sk) (hw : skw sk ≤ 8) (hfr : d' + 1 ≤ R.frames) (hlo : 8 + (maxL + 11) + 64 * d' ≤ R.locals) (hce : cells + cs n nE ≤ R.cells) (hsl : slots + sl n nE ≤ R.slots) (hM : okS ((2, a) :: av) → RM g y bytes maxL ret d' n nE nf ((2, a) :: av) M M' r) (kk : BW g p e R s m args below meth c Q (cells + cs n nE) (slots + sl n nE) (pc + 3) ls (rsk ret r ++ sk) nE nf M') : BW g p e R s m args below meth c Q cells slots pc ls st0 n nf M := by
  subst h0
  have h1 := (kd_pos (a := a) (by rw [hk]; omega)).1
  obtain ⟨l1, l2, l3, l4, l5, l6⟩ := hlk
  have hT := hC.2.2.2.2.2.1
  refine b_call (ret := ret) (r := r) (M' := M') (nE := nE) (a0 := (Value.ref (gB g + a.toNat) :: av.map (tv (gB g))).toArray) (fun H locs A hH hS hl hL hs => ?_) (fun hs => fun v hv => hs v (List.mem_append_right _ (List.mem_cons_of_mem _ hv))) kk
  have hokv : okS ((2, a) :: av) := by
    intro v hv
    rcases List.mem_cons.mp hv with rfl | hv
    · exact hs _ (List.mem_append_right _ List.mem_cons_self)
    · exact hs v (List.mem_append_left _ (List.mem_reverse.mpr hv))
  obtain ⟨rr, hr1, cell, q1, q2, q3, -⟩ := hH.obj h1 ha (by rw [hk, hci]) (by omega)
  have e10 : 10 + ci - 10 = ci := by omega
  rw [e10] at hr1 q2
  have hpre : PreV s H y.cls (gB g + a.toNat) (PcA g n nf M ((2, a) :: av)) (av.map (tv (gB g))) := by
    refine ⟨PcA.blind g n nf M _, ⟨cell, q1, by rw [q3]; rfl, by rw [q2]; exact (hC.2.2.2.2.1.1.1 ci _ hcl).2.1⟩, fun U hU hW => ⟨?_, by rw [hU]; exact hH, hC.2.2.2.2.1.warm hW, hT.warm hW⟩⟩
    show _ = (tv (gB g) (2, a) :: av.map (tv (gB g))).toArray
    rw [show tv (gB g) (2, a) = .ref (gB g + a.toNat) from okt_ref (by omega) _]
  have hstk : (av.reverse ++ (2, a) :: sk).map (tv (gB g)) = (av.map (tv (gB g))).reverse ++ .ref (gB g + a.toNat) :: sk.map (tv (gB g)) := by
    rw [List.map_append, List.map_cons, List.map_reverse, show tv (gB g) (2, a) = .ref (gB g + a.toNat) from okt_ref (by omega) _]
  have hwk : ((sk.map (tv (gB g))).map fun v => v.category).sum ≤ 8 := by rw [skw_eq]; exact hw
  have hfix : CallFix p m c cc c.maxLocals s args [] own := ⟨hC.1, hC.2.1, rfl, hC.2.2.2.1, fun w hw => by cases hw⟩
  rcases l6 with l6 | ⟨host, l6⟩
  · exact va_runV (C := y.cls) (As := av.map (tv (gB g))) (rest := sk.map (tv (gB g))) hfix (hM hokv) ⟨⟨rfl, rfl, hfr, hlo, code_w hT l1, List.mem_singleton.mpr rfl, hT.use l1 rfl rfl args, hT.use l2 rfl rfl args, ⟨l5.1, l5.2.1⟩, np_of l5.2.2, hT.use l6 rfl rfl args⟩, hT.use l3 rfl rfl args, hT.use l4 rfl rfl args⟩ hpre rfl (by rw [List.length_map]; exact hnp) hl.1 hstk (lv_room hwk) hd ⟨hce, hsl⟩
  · exact va_runVN (C := y.cls) (As := av.map (tv (gB g))) (rest := sk.map (tv (gB g))) hfix (hM hokv) ⟨⟨⟨rfl, rfl, hfr, hlo, code_w hT l1, List.mem_singleton.mpr rfl⟩, hT.use l1 rfl rfl args, hT.use l2 rfl rfl args, ⟨l5.1, l5.2.1⟩, np_of l5.2.2, hT.use l6 rfl rfl args⟩, hT.use l3 rfl rfl args, hT.use l4 rfl rfl args⟩ hpre rfl (by rw [List.length_map]; exact hnp) hl.1 hstk (lv_room hwk) hd ⟨hce, hsl⟩
theorem b_ins (hC : Cx g p s m meth c own cc nL) (hd : decode cc pc = .ok (.invokestatic i, 3)) (hlk : LkS own i y bytes maxL ret np) (hnp : av.length = np) {st0 : List AV} (h0 : st0 = av.reverse ++ sk) (hw : skw sk ≤ 8) (hfr : d' + 1 ≤ R.frames) (hlo : 8 + (maxL + 11) + 64 * d' ≤ R.locals) (hce : cells + cs n nE ≤ R.cells) (hsl : slots + sl n nE ≤ R.slots) (hM : okS av → RM g y bytes maxL ret d' n nE nf av M M' r) (kk : BW g p e R s m args below meth c Q (cells + cs n nE) (slots + sl n nE) (pc + 3) ls (rsk ret r ++ sk) nE nf M') : BW g p e R s m args below meth c Q cells slots pc ls st0 n nf M := by
  subst h0
  obtain ⟨l1, l2, l3, l5, l6⟩ := hlk
  have hT := hC.2.2.2.2.2.1
  refine b_call (ret := ret) (r := r) (M' := M') (nE := nE) (a0 := (av.map (tv (gB g))).toArray) (fun H locs A hH hS hl hL hs => ?_) (fun hs => fun v hv => hs v (List.mem_append_right _ hv)) kk
  have hokv : okS av := fun v hv => hs v (List.mem_append_left _ (List.mem_reverse.mpr hv))
  have hpre : PreS s H (PcA g n nf M av) (av.map (tv (gB g))) := ⟨PcA.blind g n nf M _, fun U hU hW => ⟨rfl, by rw [hU]; exact hH, hC.2.2.2.2.1.warm hW, hT.warm hW⟩⟩
  have hstk : (av.reverse ++ sk).map (tv (gB g)) = (av.map (tv (gB g))).reverse ++ sk.map (tv (gB g)) := by rw [List.map_append, List.map_reverse]
  have hwk : ((sk.map (tv (gB g))).map fun v => v.category).sum ≤ 8 := by rw [skw_eq]; exact hw
  have hfix : CallFix p m c cc c.maxLocals s args [] own := ⟨hC.1, hC.2.1, rfl, hC.2.2.2.1, fun w hw => by cases hw⟩
  rcases l6 with l6 | ⟨host, l6⟩
  · exact va_runS (As := av.map (tv (gB g))) (rest := sk.map (tv (gB g))) hfix (hM hokv) ⟨⟨rfl, rfl, hfr, hlo, code_w hT l1, List.mem_singleton.mpr rfl, hT.use l1 rfl rfl args, hT.use l2 rfl rfl args, ⟨l5.1, l5.2.1⟩, np_of l5.2.2, hT.use l6 rfl rfl args⟩, hT.use l3 rfl rfl args⟩ hpre rfl (by rw [List.length_map]; exact hnp) hl.1 hstk (lv_room hwk) hd ⟨hce, hsl⟩
  · exact va_runSN (As := av.map (tv (gB g))) (rest := sk.map (tv (gB g))) hfix (hM hokv) ⟨⟨⟨rfl, rfl, hfr, hlo, code_w hT l1, List.mem_singleton.mpr rfl⟩, hT.use l1 rfl rfl args, hT.use l2 rfl rfl args, ⟨l5.1, l5.2.1⟩, np_of l5.2.2, hT.use l6 rfl rfl args⟩, hT.use l3 rfl rfl args, trivial⟩ hpre rfl (by rw [List.length_map]; exact hnp) hl.1 hstk (lv_room hwk) hd ⟨hce, hsl⟩
theorem b_ini (hC : Cx g p s m meth c own cc nL) (hd : decode cc pc = .ok (.invokespecial i, 3)) (hlk : LkI own i y bytes maxL np) (ha : 1 ≤ a) (hnp : av.length = np) {st0 : List AV} (h0 : st0 = av.reverse ++ (2, a) :: sk) (hw : skw sk ≤ 8) (hfr : d' + 1 ≤ R.frames) (hlo : 8 + (maxL + 11) + 64 * d' ≤ R.locals) (hce : cells + cs n nE ≤ R.cells) (hsl : slots + sl n nE ≤ R.slots) (hM : okS ((2, a) :: av) → RM g y bytes maxL none d' n nE nf ((2, a) :: av) M M' r) (kk : BW g p e R s m args below meth c Q (cells + cs n nE) (slots + sl n nE) (pc + 3) ls sk nE nf M') : BW g p e R s m args below meth c Q cells slots pc ls st0 n nf M := by
  subst h0
  obtain ⟨l1, l2, l3, l4, l5, l6⟩ := hlk
  have hT := hC.2.2.2.2.2.1
  refine b_call (ret := none) (r := r) (M' := M') (nE := nE) (a0 := (Value.ref (gB g + a.toNat) :: av.map (tv (gB g))).toArray) (fun H locs A hH hS hl hL hs => ?_) (fun hs => fun v hv => hs v (List.mem_append_right _ (List.mem_cons_of_mem _ hv))) kk
  have hokv : okS ((2, a) :: av) := by
    intro v hv
    rcases List.mem_cons.mp hv with rfl | hv
    · exact hs _ (List.mem_append_right _ List.mem_cons_self)
    · exact hs v (List.mem_append_left _ (List.mem_reverse.mpr hv))
  have hpre : PreS s H (PcA g n nf M ((2, a) :: av)) (.ref (gB g + a.toNat) :: av.map (tv (gB g))) := by
    refine ⟨PcA.blind g n nf M _, fun U hU hW => ⟨?_, by rw [hU]; exact hH, hC.2.2.2.2.1.warm hW, hT.warm hW⟩⟩
    show _ = (tv (gB g) (2, a) :: av.map (tv (gB g))).toArray
    rw [show tv (gB g) (2, a) = .ref (gB g + a.toNat) from okt_ref (by omega) _]
  have hstk : (av.reverse ++ (2, a) :: sk).map (tv (gB g)) = (av.map (tv (gB g))).reverse ++ .ref (gB g + a.toNat) :: sk.map (tv (gB g)) := by
    rw [List.map_append, List.map_cons, List.map_reverse, show tv (gB g) (2, a) = .ref (gB g + a.toNat) from okt_ref (by omega) _]
  have hwk : ((sk.map (tv (gB g))).map fun v => v.category).sum ≤ 8 := by rw [skw_eq]; exact hw
  have hfix : CallFix p m c cc c.maxLocals s args [] own := ⟨hC.1, hC.2.1, rfl, hC.2.2.2.1, fun w hw => by cases hw⟩
  rcases l6 with l6 | ⟨host, l6⟩
  · exact va_runI (As := av.map (tv (gB g))) (rest := sk.map (tv (gB g))) hfix (hM hokv) ⟨⟨rfl, rfl, hfr, hlo, code_w hT l1, List.mem_singleton.mpr rfl, hT.use l1 rfl rfl args, hT.use l2 rfl rfl args, ⟨l5.1, l5.2.1⟩, np_of l5.2.2, hT.use l6 rfl rfl args⟩, l4, hT.use l3 rfl rfl args⟩ hpre rfl (by rw [List.length_map]; exact hnp) hl.1 hstk (lv_room hwk) hd ⟨hce, hsl⟩
  · exact va_runIN (As := av.map (tv (gB g))) (rest := sk.map (tv (gB g))) hfix (hM hokv) ⟨⟨⟨rfl, rfl, hfr, hlo, code_w hT l1, List.mem_singleton.mpr rfl⟩, hT.use l1 rfl rfl args, hT.use l2 rfl rfl args, ⟨l5.1, l5.2.1⟩, np_of l5.2.2, hT.use l6 rfl rfl args⟩, l4, hT.use l3 rfl rfl args⟩ hpre rfl (by rw [List.length_map]; exact hnp) hl.1 hstk (lv_room hwk) hd ⟨hce, hsl⟩
theorem b_obj (hC : Cx g p s m meth c own cc nL) (hd : decode cc pc = .ok (.invokespecial i, 3)) (h1 : Cond.methodLink own i Lib.objectInit ∈ lw_tbl) (h2 : Cond.instanceMethod Lib.objectInit ∈ lw_tbl) (h3 : Cond.code Lib.objectInit ⟨#[0xb1]⟩ 1 none ∈ lw_tbl) (ha : 1 ≤ a) (hw : skw sk ≤ 8) (hfr : 1 ≤ R.frames) (hlo : 20 ≤ R.locals) (kk : BW g p e R s m args below meth c Q cells slots (pc + 3) ls sk n nf M) : BW g p e R s m args below meth c Q cells slots pc ls ((2, a) :: sk) n nf M := by
  intro H locs A hH hS hl hL hs
  have hT := hC.2.2.2.2.2.1
  have hwk : ((sk.map (tv (gB g))).map fun v => v.category).sum ≤ 8 := by rw [skw_eq]; exact hw
  have hfin := kk H locs A hH hS hl hL hs.tl
  show W p g.1 e R s m args below meth c H locs cells slots Q (F0 m pc A (fv (gB g) 2 a :: sk.map (tv (gB g))))
  rw [okt_ref (by omega)]
  refine W.objInit hC.1 hC.2.1 hC.2.2.2.1 (hT.use h1 rfl rfl args) (hT.use h2 rfl rfl args) (hT.use h3 rfl rfl args) rfl hl.1 rfl hd hfr ?_ hfin
  show 2 * 0 + _ + 12 ≤ _
  omega
theorem b_new (hC : Cx g p s m meth c own cc nL) {ci N : Nat} {C : String} {T : u_T} (hd : decode cc pc = .ok (.new i, 3)) (h1 : Cond.classLink own i C ∈ lw_tbl) (h2 : Cond.instantiable C N ∈ lw_tbl) (h3 : Cond.initialized C ∈ lw_tbl) (hcl : vwCl[ci]? = some (C, T, N)) {dk : Nat} (hk : kd (n + 1) = dk) (hci : dk % 50 = 10 + ci) (hN : sl n (n + 1) = N) (hnf : nf ≤ n) (hce : cells + 1 ≤ R.cells) (hsl : slots + N ≤ R.slots) (kk : BW g p e R s m args below meth c Q (cells + 1) (slots + N) (pc + 3) ls ((2, n + 1) :: sk) (n + 1) nf M) : BW g p e R s m args below meth c Q cells slots pc ls sk n nf M := by
  intro H locs A hH hS hl hL hs
  have hT := hC.2.2.2.2.2.1
  obtain ⟨hp1, hp2⟩ := kd_pos (a := n + 1) (by rw [hk]; omega)
  obtain ⟨hin, ty, hty, hnm, htg⟩ := vw_all hcl
  have hts := u_ws_tb hT hin args
  have hKn := hC.2.2.2.2.1.1.1 ci _ hcl
  obtain ⟨p0, p1, p2, p3, p4, p5, p6⟩ := id hH
  have hz : H.size = gB g + (n + 1).toNat := by rw [p1]; omega
  refine W.newcK hC.1 hC.2.1 hC.2.2.2.1 (hT.use h1 rfl rfl args) (hT.use h2 rfl rfl args) (hT.use h3 rfl rfl args) rfl hd hce hsl hKn.2.1 rfl fun H1 kC hkC e1 z1 o1 => ?_
  have hc0 := u_born (o := H.size) ty hts (fun _ h => h) hKn hkC e1 hty
  have hnew : Hp g (n + 1) nf M H1 := by
    refine ⟨⟨by omega, hp2⟩, by rw [z1, p1]; omega, ?_, ?_, fun b j hb => p4 b j (by omega), p5, fun q hq => by rw [o1 q (by omega)]; exact p6 q hq⟩
    · intro b hb1 hb2
      by_cases hbn : b = n + 1
      · subst hbn
        unfold cellAt
        rw [hk, hci, if_neg (by omega), show 10 + ci - 10 = ci by omega]
        refine ⟨_, hcl, ?_⟩
        rw [hz] at hc0
        refine hc0.to ?_
        intro k hkN
        obtain ⟨t1, t2, t3⟩ := htg k hkN
        rw [← t1, p4 _ _ (by omega)]
        cases hty' : ty k <;> first | rfl | (rw [hty'] at t3; exact absurd t3 (by decide))
      · have := p2 b hb1 (by omega)
        have hq : H1[gB g + b.toNat]? = H[gB g + b.toNat]? := o1 _ (by omega)
        unfold cellAt at this ⊢
        split
        · rename_i hk'; rw [if_pos hk'] at this; rw [hq]; exact this
        · rename_i hk'; rw [if_neg hk'] at this
          obtain ⟨r', r1, r2⟩ := this
          exact ⟨r', r1, r2.kept hq⟩
    · intro b j hb1 hb2 hj
      by_cases hbn : b = n + 1
      · subst hbn
        rw [p4 _ _ (by omega)]
        generalize tyOf (n + 1) j = t
        match t with
        | 0 => exact in32_0
        | 1 => exact in32_64 in32_0
        | k + 2 => exact Int.le_refl 0
      · exact p3 b j hb1 (by omega) hj
  have hS1 : va_S (Ag g) s.heap H1 locs := ⟨Nat.le_trans hS.1 (by omega), fun q h4 h5 => (o1 q (Nat.lt_of_lt_of_le h4 hS.1)).trans (hS.2.1 q h4 h5), hS.2.2⟩
  have hfin := kk H1 locs A hnew hS1 hl hL (hs.cons (show okt 2 (n + 1) from (by show 0 ≤ n + 1; omega)))
  show W p g.1 e R s m args below meth c H1 locs (cells + 1) (slots + N) Q (F0 m (pc + 3) A (.ref H.size :: sk.map (tv (gB g))))
  rw [hz, ← okt_ref (x := n + 1) (by omega)]
  exact hfin
/-- a new array stands behind the world -/
theorem Hp.push {H H1 : Heap} (hH : Hp g n nf M H) {dk b : Nat} (hk : kd (n + 1) = dk) (hdb : dk % 50 = b) (hb : b < 10 ∧ b ≠ 0) (e1 : H1[H.size]? = some (arrV (gc g (cyi b)) (ln (n + 1)).toNat (fun _ => fv (gB g) (et b) 0))) (z1 : H1.size = H.size + 1) (o1 : ∀ q, q < H.size → H1[q]? = H[q]?) (hnf : nf ≤ n) : Hp g (n + 1) nf M H1 := by
  obtain ⟨hp1, hp2⟩ := kd_pos (a := n + 1) (by rw [hk]; omega)
  obtain ⟨p0, p1, p2, p3, p4, p5, p6⟩ := id hH
  have hz : H.size = gB g + (n + 1).toNat := by rw [p1]; omega
  refine ⟨⟨by omega, hp2⟩, by rw [z1, p1]; omega, ?_, ?_, fun b j hb => p4 b j (by omega), p5, fun q hq => by rw [o1 q (by omega)]; exact p6 q hq⟩
  · intro b' hb1 hb2
    by_cases hbn : b' = n + 1
    · subst hbn
      unfold cellAt
      rw [hk, hdb, if_pos hb.1, ← hz, e1]
      congr 2
      funext j
      rw [p4 _ _ (by omega)]
    · have := p2 b' hb1 (by omega)
      have hq : H1[gB g + b'.toNat]? = H[gB g + b'.toNat]? := o1 _ (by omega)
      unfold cellAt at this ⊢
      split
      · rename_i hk'; rw [if_pos hk'] at this; rw [hq]; exact this
      · rename_i hk'; rw [if_neg hk'] at this
        obtain ⟨r', r1, r2⟩ := this
        exact ⟨r', r1, r2.kept hq⟩
  · intro b' j hb1 hb2 hj
    by_cases hbn : b' = n + 1
    · subst hbn
      rw [p4 _ _ (by omega)]
      generalize tyOf (n + 1) j = t
      match t with
      | 0 => exact in32_0
      | 1 => exact in32_64 in32_0
      | k + 2 => exact Int.le_refl 0
    · exact p3 b' j hb1 (by omega) hj
end CR
