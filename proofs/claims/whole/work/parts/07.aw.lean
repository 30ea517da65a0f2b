section NR
variable {g : GT} {p : Program} {e : Env} {R : Room} {s : State} {m : MethodId} {args : Array Value} {below : List Frame} {meth : Method} {c : Code} {Q : State → Prop} {cells slots pc : Nat} {ls : List LV} {sk : List AV} {n nf nE : Int} {M M' : Mem} {own : String} {cc : ByteArray} {nL i : Nat}
theorem b_newa (hC : Cx g p s m meth c own cc nL) {at' : ArrayType} {ty : FieldType} (hat : newarray.typeOf at' = ty) {b pl : Nat} (hpl : (tysg g)[pl]? = some (gc g (cyi b), ty)) (hdf : defaultValue ty = fv (gB g) (et b) 0) (hra : va_RA s (gc g (cyi b)) ty → s.vm.findClass ("[" ++ ty.toString) = some (gc g (cyi b))) (hd : decode cc pc = .ok (.newarray at', 2)) (h1 : Cond.arrayClass ty ∈ lw_tbl) {dk : Nat} (hk : kd (n + 1) = dk) (hdb : dk % 50 = b) (hb : b < 10 ∧ b ≠ 0) {v : Int} (hv : ln (n + 1) = v) (hr : 0 ≤ v ∧ v ≤ 100000) (hcb : componentBytes ty ≤ 8) (hnf : nf ≤ n) (hce : cells + 1 ≤ R.cells) (hsl : slots + v.toNat ≤ R.slots) (kk : BW g p e R s m args below meth c Q (cells + 1) (slots + v.toNat) (pc + 2) ls ((2, n + 1) :: sk) (n + 1) nf M) : BW g p e R s m args below meth c Q cells slots pc ls ((0, v) :: sk) n nf M := by
  subst hat
  intro H locs A hH hS hl hL hs
  have hT := hC.2.2.2.2.2.1
  have hp0 := hH.1
  have hv32 : in32 v := hs.hd
  have en : (Int32.ofInt v).toNatClampNeg = v.toNat := by unfold Int32.toNatClampNeg; rw [i32_to hv32]
  have hz : H.size = gB g + (n + 1).toNat := by rw [hH.2.1]; omega
  have hby : v.toNat * componentBytes (newarray.typeOf at') ≤ 536870912 := Nat.le_trans (Nat.mul_le_mul (show v.toNat ≤ 100000 by omega) hcb) (by omega)
  refine va_newaK hC.1 hC.2.1 (word_at (State.WarmedH.refl s) (Or.inr ⟨_, rfl⟩) (hT _ h1 rfl)) rfl hd rfl (fun q => ?_) en hby hce hsl rfl fun H1 cA e1 z1 o1 hAr hNm => ?_
  · rw [i32_0] at q; have := (i32_lt hv32 in32_0).mp q; omega
  · have hcA : cA = gc g (cyi b) := Option.some.inj (hNm.symm.trans (hra ((hC.2.2.2.2.1.1.2 pl _ hpl).2)))
    subst hcA
    have hnew : Hp g (n + 1) nf M H1 := hH.push hk hdb hb (by rw [e1, hv, hdf]) z1 o1 hnf
    have hS1 : va_S (Ag g) s.heap H1 locs := ⟨Nat.le_trans hS.1 (by omega), fun q h4 h5 => (o1 q (Nat.lt_of_lt_of_le h4 hS.1)).trans (hS.2.1 q h4 h5), hS.2.2⟩
    have hfin := kk H1 locs A hnew hS1 hl hL (hs.tl.cons (show okt 2 (n + 1) from (by show 0 ≤ n + 1; omega)))
    show W p g.1 e R s m args below meth c H1 locs (cells + 1) (slots + v.toNat) Q (F0 m (pc + 2) A (.ref H.size :: sk.map (tv (gB g))))
    rw [hz, ← okt_ref (x := n + 1) (by omega)]
    exact hfin
theorem b_anewa (hC : Cx g p s m meth c own cc nL) {C : String} {b pl : Nat} (hpl : (tysg g)[pl]? = some (gc g b, .object C)) (hb : b = 5 ∨ b = 6 ∨ b = 7) (hao : va_AO C s) (hd : decode cc pc = .ok (.anewarray i, 3)) (h1 : Cond.classLink own i C ∈ lw_tbl) (hk : kd (n + 1) = b) {v : Int} (hv : ln (n + 1) = v) (hr : 0 ≤ v ∧ v ≤ 100000) (hnf : nf ≤ n) (hce : cells + 1 ≤ R.cells) (hsl : slots + v.toNat ≤ R.slots) (kk : BW g p e R s m args below meth c Q (cells + 1) (slots + v.toNat) (pc + 3) ls ((2, n + 1) :: sk) (n + 1) nf M) : BW g p e R s m args below meth c Q cells slots pc ls ((0, v) :: sk) n nf M := by
  intro H locs A hH hS hl hL hs
  have hT := hC.2.2.2.2.2.1
  have hp0 := hH.1
  have hv32 : in32 v := hs.hd
  have en : (Int32.ofInt v).toNatClampNeg = v.toNat := by unfold Int32.toNatClampNeg; rw [i32_to hv32]
  have hz : H.size = gB g + (n + 1).toNat := by rw [hH.2.1]; omega
  have hcy : cyi b = b := by rcases hb with rfl | rfl | rfl <;> rfl
  have het : et b = 2 := by rcases hb with rfl | rfl | rfl <;> rfl
  refine W.anew hC.1 hC.2.1 hC.2.2.2.1 (hT.use h1 rfl rfl args) hao rfl hd rfl (fun q => ?_) (by rw [en]; omega) hce (by rw [en]; exact hsl) fun cA kA comp f1 f2 f3 f4 => ?_
  · rw [i32_0] at q; have := (i32_lt hv32 in32_0).mp q; omega
  · rw [en]
    have hcA : cA = gc g b := by
      obtain ⟨kA', comp', k1, k2, k3, k4⟩ := (hC.2.2.2.2.1.1.2 pl _ hpl).2
      exact Option.some.inj (f1.symm.trans k4)
    subst hcA
    generalize hH1 : H.push ({ cls := gc g b, slots := Array.replicate v.toNat .null, vm := .none } : Cell) = H1
    have z1 : H1.size = H.size + 1 := by rw [← hH1, Array.size_push]
    have e1 : H1[H.size]? = some (arrV (gc g b) v.toNat (fun _ => .null)) := by rw [← hH1, Array.getElem?_push_size, ← arrV_new]
    have o1 : ∀ q : Nat, q < H.size → H1[q]? = H[q]? := fun q hq => by rw [← hH1, Array.getElem?_push, if_neg (Nat.ne_of_lt hq)]
    have hnew : Hp g (n + 1) nf M H1 := hH.push (b := b) hk (by omega) (by omega) (by rw [e1, hv, hcy, het]; rfl) z1 o1 hnf
    have hS1 : va_S (Ag g) s.heap H1 locs := ⟨Nat.le_trans hS.1 (by omega), fun q h4 h5 => (o1 q (Nat.lt_of_lt_of_le h4 hS.1)).trans (hS.2.1 q h4 h5), hS.2.2⟩
    have hfin := kk H1 locs A hnew hS1 hl hL (hs.tl.cons (show okt 2 (n + 1) from (by show 0 ≤ n + 1; omega)))
    show W p g.1 e R s m args below meth c H1 locs (cells + 1) (slots + v.toNat) Q (F0 m (pc + 3) A (.ref H.size :: sk.map (tv (gB g))))
    rw [hz, ← okt_ref (x := n + 1) (by omega)]
    exact hfin
theorem Q_of {t : State} {H : Heap} {locs : List Loc} {ret : Option FieldType} {r : Int} (hC : Cx g p s m meth c own cc nL) (hH : Hp g n nf M H) (hS : va_S (Ag g) s.heap H locs) (ht : t.heap = H) (hW : s.WarmedH t.vm) (hr : rok ret r) : QcA g n nf M ret r args s (.returned (rvl g ret r)) t :=
  ⟨rfl, by rw [ht]; exact hH, hC.2.2.2.2.1.warm hW, hC.2.2.2.2.2.1.warm hW, hS.F ht, hr⟩
theorem b_iret (hC : Cx g p s m meth c own cc nL) {ty : FieldType} {r : Int} (hret : meth.sig.returnType = some ty) (hty : (ty = .int) ∨ (ty = .boolean ∧ (r = 0 ∨ r = 1))) (hd : decode cc pc = .ok (.ireturn, 1)) : BW g p e R s m args below meth c (MQ below (QcA g n nf M (some ty) r) args s cells slots (Ag g)) cells slots pc ls [(0, r)] n nf M := by
  intro H locs A hH hS hl hL hs
  have hr : in32 r := hs.hd
  have htg : tagT ty = 0 := by rcases hty with rfl | ⟨rfl, _⟩ <;> rfl
  have hv : rvl g (some ty) r = some (.int (Int32.ofInt r)) := by show some (fv (gB g) (tagT ty) r) = _; rw [htg]; rfl
  refine W.zret hC.1 hC.2.1 hret ?_ (fun t ht hW => ?_) hS.2.2 hd hC.2.2.2.2.2.2.1
  · rcases hty with rfl | ⟨rfl, rfl | rfl⟩ <;> rfl
  · have := Q_of (args := args) (ret := some ty) (r := r) hC hH hS ht hW (by show okt (tagT ty) r; rw [htg]; exact hr)
    rw [hv] at this
    exact this
theorem b_lret (hC : Cx g p s m meth c own cc nL) {r : Int} (hret : meth.sig.returnType = some .long) (hd : decode cc pc = .ok (.lreturn, 1)) : BW g p e R s m args below meth c (MQ below (QcA g n nf M (some .long) r) args s cells slots (Ag g)) cells slots pc ls [(1, r)] n nf M := by
  intro H locs A hH hS hl hL hs
  refine W.lret hC.1 hC.2.1 hret (fun t ht hW => ?_) hS.2.2 hd hC.2.2.2.2.2.2.1
  exact Q_of (args := args) (ret := some .long) (r := r) hC hH hS ht hW (show okt 1 r from hs.hd)
theorem b_aret (hC : Cx g p s m meth c own cc nL) {C : String} {r : Int} (hret : meth.sig.returnType = some (.object C)) (hd : decode cc pc = .ok (.areturn, 1)) : BW g p e R s m args below meth c (MQ below (QcA g n nf M (some (.object C)) r) args s cells slots (Ag g)) cells slots pc ls [(2, r)] n nf M := by
  intro H locs A hH hS hl hL hs
  refine W.aret (v := fv (gB g) 2 r) hC.1 hC.2.1 hret (Or.inl ⟨C, rfl⟩) ?_ (fun t ht hW => ?_) hS.2.2 hd hC.2.2.2.2.2.2.1
  · rcases fv2 (gB g) r with ⟨_, h⟩ | ⟨_, h⟩
    · exact Or.inl h
    · exact Or.inr ⟨_, h⟩
  · exact Q_of (args := args) (ret := some (.object C)) (r := r) hC hH hS ht hW (show okt 2 r from hs.hd)
theorem b_vret (hC : Cx g p s m meth c own cc nL) {r : Int} (hret : meth.sig.returnType = none) (hd : decode cc pc = .ok (.return_, 1)) : BW g p e R s m args below meth c (MQ below (QcA g n nf M none r) args s cells slots (Ag g)) cells slots pc ls [] n nf M := by
  intro H locs A hH hS hl hL hs
  refine W.vret hC.1 hC.2.1 hret (fun t ht hW => ?_) hS.2.2 hd hC.2.2.2.2.2.2.1
  exact Q_of (args := args) (ret := none) (r := r) hC hH hS ht hW trivial
end NR
/-- a method at pc, against a pure function's answer o -/
def AW (g : GT) (sd : Bool) (own : String) (cc : ByteArray) (nL : Nat) (ret : Option FieldType) (d : Nat) (nS nE nf : Int) (pc : Nat) (ls : List LV) (sk : List AV) (n : Int) (M : Mem) (o : Res) : Prop :=
  ∀ (r : Int) (M' : Mem), o = some (r, M') → ∀ (Mo : Mem) (p : Program) (e : Env) (s : State) (m : MethodId) (args : Array Value) (below : List Frame) (meth : Method) (c : Code), Cx g p s m meth c own cc nL → meth.sig.returnType = ret → (nS < nE → meth.name = "<init>") →
    BW g p e (rmOf d (cs nS nE) (sl nS nE)) s m args below meth c (MQ below (QcA g nE nf (mix sd M' Mo) ret r) args s (cs nS nE) (sl nS nE) (Ag g)) (cs nS n) (sl nS n) pc ls sk n nf (mix sd M Mo)
def AM (g : GT) (sd : Bool) (y : MethodName) (cc : ByteArray) (nL : Nat) (ret : Option FieldType) (d : Nat) (nS nE nf : Int) (av : List AV) (M : Mem) (o : Res) : Prop :=
  okS av → ∀ (r : Int) (M' : Mem), o = some (r, M') → ∀ Mo : Mem, RM g y cc nL ret d nS nE nf av (mix sd M Mo) (mix sd M' Mo) r
def argL : Nat → List AV → List LV
  | _, [] => []
  | i, v :: r => (i, v) :: argL (if v.1 = 1 then i + 2 else i + 1) r
theorem argL_map (B : Nat) : ∀ (av : List AV) (i : Nat), lv_args i (av.map (tv B)) = (argL i av).map (lw B)
  | [], i => rfl
  | v :: r, i => by
    show (i, tv B v) :: lv_args (if (tv B v).category = 2 then i + 2 else i + 1) (r.map (tv B)) = (i, tv B v) :: (argL (if v.1 = 1 then i + 2 else i + 1) r).map (lw B)
    have h := tv_cat B v
    have e : ((tv B v).category = 2) ↔ (v.1 = 1) := by
      constructor
      · intro q; rw [q] at h; simpa using h.symm
      · intro q; rw [q] at h; simpa using h
    by_cases hv : v.1 = 1
    · rw [if_pos (e.mpr hv), if_pos hv, argL_map B r]
    · rw [if_neg (fun q => hv (e.mp q)), if_neg hv, argL_map B r]
theorem argL_ok : ∀ (av : List AV) (i : Nat), okS av → okL (argL i av)
  | [], _, _ => fun v hv => by cases hv
  | v :: r, i, h => by
    intro w hw
    rcases List.mem_cons.mp hw with rfl | hw
    · exact h _ List.mem_cons_self
    · exact argL_ok r _ h.tl w hw
def argW (av : List AV) : Nat := (av.map (fun v => if v.1 = 1 then 2 else 1)).sum
theorem lgsl_len (B : Nat) : ∀ av : List AV, (lg_sl (av.map (tv B))).length = argW av
  | [] => rfl
  | v :: r => by
    have h := tv_cat B v
    have ih := lgsl_len B r
    have e : ((tv B v).category = 2) ↔ (v.1 = 1) := by
      constructor
      · intro q; rw [q] at h; simpa using h.symm
      · intro q; rw [q] at h; simpa using h
    unfold argW at ih ⊢
    rw [List.map_cons, List.map_cons, List.sum_cons, ← ih]
    by_cases hv : v.1 = 1
    · have := e.mpr hv; simp [lg_sl, this, hv]; omega
    · have : (tv B v).category ≠ 2 := fun q => hv (e.mp q); simp [lg_sl, this, hv]; omega
theorem AM_of {g : GT} {sd : Bool} {y : MethodName} {cc : ByteArray} {nL : Nat} {ret : Option FieldType} {d : Nat} {nS nE nf : Int} {av : List AV} {M : Mem} {o : Res} (hy : plainName y.cls = true) (hw : argW av ≤ nL) (hin : nS < nE → y.name = "<init>") (h : AW g sd y.cls cc nL ret d nS nE nf 0 (argL 0 av) [] nS M o) : AM g sd y cc nL ret d nS nE nf av M o := by
  intro hok r M' ho Mo
  refine Met.ofW (cc := cc) (maxL := nL) (ret := ret) hy rfl ?_
  intro p e s m args below meth c s₁ B hml hv
  obtain ⟨rfl, hH, hK, hT⟩ := hv
  have hown : s.vm.findClass y.cls = some m.cls := findClass_of_methodNamed B.named
  have hname : meth.name = y.name := (name_of_methodNamed B.named B.method).1
  have hsz : gB g < s.heap.size := by rw [hH.2.1]; omega
  have hC : Cx g p s m meth c y.cls cc nL := ⟨B.exec, B.bytes, hml, hown, hK, hT, B.notSynchronized, hsz⟩
  have hb := h r M' ho Mo p e s m (av.map (tv (gB g))).toArray below meth c hC B.returns (fun q => by rw [hname]; exact hin q)
  have hl := lv_entry (av.map (tv (gB g))) (n := nL) (by rw [lgsl_len]; exact hw)
  rw [argL_map] at hl
  rw [lg_entry_eq]
  have h0 : cs nS nS = 0 := by unfold cs; omega
  have h1 : sl nS nS = 0 := by unfold sl; omega
  rw [h0, h1] at hb
  exact hb s.heap [] _ hH va_S.rf (by rw [hml]; exact hl) (argL_ok av 0 hok) (fun v hv => by cases hv)
