
theorem i32_to {x : Int} (h : in32 x) : (Int32.ofInt x).toInt = x := Int32.toInt_ofInt_of_le (by have := h.1; omega) (by have := h.2; omega)
theorem i64_to {x : Int} (h : in64 x) : (Int64.ofInt x).toInt = x := Int64.toInt_ofInt_of_le (by have := h.1; omega) (by have := h.2; omega)
theorem i32_in (x : Int32) : in32 x.toInt := ⟨by have := x.le_toInt; omega, by have := x.toInt_lt; omega⟩
theorem i64_in (x : Int64) : in64 x.toInt := ⟨by have := x.le_toInt; omega, by have := x.toInt_lt; omega⟩
theorem i32_lt {x y : Int} (hx : in32 x) (hy : in32 y) : Int32.ofInt x < Int32.ofInt y ↔ x < y := by rw [Int32.lt_iff_toInt_lt, i32_to hx, i32_to hy]
theorem i32_le {x y : Int} (hx : in32 x) (hy : in32 y) : Int32.ofInt x ≤ Int32.ofInt y ↔ x ≤ y := by rw [Int32.le_iff_toInt_le, i32_to hx, i32_to hy]
theorem i32_eq {x y : Int} (hx : in32 x) (hy : in32 y) : Int32.ofInt x = Int32.ofInt y ↔ x = y := by rw [← Int32.toInt_inj, i32_to hx, i32_to hy]
theorem i64_lt {x y : Int} (hx : in64 x) (hy : in64 y) : Int64.ofInt x < Int64.ofInt y ↔ x < y := by rw [Int64.lt_iff_toInt_lt, i64_to hx, i64_to hy]
theorem i64_eq {x y : Int} (hx : in64 x) (hy : in64 y) : Int64.ofInt x = Int64.ofInt y ↔ x = y := by rw [← Int64.toInt_inj, i64_to hx, i64_to hy]
theorem in32_64 {x : Int} (h : in32 x) : in64 x := ⟨by have := h.1; omega, by have := h.2; omega⟩
theorem in32_0 : in32 0 := ⟨by decide, by decide⟩
theorem i32_0 : (0 : Int32) = Int32.ofInt 0 := rfl
theorem i64_0 : (0 : Int64) = Int64.ofInt 0 := rfl
theorem i32_div {x y : Int} (hx : in32 x) (hy : in32 y) : Int32.ofInt x / Int32.ofInt y = Int32.ofInt (x.tdiv y) := by
  apply Int32.toInt_inj.mp
  rw [Int32.toInt_div, i32_to hx, i32_to hy, Int32.toInt_ofInt]
theorem i64_div {x y : Int} (hx : in64 x) (hy : in64 y) : Int64.ofInt x / Int64.ofInt y = Int64.ofInt (x.tdiv y) := by
  apply Int64.toInt_inj.mp
  rw [Int64.toInt_div, i64_to hx, i64_to hy, Int64.toInt_ofInt]
theorem tmod_sub (x y : Int) : x - x.tdiv y * y = x.tmod y := by
  have := Int.mul_tdiv_add_tmod x y
  rw [Int.mul_comm] at this
  omega
theorem i32_rem {x y : Int} (hx : in32 x) (hy : in32 y) : Int32.ofInt x - Int32.ofInt x / Int32.ofInt y * Int32.ofInt y = Int32.ofInt (x.tmod y) := by
  rw [i32_div hx hy, ← Int32.ofInt_mul, ← Int32.ofInt_sub, tmod_sub]
theorem i64_rem {x y : Int} (hx : in64 x) (hy : in64 y) : Int64.ofInt x - Int64.ofInt x / Int64.ofInt y * Int64.ofInt y = Int64.ofInt (x.tmod y) := by
  rw [i64_div hx hy, ← Int64.ofInt_mul, ← Int64.ofInt_sub, tmod_sub]
theorem tmod_abs (x y : Int) : (x.tmod y).natAbs ≤ x.natAbs := by
  rw [Int.natAbs_tmod]; exact Nat.mod_le _ _
theorem in32_tmod {x y : Int} (hx : in32 x) : in32 (x.tmod y) := by
  have h1 := tmod_abs x y
  obtain ⟨a, b⟩ := hx
  rcases Int.le_total 0 x with h | h
  · have := Int.tmod_nonneg y h
    constructor <;> omega
  · have : x.tmod y ≤ 0 := by
      have h2 : 0 ≤ (-x).tmod y := Int.tmod_nonneg y (by omega)
      rw [Int.neg_tmod] at h2
      omega
    constructor <;> omega
theorem in64_tmod {x y : Int} (hx : in64 x) : in64 (x.tmod y) := by
  have h1 := tmod_abs x y
  obtain ⟨a, b⟩ := hx
  rcases Int.le_total 0 x with h | h
  · have := Int.tmod_nonneg y h
    constructor <;> omega
  · have : x.tmod y ≤ 0 := by
      have h2 : 0 ≤ (-x).tmod y := Int.tmod_nonneg y (by omega)
      rw [Int.neg_tmod] at h2
      omega
    constructor <;> omega
def iand (x y : Int) : Int := (Int32.ofInt x &&& Int32.ofInt y).toInt
def ior (x y : Int) : Int := (Int32.ofInt x ||| Int32.ofInt y).toInt
def ixor (x y : Int) : Int := (Int32.ofInt x ^^^ Int32.ofInt y).toInt
def ishl (x y : Int) : Int := (Int32.ofInt x <<< (Int32.ofInt y &&& 31)).toInt
def ishr (x y : Int) : Int := (Int32.ofInt x >>> (Int32.ofInt y &&& 31)).toInt
def iushr (x y : Int) : Int := ((Int32.ofInt x).toUInt32 >>> ((Int32.ofInt y).toUInt32 &&& Int32.toUInt32 31)).toInt32.toInt
def land (x y : Int) : Int := (Int64.ofInt x &&& Int64.ofInt y).toInt
def lor (x y : Int) : Int := (Int64.ofInt x ||| Int64.ofInt y).toInt
def lshl (x y : Int) : Int := (Int64.ofInt x <<< ((Int32.ofInt y).toInt64 &&& 63)).toInt
def cmpI (x y : Int) : Int := if y < x then 1 else if x = y then 0 else -1
def okS (sk : List AV) : Prop := ∀ v ∈ sk, okt v.1 v.2
def okL (ls : List LV) : Prop := ∀ v ∈ ls, okt v.2.1 v.2.2
theorem okS.cons {t : Nat} {x : Int} {sk : List AV} (h : okt t x) (hs : okS sk) : okS ((t, x) :: sk) := by
  intro v hv
  rcases List.mem_cons.mp hv with rfl | hv
  · exact h
  · exact hs v hv
theorem okS.tl {v : AV} {sk : List AV} (hs : okS (v :: sk)) : okS sk := fun w hw => hs w (List.mem_cons_of_mem _ hw)
theorem okS.hd {t : Nat} {x : Int} {sk : List AV} (hs : okS ((t, x) :: sk)) : okt t x := hs _ List.mem_cons_self
theorem okS.hd2 {t : Nat} {x : Int} {v : AV} {sk : List AV} (hs : okS (v :: (t, x) :: sk)) : okt t x := hs.tl.hd
def Cx (g : GT) (p : Program) (s : State) (m : MethodId) (meth : Method) (c : Code) (own : String) (cc : ByteArray) (nL : Nat) : Prop :=
  p.tables.exec = Jvm.exec ∧ c.code = cc ∧ c.maxLocals = nL ∧ s.vm.findClass own = some m.cls ∧ Kg g s ∧ Tb s ∧ meth.locks = false ∧ gB g < s.heap.size
def BW (g : GT) (p : Program) (e : Env) (R : Room) (s : State) (m : MethodId) (args : Array Value) (below : List Frame) (meth : Method) (c : Code) (Q : State → Prop) (cells slots : Nat) (pc : Nat) (ls : List LV) (sk : List AV) (n nf : Int) (M : Mem) : Prop :=
  ∀ (H : Heap) (locs : List Loc) (A : Array Slot), Hp g n nf M H → va_S (Ag g) s.heap H locs → lv_has A c.maxLocals (ls.map (lw (gB g))) → okL ls → okS sk → W p g.1 e R s m args below meth c H locs cells slots Q (F0 m pc A (sk.map (tv (gB g))))
theorem lw_get {B : Nat} {ls : List LV} {k i t : Nat} {x : Int} (hk : ls[k]? = some (i, t, x)) {nL : Nat} {A : Array Slot} (h : lv_has A nL (ls.map (lw B))) : A[i]? = some (.val (fv B t x)) := lv_at h k (by rw [List.getElem?_map, hk]; rfl)
theorem okL_get {ls : List LV} {k i t : Nat} {x : Int} (hk : ls[k]? = some (i, t, x)) (h : okL ls) : okt t x := h _ (List.mem_of_getElem? hk)
theorem tv_cat (B : Nat) (v : AV) : ((tv B v).category == 2) = (v.1 == 1) := by
  obtain ⟨t, x⟩ := v
  match t with
  | 0 => rfl
  | 1 => rfl
  | 2 =>
    show ((if x ≤ 0 then Value.null else .ref (B + x.toNat)).category == 2) = _
    split <;> simp [Value.category]
  | 3 => rfl
  | k + 4 =>
    show ((if x ≤ 0 then Value.null else .ref (B + x.toNat)).category == 2) = _
    split <;> simp [Value.category]
def flt1 (i : Nat) (ls : List LV) : List LV := ls.filter (fun q => !(q.1 == i) && !(q.1 + 1 == i && q.2.1 == 1))
def flt2 (i : Nat) (ls : List LV) : List LV := ls.filter (fun q => !(q.1 == i) && (!(q.1 == i + 1) && !(q.1 + 1 == i && q.2.1 == 1)))
theorem flt1_map {B i : Nat} {ls : List LV} : (ls.map (lw B)).filter (fun q => !(q.1 == i) && !(q.1 + 1 == i && q.2.category == 2)) = (flt1 i ls).map (lw B) := by
  unfold flt1
  rw [List.filter_map]
  congr 1
  apply List.filter_congr
  intro q _
  show (!(q.1 == i) && !(q.1 + 1 == i && (tv B q.2).category == 2)) = _
  rw [tv_cat]
theorem flt2_map {B i : Nat} {ls : List LV} : (ls.map (lw B)).filter (fun q => !(q.1 == i) && (!(q.1 == i + 1) && !(q.1 + 1 == i && q.2.category == 2))) = (flt2 i ls).map (lw B) := by
  unfold flt2
  rw [List.filter_map]
  congr 1
  apply List.filter_congr
  intro q _
  show (!(q.1 == i) && (!(q.1 == i + 1) && !(q.1 + 1 == i && (tv B q.2).category == 2))) = _
  rw [tv_cat]
theorem okL.flt1 {i : Nat} {ls : List LV} {t : Nat} {x : Int} (h : okL ls) (hx : okt t x) : okL ((i, t, x) :: flt1 i ls) := by
  intro v hv
  rcases List.mem_cons.mp hv with rfl | hv
  · exact hx
  · exact h v (List.mem_filter.mp hv).1
theorem okL.flt2 {i : Nat} {ls : List LV} {t : Nat} {x : Int} (h : okL ls) (hx : okt t x) : okL ((i, t, x) :: flt2 i ls) := by
  intro v hv
  rcases List.mem_cons.mp hv with rfl | hv
  · exact hx
  · exact h v (List.mem_filter.mp hv).1
theorem fv2 (B : Nat) (x : Int) : (x ≤ 0 ∧ fv B 2 x = .null) ∨ (0 < x ∧ fv B 2 x = .ref (B + x.toNat)) := by
  show (x ≤ 0 ∧ (if x ≤ 0 then Value.null else .ref (B + x.toNat)) = _) ∨ (0 < x ∧ (if x ≤ 0 then Value.null else .ref (B + x.toNat)) = _)
  rcases Int.lt_or_le 0 x with h | h
  · right; rw [if_neg (by omega)]; exact ⟨h, rfl⟩
  · left; rw [if_pos h]; exact ⟨h, rfl⟩

section BR
variable {g : GT} {p : Program} {e : Env} {R : Room} {s : State} {m : MethodId} {args : Array Value} {below : List Frame} {meth : Method} {c : Code} {Q : State → Prop} {cells slots pc : Nat} {ls ls' : List LV} {sk : List AV} {n nf : Int} {M : Mem} {own : String} {cc : ByteArray} {nL : Nat}
theorem b_iconst (hC : Cx g p s m meth c own cc nL) {v : Int} (hd : decode cc pc = .ok (.iconst v, 1)) (hr : in32 v) (k : BW g p e R s m args below meth c Q cells slots (pc + 1) ls ((0, v) :: sk) n nf M) : BW g p e R s m args below meth c Q cells slots pc ls (sk) n nf M := by
  intro H locs A hH hS hl hL hs
  exact lv_iconst (v := Int32.ofInt v) hC.1 hC.2.1 hd rfl (k H locs A hH hS hl hL (hs.cons hr))
theorem b_bipush (hC : Cx g p s m meth c own cc nL) {v : Int} (hd : decode cc pc = .ok (.bipush v, 2)) (hv : (Int8.ofInt v).toInt32 = Int32.ofInt v) (hr : in32 v) (k : BW g p e R s m args below meth c Q cells slots (pc + 2) ls ((0, v) :: sk) n nf M) : BW g p e R s m args below meth c Q cells slots pc ls (sk) n nf M := by
  intro H locs A hH hS hl hL hs
  exact lv_bipush (v := Int32.ofInt v) hC.1 hC.2.1 hd hv (k H locs A hH hS hl hL (hs.cons hr))
theorem b_sipush (hC : Cx g p s m meth c own cc nL) {v : Int} (hd : decode cc pc = .ok (.sipush v, 3)) (hv : (Int16.ofInt v).toInt32 = Int32.ofInt v) (hr : in32 v) (k : BW g p e R s m args below meth c Q cells slots (pc + 3) ls ((0, v) :: sk) n nf M) : BW g p e R s m args below meth c Q cells slots pc ls (sk) n nf M := by
  intro H locs A hH hS hl hL hs
  exact lv_sipush (v := Int32.ofInt v) hC.1 hC.2.1 hd hv (k H locs A hH hS hl hL (hs.cons hr))
theorem b_ldc (hC : Cx g p s m meth c own cc nL) {i : Nat} {w : Int32} {v : Int} (hd : decode cc pc = .ok (.ldc i, 2)) (hm : Cond.constant own i w ∈ lw_tbl) (hv : w = Int32.ofInt v) (hr : in32 v) (k : BW g p e R s m args below meth c Q cells slots (pc + 2) ls ((0, v) :: sk) n nf M) : BW g p e R s m args below meth c Q cells slots pc ls (sk) n nf M := by
  intro H locs A hH hS hl hL hs
  subst hv
  exact lv_ldc hC.1 hC.2.1 hC.2.2.2.1 (hC.2.2.2.2.2.1.use hm rfl rfl _) hd (k H locs A hH hS hl hL (hs.cons hr))
theorem b_ldcw (hC : Cx g p s m meth c own cc nL) {i : Nat} {w : Int32} {v : Int} (hd : decode cc pc = .ok (.ldc_w i, 3)) (hm : Cond.constant own i w ∈ lw_tbl) (hv : w = Int32.ofInt v) (hr : in32 v) (k : BW g p e R s m args below meth c Q cells slots (pc + 3) ls ((0, v) :: sk) n nf M) : BW g p e R s m args below meth c Q cells slots pc ls (sk) n nf M := by
  intro H locs A hH hS hl hL hs
  subst hv
  exact lv_ldcw hC.1 hC.2.1 hC.2.2.2.1 (hC.2.2.2.2.2.1.use hm rfl rfl _) hd (k H locs A hH hS hl hL (hs.cons hr))
theorem b_ldc2 (hC : Cx g p s m meth c own cc nL) {i : Nat} {w : Int64} {v : Int} (hd : decode cc pc = .ok (.ldc2_w i, 3)) (hm : Cond.constantLong own i w ∈ lw_tbl) (hv : w = Int64.ofInt v) (hr : in64 v) (k : BW g p e R s m args below meth c Q cells slots (pc + 3) ls ((1, v) :: sk) n nf M) : BW g p e R s m args below meth c Q cells slots pc ls (sk) n nf M := by
  intro H locs A hH hS hl hL hs
  subst hv
  exact lv_ldc2 hC.1 hC.2.1 hC.2.2.2.1 (hC.2.2.2.2.2.1.use hm rfl rfl _) hd (k H locs A hH hS hl hL (hs.cons hr))
theorem b_lconst (hC : Cx g p s m meth c own cc nL) {j : Fin 2} {v : Int} (hd : decode cc pc = .ok (.lconst j, 1)) (hv : Int64.ofNat (j : Nat) = Int64.ofInt v) (hr : in64 v) (k : BW g p e R s m args below meth c Q cells slots (pc + 1) ls ((1, v) :: sk) n nf M) : BW g p e R s m args below meth c Q cells slots pc ls (sk) n nf M := by
  intro H locs A hH hS hl hL hs
  exact lv_lconst (v := Int64.ofInt v) hC.1 hC.2.1 hd hv (k H locs A hH hS hl hL (hs.cons hr))
theorem b_null (hC : Cx g p s m meth c own cc nL) (hd : decode cc pc = .ok (.aconst_null, 1)) (k : BW g p e R s m args below meth c Q cells slots (pc + 1) ls ((2, 0) :: sk) n nf M) : BW g p e R s m args below meth c Q cells slots pc ls (sk) n nf M := by
  intro H locs A hH hS hl hL hs
  exact lv_null hC.1 hC.2.1 hd (k H locs A hH hS hl hL (hs.cons (Int.le_refl 0)))
theorem b_iload_n (hC : Cx g p s m meth c own cc nL) {j : Fin 4} {i q : Nat} {x : Int} (hd : decode cc pc = .ok (.iload_n j, 1)) (hi : (j : Nat) = i) (hq : ls[q]? = some (i, 0, x)) (k : BW g p e R s m args below meth c Q cells slots (pc + 1) ls ((0, x) :: sk) n nf M) : BW g p e R s m args below meth c Q cells slots pc ls (sk) n nf M := by
  intro H locs A hH hS hl hL hs
  exact lv_iload_n hC.1 hC.2.1 hd hi (lw_get hq hl) (k H locs A hH hS hl hL (hs.cons (okL_get hq hL)))
theorem b_iload (hC : Cx g p s m meth c own cc nL) {i q : Nat} {x : Int} (hd : decode cc pc = .ok (.iload i, 2)) (hq : ls[q]? = some (i, 0, x)) (k : BW g p e R s m args below meth c Q cells slots (pc + 2) ls ((0, x) :: sk) n nf M) : BW g p e R s m args below meth c Q cells slots pc ls (sk) n nf M := by
  intro H locs A hH hS hl hL hs
  exact lv_iload hC.1 hC.2.1 hd (lw_get hq hl) (k H locs A hH hS hl hL (hs.cons (okL_get hq hL)))
theorem b_lload_n (hC : Cx g p s m meth c own cc nL) {j : Fin 4} {i q : Nat} {x : Int} (hd : decode cc pc = .ok (.lload_n j, 1)) (hi : (j : Nat) = i) (hq : ls[q]? = some (i, 1, x)) (k : BW g p e R s m args below meth c Q cells slots (pc + 1) ls ((1, x) :: sk) n nf M) : BW g p e R s m args below meth c Q cells slots pc ls (sk) n nf M := by
  intro H locs A hH hS hl hL hs
  exact lv_lload_n hC.1 hC.2.1 hd hi (lw_get hq hl) (k H locs A hH hS hl hL (hs.cons (okL_get hq hL)))
theorem b_lload (hC : Cx g p s m meth c own cc nL) {i q : Nat} {x : Int} (hd : decode cc pc = .ok (.lload i, 2)) (hq : ls[q]? = some (i, 1, x)) (k : BW g p e R s m args below meth c Q cells slots (pc + 2) ls ((1, x) :: sk) n nf M) : BW g p e R s m args below meth c Q cells slots pc ls (sk) n nf M := by
  intro H locs A hH hS hl hL hs
  exact lv_lload hC.1 hC.2.1 hd (lw_get hq hl) (k H locs A hH hS hl hL (hs.cons (okL_get hq hL)))
theorem b_aload_n (hC : Cx g p s m meth c own cc nL) {j : Fin 4} {i q : Nat} {x : Int} (hd : decode cc pc = .ok (.aload_n j, 1)) (hi : (j : Nat) = i) (hq : ls[q]? = some (i, 2, x)) (k : BW g p e R s m args below meth c Q cells slots (pc + 1) ls ((2, x) :: sk) n nf M) : BW g p e R s m args below meth c Q cells slots pc ls (sk) n nf M := by
  intro H locs A hH hS hl hL hs
  have hg := lw_get hq hl
  have h2 := k H locs A hH hS hl hL (hs.cons (okL_get hq hL))
  rcases fv2 (gB g) x with ⟨_, hx⟩ | ⟨_, hx⟩
  · rw [hx] at hg
    refine lv_aload_nN hC.1 hC.2.1 hd hi hg ?_
    rw [← hx]; exact h2
  · rw [hx] at hg
    refine lv_aload_n hC.1 hC.2.1 hd hi hg ?_
    rw [← hx]; exact h2
theorem b_aload (hC : Cx g p s m meth c own cc nL) {i q : Nat} {x : Int} (hd : decode cc pc = .ok (.aload i, 2)) (hq : ls[q]? = some (i, 2, x)) (k : BW g p e R s m args below meth c Q cells slots (pc + 2) ls ((2, x) :: sk) n nf M) : BW g p e R s m args below meth c Q cells slots pc ls (sk) n nf M := by
  intro H locs A hH hS hl hL hs
  have hg := lw_get hq hl
  have h2 := k H locs A hH hS hl hL (hs.cons (okL_get hq hL))
  rcases fv2 (gB g) x with ⟨_, hx⟩ | ⟨_, hx⟩
  · rw [hx] at hg
    refine lv_aloadN hC.1 hC.2.1 hd hg ?_
    rw [← hx]; exact h2
  · rw [hx] at hg
    refine lv_aload hC.1 hC.2.1 hd hg ?_
    rw [← hx]; exact h2
theorem b_istore_n (hC : Cx g p s m meth c own cc nL) {j : Fin 4} {i : Nat} {x : Int} (hd : decode cc pc = .ok (.istore_n j, 1)) (hi : (j : Nat) = i) (hn : i < nL) (hl' : (i, 0, x) :: flt1 i ls = ls') (k : BW g p e R s m args below meth c Q cells slots (pc + 1) ls' (sk) n nf M) : BW g p e R s m args below meth c Q cells slots pc ls ((0, x) :: sk) n nf M := by
  intro H locs A hH hS hl hL hs
  subst hl'
  refine lv_istore_n hC.1 hC.2.1 hd hi hl (by rw [hC.2.2.1]; exact hn) rfl (fun A' h' => ?_)
  refine k H locs A' hH hS ?_ (hL.flt1 hs.hd) hs.tl
  rw [flt1_map] at h'
  exact h'
theorem b_istore (hC : Cx g p s m meth c own cc nL) {i : Nat} {x : Int} (hd : decode cc pc = .ok (.istore i, 2)) (hn : i < nL) (hl' : (i, 0, x) :: flt1 i ls = ls') (k : BW g p e R s m args below meth c Q cells slots (pc + 2) ls' (sk) n nf M) : BW g p e R s m args below meth c Q cells slots pc ls ((0, x) :: sk) n nf M := by
  intro H locs A hH hS hl hL hs
  subst hl'
  refine lv_istore hC.1 hC.2.1 hd hl (by rw [hC.2.2.1]; exact hn) rfl (fun A' h' => ?_)
  refine k H locs A' hH hS ?_ (hL.flt1 hs.hd) hs.tl
  rw [flt1_map] at h'
  exact h'
theorem b_lstore_n (hC : Cx g p s m meth c own cc nL) {j : Fin 4} {i : Nat} {x : Int} (hd : decode cc pc = .ok (.lstore_n j, 1)) (hi : (j : Nat) = i) (hn : i + 1 < nL) (hl' : (i, 1, x) :: flt2 i ls = ls') (k : BW g p e R s m args below meth c Q cells slots (pc + 1) ls' (sk) n nf M) : BW g p e R s m args below meth c Q cells slots pc ls ((1, x) :: sk) n nf M := by
  intro H locs A hH hS hl hL hs
  subst hl'
  refine lv_lstore_n hC.1 hC.2.1 hd hi hl (by rw [hC.2.2.1]; exact hn) rfl (fun A' h' => ?_)
  refine k H locs A' hH hS ?_ (hL.flt2 hs.hd) hs.tl
  rw [flt2_map] at h'
  exact h'
theorem b_lstore (hC : Cx g p s m meth c own cc nL) {i : Nat} {x : Int} (hd : decode cc pc = .ok (.lstore i, 2)) (hn : i + 1 < nL) (hl' : (i, 1, x) :: flt2 i ls = ls') (k : BW g p e R s m args below meth c Q cells slots (pc + 2) ls' (sk) n nf M) : BW g p e R s m args below meth c Q cells slots pc ls ((1, x) :: sk) n nf M := by
  intro H locs A hH hS hl hL hs
  subst hl'
  refine lv_lstore hC.1 hC.2.1 hd hl (by rw [hC.2.2.1]; exact hn) rfl (fun A' h' => ?_)
  refine k H locs A' hH hS ?_ (hL.flt2 hs.hd) hs.tl
  rw [flt2_map] at h'
  exact h'
theorem b_astore_n (hC : Cx g p s m meth c own cc nL) {j : Fin 4} {i : Nat} {x : Int} (hd : decode cc pc = .ok (.astore_n j, 1)) (hi : (j : Nat) = i) (hn : i < nL) (hl' : (i, 2, x) :: flt1 i ls = ls') (k : BW g p e R s m args below meth c Q cells slots (pc + 1) ls' (sk) n nf M) : BW g p e R s m args below meth c Q cells slots pc ls ((2, x) :: sk) n nf M := by
  intro H locs A hH hS hl hL hs
  subst hl'
  have fin : ∀ A', lv_has A' c.maxLocals ((i, fv (gB g) 2 x) :: (ls.map (lw (gB g))).filter (fun q => !(q.1 == i) && !(q.1 + 1 == i && q.2.category == 2))) → W p g.1 e R s m args below meth c H locs cells slots Q (F0 m (pc + 1) A' (sk.map (tv (gB g)))) := by
    intro A' h'
    refine k H locs A' hH hS ?_ (hL.flt1 hs.hd) hs.tl
    rw [flt1_map] at h'
    exact h'
  show W p g.1 e R s m args below meth c H locs cells slots Q (F0 m pc A (fv (gB g) 2 x :: sk.map (tv (gB g))))
  rcases fv2 (gB g) x with ⟨_, hx⟩ | ⟨_, hx⟩
  · rw [hx] at fin ⊢
    exact lv_astore_nN hC.1 hC.2.1 hd hi hl (by rw [hC.2.2.1]; exact hn) rfl fin
  · rw [hx] at fin ⊢
    exact lv_astore_n hC.1 hC.2.1 hd hi hl (by rw [hC.2.2.1]; exact hn) rfl fin
theorem b_astore (hC : Cx g p s m meth c own cc nL) {i : Nat} {x : Int} (hd : decode cc pc = .ok (.astore i, 2)) (hn : i < nL) (hl' : (i, 2, x) :: flt1 i ls = ls') (k : BW g p e R s m args below meth c Q cells slots (pc + 2) ls' (sk) n nf M) : BW g p e R s m args below meth c Q cells slots pc ls ((2, x) :: sk) n nf M := by
  intro H locs A hH hS hl hL hs
  subst hl'
  have fin : ∀ A', lv_has A' c.maxLocals ((i, fv (gB g) 2 x) :: (ls.map (lw (gB g))).filter (fun q => !(q.1 == i) && !(q.1 + 1 == i && q.2.category == 2))) → W p g.1 e R s m args below meth c H locs cells slots Q (F0 m (pc + 2) A' (sk.map (tv (gB g)))) := by
    intro A' h'
    refine k H locs A' hH hS ?_ (hL.flt1 hs.hd) hs.tl
    rw [flt1_map] at h'
    exact h'
  show W p g.1 e R s m args below meth c H locs cells slots Q (F0 m pc A (fv (gB g) 2 x :: sk.map (tv (gB g))))
  rcases fv2 (gB g) x with ⟨_, hx⟩ | ⟨_, hx⟩
  · rw [hx] at fin ⊢
    exact lv_astoreN hC.1 hC.2.1 hd hl (by rw [hC.2.2.1]; exact hn) rfl fin
  · rw [hx] at fin ⊢
    exact lv_astore hC.1 hC.2.1 hd hl (by rw [hC.2.2.1]; exact hn) rfl fin
theorem b_iinc (hC : Cx g p s m meth c own cc nL) {i q : Nat} {v x : Int} (hd : decode cc pc = .ok (.iinc i v, 3)) (hq : ls[q]? = some (i, 0, x)) (hr : in32 (x + v)) (hn : i < nL) (hl' : (i, 0, x + v) :: flt1 i ls = ls') (k : BW g p e R s m args below meth c Q cells slots (pc + 3) ls' (sk) n nf M) : BW g p e R s m args below meth c Q cells slots pc ls (sk) n nf M := by
  intro H locs A hH hS hl hL hs
  subst hl'
  refine lv_iinc (v := Int32.ofInt (x + v)) hC.1 hC.2.1 hd hl (k := q) (x := Int32.ofInt x) (by rw [List.getElem?_map, hq]; rfl) (Int32.ofInt_add x v).symm (by rw [hC.2.2.1]; exact hn) rfl (fun A' h' => ?_)
  refine k H locs A' hH hS ?_ (hL.flt1 hr) hs
  rw [flt1_map] at h'
  exact h'
theorem b_iadd (hC : Cx g p s m meth c own cc nL) {x y : Int} (hd : decode cc pc = .ok (.iadd, 1)) (hr : in32 (x + y)) (k : BW g p e R s m args below meth c Q cells slots (pc + 1) ls ((0, x + y) :: sk) n nf M) : BW g p e R s m args below meth c Q cells slots pc ls ((0, y) :: (0, x) :: sk) n nf M := by
  intro H locs A hH hS hl hL hs
  refine lv_iadd hC.1 hC.2.1 hd ?_
  rw [← Int32.ofInt_add]
  exact k H locs A hH hS hl hL (hs.tl.tl.cons hr)
theorem b_ladd (hC : Cx g p s m meth c own cc nL) {x y : Int} (hd : decode cc pc = .ok (.ladd, 1)) (hr : in64 (x + y)) (k : BW g p e R s m args below meth c Q cells slots (pc + 1) ls ((1, x + y) :: sk) n nf M) : BW g p e R s m args below meth c Q cells slots pc ls ((1, y) :: (1, x) :: sk) n nf M := by
  intro H locs A hH hS hl hL hs
  refine lv_ladd hC.1 hC.2.1 hd ?_
  rw [← Int64.ofInt_add]
  exact k H locs A hH hS hl hL (hs.tl.tl.cons hr)
theorem b_isub (hC : Cx g p s m meth c own cc nL) {x y : Int} (hd : decode cc pc = .ok (.isub, 1)) (hr : in32 (x - y)) (k : BW g p e R s m args below meth c Q cells slots (pc + 1) ls ((0, x - y) :: sk) n nf M) : BW g p e R s m args below meth c Q cells slots pc ls ((0, y) :: (0, x) :: sk) n nf M := by
  intro H locs A hH hS hl hL hs
  refine lv_isub hC.1 hC.2.1 hd ?_
  rw [← Int32.ofInt_sub]
  exact k H locs A hH hS hl hL (hs.tl.tl.cons hr)
theorem b_lsub (hC : Cx g p s m meth c own cc nL) {x y : Int} (hd : decode cc pc = .ok (.lsub, 1)) (hr : in64 (x - y)) (k : BW g p e R s m args below meth c Q cells slots (pc + 1) ls ((1, x - y) :: sk) n nf M) : BW g p e R s m args below meth c Q cells slots pc ls ((1, y) :: (1, x) :: sk) n nf M := by
  intro H locs A hH hS hl hL hs
  refine lv_lsub hC.1 hC.2.1 hd ?_
  rw [← Int64.ofInt_sub]
  exact k H locs A hH hS hl hL (hs.tl.tl.cons hr)
theorem b_imul (hC : Cx g p s m meth c own cc nL) {x y : Int} (hd : decode cc pc = .ok (.imul, 1)) (hr : in32 (x * y)) (k : BW g p e R s m args below meth c Q cells slots (pc + 1) ls ((0, x * y) :: sk) n nf M) : BW g p e R s m args below meth c Q cells slots pc ls ((0, y) :: (0, x) :: sk) n nf M := by
  intro H locs A hH hS hl hL hs
  refine lv_imul hC.1 hC.2.1 hd ?_
  rw [← Int32.ofInt_mul]
  exact k H locs A hH hS hl hL (hs.tl.tl.cons hr)
theorem b_lmul (hC : Cx g p s m meth c own cc nL) {x y : Int} (hd : decode cc pc = .ok (.lmul, 1)) (hr : in64 (x * y)) (k : BW g p e R s m args below meth c Q cells slots (pc + 1) ls ((1, x * y) :: sk) n nf M) : BW g p e R s m args below meth c Q cells slots pc ls ((1, y) :: (1, x) :: sk) n nf M := by
  intro H locs A hH hS hl hL hs
  refine lv_lmul hC.1 hC.2.1 hd ?_
  rw [← Int64.ofInt_mul]
  exact k H locs A hH hS hl hL (hs.tl.tl.cons hr)
theorem b_idiv (hC : Cx g p s m meth c own cc nL) {x y : Int} (hd : decode cc pc = .ok (.idiv, 1)) (h0 : y ≠ 0) (hr : in32 (x.tdiv y)) (k : BW g p e R s m args below meth c Q cells slots (pc + 1) ls ((0, x.tdiv y) :: sk) n nf M) : BW g p e R s m args below meth c Q cells slots pc ls ((0, y) :: (0, x) :: sk) n nf M := by
  intro H locs A hH hS hl hL hs
  have hy : in32 y := hs.hd
  have hx : in32 x := hs.hd2
  refine lv_idiv hC.1 hC.2.1 hd (fun h => h0 ?_) ?_
  · rw [i32_0] at h; exact (i32_eq hy ⟨by decide, by decide⟩).mp h
  · rw [i32_div hx hy]
    exact k H locs A hH hS hl hL (hs.tl.tl.cons hr)
theorem b_irem (hC : Cx g p s m meth c own cc nL) {x y : Int} (hd : decode cc pc = .ok (.irem, 1)) (h0 : y ≠ 0) (k : BW g p e R s m args below meth c Q cells slots (pc + 1) ls ((0, x.tmod y) :: sk) n nf M) : BW g p e R s m args below meth c Q cells slots pc ls ((0, y) :: (0, x) :: sk) n nf M := by
  intro H locs A hH hS hl hL hs
  have hy : in32 y := hs.hd
  have hx : in32 x := hs.hd2
  refine lv_irem hC.1 hC.2.1 hd (fun h => h0 ?_) ?_
  · rw [i32_0] at h; exact (i32_eq hy ⟨by decide, by decide⟩).mp h
  · rw [i32_rem hx hy]
    exact k H locs A hH hS hl hL (hs.tl.tl.cons (in32_tmod hx))
theorem b_ineg (hC : Cx g p s m meth c own cc nL) {x : Int} (hd : decode cc pc = .ok (.ineg, 1)) (hr : in32 (-x)) (k : BW g p e R s m args below meth c Q cells slots (pc + 1) ls ((0, -x) :: sk) n nf M) : BW g p e R s m args below meth c Q cells slots pc ls ((0, x) :: sk) n nf M := by
  intro H locs A hH hS hl hL hs
  refine lv_ineg hC.1 hC.2.1 hd ?_
  rw [← Int32.ofInt_neg]
  exact k H locs A hH hS hl hL (hs.tl.cons hr)
theorem b_ldiv (hC : Cx g p s m meth c own cc nL) {x y : Int} (hd : decode cc pc = .ok (.ldiv, 1)) (h0 : y ≠ 0) (hr : in64 (x.tdiv y)) (k : BW g p e R s m args below meth c Q cells slots (pc + 1) ls ((1, x.tdiv y) :: sk) n nf M) : BW g p e R s m args below meth c Q cells slots pc ls ((1, y) :: (1, x) :: sk) n nf M := by
  intro H locs A hH hS hl hL hs
  have hy : in64 y := hs.hd
  have hx : in64 x := hs.hd2
  refine lv_ldiv hC.1 hC.2.1 hd (fun h => h0 ?_) ?_
  · rw [i64_0] at h; exact (i64_eq hy ⟨by decide, by decide⟩).mp h
  · rw [i64_div hx hy]
    exact k H locs A hH hS hl hL (hs.tl.tl.cons hr)
theorem b_lrem (hC : Cx g p s m meth c own cc nL) {x y : Int} (hd : decode cc pc = .ok (.lrem, 1)) (h0 : y ≠ 0) (k : BW g p e R s m args below meth c Q cells slots (pc + 1) ls ((1, x.tmod y) :: sk) n nf M) : BW g p e R s m args below meth c Q cells slots pc ls ((1, y) :: (1, x) :: sk) n nf M := by
  intro H locs A hH hS hl hL hs
  have hy : in64 y := hs.hd
  have hx : in64 x := hs.hd2
  refine lv_lrem hC.1 hC.2.1 hd (fun h => h0 ?_) ?_
  · rw [i64_0] at h; exact (i64_eq hy ⟨by decide, by decide⟩).mp h
  · rw [i64_rem hx hy]
    exact k H locs A hH hS hl hL (hs.tl.tl.cons (in64_tmod hx))
theorem b_lneg (hC : Cx g p s m meth c own cc nL) {x : Int} (hd : decode cc pc = .ok (.lneg, 1)) (hr : in64 (-x)) (k : BW g p e R s m args below meth c Q cells slots (pc + 1) ls ((1, -x) :: sk) n nf M) : BW g p e R s m args below meth c Q cells slots pc ls ((1, x) :: sk) n nf M := by
  intro H locs A hH hS hl hL hs
  refine lv_lneg hC.1 hC.2.1 hd ?_
  rw [← Int64.ofInt_neg]
  exact k H locs A hH hS hl hL (hs.tl.cons hr)
theorem b_iand (hC : Cx g p s m meth c own cc nL) {x y : Int} (hd : decode cc pc = .ok (.iand, 1)) (k : BW g p e R s m args below meth c Q cells slots (pc + 1) ls ((0, iand x y) :: sk) n nf M) : BW g p e R s m args below meth c Q cells slots pc ls ((0, y) :: (0, x) :: sk) n nf M := by
  intro H locs A hH hS hl hL hs
  refine lv_iand hC.1 hC.2.1 hd ?_
  have h2 := k H locs A hH hS hl hL (hs.tl.tl.cons (show okt 0 (iand x y) from i32_in _))
  have e : tv (gB g) (0, iand x y) = .int _ := congrArg Value.int (Int32.ofInt_toInt _)
  rw [List.map_cons, e] at h2
  exact h2
theorem b_ior (hC : Cx g p s m meth c own cc nL) {x y : Int} (hd : decode cc pc = .ok (.ior, 1)) (k : BW g p e R s m args below meth c Q cells slots (pc + 1) ls ((0, ior x y) :: sk) n nf M) : BW g p e R s m args below meth c Q cells slots pc ls ((0, y) :: (0, x) :: sk) n nf M := by
  intro H locs A hH hS hl hL hs
  refine lv_ior hC.1 hC.2.1 hd ?_
  have h2 := k H locs A hH hS hl hL (hs.tl.tl.cons (show okt 0 (ior x y) from i32_in _))
  have e : tv (gB g) (0, ior x y) = .int _ := congrArg Value.int (Int32.ofInt_toInt _)
  rw [List.map_cons, e] at h2
  exact h2
theorem b_ixor (hC : Cx g p s m meth c own cc nL) {x y : Int} (hd : decode cc pc = .ok (.ixor, 1)) (k : BW g p e R s m args below meth c Q cells slots (pc + 1) ls ((0, ixor x y) :: sk) n nf M) : BW g p e R s m args below meth c Q cells slots pc ls ((0, y) :: (0, x) :: sk) n nf M := by
  intro H locs A hH hS hl hL hs
  refine lv_ixor hC.1 hC.2.1 hd ?_
  have h2 := k H locs A hH hS hl hL (hs.tl.tl.cons (show okt 0 (ixor x y) from i32_in _))
  have e : tv (gB g) (0, ixor x y) = .int _ := congrArg Value.int (Int32.ofInt_toInt _)
  rw [List.map_cons, e] at h2
  exact h2
theorem b_ishl (hC : Cx g p s m meth c own cc nL) {x y : Int} (hd : decode cc pc = .ok (.ishl, 1)) (k : BW g p e R s m args below meth c Q cells slots (pc + 1) ls ((0, ishl x y) :: sk) n nf M) : BW g p e R s m args below meth c Q cells slots pc ls ((0, y) :: (0, x) :: sk) n nf M := by
  intro H locs A hH hS hl hL hs
  refine lv_ishl hC.1 hC.2.1 hd ?_
  have h2 := k H locs A hH hS hl hL (hs.tl.tl.cons (show okt 0 (ishl x y) from i32_in _))
  have e : tv (gB g) (0, ishl x y) = .int _ := congrArg Value.int (Int32.ofInt_toInt _)
  rw [List.map_cons, e] at h2
  exact h2
theorem b_ishr (hC : Cx g p s m meth c own cc nL) {x y : Int} (hd : decode cc pc = .ok (.ishr, 1)) (k : BW g p e R s m args below meth c Q cells slots (pc + 1) ls ((0, ishr x y) :: sk) n nf M) : BW g p e R s m args below meth c Q cells slots pc ls ((0, y) :: (0, x) :: sk) n nf M := by
  intro H locs A hH hS hl hL hs
  refine lv_ishr hC.1 hC.2.1 hd ?_
  have h2 := k H locs A hH hS hl hL (hs.tl.tl.cons (show okt 0 (ishr x y) from i32_in _))
  have e : tv (gB g) (0, ishr x y) = .int _ := congrArg Value.int (Int32.ofInt_toInt _)
  rw [List.map_cons, e] at h2
  exact h2
theorem b_iushr (hC : Cx g p s m meth c own cc nL) {x y : Int} (hd : decode cc pc = .ok (.iushr, 1)) (k : BW g p e R s m args below meth c Q cells slots (pc + 1) ls ((0, iushr x y) :: sk) n nf M) : BW g p e R s m args below meth c Q cells slots pc ls ((0, y) :: (0, x) :: sk) n nf M := by
  intro H locs A hH hS hl hL hs
  refine lv_iushr hC.1 hC.2.1 hd rfl ?_
  have h2 := k H locs A hH hS hl hL (hs.tl.tl.cons (show okt 0 (iushr x y) from i32_in _))
  have e : tv (gB g) (0, iushr x y) = .int _ := congrArg Value.int (Int32.ofInt_toInt _)
  rw [List.map_cons, e] at h2
  exact h2
theorem b_land (hC : Cx g p s m meth c own cc nL) {x y : Int} (hd : decode cc pc = .ok (.land, 1)) (k : BW g p e R s m args below meth c Q cells slots (pc + 1) ls ((1, land x y) :: sk) n nf M) : BW g p e R s m args below meth c Q cells slots pc ls ((1, y) :: (1, x) :: sk) n nf M := by
  intro H locs A hH hS hl hL hs
  refine lv_land hC.1 hC.2.1 hd ?_
  have h2 := k H locs A hH hS hl hL (hs.tl.tl.cons (show okt 1 (land x y) from i64_in _))
  have e : tv (gB g) (1, land x y) = .long _ := congrArg Value.long (Int64.ofInt_toInt _)
  rw [List.map_cons, e] at h2
  exact h2
theorem b_lor (hC : Cx g p s m meth c own cc nL) {x y : Int} (hd : decode cc pc = .ok (.lor, 1)) (k : BW g p e R s m args below meth c Q cells slots (pc + 1) ls ((1, lor x y) :: sk) n nf M) : BW g p e R s m args below meth c Q cells slots pc ls ((1, y) :: (1, x) :: sk) n nf M := by
  intro H locs A hH hS hl hL hs
  refine lv_lor hC.1 hC.2.1 hd ?_
  have h2 := k H locs A hH hS hl hL (hs.tl.tl.cons (show okt 1 (lor x y) from i64_in _))
  have e : tv (gB g) (1, lor x y) = .long _ := congrArg Value.long (Int64.ofInt_toInt _)
  rw [List.map_cons, e] at h2
  exact h2
theorem b_lshl (hC : Cx g p s m meth c own cc nL) {x y : Int} (hd : decode cc pc = .ok (.lshl, 1)) (k : BW g p e R s m args below meth c Q cells slots (pc + 1) ls ((1, lshl x y) :: sk) n nf M) : BW g p e R s m args below meth c Q cells slots pc ls ((0, y) :: (1, x) :: sk) n nf M := by
  intro H locs A hH hS hl hL hs
  refine lv_lshl hC.1 hC.2.1 hd rfl ?_
  have h2 := k H locs A hH hS hl hL (hs.tl.tl.cons (show okt 1 (lshl x y) from i64_in _))
  have e : tv (gB g) (1, lshl x y) = .long _ := congrArg Value.long (Int64.ofInt_toInt _)
  rw [List.map_cons, e] at h2
  exact h2
theorem b_i2l (hC : Cx g p s m meth c own cc nL) {x : Int} (hd : decode cc pc = .ok (.i2l, 1)) (k : BW g p e R s m args below meth c Q cells slots (pc + 1) ls ((1, x) :: sk) n nf M) : BW g p e R s m args below meth c Q cells slots pc ls ((0, x) :: sk) n nf M := by
  intro H locs A hH hS hl hL hs
  have hx : in32 x := hs.hd
  refine lv_i2l (v := Int64.ofInt x) hC.1 hC.2.1 hd ?_ (k H locs A hH hS hl hL (hs.tl.cons (show okt 1 x from in32_64 hx)))
  apply Int64.toInt_inj.mp
  rw [Int32.toInt_toInt64, i32_to hx, i64_to (in32_64 hx)]
theorem b_l2i (hC : Cx g p s m meth c own cc nL) {x : Int} (hd : decode cc pc = .ok (.l2i, 1)) (hr : in32 x) (k : BW g p e R s m args below meth c Q cells slots (pc + 1) ls ((0, x) :: sk) n nf M) : BW g p e R s m args below meth c Q cells slots pc ls ((1, x) :: sk) n nf M := by
  intro H locs A hH hS hl hL hs
  refine lv_l2i (v := Int32.ofInt x) hC.1 hC.2.1 hd ?_ (k H locs A hH hS hl hL (hs.tl.cons (show okt 0 x from hr)))
  apply Int32.toInt_inj.mp
  rw [Int64.toInt_toInt32, i64_to (in32_64 hr), Int32.toInt_ofInt]
theorem b_lcmp (hC : Cx g p s m meth c own cc nL) {x y : Int} (hd : decode cc pc = .ok (.lcmp, 1)) (k : BW g p e R s m args below meth c Q cells slots (pc + 1) ls ((0, cmpI x y) :: sk) n nf M) : BW g p e R s m args below meth c Q cells slots pc ls ((1, y) :: (1, x) :: sk) n nf M := by
  intro H locs A hH hS hl hL hs
  have hy : in64 y := hs.hd
  have hx : in64 x := hs.hd2
  refine W.lcmp hC.1 hC.2.1 hd ?_
  have e : lg_cmp (Int64.ofInt x) (Int64.ofInt y) = Int32.ofInt (cmpI x y) := by
    unfold lg_cmp cmpI
    by_cases h1 : y < x
    · rw [if_pos ((i64_lt hy hx).mpr h1), if_pos h1]; rfl
    · rw [if_neg (fun h => h1 ((i64_lt hy hx).mp h)), if_neg h1]
      by_cases h2 : x = y
      · rw [if_pos ((i64_eq hx hy).mpr h2), if_pos h2]; rfl
      · rw [if_neg (fun h => h2 ((i64_eq hx hy).mp h)), if_neg h2]; rfl
  rw [e]
  refine k H locs A hH hS hl hL (hs.tl.tl.cons (show in32 (cmpI x y) from ?_))
  unfold cmpI
  split
  · exact ⟨by decide, by decide⟩
  · split <;> exact ⟨by decide, by decide⟩
theorem tv_c1 {B : Nat} (v : AV) (hv : v.1 ≠ 1) : (tv B v).category = 1 := by
  have h := tv_cat B v
  rcases lv_cat (tv B v) with q | q
  · exact q
  · rw [q] at h
    simp [hv] at h
theorem b_dup (hC : Cx g p s m meth c own cc nL) {v : AV} (hd : decode cc pc = .ok (.dup, 1)) (hv : v.1 ≠ 1) (k : BW g p e R s m args below meth c Q cells slots (pc + 1) ls (v :: v :: sk) n nf M) : BW g p e R s m args below meth c Q cells slots pc ls (v :: sk) n nf M := by
  intro H locs A hH hS hl hL hs
  refine lv_dup hC.1 hC.2.1 hd (tv_c1 _ hv) (k H locs A hH hS hl hL ?_)
  intro w hw
  rcases List.mem_cons.mp hw with rfl | hw
  · exact hs _ List.mem_cons_self
  · exact hs w hw
theorem b_dup2 (hC : Cx g p s m meth c own cc nL) {v w : AV} (hd : decode cc pc = .ok (.dup2, 1)) (hv : v.1 ≠ 1) (hw : w.1 ≠ 1) (k : BW g p e R s m args below meth c Q cells slots (pc + 1) ls (v :: w :: v :: w :: sk) n nf M) : BW g p e R s m args below meth c Q cells slots pc ls (v :: w :: sk) n nf M := by
  intro H locs A hH hS hl hL hs
  refine lv_dup2_11 hC.1 hC.2.1 hd (tv_c1 _ hv) (tv_c1 _ hw) (k H locs A hH hS hl hL ?_)
  intro u hu
  rcases List.mem_cons.mp hu with rfl | hu
  · exact hs _ List.mem_cons_self
  · rcases List.mem_cons.mp hu with rfl | hu
    · exact hs _ (List.mem_cons_of_mem _ List.mem_cons_self)
    · exact hs u hu
theorem b_pop (hC : Cx g p s m meth c own cc nL) {v : AV} (hd : decode cc pc = .ok (.pop, 1)) (hv : v.1 ≠ 1) (k : BW g p e R s m args below meth c Q cells slots (pc + 1) ls (sk) n nf M) : BW g p e R s m args below meth c Q cells slots pc ls (v :: sk) n nf M := by
  intro H locs A hH hS hl hL hs
  exact lv_pop hC.1 hC.2.1 hd (tv_c1 _ hv) (k H locs A hH hS hl hL hs.tl)
theorem b_icmp_eq (hC : Cx g p s m meth c own cc nL) {x y off : Int} {tgt : Nat} (hd : decode cc pc = .ok (.if_icmp .eq off, 3)) (ht : (pc : Int) + off = (tgt : Int)) (k1 : x = y → BW g p e R s m args below meth c Q cells slots tgt ls (sk) n nf M) (k2 : ¬ (x = y) → BW g p e R s m args below meth c Q cells slots (pc + 3) ls (sk) n nf M) : BW g p e R s m args below meth c Q cells slots pc ls ((0, y) :: (0, x) :: sk) n nf M := by
  intro H locs A hH hS hl hL hs
  have hy : in32 y := hs.hd
  have hx : in32 x := hs.hd2
  refine lv_icmp_eq hC.1 hC.2.1 hd ht (fun h1 => ?_) (fun h1 => ?_)
  · exact k1 ((i32_eq hx hy).mp h1) H locs A hH hS hl hL hs.tl.tl
  · exact k2 (fun h => h1 ((i32_eq hx hy).mpr h)) H locs A hH hS hl hL hs.tl.tl
theorem b_if_eq (hC : Cx g p s m meth c own cc nL) {x off : Int} {tgt : Nat} (hd : decode cc pc = .ok (.ifCond .eq off, 3)) (ht : (pc : Int) + off = (tgt : Int)) (k1 : x = 0 → BW g p e R s m args below meth c Q cells slots tgt ls (sk) n nf M) (k2 : ¬ (x = 0) → BW g p e R s m args below meth c Q cells slots (pc + 3) ls (sk) n nf M) : BW g p e R s m args below meth c Q cells slots pc ls ((0, x) :: sk) n nf M := by
  intro H locs A hH hS hl hL hs
  have hx : in32 x := hs.hd
  have hy : in32 0 := in32_0
  refine lv_if_eq hC.1 hC.2.1 hd ht (fun h1 => ?_) (fun h1 => ?_)
  · rw [i32_0] at h1
    exact k1 ((i32_eq hx hy).mp h1) H locs A hH hS hl hL hs.tl
  · rw [i32_0] at h1
    exact k2 (fun h => h1 ((i32_eq hx hy).mpr h)) H locs A hH hS hl hL hs.tl
theorem b_icmp_ne (hC : Cx g p s m meth c own cc nL) {x y off : Int} {tgt : Nat} (hd : decode cc pc = .ok (.if_icmp .ne off, 3)) (ht : (pc : Int) + off = (tgt : Int)) (k1 : x ≠ y → BW g p e R s m args below meth c Q cells slots tgt ls (sk) n nf M) (k2 : ¬ (x ≠ y) → BW g p e R s m args below meth c Q cells slots (pc + 3) ls (sk) n nf M) : BW g p e R s m args below meth c Q cells slots pc ls ((0, y) :: (0, x) :: sk) n nf M := by
  intro H locs A hH hS hl hL hs
  have hy : in32 y := hs.hd
  have hx : in32 x := hs.hd2
  refine lv_icmp_ne hC.1 hC.2.1 hd ht (fun h1 => ?_) (fun h1 => ?_)
  · exact k1 (fun h => h1 ((i32_eq hx hy).mpr h)) H locs A hH hS hl hL hs.tl.tl
  · exact k2 (fun h => h ((i32_eq hx hy).mp h1)) H locs A hH hS hl hL hs.tl.tl
theorem b_if_ne (hC : Cx g p s m meth c own cc nL) {x off : Int} {tgt : Nat} (hd : decode cc pc = .ok (.ifCond .ne off, 3)) (ht : (pc : Int) + off = (tgt : Int)) (k1 : x ≠ 0 → BW g p e R s m args below meth c Q cells slots tgt ls (sk) n nf M) (k2 : ¬ (x ≠ 0) → BW g p e R s m args below meth c Q cells slots (pc + 3) ls (sk) n nf M) : BW g p e R s m args below meth c Q cells slots pc ls ((0, x) :: sk) n nf M := by
  intro H locs A hH hS hl hL hs
  have hx : in32 x := hs.hd
  have hy : in32 0 := in32_0
  refine lv_if_ne hC.1 hC.2.1 hd ht (fun h1 => ?_) (fun h1 => ?_)
  · rw [i32_0] at h1
    exact k1 (fun h => h1 ((i32_eq hx hy).mpr h)) H locs A hH hS hl hL hs.tl
  · rw [i32_0] at h1
    exact k2 (fun h => h ((i32_eq hx hy).mp h1)) H locs A hH hS hl hL hs.tl
theorem b_icmp_lt (hC : Cx g p s m meth c own cc nL) {x y off : Int} {tgt : Nat} (hd : decode cc pc = .ok (.if_icmp .lt off, 3)) (ht : (pc : Int) + off = (tgt : Int)) (k1 : x < y → BW g p e R s m args below meth c Q cells slots tgt ls (sk) n nf M) (k2 : ¬ (x < y) → BW g p e R s m args below meth c Q cells slots (pc + 3) ls (sk) n nf M) : BW g p e R s m args below meth c Q cells slots pc ls ((0, y) :: (0, x) :: sk) n nf M := by
  intro H locs A hH hS hl hL hs
  have hy : in32 y := hs.hd
  have hx : in32 x := hs.hd2
  refine lv_icmp_lt hC.1 hC.2.1 hd ht (fun h1 => ?_) (fun h1 => ?_)
  · exact k1 ((i32_lt hx hy).mp h1) H locs A hH hS hl hL hs.tl.tl
  · exact k2 (fun h => h1 ((i32_lt hx hy).mpr h)) H locs A hH hS hl hL hs.tl.tl
theorem b_if_lt (hC : Cx g p s m meth c own cc nL) {x off : Int} {tgt : Nat} (hd : decode cc pc = .ok (.ifCond .lt off, 3)) (ht : (pc : Int) + off = (tgt : Int)) (k1 : x < 0 → BW g p e R s m args below meth c Q cells slots tgt ls (sk) n nf M) (k2 : ¬ (x < 0) → BW g p e R s m args below meth c Q cells slots (pc + 3) ls (sk) n nf M) : BW g p e R s m args below meth c Q cells slots pc ls ((0, x) :: sk) n nf M := by
  intro H locs A hH hS hl hL hs
  have hx : in32 x := hs.hd
  have hy : in32 0 := in32_0
  refine lv_if_lt hC.1 hC.2.1 hd ht (fun h1 => ?_) (fun h1 => ?_)
  · rw [i32_0] at h1
    exact k1 ((i32_lt hx hy).mp h1) H locs A hH hS hl hL hs.tl
  · rw [i32_0] at h1
    exact k2 (fun h => h1 ((i32_lt hx hy).mpr h)) H locs A hH hS hl hL hs.tl
theorem b_icmp_ge (hC : Cx g p s m meth c own cc nL) {x y off : Int} {tgt : Nat} (hd : decode cc pc = .ok (.if_icmp .ge off, 3)) (ht : (pc : Int) + off = (tgt : Int)) (k1 : y ≤ x → BW g p e R s m args below meth c Q cells slots tgt ls (sk) n nf M) (k2 : ¬ (y ≤ x) → BW g p e R s m args below meth c Q cells slots (pc + 3) ls (sk) n nf M) : BW g p e R s m args below meth c Q cells slots pc ls ((0, y) :: (0, x) :: sk) n nf M := by
  intro H locs A hH hS hl hL hs
  have hy : in32 y := hs.hd
  have hx : in32 x := hs.hd2
  refine lv_icmp_ge hC.1 hC.2.1 hd ht (fun h1 => ?_) (fun h1 => ?_)
  · exact k1 ((i32_le hy hx).mp h1) H locs A hH hS hl hL hs.tl.tl
  · exact k2 (fun h => h1 ((i32_le hy hx).mpr h)) H locs A hH hS hl hL hs.tl.tl
theorem b_if_ge (hC : Cx g p s m meth c own cc nL) {x off : Int} {tgt : Nat} (hd : decode cc pc = .ok (.ifCond .ge off, 3)) (ht : (pc : Int) + off = (tgt : Int)) (k1 : 0 ≤ x → BW g p e R s m args below meth c Q cells slots tgt ls (sk) n nf M) (k2 : ¬ (0 ≤ x) → BW g p e R s m args below meth c Q cells slots (pc + 3) ls (sk) n nf M) : BW g p e R s m args below meth c Q cells slots pc ls ((0, x) :: sk) n nf M := by
  intro H locs A hH hS hl hL hs
  have hx : in32 x := hs.hd
  have hy : in32 0 := in32_0
  refine lv_if_ge hC.1 hC.2.1 hd ht (fun h1 => ?_) (fun h1 => ?_)
  · rw [i32_0] at h1
    exact k1 ((i32_le hy hx).mp h1) H locs A hH hS hl hL hs.tl
  · rw [i32_0] at h1
    exact k2 (fun h => h1 ((i32_le hy hx).mpr h)) H locs A hH hS hl hL hs.tl
theorem b_icmp_gt (hC : Cx g p s m meth c own cc nL) {x y off : Int} {tgt : Nat} (hd : decode cc pc = .ok (.if_icmp .gt off, 3)) (ht : (pc : Int) + off = (tgt : Int)) (k1 : y < x → BW g p e R s m args below meth c Q cells slots tgt ls (sk) n nf M) (k2 : ¬ (y < x) → BW g p e R s m args below meth c Q cells slots (pc + 3) ls (sk) n nf M) : BW g p e R s m args below meth c Q cells slots pc ls ((0, y) :: (0, x) :: sk) n nf M := by
  intro H locs A hH hS hl hL hs
  have hy : in32 y := hs.hd
  have hx : in32 x := hs.hd2
  refine lv_icmp_gt hC.1 hC.2.1 hd ht (fun h1 => ?_) (fun h1 => ?_)
  · exact k1 ((i32_lt hy hx).mp h1) H locs A hH hS hl hL hs.tl.tl
  · exact k2 (fun h => h1 ((i32_lt hy hx).mpr h)) H locs A hH hS hl hL hs.tl.tl
theorem b_if_gt (hC : Cx g p s m meth c own cc nL) {x off : Int} {tgt : Nat} (hd : decode cc pc = .ok (.ifCond .gt off, 3)) (ht : (pc : Int) + off = (tgt : Int)) (k1 : 0 < x → BW g p e R s m args below meth c Q cells slots tgt ls (sk) n nf M) (k2 : ¬ (0 < x) → BW g p e R s m args below meth c Q cells slots (pc + 3) ls (sk) n nf M) : BW g p e R s m args below meth c Q cells slots pc ls ((0, x) :: sk) n nf M := by
  intro H locs A hH hS hl hL hs
  have hx : in32 x := hs.hd
  have hy : in32 0 := in32_0
  refine lv_if_gt hC.1 hC.2.1 hd ht (fun h1 => ?_) (fun h1 => ?_)
  · rw [i32_0] at h1
    exact k1 ((i32_lt hy hx).mp h1) H locs A hH hS hl hL hs.tl
  · rw [i32_0] at h1
    exact k2 (fun h => h1 ((i32_lt hy hx).mpr h)) H locs A hH hS hl hL hs.tl
theorem b_icmp_le (hC : Cx g p s m meth c own cc nL) {x y off : Int} {tgt : Nat} (hd : decode cc pc = .ok (.if_icmp .le off, 3)) (ht : (pc : Int) + off = (tgt : Int)) (k1 : x ≤ y → BW g p e R s m args below meth c Q cells slots tgt ls (sk) n nf M) (k2 : ¬ (x ≤ y) → BW g p e R s m args below meth c Q cells slots (pc + 3) ls (sk) n nf M) : BW g p e R s m args below meth c Q cells slots pc ls ((0, y) :: (0, x) :: sk) n nf M := by
  intro H locs A hH hS hl hL hs
  have hy : in32 y := hs.hd
  have hx : in32 x := hs.hd2
  refine lv_icmp_le hC.1 hC.2.1 hd ht (fun h1 => ?_) (fun h1 => ?_)
  · exact k1 ((i32_le hx hy).mp h1) H locs A hH hS hl hL hs.tl.tl
  · exact k2 (fun h => h1 ((i32_le hx hy).mpr h)) H locs A hH hS hl hL hs.tl.tl
theorem b_if_le (hC : Cx g p s m meth c own cc nL) {x off : Int} {tgt : Nat} (hd : decode cc pc = .ok (.ifCond .le off, 3)) (ht : (pc : Int) + off = (tgt : Int)) (k1 : x ≤ 0 → BW g p e R s m args below meth c Q cells slots tgt ls (sk) n nf M) (k2 : ¬ (x ≤ 0) → BW g p e R s m args below meth c Q cells slots (pc + 3) ls (sk) n nf M) : BW g p e R s m args below meth c Q cells slots pc ls ((0, x) :: sk) n nf M := by
  intro H locs A hH hS hl hL hs
  have hx : in32 x := hs.hd
  have hy : in32 0 := in32_0
  refine lv_if_le hC.1 hC.2.1 hd ht (fun h1 => ?_) (fun h1 => ?_)
  · rw [i32_0] at h1
    exact k1 ((i32_le hx hy).mp h1) H locs A hH hS hl hL hs.tl
  · rw [i32_0] at h1
    exact k2 (fun h => h1 ((i32_le hx hy).mpr h)) H locs A hH hS hl hL hs.tl
theorem b_goto (hC : Cx g p s m meth c own cc nL) {off : Int} {tgt : Nat} (hd : decode cc pc = .ok (.goto off, 3)) (ht : (pc : Int) + off = (tgt : Int)) (k : BW g p e R s m args below meth c Q cells slots tgt ls (sk) n nf M) : BW g p e R s m args below meth c Q cells slots pc ls (sk) n nf M := by
  intro H locs A hH hS hl hL hs
  exact lv_goto hC.1 hC.2.1 hd ht (k H locs A hH hS hl hL hs)
theorem b_ifnull (hC : Cx g p s m meth c own cc nL) {x off : Int} {tgt : Nat} (hd : decode cc pc = .ok (.ifnull off, 3)) (ht : (pc : Int) + off = (tgt : Int)) (k1 : x = 0 → BW g p e R s m args below meth c Q cells slots tgt ls (sk) n nf M) (k2 : ¬ (x = 0) → BW g p e R s m args below meth c Q cells slots (pc + 3) ls (sk) n nf M) : BW g p e R s m args below meth c Q cells slots pc ls ((2, x) :: sk) n nf M := by
  intro H locs A hH hS hl hL hs
  have hx : 0 ≤ x := hs.hd
  show W p g.1 e R s m args below meth c H locs cells slots Q (F0 m pc A (fv (gB g) 2 x :: sk.map (tv (gB g))))
  rcases fv2 (gB g) x with ⟨h0, e0⟩ | ⟨h0, e0⟩
  · rw [e0]
    exact lv_ifnullN hC.1 hC.2.1 hd ht (k1 (by omega) H locs A hH hS hl hL hs.tl)
  · rw [e0]
    exact lv_ifnull hC.1 hC.2.1 hd (k2 (by omega) H locs A hH hS hl hL hs.tl)
theorem b_ifnonnull (hC : Cx g p s m meth c own cc nL) {x off : Int} {tgt : Nat} (hd : decode cc pc = .ok (.ifnonnull off, 3)) (ht : (pc : Int) + off = (tgt : Int)) (k1 : x ≠ 0 → BW g p e R s m args below meth c Q cells slots tgt ls (sk) n nf M) (k2 : ¬ (x ≠ 0) → BW g p e R s m args below meth c Q cells slots (pc + 3) ls (sk) n nf M) : BW g p e R s m args below meth c Q cells slots pc ls ((2, x) :: sk) n nf M := by
  intro H locs A hH hS hl hL hs
  have hx : 0 ≤ x := hs.hd
  show W p g.1 e R s m args below meth c H locs cells slots Q (F0 m pc A (fv (gB g) 2 x :: sk.map (tv (gB g))))
  rcases fv2 (gB g) x with ⟨h0, e0⟩ | ⟨h0, e0⟩
  · rw [e0]
    exact lv_ifnonnullN hC.1 hC.2.1 hd (k2 (by omega) H locs A hH hS hl hL hs.tl)
  · rw [e0]
    exact lv_ifnonnull hC.1 hC.2.1 hd ht (k1 (by omega) H locs A hH hS hl hL hs.tl)
theorem b_tsw (hC : Cx g p s m meth c own cc nL) {x dflt lo hi off : Int} {offs : Array Int} {len tgt : Nat} (hd : decode cc pc = .ok (.tableswitch dflt lo hi offs, len)) (v : Int) (hv : x = v) (h1 : lo ≤ v ∧ v ≤ hi) (ho : offs[(v - lo).toNat]? = some off) (ht : (pc : Int) + off = (tgt : Int)) (k : BW g p e R s m args below meth c Q cells slots tgt ls (sk) n nf M) : BW g p e R s m args below meth c Q cells slots pc ls ((0, x) :: sk) n nf M := by
  intro H locs A hH hS hl hL hs
  have hx : in32 x := hs.hd
  have e := i32_to hx
  refine lv_tableIn hC.1 hC.2.1 hd (by rw [e]; omega) (by rw [e]; omega) (by rw [e, hv]; exact ho) ht (k H locs A hH hS hl hL hs.tl)
theorem b_tsw_d (hC : Cx g p s m meth c own cc nL) {x dflt lo hi : Int} {offs : Array Int} {len tgt : Nat} (hd : decode cc pc = .ok (.tableswitch dflt lo hi offs, len)) (h1 : x < lo ∨ hi < x) (ht : (pc : Int) + dflt = (tgt : Int)) (k : BW g p e R s m args below meth c Q cells slots tgt ls (sk) n nf M) : BW g p e R s m args below meth c Q cells slots pc ls ((0, x) :: sk) n nf M := by
  intro H locs A hH hS hl hL hs
  have hx : in32 x := hs.hd
  exact lv_tableOut hC.1 hC.2.1 hd (by rw [i32_to hx]; exact h1) ht (k H locs A hH hS hl hL hs.tl)
theorem b_lsw (hC : Cx g p s m meth c own cc nL) {x dflt off : Int} {ps : Array (Int × Int)} {len tgt : Nat} (hd : decode cc pc = .ok (.lookupswitch dflt ps, len)) (hp : (ps.toList.zip (ps.toList.drop 1)).all (fun (a, next) => a.1 < next.1) = true) (ho : Op.lookupswitch.offset ps.toList dflt x = off) (ht : (pc : Int) + off = (tgt : Int)) (k : BW g p e R s m args below meth c Q cells slots tgt ls (sk) n nf M) : BW g p e R s m args below meth c Q cells slots pc ls ((0, x) :: sk) n nf M := by
  intro H locs A hH hS hl hL hs
  have hx : in32 x := hs.hd
  exact lv_lookup hC.1 hC.2.1 hd hp (by rw [i32_to hx]; exact ho) ht (k H locs A hH hS hl hL hs.tl)
theorem b_sub (hC : Cx g p s m meth c own cc nL) (is : List Nat) (hl' : is.filterMap (fun i => ls[i]?) = ls') (k : BW g p e R s m args below meth c Q cells slots pc ls' (sk) n nf M) : BW g p e R s m args below meth c Q cells slots pc ls (sk) n nf M := by
  intro H locs A hH hS hl hL hs
  subst hl'
  have hm : ∀ v ∈ is.filterMap (fun i => ls[i]?), v ∈ ls := by
    intro v hv
    obtain ⟨i, -, hi⟩ := List.mem_filterMap.mp hv
    exact List.mem_of_getElem? hi
  refine k H locs A hH hS ⟨hl.1, hl.2.1, ?_⟩ (fun v hv => hL v (hm v hv)) hs
  intro q hq
  obtain ⟨v, hv, rfl⟩ := List.mem_map.mp hq
  exact hl.2.2 _ (List.mem_map.mpr ⟨v, hm v hv, rfl⟩)
end BR
