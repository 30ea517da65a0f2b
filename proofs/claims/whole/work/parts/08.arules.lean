abbrev ok (c : Prop) [Decidable c] (o : Res) : Res := if c then o else none
def bm (M : Mem) (K : Mem → Res) : Res := K M
def bi (x : Int) (K : Int → Res) : Res := K x
def cl (o : Res) (K : Int → Mem → Res) : Res := match o with
  | none => none
  | some (r, M) => K r M
def FU : Nat := 1000000000
def top (sd : Bool) : Int := if sd then 336 else 406
def Up (sd : Bool) (nf n : Int) : Prop := top sd ≤ nf ∧ nf ≤ n
theorem le_top {sd : Bool} {nf n a : Int} {c : Nat} (hu : Up sd nf n) (hk : kd a = c) (hc : c ≠ 0) (hs : decide (c < 50) = sd) : a ≤ nf ∧ a ≤ n := by
  have h1 := kd_own hk hc
  have h2 := (kd_pos (a := a) (by rw [hk]; exact hc)).2
  have h3 := hu.1
  have h4 := hu.2
  unfold top at h3
  cases sd with
  | true =>
    have : a ≤ 336 := by rw [h1] at hs; exact of_decide_eq_true hs
    simp at h3
    omega
  | false =>
    simp at h3
    omega
theorem cs_0 (n : Int) : cs n n = 0 := by unfold cs; omega
theorem sl_0 (n : Int) : sl n n = 0 := by unfold sl; omega
section AR
variable {g : GT} {sd : Bool} {own : String} {cc : ByteArray} {nL : Nat} {ret : Option FieldType} {d : Nat} {nS nE nf : Int} {pc : Nat} {ls ls' : List LV} {sk : List AV} {n : Int} {M : Mem} {o : Res}
theorem aw_none : AW g sd own cc nL ret d nS nE nf pc ls (sk) n M (none) := fun r M' ho => by cases ho
theorem r_iconst {v : Int} (hd : decode cc pc = .ok (.iconst v, 1)) (hr : in32 v) (k : AW g sd own cc nL ret d nS nE nf (pc + 1) ls ((0, v) :: sk) n M (o)) : AW g sd own cc nL ret d nS nE nf pc ls (sk) n M (o) := fun r M' ho Mo p e s m args below meth c hC h1 h2 => b_iconst hC hd hr (k r M' ho Mo p e s m args below meth c hC h1 h2)
theorem r_bipush {v : Int} (hd : decode cc pc = .ok (.bipush v, 2)) (hv : (Int8.ofInt v).toInt32 = Int32.ofInt v) (hr : in32 v) (k : AW g sd own cc nL ret d nS nE nf (pc + 2) ls ((0, v) :: sk) n M (o)) : AW g sd own cc nL ret d nS nE nf pc ls (sk) n M (o) := fun r M' ho Mo p e s m args below meth c hC h1 h2 => b_bipush hC hd hv hr (k r M' ho Mo p e s m args below meth c hC h1 h2)
theorem r_sipush {v : Int} (hd : decode cc pc = .ok (.sipush v, 3)) (hv : (Int16.ofInt v).toInt32 = Int32.ofInt v) (hr : in32 v) (k : AW g sd own cc nL ret d nS nE nf (pc + 3) ls ((0, v) :: sk) n M (o)) : AW g sd own cc nL ret d nS nE nf pc ls (sk) n M (o) := fun r M' ho Mo p e s m args below meth c hC h1 h2 => b_sipush hC hd hv hr (k r M' ho Mo p e s m args below meth c hC h1 h2)
theorem r_ldc {i : Nat} {w : Int32} {v : Int} (hd : decode cc pc = .ok (.ldc i, 2)) (hm : Cond.constant own i w ∈ lw_tbl) (hv : w = Int32.ofInt v) (hr : in32 v) (k : AW g sd own cc nL ret d nS nE nf (pc + 2) ls ((0, v) :: sk) n M (o)) : AW g sd own cc nL ret d nS nE nf pc ls (sk) n M (o) := fun r M' ho Mo p e s m args below meth c hC h1 h2 => b_ldc hC hd hm hv hr (k r M' ho Mo p e s m args below meth c hC h1 h2)
theorem r_ldcw {i : Nat} {w : Int32} {v : Int} (hd : decode cc pc = .ok (.ldc_w i, 3)) (hm : Cond.constant own i w ∈ lw_tbl) (hv : w = Int32.ofInt v) (hr : in32 v) (k : AW g sd own cc nL ret d nS nE nf (pc + 3) ls ((0, v) :: sk) n M (o)) : AW g sd own cc nL ret d nS nE nf pc ls (sk) n M (o) := fun r M' ho Mo p e s m args below meth c hC h1 h2 => b_ldcw hC hd hm hv hr (k r M' ho Mo p e s m args below meth c hC h1 h2)
theorem r_ldc2 {i : Nat} {w : Int64} {v : Int} (hd : decode cc pc = .ok (.ldc2_w i, 3)) (hm : Cond.constantLong own i w ∈ lw_tbl) (hv : w = Int64.ofInt v) (hr : in64 v) (k : AW g sd own cc nL ret d nS nE nf (pc + 3) ls ((1, v) :: sk) n M (o)) : AW g sd own cc nL ret d nS nE nf pc ls (sk) n M (o) := fun r M' ho Mo p e s m args below meth c hC h1 h2 => b_ldc2 hC hd hm hv hr (k r M' ho Mo p e s m args below meth c hC h1 h2)
theorem r_lconst {j : Fin 2} {v : Int} (hd : decode cc pc = .ok (.lconst j, 1)) (hv : Int64.ofNat (j : Nat) = Int64.ofInt v) (hr : in64 v) (k : AW g sd own cc nL ret d nS nE nf (pc + 1) ls ((1, v) :: sk) n M (o)) : AW g sd own cc nL ret d nS nE nf pc ls (sk) n M (o) := fun r M' ho Mo p e s m args below meth c hC h1 h2 => b_lconst hC hd hv hr (k r M' ho Mo p e s m args below meth c hC h1 h2)
theorem r_null (hd : decode cc pc = .ok (.aconst_null, 1)) (k : AW g sd own cc nL ret d nS nE nf (pc + 1) ls ((2, 0) :: sk) n M (o)) : AW g sd own cc nL ret d nS nE nf pc ls (sk) n M (o) := fun r M' ho Mo p e s m args below meth c hC h1 h2 => b_null hC hd (k r M' ho Mo p e s m args below meth c hC h1 h2)
theorem r_iload_n {j : Fin 4} {i : Nat} (q : Nat) {x : Int} (hd : decode cc pc = .ok (.iload_n j, 1)) (hi : (j : Nat) = i) (hq : ls[q]? = some (i, 0, x)) (k : AW g sd own cc nL ret d nS nE nf (pc + 1) ls ((0, x) :: sk) n M (o)) : AW g sd own cc nL ret d nS nE nf pc ls (sk) n M (o) := fun r M' ho Mo p e s m args below meth c hC h1 h2 => b_iload_n hC hd hi hq (k r M' ho Mo p e s m args below meth c hC h1 h2)
theorem r_iload {i : Nat} (q : Nat) {x : Int} (hd : decode cc pc = .ok (.iload i, 2)) (hq : ls[q]? = some (i, 0, x)) (k : AW g sd own cc nL ret d nS nE nf (pc + 2) ls ((0, x) :: sk) n M (o)) : AW g sd own cc nL ret d nS nE nf pc ls (sk) n M (o) := fun r M' ho Mo p e s m args below meth c hC h1 h2 => b_iload hC hd hq (k r M' ho Mo p e s m args below meth c hC h1 h2)
theorem r_istore_n {j : Fin 4} {i : Nat} {x : Int} (hd : decode cc pc = .ok (.istore_n j, 1)) (hi : (j : Nat) = i) (hn : i < nL) (hl' : (i, 0, x) :: flt1 i ls = ls') (k : AW g sd own cc nL ret d nS nE nf (pc + 1) ls' (sk) n M (o)) : AW g sd own cc nL ret d nS nE nf pc ls ((0, x) :: sk) n M (o) := fun r M' ho Mo p e s m args below meth c hC h1 h2 => b_istore_n hC hd hi hn hl' (k r M' ho Mo p e s m args below meth c hC h1 h2)
theorem r_istore_nB {j : Fin 4} {i : Nat} {x : Int} (hd : decode cc pc = .ok (.istore_n j, 1)) (hi : (j : Nat) = i) {K : Int → Res} {lf : Int → List LV} (hn : i < nL) (hl' : ∀ y : Int, (i, 0, y) :: flt1 i ls = lf y) (k : ∀ y : Int, y = x → AW g sd own cc nL ret d nS nE nf (pc + 1) (lf y) (sk) n M (K y)) : AW g sd own cc nL ret d nS nE nf pc ls ((0, x) :: sk) n M (bi x K) := r_istore_n hd hi hn (hl' x) (k x rfl)
theorem r_istore {i : Nat} {x : Int} (hd : decode cc pc = .ok (.istore i, 2)) (hn : i < nL) (hl' : (i, 0, x) :: flt1 i ls = ls') (k : AW g sd own cc nL ret d nS nE nf (pc + 2) ls' (sk) n M (o)) : AW g sd own cc nL ret d nS nE nf pc ls ((0, x) :: sk) n M (o) := fun r M' ho Mo p e s m args below meth c hC h1 h2 => b_istore hC hd hn hl' (k r M' ho Mo p e s m args below meth c hC h1 h2)
theorem r_istoreB {i : Nat} {x : Int} (hd : decode cc pc = .ok (.istore i, 2)) {K : Int → Res} {lf : Int → List LV} (hn : i < nL) (hl' : ∀ y : Int, (i, 0, y) :: flt1 i ls = lf y) (k : ∀ y : Int, y = x → AW g sd own cc nL ret d nS nE nf (pc + 2) (lf y) (sk) n M (K y)) : AW g sd own cc nL ret d nS nE nf pc ls ((0, x) :: sk) n M (bi x K) := r_istore hd hn (hl' x) (k x rfl)
theorem r_lload_n {j : Fin 4} {i : Nat} (q : Nat) {x : Int} (hd : decode cc pc = .ok (.lload_n j, 1)) (hi : (j : Nat) = i) (hq : ls[q]? = some (i, 1, x)) (k : AW g sd own cc nL ret d nS nE nf (pc + 1) ls ((1, x) :: sk) n M (o)) : AW g sd own cc nL ret d nS nE nf pc ls (sk) n M (o) := fun r M' ho Mo p e s m args below meth c hC h1 h2 => b_lload_n hC hd hi hq (k r M' ho Mo p e s m args below meth c hC h1 h2)
theorem r_lload {i : Nat} (q : Nat) {x : Int} (hd : decode cc pc = .ok (.lload i, 2)) (hq : ls[q]? = some (i, 1, x)) (k : AW g sd own cc nL ret d nS nE nf (pc + 2) ls ((1, x) :: sk) n M (o)) : AW g sd own cc nL ret d nS nE nf pc ls (sk) n M (o) := fun r M' ho Mo p e s m args below meth c hC h1 h2 => b_lload hC hd hq (k r M' ho Mo p e s m args below meth c hC h1 h2)
theorem r_lstore_n {j : Fin 4} {i : Nat} {x : Int} (hd : decode cc pc = .ok (.lstore_n j, 1)) (hi : (j : Nat) = i) (hn : i + 1 < nL) (hl' : (i, 1, x) :: flt2 i ls = ls') (k : AW g sd own cc nL ret d nS nE nf (pc + 1) ls' (sk) n M (o)) : AW g sd own cc nL ret d nS nE nf pc ls ((1, x) :: sk) n M (o) := fun r M' ho Mo p e s m args below meth c hC h1 h2 => b_lstore_n hC hd hi hn hl' (k r M' ho Mo p e s m args below meth c hC h1 h2)
theorem r_lstore_nB {j : Fin 4} {i : Nat} {x : Int} (hd : decode cc pc = .ok (.lstore_n j, 1)) (hi : (j : Nat) = i) {K : Int → Res} {lf : Int → List LV} (hn : i + 1 < nL) (hl' : ∀ y : Int, (i, 1, y) :: flt2 i ls = lf y) (k : ∀ y : Int, y = x → AW g sd own cc nL ret d nS nE nf (pc + 1) (lf y) (sk) n M (K y)) : AW g sd own cc nL ret d nS nE nf pc ls ((1, x) :: sk) n M (bi x K) := r_lstore_n hd hi hn (hl' x) (k x rfl)
theorem r_lstore {i : Nat} {x : Int} (hd : decode cc pc = .ok (.lstore i, 2)) (hn : i + 1 < nL) (hl' : (i, 1, x) :: flt2 i ls = ls') (k : AW g sd own cc nL ret d nS nE nf (pc + 2) ls' (sk) n M (o)) : AW g sd own cc nL ret d nS nE nf pc ls ((1, x) :: sk) n M (o) := fun r M' ho Mo p e s m args below meth c hC h1 h2 => b_lstore hC hd hn hl' (k r M' ho Mo p e s m args below meth c hC h1 h2)
theorem r_lstoreB {i : Nat} {x : Int} (hd : decode cc pc = .ok (.lstore i, 2)) {K : Int → Res} {lf : Int → List LV} (hn : i + 1 < nL) (hl' : ∀ y : Int, (i, 1, y) :: flt2 i ls = lf y) (k : ∀ y : Int, y = x → AW g sd own cc nL ret d nS nE nf (pc + 2) (lf y) (sk) n M (K y)) : AW g sd own cc nL ret d nS nE nf pc ls ((1, x) :: sk) n M (bi x K) := r_lstore hd hn (hl' x) (k x rfl)
theorem r_aload_n {j : Fin 4} {i : Nat} (q : Nat) {x : Int} (hd : decode cc pc = .ok (.aload_n j, 1)) (hi : (j : Nat) = i) (hq : ls[q]? = some (i, 2, x)) (k : AW g sd own cc nL ret d nS nE nf (pc + 1) ls ((2, x) :: sk) n M (o)) : AW g sd own cc nL ret d nS nE nf pc ls (sk) n M (o) := fun r M' ho Mo p e s m args below meth c hC h1 h2 => b_aload_n hC hd hi hq (k r M' ho Mo p e s m args below meth c hC h1 h2)
theorem r_aload {i : Nat} (q : Nat) {x : Int} (hd : decode cc pc = .ok (.aload i, 2)) (hq : ls[q]? = some (i, 2, x)) (k : AW g sd own cc nL ret d nS nE nf (pc + 2) ls ((2, x) :: sk) n M (o)) : AW g sd own cc nL ret d nS nE nf pc ls (sk) n M (o) := fun r M' ho Mo p e s m args below meth c hC h1 h2 => b_aload hC hd hq (k r M' ho Mo p e s m args below meth c hC h1 h2)
theorem r_astore_n {j : Fin 4} {i : Nat} {x : Int} (hd : decode cc pc = .ok (.astore_n j, 1)) (hi : (j : Nat) = i) (hn : i < nL) (hl' : (i, 2, x) :: flt1 i ls = ls') (k : AW g sd own cc nL ret d nS nE nf (pc + 1) ls' (sk) n M (o)) : AW g sd own cc nL ret d nS nE nf pc ls ((2, x) :: sk) n M (o) := fun r M' ho Mo p e s m args below meth c hC h1 h2 => b_astore_n hC hd hi hn hl' (k r M' ho Mo p e s m args below meth c hC h1 h2)
theorem r_astore_nB {j : Fin 4} {i : Nat} {x : Int} (hd : decode cc pc = .ok (.astore_n j, 1)) (hi : (j : Nat) = i) {K : Int → Res} {lf : Int → List LV} (hn : i < nL) (hl' : ∀ y : Int, (i, 2, y) :: flt1 i ls = lf y) (k : ∀ y : Int, y = x → AW g sd own cc nL ret d nS nE nf (pc + 1) (lf y) (sk) n M (K y)) : AW g sd own cc nL ret d nS nE nf pc ls ((2, x) :: sk) n M (bi x K) := r_astore_n hd hi hn (hl' x) (k x rfl)
theorem r_astore {i : Nat} {x : Int} (hd : decode cc pc = .ok (.astore i, 2)) (hn : i < nL) (hl' : (i, 2, x) :: flt1 i ls = ls') (k : AW g sd own cc nL ret d nS nE nf (pc + 2) ls' (sk) n M (o)) : AW g sd own cc nL ret d nS nE nf pc ls ((2, x) :: sk) n M (o) := fun r M' ho Mo p e s m args below meth c hC h1 h2 => b_astore hC hd hn hl' (k r M' ho Mo p e s m args below meth c hC h1 h2)
theorem r_astoreB {i : Nat} {x : Int} (hd : decode cc pc = .ok (.astore i, 2)) {K : Int → Res} {lf : Int → List LV} (hn : i < nL) (hl' : ∀ y : Int, (i, 2, y) :: flt1 i ls = lf y) (k : ∀ y : Int, y = x → AW g sd own cc nL ret d nS nE nf (pc + 2) (lf y) (sk) n M (K y)) : AW g sd own cc nL ret d nS nE nf pc ls ((2, x) :: sk) n M (bi x K) := r_astore hd hn (hl' x) (k x rfl)
theorem r_iinc {i : Nat} (q : Nat) {v x : Int} (hd : decode cc pc = .ok (.iinc i v, 3)) (hq : ls[q]? = some (i, 0, x)) (hr : in32 (x + v)) (hn : i < nL) (hl' : (i, 0, x + v) :: flt1 i ls = ls') (k : AW g sd own cc nL ret d nS nE nf (pc + 3) ls' (sk) n M (o)) : AW g sd own cc nL ret d nS nE nf pc ls (sk) n M (o) := fun r M' ho Mo p e s m args below meth c hC h1 h2 => b_iinc hC hd hq hr hn hl' (k r M' ho Mo p e s m args below meth c hC h1 h2)
theorem r_iincB {i : Nat} (q : Nat) {v x : Int} {K : Int → Res} {lf : Int → List LV} (hd : decode cc pc = .ok (.iinc i v, 3)) (hq : ls[q]? = some (i, 0, x)) (hr : in32 (x + v)) (hn : i < nL) (hl' : ∀ y : Int, (i, 0, y) :: flt1 i ls = lf y) (k : ∀ y : Int, y = x + v → AW g sd own cc nL ret d nS nE nf (pc + 3) (lf y) (sk) n M (K y)) : AW g sd own cc nL ret d nS nE nf pc ls (sk) n M (bi (x + v) K) := r_iinc q hd hq hr hn (hl' _) (k _ rfl)
theorem r_iadd {x y : Int} (hd : decode cc pc = .ok (.iadd, 1)) (hr : in32 (x + y)) (k : AW g sd own cc nL ret d nS nE nf (pc + 1) ls ((0, x + y) :: sk) n M (o)) : AW g sd own cc nL ret d nS nE nf pc ls ((0, y) :: (0, x) :: sk) n M (o) := fun r M' ho Mo p e s m args below meth c hC h1 h2 => b_iadd hC hd hr (k r M' ho Mo p e s m args below meth c hC h1 h2)
theorem r_isub {x y : Int} (hd : decode cc pc = .ok (.isub, 1)) (hr : in32 (x - y)) (k : AW g sd own cc nL ret d nS nE nf (pc + 1) ls ((0, x - y) :: sk) n M (o)) : AW g sd own cc nL ret d nS nE nf pc ls ((0, y) :: (0, x) :: sk) n M (o) := fun r M' ho Mo p e s m args below meth c hC h1 h2 => b_isub hC hd hr (k r M' ho Mo p e s m args below meth c hC h1 h2)
theorem r_imul {x y : Int} (hd : decode cc pc = .ok (.imul, 1)) (hr : in32 (x * y)) (k : AW g sd own cc nL ret d nS nE nf (pc + 1) ls ((0, x * y) :: sk) n M (o)) : AW g sd own cc nL ret d nS nE nf pc ls ((0, y) :: (0, x) :: sk) n M (o) := fun r M' ho Mo p e s m args below meth c hC h1 h2 => b_imul hC hd hr (k r M' ho Mo p e s m args below meth c hC h1 h2)
theorem r_idiv {x y : Int} (hd : decode cc pc = .ok (.idiv, 1)) (h0 : y ≠ 0) (hr : in32 (x.tdiv y)) (k : AW g sd own cc nL ret d nS nE nf (pc + 1) ls ((0, x.tdiv y) :: sk) n M (o)) : AW g sd own cc nL ret d nS nE nf pc ls ((0, y) :: (0, x) :: sk) n M (o) := fun r M' ho Mo p e s m args below meth c hC h1 h2 => b_idiv hC hd h0 hr (k r M' ho Mo p e s m args below meth c hC h1 h2)
theorem r_irem {x y : Int} (hd : decode cc pc = .ok (.irem, 1)) (h0 : y ≠ 0) (k : AW g sd own cc nL ret d nS nE nf (pc + 1) ls ((0, x.tmod y) :: sk) n M (o)) : AW g sd own cc nL ret d nS nE nf pc ls ((0, y) :: (0, x) :: sk) n M (o) := fun r M' ho Mo p e s m args below meth c hC h1 h2 => b_irem hC hd h0 (k r M' ho Mo p e s m args below meth c hC h1 h2)
theorem r_idivP {x y : Int} (hd : decode cc pc = .ok (.idiv, 1)) (h : 0 ≤ x ∧ 0 < y) (k : AW g sd own cc nL ret d nS nE nf (pc + 1) ls ((0, x / y) :: sk) n M (o)) : AW g sd own cc nL ret d nS nE nf pc ls ((0, y) :: (0, x) :: sk) n M (o) := by
  have e : x.tdiv y = x / y := Int.tdiv_eq_ediv_of_nonneg h.1
  intro r M' ho Mo p e' s m args below meth c hC h1 h2 H locs A' hH hS hl hL hs
  have hx : in32 x := hs.hd2
  have hq : x / y ≤ x := Int.ediv_le_self y h.1
  have hq0 : 0 ≤ x / y := Int.ediv_nonneg h.1 (by omega)
  have hx2 := hx.2
  refine b_idiv hC hd (by omega) (by rw [e]; exact ⟨by omega, by omega⟩) ?_ H locs A' hH hS hl hL hs
  rw [e]
  exact k r M' ho Mo p e' s m args below meth c hC h1 h2
theorem r_iremP {x y : Int} (hd : decode cc pc = .ok (.irem, 1)) (h : 0 ≤ x ∧ 0 < y) (k : AW g sd own cc nL ret d nS nE nf (pc + 1) ls ((0, x % y) :: sk) n M (o)) : AW g sd own cc nL ret d nS nE nf pc ls ((0, y) :: (0, x) :: sk) n M (o) := by
  have e : x.tmod y = x % y := Int.tmod_eq_emod_of_nonneg h.1
  refine r_irem hd (by omega) ?_
  rw [e]
  exact k
theorem r_ineg {x : Int} (hd : decode cc pc = .ok (.ineg, 1)) (hr : in32 (-x)) (k : AW g sd own cc nL ret d nS nE nf (pc + 1) ls ((0, -x) :: sk) n M (o)) : AW g sd own cc nL ret d nS nE nf pc ls ((0, x) :: sk) n M (o) := fun r M' ho Mo p e s m args below meth c hC h1 h2 => b_ineg hC hd hr (k r M' ho Mo p e s m args below meth c hC h1 h2)
theorem r_ladd {x y : Int} (hd : decode cc pc = .ok (.ladd, 1)) (hr : in64 (x + y)) (k : AW g sd own cc nL ret d nS nE nf (pc + 1) ls ((1, x + y) :: sk) n M (o)) : AW g sd own cc nL ret d nS nE nf pc ls ((1, y) :: (1, x) :: sk) n M (o) := fun r M' ho Mo p e s m args below meth c hC h1 h2 => b_ladd hC hd hr (k r M' ho Mo p e s m args below meth c hC h1 h2)
theorem r_lsub {x y : Int} (hd : decode cc pc = .ok (.lsub, 1)) (hr : in64 (x - y)) (k : AW g sd own cc nL ret d nS nE nf (pc + 1) ls ((1, x - y) :: sk) n M (o)) : AW g sd own cc nL ret d nS nE nf pc ls ((1, y) :: (1, x) :: sk) n M (o) := fun r M' ho Mo p e s m args below meth c hC h1 h2 => b_lsub hC hd hr (k r M' ho Mo p e s m args below meth c hC h1 h2)
theorem r_lmul {x y : Int} (hd : decode cc pc = .ok (.lmul, 1)) (hr : in64 (x * y)) (k : AW g sd own cc nL ret d nS nE nf (pc + 1) ls ((1, x * y) :: sk) n M (o)) : AW g sd own cc nL ret d nS nE nf pc ls ((1, y) :: (1, x) :: sk) n M (o) := fun r M' ho Mo p e s m args below meth c hC h1 h2 => b_lmul hC hd hr (k r M' ho Mo p e s m args below meth c hC h1 h2)
theorem r_ldiv {x y : Int} (hd : decode cc pc = .ok (.ldiv, 1)) (h0 : y ≠ 0) (hr : in64 (x.tdiv y)) (k : AW g sd own cc nL ret d nS nE nf (pc + 1) ls ((1, x.tdiv y) :: sk) n M (o)) : AW g sd own cc nL ret d nS nE nf pc ls ((1, y) :: (1, x) :: sk) n M (o) := fun r M' ho Mo p e s m args below meth c hC h1 h2 => b_ldiv hC hd h0 hr (k r M' ho Mo p e s m args below meth c hC h1 h2)
theorem r_lrem {x y : Int} (hd : decode cc pc = .ok (.lrem, 1)) (h0 : y ≠ 0) (k : AW g sd own cc nL ret d nS nE nf (pc + 1) ls ((1, x.tmod y) :: sk) n M (o)) : AW g sd own cc nL ret d nS nE nf pc ls ((1, y) :: (1, x) :: sk) n M (o) := fun r M' ho Mo p e s m args below meth c hC h1 h2 => b_lrem hC hd h0 (k r M' ho Mo p e s m args below meth c hC h1 h2)
theorem r_ldivP {x y : Int} (hd : decode cc pc = .ok (.ldiv, 1)) (h : 0 ≤ x ∧ 0 < y) (k : AW g sd own cc nL ret d nS nE nf (pc + 1) ls ((1, x / y) :: sk) n M (o)) : AW g sd own cc nL ret d nS nE nf pc ls ((1, y) :: (1, x) :: sk) n M (o) := by
  have e : x.tdiv y = x / y := Int.tdiv_eq_ediv_of_nonneg h.1
  intro r M' ho Mo p e' s m args below meth c hC h1 h2 H locs A' hH hS hl hL hs
  have hx : in64 x := hs.hd2
  have hq : x / y ≤ x := Int.ediv_le_self y h.1
  have hq0 : 0 ≤ x / y := Int.ediv_nonneg h.1 (by omega)
  have hx2 := hx.2
  refine b_ldiv hC hd (by omega) (by rw [e]; exact ⟨by omega, by omega⟩) ?_ H locs A' hH hS hl hL hs
  rw [e]
  exact k r M' ho Mo p e' s m args below meth c hC h1 h2
theorem r_lremP {x y : Int} (hd : decode cc pc = .ok (.lrem, 1)) (h : 0 ≤ x ∧ 0 < y) (k : AW g sd own cc nL ret d nS nE nf (pc + 1) ls ((1, x % y) :: sk) n M (o)) : AW g sd own cc nL ret d nS nE nf pc ls ((1, y) :: (1, x) :: sk) n M (o) := by
  have e : x.tmod y = x % y := Int.tmod_eq_emod_of_nonneg h.1
  refine r_lrem hd (by omega) ?_
  rw [e]
  exact k
theorem r_lneg {x : Int} (hd : decode cc pc = .ok (.lneg, 1)) (hr : in64 (-x)) (k : AW g sd own cc nL ret d nS nE nf (pc + 1) ls ((1, -x) :: sk) n M (o)) : AW g sd own cc nL ret d nS nE nf pc ls ((1, x) :: sk) n M (o) := fun r M' ho Mo p e s m args below meth c hC h1 h2 => b_lneg hC hd hr (k r M' ho Mo p e s m args below meth c hC h1 h2)
theorem r_iand {x y : Int} (hd : decode cc pc = .ok (.iand, 1)) (k : AW g sd own cc nL ret d nS nE nf (pc + 1) ls ((0, iand x y) :: sk) n M (o)) : AW g sd own cc nL ret d nS nE nf pc ls ((0, y) :: (0, x) :: sk) n M (o) := fun r M' ho Mo p e s m args below meth c hC h1 h2 => b_iand hC hd (k r M' ho Mo p e s m args below meth c hC h1 h2)
theorem r_ior {x y : Int} (hd : decode cc pc = .ok (.ior, 1)) (k : AW g sd own cc nL ret d nS nE nf (pc + 1) ls ((0, ior x y) :: sk) n M (o)) : AW g sd own cc nL ret d nS nE nf pc ls ((0, y) :: (0, x) :: sk) n M (o) := fun r M' ho Mo p e s m args below meth c hC h1 h2 => b_ior hC hd (k r M' ho Mo p e s m args below meth c hC h1 h2)
theorem r_ixor {x y : Int} (hd : decode cc pc = .ok (.ixor, 1)) (k : AW g sd own cc nL ret d nS nE nf (pc + 1) ls ((0, ixor x y) :: sk) n M (o)) : AW g sd own cc nL ret d nS nE nf pc ls ((0, y) :: (0, x) :: sk) n M (o) := fun r M' ho Mo p e s m args below meth c hC h1 h2 => b_ixor hC hd (k r M' ho Mo p e s m args below meth c hC h1 h2)
theorem r_ishl {x y : Int} (hd : decode cc pc = .ok (.ishl, 1)) (k : AW g sd own cc nL ret d nS nE nf (pc + 1) ls ((0, ishl x y) :: sk) n M (o)) : AW g sd own cc nL ret d nS nE nf pc ls ((0, y) :: (0, x) :: sk) n M (o) := fun r M' ho Mo p e s m args below meth c hC h1 h2 => b_ishl hC hd (k r M' ho Mo p e s m args below meth c hC h1 h2)
theorem r_ishr {x y : Int} (hd : decode cc pc = .ok (.ishr, 1)) (k : AW g sd own cc nL ret d nS nE nf (pc + 1) ls ((0, ishr x y) :: sk) n M (o)) : AW g sd own cc nL ret d nS nE nf pc ls ((0, y) :: (0, x) :: sk) n M (o) := fun r M' ho Mo p e s m args below meth c hC h1 h2 => b_ishr hC hd (k r M' ho Mo p e s m args below meth c hC h1 h2)
theorem r_iushr {x y : Int} (hd : decode cc pc = .ok (.iushr, 1)) (k : AW g sd own cc nL ret d nS nE nf (pc + 1) ls ((0, iushr x y) :: sk) n M (o)) : AW g sd own cc nL ret d nS nE nf pc ls ((0, y) :: (0, x) :: sk) n M (o) := fun r M' ho Mo p e s m args below meth c hC h1 h2 => b_iushr hC hd (k r M' ho Mo p e s m args below meth c hC h1 h2)
theorem r_land {x y : Int} (hd : decode cc pc = .ok (.land, 1)) (k : AW g sd own cc nL ret d nS nE nf (pc + 1) ls ((1, land x y) :: sk) n M (o)) : AW g sd own cc nL ret d nS nE nf pc ls ((1, y) :: (1, x) :: sk) n M (o) := fun r M' ho Mo p e s m args below meth c hC h1 h2 => b_land hC hd (k r M' ho Mo p e s m args below meth c hC h1 h2)
theorem r_lor {x y : Int} (hd : decode cc pc = .ok (.lor, 1)) (k : AW g sd own cc nL ret d nS nE nf (pc + 1) ls ((1, lor x y) :: sk) n M (o)) : AW g sd own cc nL ret d nS nE nf pc ls ((1, y) :: (1, x) :: sk) n M (o) := fun r M' ho Mo p e s m args below meth c hC h1 h2 => b_lor hC hd (k r M' ho Mo p e s m args below meth c hC h1 h2)
theorem r_lshl {x y : Int} (hd : decode cc pc = .ok (.lshl, 1)) (k : AW g sd own cc nL ret d nS nE nf (pc + 1) ls ((1, lshl x y) :: sk) n M (o)) : AW g sd own cc nL ret d nS nE nf pc ls ((0, y) :: (1, x) :: sk) n M (o) := fun r M' ho Mo p e s m args below meth c hC h1 h2 => b_lshl hC hd (k r M' ho Mo p e s m args below meth c hC h1 h2)
theorem r_i2l {x : Int} (hd : decode cc pc = .ok (.i2l, 1)) (k : AW g sd own cc nL ret d nS nE nf (pc + 1) ls ((1, x) :: sk) n M (o)) : AW g sd own cc nL ret d nS nE nf pc ls ((0, x) :: sk) n M (o) := fun r M' ho Mo p e s m args below meth c hC h1 h2 => b_i2l hC hd (k r M' ho Mo p e s m args below meth c hC h1 h2)
theorem r_l2i {x : Int} (hd : decode cc pc = .ok (.l2i, 1)) (hr : in32 x) (k : AW g sd own cc nL ret d nS nE nf (pc + 1) ls ((0, x) :: sk) n M (o)) : AW g sd own cc nL ret d nS nE nf pc ls ((1, x) :: sk) n M (o) := fun r M' ho Mo p e s m args below meth c hC h1 h2 => b_l2i hC hd hr (k r M' ho Mo p e s m args below meth c hC h1 h2)
theorem r_lcmp {x y : Int} (hd : decode cc pc = .ok (.lcmp, 1)) (k : AW g sd own cc nL ret d nS nE nf (pc + 1) ls ((0, cmpI x y) :: sk) n M (o)) : AW g sd own cc nL ret d nS nE nf pc ls ((1, y) :: (1, x) :: sk) n M (o) := fun r M' ho Mo p e s m args below meth c hC h1 h2 => b_lcmp hC hd (k r M' ho Mo p e s m args below meth c hC h1 h2)
theorem r_dup {v : AV} (hd : decode cc pc = .ok (.dup, 1)) (hv : v.1 ≠ 1) (k : AW g sd own cc nL ret d nS nE nf (pc + 1) ls (v :: v :: sk) n M (o)) : AW g sd own cc nL ret d nS nE nf pc ls (v :: sk) n M (o) := fun r M' ho Mo p e s m args below meth c hC h1 h2 => b_dup hC hd hv (k r M' ho Mo p e s m args below meth c hC h1 h2)
theorem r_dup2 {v w : AV} (hd : decode cc pc = .ok (.dup2, 1)) (hv : v.1 ≠ 1) (hw : w.1 ≠ 1) (k : AW g sd own cc nL ret d nS nE nf (pc + 1) ls (v :: w :: v :: w :: sk) n M (o)) : AW g sd own cc nL ret d nS nE nf pc ls (v :: w :: sk) n M (o) := fun r M' ho Mo p e s m args below meth c hC h1 h2 => b_dup2 hC hd hv hw (k r M' ho Mo p e s m args below meth c hC h1 h2)
theorem r_pop {v : AV} (hd : decode cc pc = .ok (.pop, 1)) (hv : v.1 ≠ 1) (k : AW g sd own cc nL ret d nS nE nf (pc + 1) ls (sk) n M (o)) : AW g sd own cc nL ret d nS nE nf pc ls (v :: sk) n M (o) := fun r M' ho Mo p e s m args below meth c hC h1 h2 => b_pop hC hd hv (k r M' ho Mo p e s m args below meth c hC h1 h2)
theorem r_goto {off : Int} {tgt : Nat} (hd : decode cc pc = .ok (.goto off, 3)) (ht : (pc : Int) + off = (tgt : Int)) (k : AW g sd own cc nL ret d nS nE nf tgt ls (sk) n M (o)) : AW g sd own cc nL ret d nS nE nf pc ls (sk) n M (o) := fun r M' ho Mo p e s m args below meth c hC h1 h2 => b_goto hC hd ht (k r M' ho Mo p e s m args below meth c hC h1 h2)
theorem r_sub (is : List Nat) (hl' : is.filterMap (fun i => ls[i]?) = ls') (k : AW g sd own cc nL ret d nS nE nf pc ls' (sk) n M (o)) : AW g sd own cc nL ret d nS nE nf pc ls (sk) n M (o) := fun r M' ho Mo p e s m args below meth c hC h1 h2 => b_sub hC is hl' (k r M' ho Mo p e s m args below meth c hC h1 h2)
theorem r_icmp_eq {x y off : Int} {tgt : Nat} {o1 o2 : Res} [Decidable (x = y)] (hd : decode cc pc = .ok (.if_icmp .eq off, 3)) (ht : (pc : Int) + off = (tgt : Int)) (k1 : x = y → AW g sd own cc nL ret d nS nE nf tgt ls (sk) n M (o1)) (k2 : ¬ (x = y) → AW g sd own cc nL ret d nS nE nf (pc + 3) ls (sk) n M (o2)) : AW g sd own cc nL ret d nS nE nf pc ls ((0, y) :: (0, x) :: sk) n M (if x = y then o1 else o2) := by
  intro r M' ho Mo p e s m args below meth c hC h1 h2
  by_cases h : x = y
  · rw [if_pos h] at ho
    exact b_icmp_eq hC hd ht (fun _ => k1 h r M' ho Mo p e s m args below meth c hC h1 h2) (fun q => absurd h q)
  · rw [if_neg h] at ho
    exact b_icmp_eq hC hd ht (fun q => absurd q h) (fun _ => k2 h r M' ho Mo p e s m args below meth c hC h1 h2)
theorem r_icmp_ne {x y off : Int} {tgt : Nat} {o1 o2 : Res} [Decidable (x = y)] (hd : decode cc pc = .ok (.if_icmp .ne off, 3)) (ht : (pc : Int) + off = (tgt : Int)) (k1 : x = y → AW g sd own cc nL ret d nS nE nf (pc + 3) ls (sk) n M (o1)) (k2 : ¬ (x = y) → AW g sd own cc nL ret d nS nE nf tgt ls (sk) n M (o2)) : AW g sd own cc nL ret d nS nE nf pc ls ((0, y) :: (0, x) :: sk) n M (if x = y then o1 else o2) := by
  intro r M' ho Mo p e s m args below meth c hC h1 h2
  by_cases h : x = y
  · rw [if_pos h] at ho
    exact b_icmp_ne hC hd ht (fun q => absurd h q) (fun _ => k1 h r M' ho Mo p e s m args below meth c hC h1 h2)
  · rw [if_neg h] at ho
    exact b_icmp_ne hC hd ht (fun _ => k2 h r M' ho Mo p e s m args below meth c hC h1 h2) (fun q => absurd h q)
theorem r_icmp_lt {x y off : Int} {tgt : Nat} {o1 o2 : Res} [Decidable (x < y)] (hd : decode cc pc = .ok (.if_icmp .lt off, 3)) (ht : (pc : Int) + off = (tgt : Int)) (k1 : x < y → AW g sd own cc nL ret d nS nE nf tgt ls (sk) n M (o1)) (k2 : ¬ (x < y) → AW g sd own cc nL ret d nS nE nf (pc + 3) ls (sk) n M (o2)) : AW g sd own cc nL ret d nS nE nf pc ls ((0, y) :: (0, x) :: sk) n M (if x < y then o1 else o2) := by
  intro r M' ho Mo p e s m args below meth c hC h1 h2
  by_cases h : x < y
  · rw [if_pos h] at ho
    exact b_icmp_lt hC hd ht (fun _ => k1 h r M' ho Mo p e s m args below meth c hC h1 h2) (fun q => absurd h q)
  · rw [if_neg h] at ho
    exact b_icmp_lt hC hd ht (fun q => absurd q h) (fun _ => k2 h r M' ho Mo p e s m args below meth c hC h1 h2)
theorem r_icmp_ge {x y off : Int} {tgt : Nat} {o1 o2 : Res} [Decidable (y ≤ x)] (hd : decode cc pc = .ok (.if_icmp .ge off, 3)) (ht : (pc : Int) + off = (tgt : Int)) (k1 : y ≤ x → AW g sd own cc nL ret d nS nE nf tgt ls (sk) n M (o1)) (k2 : ¬ (y ≤ x) → AW g sd own cc nL ret d nS nE nf (pc + 3) ls (sk) n M (o2)) : AW g sd own cc nL ret d nS nE nf pc ls ((0, y) :: (0, x) :: sk) n M (if y ≤ x then o1 else o2) := by
  intro r M' ho Mo p e s m args below meth c hC h1 h2
  by_cases h : y ≤ x
  · rw [if_pos h] at ho
    exact b_icmp_ge hC hd ht (fun _ => k1 h r M' ho Mo p e s m args below meth c hC h1 h2) (fun q => absurd h q)
  · rw [if_neg h] at ho
    exact b_icmp_ge hC hd ht (fun q => absurd q h) (fun _ => k2 h r M' ho Mo p e s m args below meth c hC h1 h2)
theorem r_icmp_gt {x y off : Int} {tgt : Nat} {o1 o2 : Res} [Decidable (y < x)] (hd : decode cc pc = .ok (.if_icmp .gt off, 3)) (ht : (pc : Int) + off = (tgt : Int)) (k1 : y < x → AW g sd own cc nL ret d nS nE nf tgt ls (sk) n M (o1)) (k2 : ¬ (y < x) → AW g sd own cc nL ret d nS nE nf (pc + 3) ls (sk) n M (o2)) : AW g sd own cc nL ret d nS nE nf pc ls ((0, y) :: (0, x) :: sk) n M (if y < x then o1 else o2) := by
  intro r M' ho Mo p e s m args below meth c hC h1 h2
  by_cases h : y < x
  · rw [if_pos h] at ho
    exact b_icmp_gt hC hd ht (fun _ => k1 h r M' ho Mo p e s m args below meth c hC h1 h2) (fun q => absurd h q)
  · rw [if_neg h] at ho
    exact b_icmp_gt hC hd ht (fun q => absurd q h) (fun _ => k2 h r M' ho Mo p e s m args below meth c hC h1 h2)
theorem r_icmp_le {x y off : Int} {tgt : Nat} {o1 o2 : Res} [Decidable (x ≤ y)] (hd : decode cc pc = .ok (.if_icmp .le off, 3)) (ht : (pc : Int) + off = (tgt : Int)) (k1 : x ≤ y → AW g sd own cc nL ret d nS nE nf tgt ls (sk) n M (o1)) (k2 : ¬ (x ≤ y) → AW g sd own cc nL ret d nS nE nf (pc + 3) ls (sk) n M (o2)) : AW g sd own cc nL ret d nS nE nf pc ls ((0, y) :: (0, x) :: sk) n M (if x ≤ y then o1 else o2) := by
  intro r M' ho Mo p e s m args below meth c hC h1 h2
  by_cases h : x ≤ y
  · rw [if_pos h] at ho
    exact b_icmp_le hC hd ht (fun _ => k1 h r M' ho Mo p e s m args below meth c hC h1 h2) (fun q => absurd h q)
  · rw [if_neg h] at ho
    exact b_icmp_le hC hd ht (fun q => absurd q h) (fun _ => k2 h r M' ho Mo p e s m args below meth c hC h1 h2)
theorem r_if_eq {x off : Int} {tgt : Nat} {o1 o2 : Res} [Decidable (x = 0)] (hd : decode cc pc = .ok (.ifCond .eq off, 3)) (ht : (pc : Int) + off = (tgt : Int)) (k1 : x = 0 → AW g sd own cc nL ret d nS nE nf tgt ls (sk) n M (o1)) (k2 : ¬ (x = 0) → AW g sd own cc nL ret d nS nE nf (pc + 3) ls (sk) n M (o2)) : AW g sd own cc nL ret d nS nE nf pc ls ((0, x) :: sk) n M (if x = 0 then o1 else o2) := by
  intro r M' ho Mo p e s m args below meth c hC h1 h2
  by_cases h : x = 0
  · rw [if_pos h] at ho
    exact b_if_eq hC hd ht (fun _ => k1 h r M' ho Mo p e s m args below meth c hC h1 h2) (fun q => absurd h q)
  · rw [if_neg h] at ho
    exact b_if_eq hC hd ht (fun q => absurd q h) (fun _ => k2 h r M' ho Mo p e s m args below meth c hC h1 h2)
theorem r_if_ne {x off : Int} {tgt : Nat} {o1 o2 : Res} [Decidable (x = 0)] (hd : decode cc pc = .ok (.ifCond .ne off, 3)) (ht : (pc : Int) + off = (tgt : Int)) (k1 : x = 0 → AW g sd own cc nL ret d nS nE nf (pc + 3) ls (sk) n M (o1)) (k2 : ¬ (x = 0) → AW g sd own cc nL ret d nS nE nf tgt ls (sk) n M (o2)) : AW g sd own cc nL ret d nS nE nf pc ls ((0, x) :: sk) n M (if x = 0 then o1 else o2) := by
  intro r M' ho Mo p e s m args below meth c hC h1 h2
  by_cases h : x = 0
  · rw [if_pos h] at ho
    exact b_if_ne hC hd ht (fun q => absurd h q) (fun _ => k1 h r M' ho Mo p e s m args below meth c hC h1 h2)
  · rw [if_neg h] at ho
    exact b_if_ne hC hd ht (fun _ => k2 h r M' ho Mo p e s m args below meth c hC h1 h2) (fun q => absurd h q)
theorem r_if_lt {x off : Int} {tgt : Nat} {o1 o2 : Res} [Decidable (x < 0)] (hd : decode cc pc = .ok (.ifCond .lt off, 3)) (ht : (pc : Int) + off = (tgt : Int)) (k1 : x < 0 → AW g sd own cc nL ret d nS nE nf tgt ls (sk) n M (o1)) (k2 : ¬ (x < 0) → AW g sd own cc nL ret d nS nE nf (pc + 3) ls (sk) n M (o2)) : AW g sd own cc nL ret d nS nE nf pc ls ((0, x) :: sk) n M (if x < 0 then o1 else o2) := by
  intro r M' ho Mo p e s m args below meth c hC h1 h2
  by_cases h : x < 0
  · rw [if_pos h] at ho
    exact b_if_lt hC hd ht (fun _ => k1 h r M' ho Mo p e s m args below meth c hC h1 h2) (fun q => absurd h q)
  · rw [if_neg h] at ho
    exact b_if_lt hC hd ht (fun q => absurd q h) (fun _ => k2 h r M' ho Mo p e s m args below meth c hC h1 h2)
theorem r_if_ge {x off : Int} {tgt : Nat} {o1 o2 : Res} [Decidable (0 ≤ x)] (hd : decode cc pc = .ok (.ifCond .ge off, 3)) (ht : (pc : Int) + off = (tgt : Int)) (k1 : 0 ≤ x → AW g sd own cc nL ret d nS nE nf tgt ls (sk) n M (o1)) (k2 : ¬ (0 ≤ x) → AW g sd own cc nL ret d nS nE nf (pc + 3) ls (sk) n M (o2)) : AW g sd own cc nL ret d nS nE nf pc ls ((0, x) :: sk) n M (if 0 ≤ x then o1 else o2) := by
  intro r M' ho Mo p e s m args below meth c hC h1 h2
  by_cases h : 0 ≤ x
  · rw [if_pos h] at ho
    exact b_if_ge hC hd ht (fun _ => k1 h r M' ho Mo p e s m args below meth c hC h1 h2) (fun q => absurd h q)
  · rw [if_neg h] at ho
    exact b_if_ge hC hd ht (fun q => absurd q h) (fun _ => k2 h r M' ho Mo p e s m args below meth c hC h1 h2)
theorem r_if_gt {x off : Int} {tgt : Nat} {o1 o2 : Res} [Decidable (0 < x)] (hd : decode cc pc = .ok (.ifCond .gt off, 3)) (ht : (pc : Int) + off = (tgt : Int)) (k1 : 0 < x → AW g sd own cc nL ret d nS nE nf tgt ls (sk) n M (o1)) (k2 : ¬ (0 < x) → AW g sd own cc nL ret d nS nE nf (pc + 3) ls (sk) n M (o2)) : AW g sd own cc nL ret d nS nE nf pc ls ((0, x) :: sk) n M (if 0 < x then o1 else o2) := by
  intro r M' ho Mo p e s m args below meth c hC h1 h2
  by_cases h : 0 < x
  · rw [if_pos h] at ho
    exact b_if_gt hC hd ht (fun _ => k1 h r M' ho Mo p e s m args below meth c hC h1 h2) (fun q => absurd h q)
  · rw [if_neg h] at ho
    exact b_if_gt hC hd ht (fun q => absurd q h) (fun _ => k2 h r M' ho Mo p e s m args below meth c hC h1 h2)
theorem r_if_le {x off : Int} {tgt : Nat} {o1 o2 : Res} [Decidable (x ≤ 0)] (hd : decode cc pc = .ok (.ifCond .le off, 3)) (ht : (pc : Int) + off = (tgt : Int)) (k1 : x ≤ 0 → AW g sd own cc nL ret d nS nE nf tgt ls (sk) n M (o1)) (k2 : ¬ (x ≤ 0) → AW g sd own cc nL ret d nS nE nf (pc + 3) ls (sk) n M (o2)) : AW g sd own cc nL ret d nS nE nf pc ls ((0, x) :: sk) n M (if x ≤ 0 then o1 else o2) := by
  intro r M' ho Mo p e s m args below meth c hC h1 h2
  by_cases h : x ≤ 0
  · rw [if_pos h] at ho
    exact b_if_le hC hd ht (fun _ => k1 h r M' ho Mo p e s m args below meth c hC h1 h2) (fun q => absurd h q)
  · rw [if_neg h] at ho
    exact b_if_le hC hd ht (fun q => absurd q h) (fun _ => k2 h r M' ho Mo p e s m args below meth c hC h1 h2)
theorem cmpI_eq (x y : Int) : (cmpI x y = 0) ↔ (x = y) := by unfold cmpI; split <;> (try split) <;> constructor <;> intro h <;> omega
theorem r_lif_eq {x y off : Int} {tgt : Nat} {o1 o2 : Res} [Decidable (x = y)] (hd0 : decode cc pc = .ok (.lcmp, 1)) (hd : decode cc (pc + 1) = .ok (.ifCond .eq off, 3)) (ht : ((pc + 1 : Nat) : Int) + off = (tgt : Int)) (k1 : x = y → AW g sd own cc nL ret d nS nE nf tgt ls (sk) n M (o1)) (k2 : ¬ (x = y) → AW g sd own cc nL ret d nS nE nf (pc + 4) ls (sk) n M (o2)) : AW g sd own cc nL ret d nS nE nf pc ls ((1, y) :: (1, x) :: sk) n M (if x = y then o1 else o2) := by
  refine r_lcmp hd0 ?_
  by_cases h : x = y
  · rw [if_pos h]
    have e := r_if_eq (o1 := o1) (o2 := none) hd ht (fun _ => k1 h) (fun q => absurd ((cmpI_eq x y).mpr h) q)
    rw [if_pos ((cmpI_eq x y).mpr h)] at e
    exact e
  · rw [if_neg h]
    have e := r_if_eq (o1 := none) (o2 := o2) hd ht (fun q => absurd ((cmpI_eq x y).mp q) h) (fun _ => k2 h)
    rw [if_neg (fun q => h ((cmpI_eq x y).mp q))] at e
    exact e
theorem cmpI_ne (x y : Int) : (cmpI x y = 0) ↔ (x = y) := by unfold cmpI; split <;> (try split) <;> constructor <;> intro h <;> omega
theorem r_lif_ne {x y off : Int} {tgt : Nat} {o1 o2 : Res} [Decidable (x = y)] (hd0 : decode cc pc = .ok (.lcmp, 1)) (hd : decode cc (pc + 1) = .ok (.ifCond .ne off, 3)) (ht : ((pc + 1 : Nat) : Int) + off = (tgt : Int)) (k1 : x = y → AW g sd own cc nL ret d nS nE nf (pc + 4) ls (sk) n M (o1)) (k2 : ¬ (x = y) → AW g sd own cc nL ret d nS nE nf tgt ls (sk) n M (o2)) : AW g sd own cc nL ret d nS nE nf pc ls ((1, y) :: (1, x) :: sk) n M (if x = y then o1 else o2) := by
  refine r_lcmp hd0 ?_
  by_cases h : x = y
  · rw [if_pos h]
    have e := r_if_ne (o1 := o1) (o2 := none) hd ht (fun _ => k1 h) (fun q => absurd ((cmpI_ne x y).mpr h) q)
    rw [if_pos ((cmpI_ne x y).mpr h)] at e
    exact e
  · rw [if_neg h]
    have e := r_if_ne (o1 := none) (o2 := o2) hd ht (fun q => absurd ((cmpI_ne x y).mp q) h) (fun _ => k2 h)
    rw [if_neg (fun q => h ((cmpI_ne x y).mp q))] at e
    exact e
theorem cmpI_lt (x y : Int) : (cmpI x y < 0) ↔ (x < y) := by unfold cmpI; split <;> (try split) <;> constructor <;> intro h <;> omega
theorem r_lif_lt {x y off : Int} {tgt : Nat} {o1 o2 : Res} [Decidable (x < y)] (hd0 : decode cc pc = .ok (.lcmp, 1)) (hd : decode cc (pc + 1) = .ok (.ifCond .lt off, 3)) (ht : ((pc + 1 : Nat) : Int) + off = (tgt : Int)) (k1 : x < y → AW g sd own cc nL ret d nS nE nf tgt ls (sk) n M (o1)) (k2 : ¬ (x < y) → AW g sd own cc nL ret d nS nE nf (pc + 4) ls (sk) n M (o2)) : AW g sd own cc nL ret d nS nE nf pc ls ((1, y) :: (1, x) :: sk) n M (if x < y then o1 else o2) := by
  refine r_lcmp hd0 ?_
  by_cases h : x < y
  · rw [if_pos h]
    have e := r_if_lt (o1 := o1) (o2 := none) hd ht (fun _ => k1 h) (fun q => absurd ((cmpI_lt x y).mpr h) q)
    rw [if_pos ((cmpI_lt x y).mpr h)] at e
    exact e
  · rw [if_neg h]
    have e := r_if_lt (o1 := none) (o2 := o2) hd ht (fun q => absurd ((cmpI_lt x y).mp q) h) (fun _ => k2 h)
    rw [if_neg (fun q => h ((cmpI_lt x y).mp q))] at e
    exact e
theorem cmpI_ge (x y : Int) : (0 ≤ cmpI x y) ↔ (y ≤ x) := by unfold cmpI; split <;> (try split) <;> constructor <;> intro h <;> omega
theorem r_lif_ge {x y off : Int} {tgt : Nat} {o1 o2 : Res} [Decidable (y ≤ x)] (hd0 : decode cc pc = .ok (.lcmp, 1)) (hd : decode cc (pc + 1) = .ok (.ifCond .ge off, 3)) (ht : ((pc + 1 : Nat) : Int) + off = (tgt : Int)) (k1 : y ≤ x → AW g sd own cc nL ret d nS nE nf tgt ls (sk) n M (o1)) (k2 : ¬ (y ≤ x) → AW g sd own cc nL ret d nS nE nf (pc + 4) ls (sk) n M (o2)) : AW g sd own cc nL ret d nS nE nf pc ls ((1, y) :: (1, x) :: sk) n M (if y ≤ x then o1 else o2) := by
  refine r_lcmp hd0 ?_
  by_cases h : y ≤ x
  · rw [if_pos h]
    have e := r_if_ge (o1 := o1) (o2 := none) hd ht (fun _ => k1 h) (fun q => absurd ((cmpI_ge x y).mpr h) q)
    rw [if_pos ((cmpI_ge x y).mpr h)] at e
    exact e
  · rw [if_neg h]
    have e := r_if_ge (o1 := none) (o2 := o2) hd ht (fun q => absurd ((cmpI_ge x y).mp q) h) (fun _ => k2 h)
    rw [if_neg (fun q => h ((cmpI_ge x y).mp q))] at e
    exact e
theorem cmpI_gt (x y : Int) : (0 < cmpI x y) ↔ (y < x) := by unfold cmpI; split <;> (try split) <;> constructor <;> intro h <;> omega
theorem r_lif_gt {x y off : Int} {tgt : Nat} {o1 o2 : Res} [Decidable (y < x)] (hd0 : decode cc pc = .ok (.lcmp, 1)) (hd : decode cc (pc + 1) = .ok (.ifCond .gt off, 3)) (ht : ((pc + 1 : Nat) : Int) + off = (tgt : Int)) (k1 : y < x → AW g sd own cc nL ret d nS nE nf tgt ls (sk) n M (o1)) (k2 : ¬ (y < x) → AW g sd own cc nL ret d nS nE nf (pc + 4) ls (sk) n M (o2)) : AW g sd own cc nL ret d nS nE nf pc ls ((1, y) :: (1, x) :: sk) n M (if y < x then o1 else o2) := by
  refine r_lcmp hd0 ?_
  by_cases h : y < x
  · rw [if_pos h]
    have e := r_if_gt (o1 := o1) (o2 := none) hd ht (fun _ => k1 h) (fun q => absurd ((cmpI_gt x y).mpr h) q)
    rw [if_pos ((cmpI_gt x y).mpr h)] at e
    exact e
  · rw [if_neg h]
    have e := r_if_gt (o1 := none) (o2 := o2) hd ht (fun q => absurd ((cmpI_gt x y).mp q) h) (fun _ => k2 h)
    rw [if_neg (fun q => h ((cmpI_gt x y).mp q))] at e
    exact e
theorem cmpI_le (x y : Int) : (cmpI x y ≤ 0) ↔ (x ≤ y) := by unfold cmpI; split <;> (try split) <;> constructor <;> intro h <;> omega
theorem r_lif_le {x y off : Int} {tgt : Nat} {o1 o2 : Res} [Decidable (x ≤ y)] (hd0 : decode cc pc = .ok (.lcmp, 1)) (hd : decode cc (pc + 1) = .ok (.ifCond .le off, 3)) (ht : ((pc + 1 : Nat) : Int) + off = (tgt : Int)) (k1 : x ≤ y → AW g sd own cc nL ret d nS nE nf tgt ls (sk) n M (o1)) (k2 : ¬ (x ≤ y) → AW g sd own cc nL ret d nS nE nf (pc + 4) ls (sk) n M (o2)) : AW g sd own cc nL ret d nS nE nf pc ls ((1, y) :: (1, x) :: sk) n M (if x ≤ y then o1 else o2) := by
  refine r_lcmp hd0 ?_
  by_cases h : x ≤ y
  · rw [if_pos h]
    have e := r_if_le (o1 := o1) (o2 := none) hd ht (fun _ => k1 h) (fun q => absurd ((cmpI_le x y).mpr h) q)
    rw [if_pos ((cmpI_le x y).mpr h)] at e
    exact e
  · rw [if_neg h]
    have e := r_if_le (o1 := none) (o2 := o2) hd ht (fun q => absurd ((cmpI_le x y).mp q) h) (fun _ => k2 h)
    rw [if_neg (fun q => h ((cmpI_le x y).mp q))] at e
    exact e
theorem r_ifnull {x off : Int} {tgt : Nat} {o1 o2 : Res} [Decidable (x = 0)] (hd : decode cc pc = .ok (.ifnull off, 3)) (ht : (pc : Int) + off = (tgt : Int)) (k1 : x = 0 → AW g sd own cc nL ret d nS nE nf tgt ls (sk) n M (o1)) (k2 : ¬ (x = 0) → AW g sd own cc nL ret d nS nE nf (pc + 3) ls (sk) n M (o2)) : AW g sd own cc nL ret d nS nE nf pc ls ((2, x) :: sk) n M (if x = 0 then o1 else o2) := by
  intro r M' ho Mo p e s m args below meth c hC h1 h2
  by_cases h : x = 0
  · rw [if_pos h] at ho
    exact b_ifnull hC hd ht (fun _ => k1 h r M' ho Mo p e s m args below meth c hC h1 h2) (fun q => absurd h q)
  · rw [if_neg h] at ho
    exact b_ifnull hC hd ht (fun q => absurd q h) (fun _ => k2 h r M' ho Mo p e s m args below meth c hC h1 h2)
theorem r_ifnonnull {x off : Int} {tgt : Nat} {o1 o2 : Res} [Decidable (x = 0)] (hd : decode cc pc = .ok (.ifnonnull off, 3)) (ht : (pc : Int) + off = (tgt : Int)) (k1 : x = 0 → AW g sd own cc nL ret d nS nE nf (pc + 3) ls (sk) n M (o1)) (k2 : ¬ (x = 0) → AW g sd own cc nL ret d nS nE nf tgt ls (sk) n M (o2)) : AW g sd own cc nL ret d nS nE nf pc ls ((2, x) :: sk) n M (if x = 0 then o1 else o2) := by
  intro r M' ho Mo p e s m args below meth c hC h1 h2
  by_cases h : x = 0
  · rw [if_pos h] at ho
    exact b_ifnonnull hC hd ht (fun q => absurd h q) (fun _ => k1 h r M' ho Mo p e s m args below meth c hC h1 h2)
  · rw [if_neg h] at ho
    exact b_ifnonnull hC hd ht (fun _ => k2 h r M' ho Mo p e s m args below meth c hC h1 h2) (fun q => absurd h q)
theorem r_tsw {x dflt lo hi off : Int} {offs : Array Int} {len tgt : Nat} {o1 o2 : Res} (v : Int) [Decidable (x = v)] (hd : decode cc pc = .ok (.tableswitch dflt lo hi offs, len)) (h1 : lo ≤ v ∧ v ≤ hi) (hoff : offs[(v - lo).toNat]? = some off) (ht : (pc : Int) + off = (tgt : Int)) (k1 : x = v → AW g sd own cc nL ret d nS nE nf tgt ls (sk) n M (o1)) (k2 : ¬ (x = v) → AW g sd own cc nL ret d nS nE nf pc ls ((0, x) :: sk) n M (o2)) : AW g sd own cc nL ret d nS nE nf pc ls ((0, x) :: sk) n M (if x = v then o1 else o2) := by
  by_cases h : x = v
  · rw [if_pos h]
    exact fun r M' ho Mo p e s m args below meth c hC h3 h2 => b_tsw hC hd v h h1 hoff ht (k1 h r M' ho Mo p e s m args below meth c hC h3 h2)
  · rw [if_neg h]
    exact k2 h
theorem r_tswd {x dflt lo hi : Int} {offs : Array Int} {len tgt : Nat} (hd : decode cc pc = .ok (.tableswitch dflt lo hi offs, len)) (h : x < lo ∨ hi < x) (ht : (pc : Int) + dflt = (tgt : Int)) (k : AW g sd own cc nL ret d nS nE nf tgt ls (sk) n M (o)) : AW g sd own cc nL ret d nS nE nf pc ls ((0, x) :: sk) n M (o) := fun r M' ho Mo p e s m args below meth c hC h1 h2 => b_tsw_d hC hd h ht (k r M' ho Mo p e s m args below meth c hC h1 h2)
theorem r_lsw {x dflt off : Int} {ps : Array (Int × Int)} {len tgt : Nat} {o1 o2 : Res} (v : Int) [Decidable (x = v)] (hd : decode cc pc = .ok (.lookupswitch dflt ps, len)) (hp : (ps.toList.zip (ps.toList.drop 1)).all (fun (a, next) => a.1 < next.1) = true) (hoff : Op.lookupswitch.offset ps.toList dflt v = off) (ht : (pc : Int) + off = (tgt : Int)) (k1 : x = v → AW g sd own cc nL ret d nS nE nf tgt ls (sk) n M (o1)) (k2 : ¬ (x = v) → AW g sd own cc nL ret d nS nE nf pc ls ((0, x) :: sk) n M (o2)) : AW g sd own cc nL ret d nS nE nf pc ls ((0, x) :: sk) n M (if x = v then o1 else o2) := by
  by_cases h : x = v
  · rw [if_pos h]
    subst h
    exact fun r M' ho Mo p e s m args below meth c hC h1 h2 => b_lsw hC hd hp hoff ht (k1 rfl r M' ho Mo p e s m args below meth c hC h1 h2)
  · rw [if_neg h]
    exact k2 h
theorem r_lswd {x dflt off : Int} {ps : Array (Int × Int)} {len tgt : Nat} (hd : decode cc pc = .ok (.lookupswitch dflt ps, len)) (hp : (ps.toList.zip (ps.toList.drop 1)).all (fun (a, next) => a.1 < next.1) = true) (hoff : Op.lookupswitch.offset ps.toList dflt x = off) (ht : (pc : Int) + off = (tgt : Int)) (k : AW g sd own cc nL ret d nS nE nf tgt ls (sk) n M (o)) : AW g sd own cc nL ret d nS nE nf pc ls ((0, x) :: sk) n M (o) := fun r M' ho Mo p e s m args below meth c hC h1 h2 => b_lsw hC hd hp hoff ht (k r M' ho Mo p e s m args below meth c hC h1 h2)
theorem r_ok {cnd : Prop} [Decidable cnd] (k : cnd → AW g sd own cc nL ret d nS nE nf pc ls (sk) n M (o)) : AW g sd own cc nL ret d nS nE nf pc ls (sk) n M (ok cnd o) := by
  by_cases h : cnd
  · show AW g sd own cc nL ret d nS nE nf pc ls (sk) n M (if cnd then o else none)
    rw [if_pos h]; exact k h
  · show AW g sd own cc nL ret d nS nE nf pc ls (sk) n M (if cnd then o else none)
    rw [if_neg h]; exact aw_none
theorem r_gf {i dk ci k : Nat} {a kz : Int} {t : Nat} (hkz : (k : Int) = kz) (hu : Up sd nf n) (hd : decode cc pc = .ok (.getfield i, 3)) (hlk : LkF own i ci k) (hk : kd a = dk) (hci : dk % 50 = 10 + ci) (hs : decide (dk < 50) = sd) (ht : ft ci k = t) (kk : AW g sd own cc nL ret d nS nE nf (pc + 3) ls ((t, M a kz) :: sk) n M (o)) : AW g sd own cc nL ret d nS nE nf pc ls ((2, a) :: sk) n M (o) := by
  subst ht
  subst hkz
  intro r M' ho Mo p e s m args below meth c hC h1 h2
  refine b_gf hC hd hlk hk hci (le_top hu hk (by omega) hs).2 ?_
  rw [mix_own hk (by omega) hs]
  exact kk r M' ho Mo p e s m args below meth c hC h1 h2
theorem r_gx {i dk ci k : Nat} {a v kz : Int} (hkz : (k : Int) = kz) (hu : Up sd nf n) (hd : decode cc pc = .ok (.getfield i, 3)) (hlk : LkF own i ci k) (hk : kd a = dk) (hci : dk % 50 = 10 + ci) (hs : decide (dk < 50) = sd) (ht : ft ci k = 2) (hx : ((a, kz, v) : Int × Int × Int) ∈ fxl) (kk : AW g sd own cc nL ret d nS nE nf (pc + 3) ls ((2, v) :: sk) n M (o)) : AW g sd own cc nL ret d nS nE nf pc ls ((2, a) :: sk) n M (o) := fun r M' ho Mo p e s m args below meth c hC h1 h2 => b_gx hC hd hlk hk hci ht (le_top hu hk (by omega) hs).2 (le_top hu hk (by omega) hs).1 (hkz.symm ▸ hx) (kk r M' ho Mo p e s m args below meth c hC h1 h2)
theorem r_pf {i dk ci k : Nat} {a x kz : Int} {t : Nat} {K : Mem → Res} (hkz : (k : Int) = kz) (hu : Up sd nf n) (hd : decode cc pc = .ok (.putfield i, 3)) (hlk : LkF own i ci k) (hk : kd a = dk) (hci : dk % 50 = 10 + ci) (hs : decide (dk < 50) = sd) (ht : ft ci k = t) (hz : fb ci k = 1 → x = 0 ∨ x = 1) (hfx : fxk dk kz = false) (hfin : ∀ C T N, vwCl[ci]? = some (C, T, N) → (T k).2.2.2 = false) (kk : ∀ M1, M1 = st M a kz x → AW g sd own cc nL ret d nS nE nf (pc + 3) ls (sk) n M1 (K M1)) : AW g sd own cc nL ret d nS nE nf pc ls ((t, x) :: (2, a) :: sk) n M (bm (st M a kz x) K) := by
  subst hkz
  intro r M' ho Mo p e s m args below meth c hC h1 h2
  refine b_pf hC hd hlk hk hci (le_top hu hk (by omega) hs).2 ht hz (Or.inl hfx) (fun C T N h => Or.inl (hfin C T N h)) ?_
  rw [mix_st hk (by omega) hs]
  exact kk _ rfl r M' ho Mo p e s m args below meth c hC h1 h2
theorem r_iald {dk b : Nat} {a i : Int} {N : Int} (hu : Up sd nf n) (hd : decode cc pc = .ok (.iaload, 1)) (hk : kd a = dk) (hdb : dk % 50 = b) (hb : b = 1 ∨ b = 8) (hs : decide (dk < 50) = sd) (hN : ln a = N) (hi : 0 ≤ i ∧ i < N) (kk : AW g sd own cc nL ret d nS nE nf (pc + 1) ls ((0, M a i) :: sk) n M (o)) : AW g sd own cc nL ret d nS nE nf pc ls ((0, i) :: (2, a) :: sk) n M (o) := by
  subst hN
  intro r M' ho Mo p e s m args below meth c hC h1 h2
  refine b_iald hC hd hk hdb hb (le_top hu hk (by omega) hs).2 hi ?_
  rw [mix_own hk (by omega) hs]
  exact kk r M' ho Mo p e s m args below meth c hC h1 h2
theorem r_iast {dk b : Nat} {a i x : Int} {N : Int} {K : Mem → Res} (hu : Up sd nf n) (hd : decode cc pc = .ok (.iastore, 1)) (hk : kd a = dk) (hdb : dk % 50 = b) (hb : b = 1 ∨ b = 8) (hs : decide (dk < 50) = sd) (hN : ln a = N) (hi : 0 ≤ i ∧ i < N) (hfx : fxk dk i = false) (kk : ∀ M1, M1 = st M a i x → AW g sd own cc nL ret d nS nE nf (pc + 1) ls (sk) n M1 (K M1)) : AW g sd own cc nL ret d nS nE nf pc ls ((0, x) :: (0, i) :: (2, a) :: sk) n M (bm (st M a i x) K) := by
  subst hN
  intro r M' ho Mo p e s m args below meth c hC h1 h2
  refine b_iast hC hd hk hdb hb (le_top hu hk (by omega) hs).2 hi (Or.inl hfx) ?_
  rw [mix_st hk (by omega) hs]
  exact kk _ rfl r M' ho Mo p e s m args below meth c hC h1 h2
theorem r_lald {dk b : Nat} {a i : Int} {N : Int} (hu : Up sd nf n) (hd : decode cc pc = .ok (.laload, 1)) (hk : kd a = dk) (hdb : dk % 50 = b) (hb : b = 2) (hs : decide (dk < 50) = sd) (hN : ln a = N) (hi : 0 ≤ i ∧ i < N) (kk : AW g sd own cc nL ret d nS nE nf (pc + 1) ls ((1, M a i) :: sk) n M (o)) : AW g sd own cc nL ret d nS nE nf pc ls ((0, i) :: (2, a) :: sk) n M (o) := by
  subst hN
  intro r M' ho Mo p e s m args below meth c hC h1 h2
  refine b_lald hC hd hk hdb hb (le_top hu hk (by omega) hs).2 hi ?_
  rw [mix_own hk (by omega) hs]
  exact kk r M' ho Mo p e s m args below meth c hC h1 h2
theorem r_last {dk b : Nat} {a i x : Int} {N : Int} {K : Mem → Res} (hu : Up sd nf n) (hd : decode cc pc = .ok (.lastore, 1)) (hk : kd a = dk) (hdb : dk % 50 = b) (hb : b = 2) (hs : decide (dk < 50) = sd) (hN : ln a = N) (hi : 0 ≤ i ∧ i < N) (hfx : fxk dk i = false) (kk : ∀ M1, M1 = st M a i x → AW g sd own cc nL ret d nS nE nf (pc + 1) ls (sk) n M1 (K M1)) : AW g sd own cc nL ret d nS nE nf pc ls ((1, x) :: (0, i) :: (2, a) :: sk) n M (bm (st M a i x) K) := by
  subst hN
  intro r M' ho Mo p e s m args below meth c hC h1 h2
  refine b_last hC hd hk hdb hb (le_top hu hk (by omega) hs).2 hi (Or.inl hfx) ?_
  rw [mix_st hk (by omega) hs]
  exact kk _ rfl r M' ho Mo p e s m args below meth c hC h1 h2
theorem r_zald {dk b : Nat} {a i : Int} {N : Int} (hu : Up sd nf n) (hd : decode cc pc = .ok (.baload, 1)) (hk : kd a = dk) (hdb : dk % 50 = b) (hb : b = 3) (hs : decide (dk < 50) = sd) (hN : ln a = N) (hi : 0 ≤ i ∧ i < N) (kk : AW g sd own cc nL ret d nS nE nf (pc + 1) ls ((0, M a i) :: sk) n M (o)) : AW g sd own cc nL ret d nS nE nf pc ls ((0, i) :: (2, a) :: sk) n M (o) := by
  subst hN
  intro r M' ho Mo p e s m args below meth c hC h1 h2
  refine b_zald hC hd hk hdb hb (le_top hu hk (by omega) hs).2 hi ?_
  rw [mix_own hk (by omega) hs]
  exact kk r M' ho Mo p e s m args below meth c hC h1 h2
theorem r_zast {dk b : Nat} {a i x : Int} {N : Int} {K : Mem → Res} (hu : Up sd nf n) (hd : decode cc pc = .ok (.bastore, 1)) (hk : kd a = dk) (hdb : dk % 50 = b) (hb : b = 3) (hs : decide (dk < 50) = sd) (hN : ln a = N) (hi : 0 ≤ i ∧ i < N) (hz : x = 0 ∨ x = 1) (hfx : fxk dk i = false) (kk : ∀ M1, M1 = st M a i x → AW g sd own cc nL ret d nS nE nf (pc + 1) ls (sk) n M1 (K M1)) : AW g sd own cc nL ret d nS nE nf pc ls ((0, x) :: (0, i) :: (2, a) :: sk) n M (bm (st M a i x) K) := by
  subst hN
  intro r M' ho Mo p e s m args below meth c hC h1 h2
  refine b_zast hC hd hk hdb hb (le_top hu hk (by omega) hs).2 hi hz (Or.inl hfx) ?_
  rw [mix_st hk (by omega) hs]
  exact kk _ rfl r M' ho Mo p e s m args below meth c hC h1 h2
theorem r_cald {dk b : Nat} {a i : Int} {N : Int} (hu : Up sd nf n) (hd : decode cc pc = .ok (.caload, 1)) (hk : kd a = dk) (hdb : dk % 50 = b) (hb : b = 4) (hs : decide (dk < 50) = sd) (hN : ln a = N) (hi : 0 ≤ i ∧ i < N) (kk : AW g sd own cc nL ret d nS nE nf (pc + 1) ls ((0, M a i) :: sk) n M (o)) : AW g sd own cc nL ret d nS nE nf pc ls ((0, i) :: (2, a) :: sk) n M (o) := by
  subst hN
  intro r M' ho Mo p e s m args below meth c hC h1 h2
  refine b_cald hC hd hk hdb hb (le_top hu hk (by omega) hs).2 hi ?_
  rw [mix_own hk (by omega) hs]
  exact kk r M' ho Mo p e s m args below meth c hC h1 h2
theorem r_cast {dk b : Nat} {a i x : Int} {N : Int} {K : Mem → Res} (hu : Up sd nf n) (hd : decode cc pc = .ok (.castore, 1)) (hk : kd a = dk) (hdb : dk % 50 = b) (hb : b = 4) (hs : decide (dk < 50) = sd) (hN : ln a = N) (hi : 0 ≤ i ∧ i < N) (hz : 0 ≤ x ∧ x < 128) (hfx : fxk dk i = false) (kk : ∀ M1, M1 = st M a i x → AW g sd own cc nL ret d nS nE nf (pc + 1) ls (sk) n M1 (K M1)) : AW g sd own cc nL ret d nS nE nf pc ls ((0, x) :: (0, i) :: (2, a) :: sk) n M (bm (st M a i x) K) := by
  subst hN
  intro r M' ho Mo p e s m args below meth c hC h1 h2
  refine b_cast hC hd hk hdb hb (le_top hu hk (by omega) hs).2 hi hz (Or.inl hfx) ?_
  rw [mix_st hk (by omega) hs]
  exact kk _ rfl r M' ho Mo p e s m args below meth c hC h1 h2
theorem r_aald {dk : Nat} {a i N : Int} (hu : Up sd nf n) (hd : decode cc pc = .ok (.aaload, 1)) (hk : kd a = dk) (hb : dk = 5 ∨ dk = 6 ∨ dk = 7) (hs : decide (dk < 50) = sd) (hN : ln a = N) (hi : 0 ≤ i ∧ i < N) (kk : AW g sd own cc nL ret d nS nE nf (pc + 1) ls ((2, M a i) :: sk) n M (o)) : AW g sd own cc nL ret d nS nE nf pc ls ((0, i) :: (2, a) :: sk) n M (o) := by
  subst hN
  intro r M' ho Mo p e s m args below meth c hC h1 h2
  refine b_aald hC hd hk hb (le_top hu hk (by omega) hs).2 hi ?_
  rw [mix_own hk (by omega) hs]
  exact kk r M' ho Mo p e s m args below meth c hC h1 h2
theorem r_aalx {dk : Nat} {a i v N : Int} (hu : Up sd nf n) (hd : decode cc pc = .ok (.aaload, 1)) (hk : kd a = dk) (hb : dk = 5 ∨ dk = 6 ∨ dk = 7) (hs : decide (dk < 50) = sd) (hN : ln a = N) (hi : 0 ≤ i ∧ i < N) (hx : ((a, i, v) : Int × Int × Int) ∈ fxl) (kk : AW g sd own cc nL ret d nS nE nf (pc + 1) ls ((2, v) :: sk) n M (o)) : AW g sd own cc nL ret d nS nE nf pc ls ((0, i) :: (2, a) :: sk) n M (o) := by
  subst hN
  exact fun r M' ho Mo p e s m args below meth c hC h1 h2 => b_aalx hC hd hk hb (le_top hu hk (by omega) hs).2 hi (le_top hu hk (by omega) hs).1 hx (kk r M' ho Mo p e s m args below meth c hC h1 h2)
theorem r_iax {dk b : Nat} {a i v N : Int} (hu : Up sd nf n) (hd : decode cc pc = .ok (.iaload, 1)) (hk : kd a = dk) (hdb : dk % 50 = b) (hb : b = 1 ∨ b = 8) (hs : decide (dk < 50) = sd) (hN : ln a = N) (hi : 0 ≤ i ∧ i < N) (hx : ((a, i, v) : Int × Int × Int) ∈ fxl) (kk : AW g sd own cc nL ret d nS nE nf (pc + 1) ls ((0, v) :: sk) n M (o)) : AW g sd own cc nL ret d nS nE nf pc ls ((0, i) :: (2, a) :: sk) n M (o) := by
  subst hN
  exact fun r M' ho Mo p e s m args below meth c hC h1 h2 => b_iax hC hd hk hdb hb (le_top hu hk (by omega) hs).2 hi (le_top hu hk (by omega) hs).1 hx (kk r M' ho Mo p e s m args below meth c hC h1 h2)
theorem r_cax {dk b : Nat} {a i v N : Int} (hu : Up sd nf n) (hd : decode cc pc = .ok (.caload, 1)) (hk : kd a = dk) (hdb : dk % 50 = b) (hb : b = 4) (hs : decide (dk < 50) = sd) (hN : ln a = N) (hi : 0 ≤ i ∧ i < N) (hx : ((a, i, v) : Int × Int × Int) ∈ fxl) (kk : AW g sd own cc nL ret d nS nE nf (pc + 1) ls ((0, v) :: sk) n M (o)) : AW g sd own cc nL ret d nS nE nf pc ls ((0, i) :: (2, a) :: sk) n M (o) := by
  subst hN
  exact fun r M' ho Mo p e s m args below meth c hC h1 h2 => b_cax hC hd hk hdb hb (le_top hu hk (by omega) hs).2 hi (le_top hu hk (by omega) hs).1 hx (kk r M' ho Mo p e s m args below meth c hC h1 h2)
theorem r_aast {dk ci : Nat} {a i x N : Int} {K : Mem → Res} (hu : Up sd nf n) (hd : decode cc pc = .ok (.aastore, 1)) (hk : kd a = dk) (hb : (dk = 5 ∧ ci = 7) ∨ (dk = 6 ∧ ci = 8) ∨ (dk = 7 ∧ ci = 10)) (hs : decide (dk < 50) = sd) (hN : ln a = N) (hi : 0 ≤ i ∧ i < N) (hx : kd x = 10 + ci) (hfx : fxk dk i = false) (kk : ∀ M1, M1 = st M a i x → AW g sd own cc nL ret d nS nE nf (pc + 1) ls (sk) n M1 (K M1)) : AW g sd own cc nL ret d nS nE nf pc ls ((2, x) :: (0, i) :: (2, a) :: sk) n M (bm (st M a i x) K) := by
  subst hN
  intro r M' ho Mo p e s m args below meth c hC h1 h2
  refine b_aast hC hd hk hb (le_top hu hk (by omega) hs).2 hi hx (le_top hu hx (by omega) (by rw [← hs]; congr 1; apply propext; omega)).2 (Or.inl hfx) ?_
  rw [mix_st hk (by omega) hs]
  exact kk _ rfl r M' ho Mo p e s m args below meth c hC h1 h2
theorem r_alen {dk b : Nat} {a v : Int} (hu : Up sd nf n) (hd : decode cc pc = .ok (.arraylength, 1)) (hk : kd a = dk) (hdb : dk % 50 = b) (hb : b = 1 ∨ b = 2 ∨ b = 3 ∨ b = 4) (hs : decide (dk < 50) = sd) (hv : ln a = v) (hr : 0 ≤ v ∧ v ≤ 100000) (kk : AW g sd own cc nL ret d nS nE nf (pc + 1) ls ((0, v) :: sk) n M (o)) : AW g sd own cc nL ret d nS nE nf pc ls ((2, a) :: sk) n M (o) := fun r M' ho Mo p e s m args below meth c hC h1 h2 => b_alen hC hd hk hdb hb (le_top hu hk (by omega) hs).2 hv hr (kk r M' ho Mo p e s m args below meth c hC h1 h2)
theorem r_inv {y : MethodName} {bytes : ByteArray} {maxL d' np i : Nat} {ret' : Option FieldType} {a : Int} {f0 : Res} {K : Int → Mem → Res} {st0 : List AV} {ty : FieldType} {t : Nat} (hu : Up sd nf n) (hcs : cs nS n ≤ cs nS nE ∧ sl nS n ≤ sl nS nE) (hd : decode cc pc = .ok (.invokevirtual i, 3)) (hlk : LkV own i y bytes maxL ret' np) {ci N : Nat} {T : u_T} (hcl : vwCl[ci]? = some (y.cls, T, N)) {dk : Nat} (hk : kd a = dk) (hci : dk % 50 = 10 + ci) (hs : decide (dk < 50) = sd) (hd' : d' < d) (hmL : maxL ≤ 45) (av : List AV) (hnp : av.length = np) (h0 : st0 = av.reverse ++ (2, a) :: sk) (hw : skw sk ≤ 8) (hret : ret' = some ty) (htg : tagT ty = t) (hM : AM g sd y bytes maxL ret' d' n n nf ((2, a) :: av) M f0) (k : ∀ (r : Int) (M1 : Mem), AW g sd own cc nL ret d nS nE nf (pc + 3) ls ((t, r) :: sk) n M1 (K r M1)) : AW g sd own cc nL ret d nS nE nf pc ls (st0) n M (cl f0 K) := by
  subst hret
  intro r M' ho Mo p e s m args below meth c hC h1 h2
  cases hf : f0 with
  | none => rw [hf] at ho; cases ho
  | some q =>
    obtain ⟨r1, M1⟩ := q
    rw [hf] at ho
    have hkk := k r1 M1 r M' ho Mo p e s m args below meth c hC h1 h2
    refine b_inv (nE := n) (r := r1) (M' := mix sd M1 Mo) hC hd hlk hcl hk hci (le_top hu hk (by omega) hs).2 hnp h0 hw (d' := d') (show d' + 1 ≤ d from hd') (show 8 + (maxL + 11) + 64 * d' ≤ 64 * d by omega) ?_ ?_ (fun hok => hM hok r1 M1 hf Mo) ?_
    · rw [cs_0]; exact hcs.1
    · rw [sl_0]; exact hcs.2
    · rw [cs_0, sl_0]
      subst htg; exact hkk
theorem r_invv {y : MethodName} {bytes : ByteArray} {maxL d' np i : Nat} {ret' : Option FieldType} {a : Int} {f0 : Res} {K : Int → Mem → Res} {st0 : List AV} (hu : Up sd nf n) (hcs : cs nS n ≤ cs nS nE ∧ sl nS n ≤ sl nS nE) (hd : decode cc pc = .ok (.invokevirtual i, 3)) (hlk : LkV own i y bytes maxL ret' np) {ci N : Nat} {T : u_T} (hcl : vwCl[ci]? = some (y.cls, T, N)) {dk : Nat} (hk : kd a = dk) (hci : dk % 50 = 10 + ci) (hs : decide (dk < 50) = sd) (hd' : d' < d) (hmL : maxL ≤ 45) (av : List AV) (hnp : av.length = np) (h0 : st0 = av.reverse ++ (2, a) :: sk) (hw : skw sk ≤ 8) (hret : ret' = none) (hM : AM g sd y bytes maxL ret' d' n n nf ((2, a) :: av) M f0) (k : ∀ (r : Int) (M1 : Mem), AW g sd own cc nL ret d nS nE nf (pc + 3) ls (sk) n M1 (K r M1)) : AW g sd own cc nL ret d nS nE nf pc ls (st0) n M (cl f0 K) := by
  subst hret
  intro r M' ho Mo p e s m args below meth c hC h1 h2
  cases hf : f0 with
  | none => rw [hf] at ho; cases ho
  | some q =>
    obtain ⟨r1, M1⟩ := q
    rw [hf] at ho
    have hkk := k r1 M1 r M' ho Mo p e s m args below meth c hC h1 h2
    refine b_inv (nE := n) (r := r1) (M' := mix sd M1 Mo) hC hd hlk hcl hk hci (le_top hu hk (by omega) hs).2 hnp h0 hw (d' := d') (show d' + 1 ≤ d from hd') (show 8 + (maxL + 11) + 64 * d' ≤ 64 * d by omega) ?_ ?_ (fun hok => hM hok r1 M1 hf Mo) ?_
    · rw [cs_0]; exact hcs.1
    · rw [sl_0]; exact hcs.2
    · rw [cs_0, sl_0]
      exact hkk
theorem r_ins {y : MethodName} {bytes : ByteArray} {maxL d' np i : Nat} {ret' : Option FieldType} {a : Int} {f0 : Res} {K : Int → Mem → Res} {st0 : List AV} {ty : FieldType} {t : Nat} (hcs : cs nS n ≤ cs nS nE ∧ sl nS n ≤ sl nS nE) (hd : decode cc pc = .ok (.invokestatic i, 3)) (hlk : LkS own i y bytes maxL ret' np) (hd' : d' < d) (hmL : maxL ≤ 45) (av : List AV) (hnp : av.length = np) (h0 : st0 = av.reverse ++ sk) (hw : skw sk ≤ 8) (hret : ret' = some ty) (htg : tagT ty = t) (hM : AM g sd y bytes maxL ret' d' n n nf av M f0) (k : ∀ (r : Int) (M1 : Mem), AW g sd own cc nL ret d nS nE nf (pc + 3) ls ((t, r) :: sk) n M1 (K r M1)) : AW g sd own cc nL ret d nS nE nf pc ls (st0) n M (cl f0 K) := by
  subst hret
  intro r M' ho Mo p e s m args below meth c hC h1 h2
  cases hf : f0 with
  | none => rw [hf] at ho; cases ho
  | some q =>
    obtain ⟨r1, M1⟩ := q
    rw [hf] at ho
    have hkk := k r1 M1 r M' ho Mo p e s m args below meth c hC h1 h2
    refine b_ins (nE := n) (r := r1) (M' := mix sd M1 Mo) hC hd hlk hnp h0 hw (d' := d') (show d' + 1 ≤ d from hd') (show 8 + (maxL + 11) + 64 * d' ≤ 64 * d by omega) ?_ ?_ (fun hok => hM hok r1 M1 hf Mo) ?_
    · rw [cs_0]; exact hcs.1
    · rw [sl_0]; exact hcs.2
    · rw [cs_0, sl_0]
      subst htg; exact hkk
theorem r_insv {y : MethodName} {bytes : ByteArray} {maxL d' np i : Nat} {ret' : Option FieldType} {a : Int} {f0 : Res} {K : Int → Mem → Res} {st0 : List AV} (hcs : cs nS n ≤ cs nS nE ∧ sl nS n ≤ sl nS nE) (hd : decode cc pc = .ok (.invokestatic i, 3)) (hlk : LkS own i y bytes maxL ret' np) (hd' : d' < d) (hmL : maxL ≤ 45) (av : List AV) (hnp : av.length = np) (h0 : st0 = av.reverse ++ sk) (hw : skw sk ≤ 8) (hret : ret' = none) (hM : AM g sd y bytes maxL ret' d' n n nf av M f0) (k : ∀ (r : Int) (M1 : Mem), AW g sd own cc nL ret d nS nE nf (pc + 3) ls (sk) n M1 (K r M1)) : AW g sd own cc nL ret d nS nE nf pc ls (st0) n M (cl f0 K) := by
  subst hret
  intro r M' ho Mo p e s m args below meth c hC h1 h2
  cases hf : f0 with
  | none => rw [hf] at ho; cases ho
  | some q =>
    obtain ⟨r1, M1⟩ := q
    rw [hf] at ho
    have hkk := k r1 M1 r M' ho Mo p e s m args below meth c hC h1 h2
    refine b_ins (nE := n) (r := r1) (M' := mix sd M1 Mo) hC hd hlk hnp h0 hw (d' := d') (show d' + 1 ≤ d from hd') (show 8 + (maxL + 11) + 64 * d' ≤ 64 * d by omega) ?_ ?_ (fun hok => hM hok r1 M1 hf Mo) ?_
    · rw [cs_0]; exact hcs.1
    · rw [sl_0]; exact hcs.2
    · rw [cs_0, sl_0]
      exact hkk
theorem r_iret {ty : FieldType} {r : Int} (hE : n = nE) (hret : ret = some ty) (hty : (ty = .int) ∨ (ty = .boolean ∧ (r = 0 ∨ r = 1))) (hd : decode cc pc = .ok (.ireturn, 1)) : AW g sd own cc nL ret d nS nE nf pc ls ([(0, r)]) n M (some (r, M)) := by
  intro r' M' ho Mo p e s m args below meth c hC h1 h2
  cases ho
  subst hE
  subst hret
  exact b_iret hC h1 hty hd
theorem r_lret {r : Int} (hE : n = nE) (hret : ret = some .long) (hd : decode cc pc = .ok (.lreturn, 1)) : AW g sd own cc nL ret d nS nE nf pc ls ([(1, r)]) n M (some (r, M)) := by
  intro r' M' ho Mo p e s m args below meth c hC h1 h2
  cases ho
  subst hE
  subst hret
  exact b_lret hC h1 hd
theorem r_aret {C : String} {r : Int} (hE : n = nE) (hret : ret = some (.object C)) (hd : decode cc pc = .ok (.areturn, 1)) : AW g sd own cc nL ret d nS nE nf pc ls ([(2, r)]) n M (some (r, M)) := by
  intro r' M' ho Mo p e s m args below meth c hC h1 h2
  cases ho
  subst hE
  subst hret
  exact b_aret hC h1 hd
theorem r_vret {r : Int} (hE : n = nE) (hret : ret = none) (hd : decode cc pc = .ok (.return_, 1)) : AW g sd own cc nL ret d nS nE nf pc ls ([]) n M (some (r, M)) := by
  intro r' M' ho Mo p e s m args below meth c hC h1 h2
  cases ho
  subst hE
  subst hret
  exact b_vret hC h1 hd
end AR
def wl0 (b : (Mem → Res) → Mem → Res) : Nat → Mem → Res
  | 0, _ => none
  | f + 1, M => b (wl0 b f) M 
theorem wl0_s (b : (Mem → Res) → Mem → Res) (f : Nat) (M : Mem) : wl0 b (f + 1) M  = b (wl0 b f) M  := rfl
theorem wl0_aw {b : (Mem → Res) → Mem → Res} {P : Mem → Res → Prop} (h0 : ∀ (M : Mem), P M  none) (hb : ∀ w : Mem → Res, (∀ (M : Mem), P M  (w M )) → ∀ (M : Mem), P M  (b w M )) : ∀ (f : Nat) (M : Mem), P M  (wl0 b f M ) := by
  intro f
  induction f with
  | zero => intro M ; exact h0 M 
  | succ f ih => exact hb _ ih
def wl1 (b : (Mem → Int → Res) → Mem → Int → Res) : Nat → Mem → Int → Res
  | 0, _, _ => none
  | f + 1, M, x0 => b (wl1 b f) M x0
theorem wl1_s (b : (Mem → Int → Res) → Mem → Int → Res) (f : Nat) (M : Mem) (x0 : Int) : wl1 b (f + 1) M x0 = b (wl1 b f) M x0 := rfl
theorem wl1_aw {b : (Mem → Int → Res) → Mem → Int → Res} {P : Mem → Int → Res → Prop} (h0 : ∀ (M : Mem) (x0 : Int), P M x0 none) (hb : ∀ w : Mem → Int → Res, (∀ (M : Mem) (x0 : Int), P M x0 (w M x0)) → ∀ (M : Mem) (x0 : Int), P M x0 (b w M x0)) : ∀ (f : Nat) (M : Mem) (x0 : Int), P M x0 (wl1 b f M x0) := by
  intro f
  induction f with
  | zero => intro M x0; exact h0 M x0
  | succ f ih => exact hb _ ih
def wl2 (b : (Mem → Int → Int → Res) → Mem → Int → Int → Res) : Nat → Mem → Int → Int → Res
  | 0, _, _, _ => none
  | f + 1, M, x0, x1 => b (wl2 b f) M x0 x1
theorem wl2_s (b : (Mem → Int → Int → Res) → Mem → Int → Int → Res) (f : Nat) (M : Mem) (x0 x1 : Int) : wl2 b (f + 1) M x0 x1 = b (wl2 b f) M x0 x1 := rfl
theorem wl2_aw {b : (Mem → Int → Int → Res) → Mem → Int → Int → Res} {P : Mem → Int → Int → Res → Prop} (h0 : ∀ (M : Mem) (x0 x1 : Int), P M x0 x1 none) (hb : ∀ w : Mem → Int → Int → Res, (∀ (M : Mem) (x0 x1 : Int), P M x0 x1 (w M x0 x1)) → ∀ (M : Mem) (x0 x1 : Int), P M x0 x1 (b w M x0 x1)) : ∀ (f : Nat) (M : Mem) (x0 x1 : Int), P M x0 x1 (wl2 b f M x0 x1) := by
  intro f
  induction f with
  | zero => intro M x0 x1; exact h0 M x0 x1
  | succ f ih => exact hb _ ih
def wl3 (b : (Mem → Int → Int → Int → Res) → Mem → Int → Int → Int → Res) : Nat → Mem → Int → Int → Int → Res
  | 0, _, _, _, _ => none
  | f + 1, M, x0, x1, x2 => b (wl3 b f) M x0 x1 x2
theorem wl3_s (b : (Mem → Int → Int → Int → Res) → Mem → Int → Int → Int → Res) (f : Nat) (M : Mem) (x0 x1 x2 : Int) : wl3 b (f + 1) M x0 x1 x2 = b (wl3 b f) M x0 x1 x2 := rfl
theorem wl3_aw {b : (Mem → Int → Int → Int → Res) → Mem → Int → Int → Int → Res} {P : Mem → Int → Int → Int → Res → Prop} (h0 : ∀ (M : Mem) (x0 x1 x2 : Int), P M x0 x1 x2 none) (hb : ∀ w : Mem → Int → Int → Int → Res, (∀ (M : Mem) (x0 x1 x2 : Int), P M x0 x1 x2 (w M x0 x1 x2)) → ∀ (M : Mem) (x0 x1 x2 : Int), P M x0 x1 x2 (b w M x0 x1 x2)) : ∀ (f : Nat) (M : Mem) (x0 x1 x2 : Int), P M x0 x1 x2 (wl3 b f M x0 x1 x2) := by
  intro f
  induction f with
  | zero => intro M x0 x1 x2; exact h0 M x0 x1 x2
  | succ f ih => exact hb _ ih
def wl4 (b : (Mem → Int → Int → Int → Int → Res) → Mem → Int → Int → Int → Int → Res) : Nat → Mem → Int → Int → Int → Int → Res
  | 0, _, _, _, _, _ => none
  | f + 1, M, x0, x1, x2, x3 => b (wl4 b f) M x0 x1 x2 x3
theorem wl4_s (b : (Mem → Int → Int → Int → Int → Res) → Mem → Int → Int → Int → Int → Res) (f : Nat) (M : Mem) (x0 x1 x2 x3 : Int) : wl4 b (f + 1) M x0 x1 x2 x3 = b (wl4 b f) M x0 x1 x2 x3 := rfl
theorem wl4_aw {b : (Mem → Int → Int → Int → Int → Res) → Mem → Int → Int → Int → Int → Res} {P : Mem → Int → Int → Int → Int → Res → Prop} (h0 : ∀ (M : Mem) (x0 x1 x2 x3 : Int), P M x0 x1 x2 x3 none) (hb : ∀ w : Mem → Int → Int → Int → Int → Res, (∀ (M : Mem) (x0 x1 x2 x3 : Int), P M x0 x1 x2 x3 (w M x0 x1 x2 x3)) → ∀ (M : Mem) (x0 x1 x2 x3 : Int), P M x0 x1 x2 x3 (b w M x0 x1 x2 x3)) : ∀ (f : Nat) (M : Mem) (x0 x1 x2 x3 : Int), P M x0 x1 x2 x3 (wl4 b f M x0 x1 x2 x3) := by
  intro f
  induction f with
  | zero => intro M x0 x1 x2 x3; exact h0 M x0 x1 x2 x3
  | succ f ih => exact hb _ ih
def wl5 (b : (Mem → Int → Int → Int → Int → Int → Res) → Mem → Int → Int → Int → Int → Int → Res) : Nat → Mem → Int → Int → Int → Int → Int → Res
  | 0, _, _, _, _, _, _ => none
  | f + 1, M, x0, x1, x2, x3, x4 => b (wl5 b f) M x0 x1 x2 x3 x4
theorem wl5_s (b : (Mem → Int → Int → Int → Int → Int → Res) → Mem → Int → Int → Int → Int → Int → Res) (f : Nat) (M : Mem) (x0 x1 x2 x3 x4 : Int) : wl5 b (f + 1) M x0 x1 x2 x3 x4 = b (wl5 b f) M x0 x1 x2 x3 x4 := rfl
theorem wl5_aw {b : (Mem → Int → Int → Int → Int → Int → Res) → Mem → Int → Int → Int → Int → Int → Res} {P : Mem → Int → Int → Int → Int → Int → Res → Prop} (h0 : ∀ (M : Mem) (x0 x1 x2 x3 x4 : Int), P M x0 x1 x2 x3 x4 none) (hb : ∀ w : Mem → Int → Int → Int → Int → Int → Res, (∀ (M : Mem) (x0 x1 x2 x3 x4 : Int), P M x0 x1 x2 x3 x4 (w M x0 x1 x2 x3 x4)) → ∀ (M : Mem) (x0 x1 x2 x3 x4 : Int), P M x0 x1 x2 x3 x4 (b w M x0 x1 x2 x3 x4)) : ∀ (f : Nat) (M : Mem) (x0 x1 x2 x3 x4 : Int), P M x0 x1 x2 x3 x4 (wl5 b f M x0 x1 x2 x3 x4) := by
  intro f
  induction f with
  | zero => intro M x0 x1 x2 x3 x4; exact h0 M x0 x1 x2 x3 x4
  | succ f ih => exact hb _ ih
def wl6 (b : (Mem → Int → Int → Int → Int → Int → Int → Res) → Mem → Int → Int → Int → Int → Int → Int → Res) : Nat → Mem → Int → Int → Int → Int → Int → Int → Res
  | 0, _, _, _, _, _, _, _ => none
  | f + 1, M, x0, x1, x2, x3, x4, x5 => b (wl6 b f) M x0 x1 x2 x3 x4 x5
theorem wl6_s (b : (Mem → Int → Int → Int → Int → Int → Int → Res) → Mem → Int → Int → Int → Int → Int → Int → Res) (f : Nat) (M : Mem) (x0 x1 x2 x3 x4 x5 : Int) : wl6 b (f + 1) M x0 x1 x2 x3 x4 x5 = b (wl6 b f) M x0 x1 x2 x3 x4 x5 := rfl
theorem wl6_aw {b : (Mem → Int → Int → Int → Int → Int → Int → Res) → Mem → Int → Int → Int → Int → Int → Int → Res} {P : Mem → Int → Int → Int → Int → Int → Int → Res → Prop} (h0 : ∀ (M : Mem) (x0 x1 x2 x3 x4 x5 : Int), P M x0 x1 x2 x3 x4 x5 none) (hb : ∀ w : Mem → Int → Int → Int → Int → Int → Int → Res, (∀ (M : Mem) (x0 x1 x2 x3 x4 x5 : Int), P M x0 x1 x2 x3 x4 x5 (w M x0 x1 x2 x3 x4 x5)) → ∀ (M : Mem) (x0 x1 x2 x3 x4 x5 : Int), P M x0 x1 x2 x3 x4 x5 (b w M x0 x1 x2 x3 x4 x5)) : ∀ (f : Nat) (M : Mem) (x0 x1 x2 x3 x4 x5 : Int), P M x0 x1 x2 x3 x4 x5 (wl6 b f M x0 x1 x2 x3 x4 x5) := by
  intro f
  induction f with
  | zero => intro M x0 x1 x2 x3 x4 x5; exact h0 M x0 x1 x2 x3 x4 x5
  | succ f ih => exact hb _ ih
def wl7 (b : (Mem → Int → Int → Int → Int → Int → Int → Int → Res) → Mem → Int → Int → Int → Int → Int → Int → Int → Res) : Nat → Mem → Int → Int → Int → Int → Int → Int → Int → Res
  | 0, _, _, _, _, _, _, _, _ => none
  | f + 1, M, x0, x1, x2, x3, x4, x5, x6 => b (wl7 b f) M x0 x1 x2 x3 x4 x5 x6
theorem wl7_s (b : (Mem → Int → Int → Int → Int → Int → Int → Int → Res) → Mem → Int → Int → Int → Int → Int → Int → Int → Res) (f : Nat) (M : Mem) (x0 x1 x2 x3 x4 x5 x6 : Int) : wl7 b (f + 1) M x0 x1 x2 x3 x4 x5 x6 = b (wl7 b f) M x0 x1 x2 x3 x4 x5 x6 := rfl
theorem wl7_aw {b : (Mem → Int → Int → Int → Int → Int → Int → Int → Res) → Mem → Int → Int → Int → Int → Int → Int → Int → Res} {P : Mem → Int → Int → Int → Int → Int → Int → Int → Res → Prop} (h0 : ∀ (M : Mem) (x0 x1 x2 x3 x4 x5 x6 : Int), P M x0 x1 x2 x3 x4 x5 x6 none) (hb : ∀ w : Mem → Int → Int → Int → Int → Int → Int → Int → Res, (∀ (M : Mem) (x0 x1 x2 x3 x4 x5 x6 : Int), P M x0 x1 x2 x3 x4 x5 x6 (w M x0 x1 x2 x3 x4 x5 x6)) → ∀ (M : Mem) (x0 x1 x2 x3 x4 x5 x6 : Int), P M x0 x1 x2 x3 x4 x5 x6 (b w M x0 x1 x2 x3 x4 x5 x6)) : ∀ (f : Nat) (M : Mem) (x0 x1 x2 x3 x4 x5 x6 : Int), P M x0 x1 x2 x3 x4 x5 x6 (wl7 b f M x0 x1 x2 x3 x4 x5 x6) := by
  intro f
  induction f with
  | zero => intro M x0 x1 x2 x3 x4 x5 x6; exact h0 M x0 x1 x2 x3 x4 x5 x6
  | succ f ih => exact hb _ ih
def wl8 (b : (Mem → Int → Int → Int → Int → Int → Int → Int → Int → Res) → Mem → Int → Int → Int → Int → Int → Int → Int → Int → Res) : Nat → Mem → Int → Int → Int → Int → Int → Int → Int → Int → Res
  | 0, _, _, _, _, _, _, _, _, _ => none
  | f + 1, M, x0, x1, x2, x3, x4, x5, x6, x7 => b (wl8 b f) M x0 x1 x2 x3 x4 x5 x6 x7
theorem wl8_s (b : (Mem → Int → Int → Int → Int → Int → Int → Int → Int → Res) → Mem → Int → Int → Int → Int → Int → Int → Int → Int → Res) (f : Nat) (M : Mem) (x0 x1 x2 x3 x4 x5 x6 x7 : Int) : wl8 b (f + 1) M x0 x1 x2 x3 x4 x5 x6 x7 = b (wl8 b f) M x0 x1 x2 x3 x4 x5 x6 x7 := rfl
theorem wl8_aw {b : (Mem → Int → Int → Int → Int → Int → Int → Int → Int → Res) → Mem → Int → Int → Int → Int → Int → Int → Int → Int → Res} {P : Mem → Int → Int → Int → Int → Int → Int → Int → Int → Res → Prop} (h0 : ∀ (M : Mem) (x0 x1 x2 x3 x4 x5 x6 x7 : Int), P M x0 x1 x2 x3 x4 x5 x6 x7 none) (hb : ∀ w : Mem → Int → Int → Int → Int → Int → Int → Int → Int → Res, (∀ (M : Mem) (x0 x1 x2 x3 x4 x5 x6 x7 : Int), P M x0 x1 x2 x3 x4 x5 x6 x7 (w M x0 x1 x2 x3 x4 x5 x6 x7)) → ∀ (M : Mem) (x0 x1 x2 x3 x4 x5 x6 x7 : Int), P M x0 x1 x2 x3 x4 x5 x6 x7 (b w M x0 x1 x2 x3 x4 x5 x6 x7)) : ∀ (f : Nat) (M : Mem) (x0 x1 x2 x3 x4 x5 x6 x7 : Int), P M x0 x1 x2 x3 x4 x5 x6 x7 (wl8 b f M x0 x1 x2 x3 x4 x5 x6 x7) := by
  intro f
  induction f with
  | zero => intro M x0 x1 x2 x3 x4 x5 x6 x7; exact h0 M x0 x1 x2 x3 x4 x5 x6 x7
  | succ f ih => exact hb _ ih
def wl9 (b : (Mem → Int → Int → Int → Int → Int → Int → Int → Int → Int → Res) → Mem → Int → Int → Int → Int → Int → Int → Int → Int → Int → Res) : Nat → Mem → Int → Int → Int → Int → Int → Int → Int → Int → Int → Res
  | 0, _, _, _, _, _, _, _, _, _, _ => none
  | f + 1, M, x0, x1, x2, x3, x4, x5, x6, x7, x8 => b (wl9 b f) M x0 x1 x2 x3 x4 x5 x6 x7 x8
theorem wl9_s (b : (Mem → Int → Int → Int → Int → Int → Int → Int → Int → Int → Res) → Mem → Int → Int → Int → Int → Int → Int → Int → Int → Int → Res) (f : Nat) (M : Mem) (x0 x1 x2 x3 x4 x5 x6 x7 x8 : Int) : wl9 b (f + 1) M x0 x1 x2 x3 x4 x5 x6 x7 x8 = b (wl9 b f) M x0 x1 x2 x3 x4 x5 x6 x7 x8 := rfl
theorem wl9_aw {b : (Mem → Int → Int → Int → Int → Int → Int → Int → Int → Int → Res) → Mem → Int → Int → Int → Int → Int → Int → Int → Int → Int → Res} {P : Mem → Int → Int → Int → Int → Int → Int → Int → Int → Int → Res → Prop} (h0 : ∀ (M : Mem) (x0 x1 x2 x3 x4 x5 x6 x7 x8 : Int), P M x0 x1 x2 x3 x4 x5 x6 x7 x8 none) (hb : ∀ w : Mem → Int → Int → Int → Int → Int → Int → Int → Int → Int → Res, (∀ (M : Mem) (x0 x1 x2 x3 x4 x5 x6 x7 x8 : Int), P M x0 x1 x2 x3 x4 x5 x6 x7 x8 (w M x0 x1 x2 x3 x4 x5 x6 x7 x8)) → ∀ (M : Mem) (x0 x1 x2 x3 x4 x5 x6 x7 x8 : Int), P M x0 x1 x2 x3 x4 x5 x6 x7 x8 (b w M x0 x1 x2 x3 x4 x5 x6 x7 x8)) : ∀ (f : Nat) (M : Mem) (x0 x1 x2 x3 x4 x5 x6 x7 x8 : Int), P M x0 x1 x2 x3 x4 x5 x6 x7 x8 (wl9 b f M x0 x1 x2 x3 x4 x5 x6 x7 x8) := by
  intro f
  induction f with
  | zero => intro M x0 x1 x2 x3 x4 x5 x6 x7 x8; exact h0 M x0 x1 x2 x3 x4 x5 x6 x7 x8
  | succ f ih => exact hb _ ih
def wl10 (b : (Mem → Int → Int → Int → Int → Int → Int → Int → Int → Int → Int → Res) → Mem → Int → Int → Int → Int → Int → Int → Int → Int → Int → Int → Res) : Nat → Mem → Int → Int → Int → Int → Int → Int → Int → Int → Int → Int → Res
  | 0, _, _, _, _, _, _, _, _, _, _, _ => none
  | f + 1, M, x0, x1, x2, x3, x4, x5, x6, x7, x8, x9 => b (wl10 b f) M x0 x1 x2 x3 x4 x5 x6 x7 x8 x9
theorem wl10_s (b : (Mem → Int → Int → Int → Int → Int → Int → Int → Int → Int → Int → Res) → Mem → Int → Int → Int → Int → Int → Int → Int → Int → Int → Int → Res) (f : Nat) (M : Mem) (x0 x1 x2 x3 x4 x5 x6 x7 x8 x9 : Int) : wl10 b (f + 1) M x0 x1 x2 x3 x4 x5 x6 x7 x8 x9 = b (wl10 b f) M x0 x1 x2 x3 x4 x5 x6 x7 x8 x9 := rfl
theorem wl10_aw {b : (Mem → Int → Int → Int → Int → Int → Int → Int → Int → Int → Int → Res) → Mem → Int → Int → Int → Int → Int → Int → Int → Int → Int → Int → Res} {P : Mem → Int → Int → Int → Int → Int → Int → Int → Int → Int → Int → Res → Prop} (h0 : ∀ (M : Mem) (x0 x1 x2 x3 x4 x5 x6 x7 x8 x9 : Int), P M x0 x1 x2 x3 x4 x5 x6 x7 x8 x9 none) (hb : ∀ w : Mem → Int → Int → Int → Int → Int → Int → Int → Int → Int → Int → Res, (∀ (M : Mem) (x0 x1 x2 x3 x4 x5 x6 x7 x8 x9 : Int), P M x0 x1 x2 x3 x4 x5 x6 x7 x8 x9 (w M x0 x1 x2 x3 x4 x5 x6 x7 x8 x9)) → ∀ (M : Mem) (x0 x1 x2 x3 x4 x5 x6 x7 x8 x9 : Int), P M x0 x1 x2 x3 x4 x5 x6 x7 x8 x9 (b w M x0 x1 x2 x3 x4 x5 x6 x7 x8 x9)) : ∀ (f : Nat) (M : Mem) (x0 x1 x2 x3 x4 x5 x6 x7 x8 x9 : Int), P M x0 x1 x2 x3 x4 x5 x6 x7 x8 x9 (wl10 b f M x0 x1 x2 x3 x4 x5 x6 x7 x8 x9) := by
  intro f
  induction f with
  | zero => intro M x0 x1 x2 x3 x4 x5 x6 x7 x8 x9; exact h0 M x0 x1 x2 x3 x4 x5 x6 x7 x8 x9
  | succ f ih => exact hb _ ih
