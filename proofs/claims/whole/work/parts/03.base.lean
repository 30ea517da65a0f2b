/-! BASE: an abstract memory (cell, slot) ↦ whole number for the law's two objects, and what it means on the machine's heap -/
abbrev GT : Type := Launch × va_G × (Nat → ClassId) × Nat × Heap × Nat × Nat × Nat
abbrev AV : Type := Nat × Int
abbrev LV : Type := Nat × Nat × Int
abbrev Res : Type := Option (Int × Mem)
abbrev gD (g : GT) : va_G := g.2.1
abbrev gc (g : GT) : Nat → ClassId := g.2.2.1
abbrev gB (g : GT) : Nat := g.2.2.2.1
abbrev gH (g : GT) : Heap := g.2.2.2.2.1
abbrev gq (g : GT) : Nat := g.2.2.2.2.2.1
abbrev gv (g : GT) : Nat := g.2.2.2.2.2.2.1
abbrev gr (g : GT) : Nat := g.2.2.2.2.2.2.2
abbrev in32 (x : Int) : Prop := -2147483648 ≤ x ∧ x ≤ 2147483647
abbrev in64 (x : Int) : Prop := -9223372036854775808 ≤ x ∧ x ≤ 9223372036854775807
def fv (B t : Nat) (x : Int) : Value := match t with
  | 0 => .int (Int32.ofInt x)
  | 1 => .long (Int64.ofInt x)
  | 3 => .ref x.toNat
  | _ => if x ≤ 0 then .null else .ref (B + x.toNat)
def okt (t : Nat) (x : Int) : Prop := match t with
  | 0 => in32 x
  | 1 => in64 x
  | _ => 0 ≤ x
def tv (B : Nat) (v : AV) : Value := fv B v.1 v.2
def lw (B : Nat) (v : LV) : Nat × Value := (v.1, tv B v.2)
def et (c : Nat) : Nat := if c = 2 then 1 else if c = 5 ∨ c = 6 ∨ c = 7 then 2 else 0
def cyi (c : Nat) : Nat := if c = 8 then 1 else c
def cellAt (g : GT) (c : Nat) (len : Int) (q : Nat) (f : Int → Int) (H : Heap) : Prop :=
  if c < 10 then H[q]? = some (arrV (gc g (cyi c)) len.toNat (fun j => fv (gB g) (et c) (f j)))
  else ∃ r : vw_C, vwCl[c - 10]? = some r ∧ t_OB q ((gD g).1 (c - 10)) r.2.2 ((gD g).2 (c - 10)) H (fun k => fv (gB g) (ft (c - 10) k) (f k))
def tyOf (a j : Int) : Nat := if kd a % 50 < 10 then et (kd a % 50) else ft (kd a % 50 - 10) j.toNat
def Hp (g : GT) (n nf : Int) (M : Mem) (H : Heap) : Prop :=
  (0 ≤ n ∧ n ≤ 406) ∧ H.size = gB g + 1 + n.toNat ∧ (∀ a : Int, 1 ≤ a → a ≤ n → cellAt g (kd a % 50) (ln a) (gB g + a.toNat) (M a) H) ∧ (∀ a j : Int, 1 ≤ a → a ≤ n → 0 ≤ j → okt (tyOf a j) (M a j)) ∧ (∀ a j : Int, n < a → M a j = 0) ∧ (∀ t ∈ fxl, t.1 ≤ nf → M t.1 t.2.1 = t.2.2) ∧ ∀ q : Nat, q ≤ gB g → H[q]? = (gH g)[q]?
def tysg (g : GT) : List (ClassId × FieldType) := [(gc g 1, .int), (gc g 2, .long), (gc g 3, .boolean), (gc g 4, .char), (gc g 5, .object RX7), (gc g 6, .object RX8), (gc g 7, .object RX10)]
def Ag (g : GT) : Nat → Prop := fun q => gB g < q
/-- the class's text of OWN WORDS, and what the JDK holds of Strings -/
def owTx : String := "sight disc thing way knows blind line show times when or and not all column row bright light kind min max "
def owB : List Int32 := [115, 105, 103, 104, 116, 32, 100, 105, 115, 99, 32, 116, 104, 105, 110, 103, 32, 119, 97, 121, 32, 107, 110, 111, 119, 115, 32, 98, 108, 105, 110, 100, 32, 108, 105, 110, 101, 32, 115, 104, 111, 119, 32, 116, 105, 109, 101, 115, 32, 119, 104, 101, 110, 32, 111, 114, 32, 97, 110, 100, 32, 110, 111, 116, 32, 97, 108, 108, 32, 99, 111, 108, 117, 109, 110, 32, 114, 111, 119, 32, 98, 114, 105, 103, 104, 116, 32, 108, 105, 103, 104, 116, 32, 107, 105, 110, 100, 32, 109, 105, 110, 32, 109, 97, 120, 32]
/-- a reference that may be null, by a number -/
def rvV (r : Nat) : Value := if r = 0 then .null else .ref (r - 1)
def Ks (g : GT) (s : State) : Prop := vk_R RX4 28 owTx (gq g) s ∧ vk_S 1 [106] [owB] (fun _ => gq g) (fun _ => gv g) (Ag g) s (gH g) ∧ va_Z "java/lang/String" "COMPACT_STRINGS" "Z" (.int 1) (Ag g) s (gH g) ∧ va_Z "jdk/internal/util/Preconditions" "SIOOBE_FORMATTER" "Ljava/util/function/BiFunction;" (rvV (gr g)) (Ag g) s (gH g)
theorem Ks.warm {g : GT} {s U : State} (hW : s.WarmedH U.vm) (h : Ks g s) : Ks g U := ⟨h.1.warm hW, h.2.1.moved hW.alike, h.2.2.1.moved hW.alike, h.2.2.2.moved hW.alike⟩
def Kg (g : GT) (s : State) : Prop := va_K (gD g) vwCl (tysg g) s ∧ va_AO RX7 s ∧ va_AO RX8 s ∧ va_AO RX10 s ∧ Ks g s
def tb_ok : Cond → Bool
  | .fieldLinkNest .. => true
  | .methodLinkNest .. => true
  | w => goodWord w
def Tb (U : State) : Prop := ∀ w ∈ lw_tbl, tb_ok w = true → w.before #[] U = true
def st (M : Mem) (a i v : Int) : Mem := fun a' i' => if a' = a ∧ i' = i then v else M a' i'
def mix (sd : Bool) (M Mo : Mem) : Mem := fun a => if decide (a ≤ 336) = sd then M a else Mo a
theorem st_same (M : Mem) (a i v : Int) : st M a i v a i = v := by simp [st]
theorem st_neA {M : Mem} {a i v a' i' : Int} (h : a' ≠ a) : st M a i v a' i' = M a' i' := by simp [st, h]
theorem st_neI {M : Mem} {a i v a' i' : Int} (h : i' ≠ i) : st M a i v a' i' = M a' i' := by simp [st, h]
theorem mix_own {sd : Bool} {M Mo : Mem} {a : Int} {c : Nat} (hk : kd a = c) (hc : c ≠ 0) (hs : decide (c < 50) = sd) : mix sd M Mo a = M a := by
  unfold mix
  rw [← kd_own hk hc, if_pos hs]
theorem mix_st {sd : Bool} {M Mo : Mem} {a : Int} {c : Nat} (hk : kd a = c) (hc : c ≠ 0) (hs : decide (c < 50) = sd) (i v : Int) : st (mix sd M Mo) a i v = mix sd (st M a i v) Mo := by
  have ho := kd_own hk hc
  funext a' i'
  unfold mix st
  by_cases ha : a' = a
  · subst ha
    have hs' : decide (a' ≤ 336) = sd := ho ▸ hs
    simp [hs']
  · by_cases hq : decide (a' ≤ 336) = sd <;> simp [ha, hq]
theorem Tb.use {s : State} (h : Tb s) {w : Cond} (hm : w ∈ lw_tbl) (hk : tb_ok w = true) (hw : w.onTables = true) (args : Array Value) : w.before args s = true := va_tabs hw rfl (h w hm hk)
theorem Tb.warm {s U : State} (hW : s.WarmedH U.vm) (h : Tb s) : Tb U := by
  intro w hm hk
  have h0 := h w hm hk
  cases w
  case fieldLinkNest => exact va_Nw.warmF hW h0
  case methodLinkNest => exact va_Nw.warmM hW h0
  all_goals exact word_at hW (good_of_word hk) h0
theorem Kg.warm {g : GT} {s U : State} (hW : s.WarmedH U.vm) (h : Kg g s) : Kg g U := ⟨va_K.moved hW.alike h.1, h.2.1.moved hW.alike, h.2.2.1.moved hW.alike, h.2.2.2.1.moved hW.alike, h.2.2.2.2.warm hW⟩
theorem okt_ref {x : Int} (h : 0 < x) (B : Nat) : fv B 2 x = .ref (B + x.toNat) := by
  show (if x ≤ 0 then _ else _) = _
  rw [if_neg (by omega)]
theorem fv_null (B : Nat) : fv B 2 0 = .null := rfl
theorem Hp.pos {g : GT} {n nf : Int} {M : Mem} {H : Heap} (h : Hp g n nf M H) : 0 ≤ n := h.1.1
/-- a cell of the world changes in one slot -/
theorem Hp.set {g : GT} {n nf : Int} {M : Mem} {H H1 : Heap} (h : Hp g n nf M H) {a i v : Int} (h1 : 1 ≤ a) (h2 : a ≤ n) (hi : 0 ≤ i) (hz : H1.size = H.size) (ho : ∀ q : Nat, q ≠ gB g + a.toNat → H1[q]? = H[q]?) (hc : cellAt g (kd a % 50) (ln a) (gB g + a.toNat) (st M a i v a) H1) (hv : okt (tyOf a i) v) (hf : fxk (kd a) i = false ∨ nf < a) : Hp g n nf (st M a i v) H1 := by
  obtain ⟨p0, p1, p2, p3, p4, p5, p6⟩ := h
  refine ⟨p0, by rw [hz, p1], ?_, ?_, ?_, ?_, ?_⟩
  · intro b hb1 hb2
    by_cases hab : b = a
    · subst hab; exact hc
    · have hq : H1[gB g + b.toNat]? = H[gB g + b.toNat]? := ho _ (by omega)
      have hM : st M a i v b = M b := by funext j; exact st_neA hab
      rw [hM]
      have := p2 b hb1 hb2
      unfold cellAt at this ⊢
      split
      · rename_i hk; rw [if_pos hk] at this; rw [hq]; exact this
      · rename_i hk; rw [if_neg hk] at this
        obtain ⟨r, r1, r2⟩ := this
        exact ⟨r, r1, r2.kept hq⟩
  · intro b j hb1 hb2 hj
    by_cases hab : b = a ∧ j = i
    · obtain ⟨rfl, rfl⟩ := hab; rw [st_same]; exact hv
    · have : st M a i v b j = M b j := by simp [st, hab]
      rw [this]; exact p3 b j hb1 hb2 hj
  · intro b j hb
    rw [st_neA (by omega)]; exact p4 b j hb
  · intro t ht htn
    have hx : fxk (kd t.1) t.2.1 = true := List.all_eq_true.mp fxl_k t ht
    have : st M a i v t.1 t.2.1 = M t.1 t.2.1 := by
      unfold st
      rw [if_neg]
      rintro ⟨e1, e2⟩
      rcases hf with hf | hf
      · rw [← e1, ← e2, hx] at hf; exact absurd hf (by decide)
      · omega
    rw [this]; exact p5 t ht htn
  · intro q hq
    rw [ho q (by omega)]; exact p6 q hq
theorem Hp.raise {g : GT} {n nf nf' : Int} {M : Mem} {H : Heap} (h : Hp g n nf M H) (hf : ∀ t ∈ fxl, t.1 ≤ nf' → M t.1 t.2.1 = t.2.2) : Hp g n nf' M H := ⟨h.1, h.2.1, h.2.2.1, h.2.2.2.1, h.2.2.2.2.1, hf, h.2.2.2.2.2.2⟩
theorem Hp.lower {g : GT} {n nf nf' : Int} {M : Mem} {H : Heap} (h : Hp g n nf M H) (hl : nf' ≤ nf) : Hp g n nf' M H := h.raise (fun t ht hn => h.2.2.2.2.2.1 t ht (by omega))
/-- a cell of the world, an array -/
theorem Hp.arr {g : GT} {n nf : Int} {M : Mem} {H : Heap} (h : Hp g n nf M H) {a : Int} {c : Nat} (h1 : 1 ≤ a) (h2 : a ≤ n) (hk : kd a % 50 = c) (hc : c < 10) : H[gB g + a.toNat]? = some (arrV (gc g (cyi c)) (ln a).toNat (fun j => fv (gB g) (et c) (M a j))) := by
  have := h.2.2.1 a h1 h2
  unfold cellAt at this
  rw [hk, if_pos hc] at this
  exact this
theorem Hp.obj {g : GT} {n nf : Int} {M : Mem} {H : Heap} (h : Hp g n nf M H) {a : Int} {c : Nat} (h1 : 1 ≤ a) (h2 : a ≤ n) (hk : kd a % 50 = c) (hc : 10 ≤ c) : ∃ r : vw_C, vwCl[c - 10]? = some r ∧ t_OB (gB g + a.toNat) ((gD g).1 (c - 10)) r.2.2 ((gD g).2 (c - 10)) H (fun k => fv (gB g) (ft (c - 10) k) (M a k)) := by
  have := h.2.2.1 a h1 h2
  unfold cellAt at this
  rw [hk, if_neg (by omega)] at this
  exact this
