/-! the law's own walk: the script, and rules of its calls -/
def SX (xs : Nat → Int32) (i : Int) : Int := (xs i.toNat).toInt
theorem SX_r (xs : Nat → Int32) (i : Int) : in32 (SX xs i) := i32_in _
def bz (x : Int) : Int := if x = 0 then 0 else 1
theorem bz_01 (x : Int) : bz x = 0 ∨ bz x = 1 := by
  unfold bz
  split
  · exact Or.inl rfl
  · exact Or.inr rfl
theorem mix_comm (A B : Mem) : mix true A B = mix false B A := by
  funext a i
  unfold mix
  by_cases h : a ≤ 336 <;> simp [h]
/-- the script: L ints at the cell b, that lies before the world -/
def Scr (g : GT) (b L : Nat) (xs : Nat → Int32) (s : State) : Prop := va_X b L xs s s.heap ∧ b < s.heap.size ∧ b ≤ gB g ∧ L ≤ 4608
/-- one read of the script at i + k -/
def RdI (pc : Nat) (k : Int) : Prop := decode code pc = .ok (.aload_n 0, 1) ∧ decode code (pc + 1) = .ok (.iload_n 3, 1) ∧ decode code (pc + 2) = .ok (.iconst k, 1) ∧ decode code (pc + 3) = .ok (.iadd, 1) ∧ decode code (pc + 4) = .ok (.iaload, 1)
def RdB (pc : Nat) (k : Int) : Prop := decode code pc = .ok (.aload_n 0, 1) ∧ decode code (pc + 1) = .ok (.iload_n 3, 1) ∧ decode code (pc + 2) = .ok (.bipush k, 2) ∧ decode code (pc + 4) = .ok (.iadd, 1) ∧ decode code (pc + 5) = .ok (.iaload, 1)
def RdZ (pc : Nat) : Prop := decode code pc = .ok (.ifCond .eq 7, 3) ∧ decode code (pc + 3) = .ok (.iconst 1, 1) ∧ decode code (pc + 4) = .ok (.goto 4, 3) ∧ decode code (pc + 7) = .ok (.iconst 0, 1)
section LR
variable {g : GT} {p : Program} {e : Env} {R : Room} {s : State} {m : MethodId} {args : Array Value} {below : List Frame} {meth : Method} {c : Code} {Q : State → Prop} {cells slots pc : Nat} {ls : List LV} {sk : List AV} {n nf : Int} {M : Mem} {own : String} {cc : ByteArray} {nL i : Nat}
theorem b_slen (hC : Cx g p s m meth c own cc nL) {b L : Nat} {xs : Nat → Int32} (hX : Scr g b L xs s) (hd : decode cc pc = .ok (.arraylength, 1)) (k : BW g p e R s m args below meth c Q cells slots (pc + 1) ls ((0, (L : Int)) :: sk) n nf M) : BW g p e R s m args below meth c Q cells slots pc ls ((3, (b : Int)) :: sk) n nf M := by
  obtain ⟨h1, h2, h3, h4⟩ := hX
  intro H locs A hH hS hl hL hs
  have hin : in32 (L : Int) := ⟨by omega, by omega⟩
  have hfin := k H locs A hH hS hl hL (hs.tl.cons (show okt 0 (L : Int) from hin))
  have e1 : Int32.ofNat L = Int32.ofInt (L : Int) := by rw [← Int32.ofInt_eq_ofNat]
  refine va_slen hC.1 hC.2.1 h1 h2 (show ¬ Ag g b from Nat.not_lt.mpr h3) hS hd ?_
  rw [e1]
  exact hfin
theorem b_sld (hC : Cx g p s m meth c own cc nL) {b L : Nat} {xs : Nat → Int32} (hX : Scr g b L xs s) (hd : decode cc pc = .ok (.iaload, 1)) {x : Int} (hx : 0 ≤ x ∧ x < L) (k : BW g p e R s m args below meth c Q cells slots (pc + 1) ls ((0, SX xs x) :: sk) n nf M) : BW g p e R s m args below meth c Q cells slots pc ls ((0, x) :: (3, (b : Int)) :: sk) n nf M := by
  obtain ⟨h1, h2, h3, h4⟩ := hX
  intro H locs A hH hS hl hL hs
  obtain ⟨hin, ei⟩ := ix_in (N := (L : Int)) hx hs.hd
  have hfin := k H locs A hH hS hl hL (hs.tl.tl.cons (show okt 0 (SX xs x) from SX_r xs x))
  refine va_sld hC.1 hC.2.1 h1 h2 (show ¬ Ag g b from Nat.not_lt.mpr h3) hS (i := Int32.ofInt x) hin hd ?_
  rw [ei]
  have e1 : xs x.toNat = Int32.ofInt (SX xs x) := by unfold SX; rw [Int32.ofInt_toInt]
  rw [e1]
  exact hfin
theorem l_rd (hC : Cx g p s m meth c own code nL) {b L : Nat} {xs : Nat → Int32} (hX : Scr g b L xs s) {k : Int} (hk : 0 ≤ k ∧ k ≤ 8) (hd : RdI pc k) {x : Int} (hx : 0 ≤ x ∧ x + 9 ≤ L) (q0 q3 : Nat) (h0 : ls[q0]? = some (0, 3, (b : Int))) (h3 : ls[q3]? = some (3, 0, x)) (kk : BW g p e R s m args below meth c Q cells slots (pc + 5) ls ((0, SX xs (x + k)) :: sk) n nf M) : BW g p e R s m args below meth c Q cells slots pc ls sk n nf M := by
  obtain ⟨d0, d1, d2, d3, d4⟩ := hd
  have hL := hX.2.2.2
  refine b_aload3 (q := q0) hC d0 rfl h0 ?_
  refine b_iload_n (q := q3) hC d1 rfl h3 ?_
  refine b_iconst hC d2 ⟨by omega, by omega⟩ ?_
  refine b_iadd hC d3 ⟨by omega, by omega⟩ ?_
  exact b_sld hC hX d4 ⟨by omega, by omega⟩ kk
theorem l_rb (hC : Cx g p s m meth c own code nL) {b L : Nat} {xs : Nat → Int32} (hX : Scr g b L xs s) {k : Int} (hk : 0 ≤ k ∧ k ≤ 8) (hv : (Int8.ofInt k).toInt32 = Int32.ofInt k) (hd : RdB pc k) {x : Int} (hx : 0 ≤ x ∧ x + 9 ≤ L) (q0 q3 : Nat) (h0 : ls[q0]? = some (0, 3, (b : Int))) (h3 : ls[q3]? = some (3, 0, x)) (kk : BW g p e R s m args below meth c Q cells slots (pc + 6) ls ((0, SX xs (x + k)) :: sk) n nf M) : BW g p e R s m args below meth c Q cells slots pc ls sk n nf M := by
  obtain ⟨d0, d1, d2, d3, d4⟩ := hd
  have hL := hX.2.2.2
  refine b_aload3 (q := q0) hC d0 rfl h0 ?_
  refine b_iload_n (q := q3) hC d1 rfl h3 ?_
  refine b_bipush hC d2 hv ⟨by omega, by omega⟩ ?_
  refine b_iadd hC d3 ⟨by omega, by omega⟩ ?_
  exact b_sld hC hX d4 ⟨by omega, by omega⟩ kk
theorem l_rz (hC : Cx g p s m meth c own code nL) (hd : RdZ pc) {x : Int} (kk : BW g p e R s m args below meth c Q cells slots (pc + 8) ls ((0, bz x) :: sk) n nf M) : BW g p e R s m args below meth c Q cells slots pc ls ((0, x) :: sk) n nf M := by
  obtain ⟨d0, d1, d2, d3⟩ := hd
  refine b_if_eq (tgt := pc + 7) hC d0 (by omega) (fun h => ?_) (fun h => ?_)
  · refine b_iconst hC d3 ⟨by decide, by decide⟩ ?_
    have e1 : bz x = 0 := if_pos h
    rw [e1] at kk
    exact kk
  · refine b_iconst hC d1 ⟨by decide, by decide⟩ ?_
    refine b_goto (tgt := pc + 8) hC d2 (by omega) ?_
    have e1 : bz x = 1 := if_neg h
    rw [e1] at kk
    exact kk
variable {y : MethodName} {bytes : ByteArray} {maxL d' np : Nat} {ret : Option FieldType} {r : Int} {av : List AV} {M' : Mem}
/-- a call that makes nothing -/
theorem b_invK (hC : Cx g p s m meth c own cc nL) (hd : decode cc pc = .ok (.invokevirtual i, 3)) (hlk : LkV own i y bytes maxL ret np) {ci : Nat} {T : u_T} {N : Nat} {a : Int} (hcl : vwCl[ci]? = some (y.cls, T, N)) {dk : Nat} (hk : kd a = dk) (hci : dk % 50 = 10 + ci) (ha : a ≤ n) (hnp : av.length = np) {st0 : List AV} (h0 : st0 = av.reverse ++ (2, a) :: sk) (hw : skw sk ≤ 8) (hfr : d' + 1 ≤ R.frames) (hlo : 8 + (maxL + 11) + 64 * d' ≤ R.locals) (hce : cells ≤ R.cells) (hsl : slots ≤ R.slots) (hM : okS ((2, a) :: av) → RM g y bytes maxL ret d' n n nf ((2, a) :: av) M M' r) (kk : BW g p e R s m args below meth c Q cells slots (pc + 3) ls (rsk ret r ++ sk) n nf M') : BW g p e R s m args below meth c Q cells slots pc ls st0 n nf M := by
  have kk' : BW g p e R s m args below meth c Q (cells + cs n n) (slots + sl n n) (pc + 3) ls (rsk ret r ++ sk) n nf M' := by
    rw [cs_self, sl_self]; exact kk
  exact b_inv hC hd hlk hcl hk hci ha hnp h0 hw hfr hlo (by rw [cs_self]; exact hce) (by rw [sl_self]; exact hsl) hM kk'
end LR
/-- the law's locals -/
def lwS (b : Nat) (i : Int) : List LV := [(3, 0, i), (2, 2, 337), (1, 2, 1), (0, 3, (b : Int))]
/-- the law at pc, both objects made -/
def LW (g : GT) (p : Program) (e : Env) (s : State) (m : MethodId) (args : Array Value) (below : List Frame) (meth : Method) (c : Code) (Q : State → Prop) (b : Nat) (pc : Nat) (i : Int) (sk : List AV) (M : Mem) : Prop := BW g p e room_1 s m args below meth c Q 600000 7302250 pc (lwS b i) sk 406 406 M
section LI
variable {g : GT} {p : Program} {e : Env} {s : State} {m : MethodId} {args : Array Value} {below : List Frame} {meth : Method} {c : Code} {Q : State → Prop} {pc b i : Nat} {sk : List AV} {own : String} {x : Int}
variable {y : MethodName} {bytes : ByteArray} {maxL d' np : Nat} {ret : Option FieldType} {r : Int} {av : List AV} {Mx Mx' Mm Mm' : Mem} {ox om : Res}
theorem l_al1 (hC : Cx g p s m meth c own code 4) (hd : decode code pc = .ok (.aload_n 1, 1)) {M : Mem} (k : LW g p e s m args below meth c Q b (pc + 1) x ((2, 1) :: sk) M) : LW g p e s m args below meth c Q b pc x sk M := b_aload_n (q := 2) hC hd rfl rfl k
theorem l_al2 (hC : Cx g p s m meth c own code 4) (hd : decode code pc = .ok (.aload_n 2, 1)) {M : Mem} (k : LW g p e s m args below meth c Q b (pc + 1) x ((2, 337) :: sk) M) : LW g p e s m args below meth c Q b pc x sk M := b_aload_n (q := 1) hC hd rfl rfl k
theorem l_in (hC : Cx g p s m meth c own code 4) {L : Nat} {xs : Nat → Int32} (hX : Scr g b L xs s) (hx : 0 ≤ x ∧ x + 9 ≤ L) {k : Int} (hk : 0 ≤ k ∧ k ≤ 8) (hd : RdI pc k) {M : Mem} (kk : LW g p e s m args below meth c Q b (pc + 5) x ((0, SX xs (x + k)) :: sk) M) : LW g p e s m args below meth c Q b pc x sk M := l_rd hC hX hk hd hx 3 0 rfl rfl kk
theorem l_ib (hC : Cx g p s m meth c own code 4) {L : Nat} {xs : Nat → Int32} (hX : Scr g b L xs s) (hx : 0 ≤ x ∧ x + 9 ≤ L) {k : Int} (hk : 0 ≤ k ∧ k ≤ 8) (hv : (Int8.ofInt k).toInt32 = Int32.ofInt k) (hd : RdB pc k) {M : Mem} (kk : LW g p e s m args below meth c Q b (pc + 6) x ((0, SX xs (x + k)) :: sk) M) : LW g p e s m args below meth c Q b pc x sk M := l_rb hC hX hk hv hd hx 3 0 rfl rfl kk
theorem l_iz (hC : Cx g p s m meth c own code 4) (hd : RdZ pc) {v : Int} {M : Mem} (kk : LW g p e s m args below meth c Q b (pc + 8) x ((0, bz v) :: sk) M) : LW g p e s m args below meth c Q b pc x ((0, v) :: sk) M := l_rz hC hd kk
/-- a call of the class -/
theorem l_inX (hC : Cx g p s m meth c own code 4) (hd : decode code pc = .ok (.invokevirtual i, 3)) (hlk : LkV own i y bytes maxL ret np) (hcl : y.cls = RX11) (hA : AM g true y bytes maxL ret d' 406 406 406 ((2, 1) :: av) Mx ox) (ho : ox = some (r, Mx')) (hnp : av.length = np) {st0 : List AV} (h0 : st0 = av.reverse ++ (2, 1) :: sk) (hw : skw sk ≤ 8) (hdp : d' ≤ 1200 ∧ maxL ≤ 100) {t : Nat} (ht : rsk ret r = [(t, r)]) (kk : LW g p e s m args below meth c Q b (pc + 3) x ((t, r) :: sk) (mix true Mx' Mm)) : LW g p e s m args below meth c Q b pc x st0 (mix true Mx Mm) := by
  obtain ⟨d1, d2⟩ := hdp
  refine b_invK (ci := 11) (T := TX11) (N := 18) (a := 1) (dk := 21) (r := r) (M' := mix true Mx' Mm) hC hd hlk (by rw [hcl]; rfl) (by decide +kernel) (by decide) (by decide) hnp h0 hw (show d' + 1 ≤ 2048 by omega) (show 8 + (maxL + 11) + 64 * d' ≤ 84000 by omega) (Nat.le_refl _) (Nat.le_refl _) (fun hok => hA hok r Mx' ho Mm) ?_
  rw [ht]
  exact kk
/-- a call of the model -/
theorem l_inM (hC : Cx g p s m meth c own code 4) (hd : decode code pc = .ok (.invokevirtual i, 3)) (hlk : LkV own i y bytes maxL ret np) (hcl : y.cls = RX12) (hA : AM g false y bytes maxL ret d' 406 406 406 ((2, 337) :: av) Mm om) (ho : om = some (r, Mm')) (hnp : av.length = np) {st0 : List AV} (h0 : st0 = av.reverse ++ (2, 337) :: sk) (hw : skw sk ≤ 8) (hdp : d' ≤ 1200 ∧ maxL ≤ 100) {t : Nat} (ht : rsk ret r = [(t, r)]) (kk : LW g p e s m args below meth c Q b (pc + 3) x ((t, r) :: sk) (mix true Mx Mm')) : LW g p e s m args below meth c Q b pc x st0 (mix true Mx Mm) := by
  obtain ⟨d1, d2⟩ := hdp
  refine b_invK (ci := 12) (T := TX12) (N := 96) (a := 337) (dk := 72) (r := r) (M' := mix true Mx Mm') hC hd hlk (by rw [hcl]; rfl) (by decide +kernel) (by decide) (by decide) hnp h0 hw (show d' + 1 ≤ 2048 by omega) (show 8 + (maxL + 11) + 64 * d' ≤ 84000 by omega) (Nat.le_refl _) (Nat.le_refl _) (fun hok => ?_) ?_
  · rw [mix_comm, mix_comm]
    exact hA hok r Mm' ho Mx
  · rw [ht]
    exact kk
end LI
