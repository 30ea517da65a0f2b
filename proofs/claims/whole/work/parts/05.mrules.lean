def fbL : List (List Nat) := [[0, 0], [0, 0, 0, 0], [0], [0, 0, 0, 0, 0, 0, 0, 0, 0, 0, 0, 0], [0, 0, 0, 0, 0, 0], [0, 0, 0, 0, 0, 0, 0, 0, 0, 0, 0], [0, 0], [0, 0, 0, 0, 0, 0, 1], [0, 0, 0, 0, 0, 1, 0, 0, 0, 0], [0, 0], [0, 0, 0, 0, 0, 1, 0, 1, 0], [0, 0, 0, 0, 0, 0, 0, 0, 0, 0, 0, 0, 0, 0, 0, 0, 0, 0], [0, 0, 0, 0, 0, 0, 0, 0, 0, 0, 0, 0, 0, 0, 0, 0, 0, 0, 0, 0, 0, 0, 0, 0, 0, 0, 0, 0, 0, 0, 0, 0, 0, 0, 0, 0, 0, 0, 0, 0, 0, 0, 0, 0, 0, 0, 0, 0, 0, 0, 0, 0, 0, 0, 0, 0, 0, 0, 0, 0, 1, 0, 0, 0, 0, 0, 0, 0, 0, 0, 0, 0, 0, 0, 0, 0, 0, 0, 0, 0, 0, 0, 0, 0, 0, 0, 0, 0, 0, 0, 0, 0, 0, 0, 0, 0]]
def fb (c k : Nat) : Nat := (fbL.getD c []).getD k 0
def tagT : FieldType → Nat
  | .long => 1
  | .object _ => 2
  | .array _ => 2
  | _ => 0
def isZ : FieldType → Nat
  | .boolean => 1
  | _ => 0
def okTy : FieldType → Bool
  | .int => true
  | .boolean => true
  | .long => true
  | .object _ => true
  | .array _ => true
  | _ => false
theorem tgX0 : ∀ k, k < 2 → tagT (tyX0 k) = ft 0 k ∧ isZ (tyX0 k) = fb 0 k ∧ okTy (tyX0 k) = true := by decide +kernel
theorem tgX1 : ∀ k, k < 4 → tagT (tyX1 k) = ft 1 k ∧ isZ (tyX1 k) = fb 1 k ∧ okTy (tyX1 k) = true := by decide +kernel
theorem tgX2 : ∀ k, k < 1 → tagT (tyX2 k) = ft 2 k ∧ isZ (tyX2 k) = fb 2 k ∧ okTy (tyX2 k) = true := by decide +kernel
theorem tgX3 : ∀ k, k < 12 → tagT (tyX3 k) = ft 3 k ∧ isZ (tyX3 k) = fb 3 k ∧ okTy (tyX3 k) = true := by decide +kernel
theorem tgX4 : ∀ k, k < 6 → tagT (tyX4 k) = ft 4 k ∧ isZ (tyX4 k) = fb 4 k ∧ okTy (tyX4 k) = true := by decide +kernel
theorem tgX5 : ∀ k, k < 11 → tagT (tyX5 k) = ft 5 k ∧ isZ (tyX5 k) = fb 5 k ∧ okTy (tyX5 k) = true := by decide +kernel
theorem tgX6 : ∀ k, k < 2 → tagT (tyX6 k) = ft 6 k ∧ isZ (tyX6 k) = fb 6 k ∧ okTy (tyX6 k) = true := by decide +kernel
theorem tgX7 : ∀ k, k < 7 → tagT (tyX7 k) = ft 7 k ∧ isZ (tyX7 k) = fb 7 k ∧ okTy (tyX7 k) = true := by decide +kernel
theorem tgX8 : ∀ k, k < 10 → tagT (tyX8 k) = ft 8 k ∧ isZ (tyX8 k) = fb 8 k ∧ okTy (tyX8 k) = true := by decide +kernel
theorem tgX9 : ∀ k, k < 2 → tagT (tyX9 k) = ft 9 k ∧ isZ (tyX9 k) = fb 9 k ∧ okTy (tyX9 k) = true := by decide +kernel
theorem tgX10 : ∀ k, k < 9 → tagT (tyX10 k) = ft 10 k ∧ isZ (tyX10 k) = fb 10 k ∧ okTy (tyX10 k) = true := by decide +kernel
theorem tgX11 : ∀ k, k < 18 → tagT (tyX11 k) = ft 11 k ∧ isZ (tyX11 k) = fb 11 k ∧ okTy (tyX11 k) = true := by decide +kernel
theorem tgX12 : ∀ k, k < 96 → tagT (tyX12 k) = ft 12 k ∧ isZ (tyX12 k) = fb 12 k ∧ okTy (tyX12 k) = true := by decide +kernel
/-- what is known of a class by its number -/
theorem vw_all {ci : Nat} {C : String} {T : u_T} {N : Nat} (h : vwCl[ci]? = some (C, T, N)) : (∀ w ∈ u_ws C T N, w ∈ lw_tbl) ∧ ∃ ty : Nat → FieldType, (∀ k, k < N → parseFieldDescriptor (T k).2.2.1 = some (ty k)) ∧ (∀ a, a < N → ∀ b, b < N → a ≠ b → (T a).2.1 ≠ (T b).2.1) ∧ ∀ k, k < N → tagT (ty k) = ft ci k ∧ isZ (ty k) = fb ci k ∧ okTy (ty k) = true := by
  match ci, h with
  | 0, h => cases h; exact ⟨inX0, tyX0, tyX0_ok, nmX0, tgX0⟩
  | 1, h => cases h; exact ⟨inX1, tyX1, tyX1_ok, nmX1, tgX1⟩
  | 2, h => cases h; exact ⟨inX2, tyX2, tyX2_ok, nmX2, tgX2⟩
  | 3, h => cases h; exact ⟨inX3, tyX3, tyX3_ok, nmX3, tgX3⟩
  | 4, h => cases h; exact ⟨inX4, tyX4, tyX4_ok, nmX4, tgX4⟩
  | 5, h => cases h; exact ⟨inX5, tyX5, tyX5_ok, nmX5, tgX5⟩
  | 6, h => cases h; exact ⟨inX6, tyX6, tyX6_ok, nmX6, tgX6⟩
  | 7, h => cases h; exact ⟨inX7, tyX7, tyX7_ok, nmX7, tgX7⟩
  | 8, h => cases h; exact ⟨inX8, tyX8, tyX8_ok, nmX8, tgX8⟩
  | 9, h => cases h; exact ⟨inX9, tyX9, tyX9_ok, nmX9, tgX9⟩
  | 10, h => cases h; exact ⟨inX10, tyX10, tyX10_ok, nmX10, tgX10⟩
  | 11, h => cases h; exact ⟨inX11, tyX11, tyX11_ok, nmX11, tgX11⟩
  | 12, h => cases h; exact ⟨inX12, tyX12, tyX12_ok, nmX12, tgX12⟩
  | k + 13, h => simp [vwCl] at h
theorem u_ws_ok {C : String} {T : u_T} {N : Nat} : ∀ w ∈ u_ws C T N, tb_ok w = true ∧ w.onTables = true := by
  intro w hw
  obtain ⟨k, -, rfl⟩ := List.mem_map.mp hw
  unfold u_lay
  split <;> exact ⟨rfl, rfl⟩
theorem u_ws_tb {C : String} {T : u_T} {N : Nat} {s : State} (h : Tb s) (hin : ∀ w ∈ u_ws C T N, w ∈ lw_tbl) (args : Array Value) : ∀ w ∈ u_ws C T N, w.before args s = true := fun w hw => h.use (hin w hw) (u_ws_ok w hw).1 (u_ws_ok w hw).2 args
/-- a constant pool's entry for a field: the class by its number, the field by its slot -/
def LkF (own : String) (i ci k : Nat) : Prop := ∃ (C : String) (T : u_T) (N : Nat), vwCl[ci]? = some (C, T, N) ∧ k < N ∧ (Cond.fieldLink own i (T k).1 (T k).2.1 (T k).2.2.1 ∈ lw_tbl ∨ ∃ host, Cond.fieldLinkNest own i (T k).1 (T k).2.1 (T k).2.2.1 host ∈ lw_tbl)
theorem fits_of {B : Nat} {ty : FieldType} {x : Int} (ho : okTy ty = true) (hx : okt (tagT ty) x) (hz : isZ ty = 1 → x = 0 ∨ x = 1) : narrow ty (fv B (tagT ty) x) = fv B (tagT ty) x ∧ fits ty (fv B (tagT ty) x) = true := by
  cases ty with
  | int => exact ⟨rfl, rfl⟩
  | boolean => rcases hz rfl with rfl | rfl <;> exact ⟨rfl, rfl⟩
  | long => exact ⟨rfl, rfl⟩
  | object C => rcases fv2 B x with ⟨_, e⟩ | ⟨_, e⟩ <;> (show narrow _ (fv B 2 x) = fv B 2 x ∧ fits _ (fv B 2 x) = true; rw [e]; exact ⟨rfl, rfl⟩)
  | array t => rcases fv2 B x with ⟨_, e⟩ | ⟨_, e⟩ <;> (show narrow _ (fv B 2 x) = fv B 2 x ∧ fits _ (fv B 2 x) = true; rw [e]; exact ⟨rfl, rfl⟩)
  | _ => exact absurd ho (by decide)
theorem tyOf_obj {a : Int} {c ci : Nat} (hk : kd a = c) (hci : c % 50 = 10 + ci) (j : Int) : tyOf a j = ft ci j.toNat := by
  unfold tyOf
  rw [hk, hci, if_neg (by omega)]
  congr 1; omega
theorem tyOf_arr {a : Int} {c b : Nat} (hk : kd a = c) (hb : c % 50 = b) (hlt : b < 10) (j : Int) : tyOf a j = et b := by
  unfold tyOf
  rw [hk, hb, if_pos hlt]
theorem Hp.rng {g : GT} {n nf : Int} {M : Mem} {H : Heap} (h : Hp g n nf M H) {a : Int} (h1 : 1 ≤ a) (h2 : a ≤ n) {j : Int} (hj : 0 ≤ j) : okt (tyOf a j) (M a j) := h.2.2.2.1 a j h1 h2 hj
section MR
variable {g : GT} {p : Program} {e : Env} {R : Room} {s : State} {m : MethodId} {args : Array Value} {below : List Frame} {meth : Method} {c : Code} {Q : State → Prop} {cells slots pc : Nat} {ls : List LV} {sk : List AV} {n nf : Int} {M : Mem} {own : String} {cc : ByteArray} {nL : Nat}
theorem b_gf (hC : Cx g p s m meth c own cc nL) {i d ci k : Nat} {a : Int} (hd : decode cc pc = .ok (.getfield i, 3)) (hlk : LkF own i ci k) (hk : kd a = d) (hci : d % 50 = 10 + ci) (ha : a ≤ n) (kk : BW g p e R s m args below meth c Q cells slots (pc + 3) ls ((ft ci k, M a k) :: sk) n nf M) : BW g p e R s m args below meth c Q cells slots pc ls ((2, a) :: sk) n nf M := by
  intro H locs A hH hS hl hL hs
  obtain ⟨h1, -⟩ := kd_pos (a := a) (by rw [hk]; omega)
  obtain ⟨C, T, N, hcl, hkN, hlink⟩ := hlk
  obtain ⟨hin, -⟩ := vw_all hcl
  have hts := u_ws_tb hC.2.2.2.2.2.1 hin args
  have hv := hH.rng h1 ha (Int.natCast_nonneg k)
  rw [tyOf_obj hk hci] at hv
  obtain ⟨r, hr1, cell, q1, q2, q3, q4⟩ := hH.obj h1 ha (by rw [hk, hci]) (by omega)
  have e10 : 10 + ci - 10 = ci := by omega
  rw [e10] at hr1 q2 q4
  have hr : r = (C, T, N) := Option.some.inj (hr1.symm.trans hcl)
  subst hr
  obtain ⟨hSl, hfc, kC, hkC, hkind⟩ := hC.2.2.2.2.1.1.1 ci _ hcl
  obtain ⟨cf, kf, fi, f, hi, hsl⟩ := hSl k hkN
  have hst := (u_facts hfc hkC (u_lays hts (fun _ h => h) hkN) hi).1
  have hfin := kk H locs A hH hS hl hL (hs.tl.cons hv)
  have hq : cell.slots[f.slot]? = some (fv (gB g) (ft ci k) (M a k)) := by rw [hsl, q4 k hkN]
  show W p g.1 e R s m args below meth c H locs cells slots Q (F0 m pc A (fv (gB g) 2 a :: sk.map (tv (gB g))))
  rw [okt_ref (by omega)]
  rcases hlink with hw | ⟨host, hw⟩
  · exact W.getf hC.1 hC.2.1 hC.2.2.2.1 (hC.2.2.2.2.2.1.use hw rfl rfl args) hi hst q1 (by rw [q3]; exact fun h => by cases h) hq rfl rfl hd hfin
  · exact va_Wgetf hC.1 hC.2.1 hC.2.2.2.1 (hC.2.2.2.2.2.1.use hw rfl rfl args) hi hst q1 (by rw [q3]; exact fun h => by cases h) hq rfl rfl hd hfin
theorem b_gx (hC : Cx g p s m meth c own cc nL) {i d ci k : Nat} {a v : Int} (hd : decode cc pc = .ok (.getfield i, 3)) (hlk : LkF own i ci k) (hk : kd a = d) (hci : d % 50 = 10 + ci) (ht : ft ci k = 2) (ha : a ≤ n) (hf : a ≤ nf) (hx : ((a, (k : Int), v) : Int × Int × Int) ∈ fxl) (kk : BW g p e R s m args below meth c Q cells slots (pc + 3) ls ((2, v) :: sk) n nf M) : BW g p e R s m args below meth c Q cells slots pc ls ((2, a) :: sk) n nf M := by
  intro H locs A hH hS hl hL hs
  have e1 := hH.2.2.2.2.2.1 _ hx hf
  refine b_gf hC hd hlk hk hci ha ?_ H locs A hH hS hl hL hs
  rw [ht, e1]; exact kk
theorem obj_set {q : Nat} {cC : ClassId} {N : Nat} {iS : Nat → Nat} {H' : Heap} {cell : Cell} {B ci k : Nat} {M : Mem} {a x : Int} (e1 : H'[q]? = some (cell.setSlot (iS k) (fv B (ft ci k) x))) (q2 : cell.cls = cC) (q3 : cell.vm = .none) (q4 : ∀ k, k < N → cell.slots[iS k]? = some (fv B (ft ci k) (M a k))) (hap : ∀ x y, x < N → y < N → x ≠ y → iS x ≠ iS y) (hk : k < N) : t_OB q cC N iS H' (fun j => fv B (ft ci j) (st M a k x a j)) := by
  refine t_OB.to (V := updV (fun j => fv B (ft ci j) (M a j)) k (fv B (ft ci k) x)) ⟨_, e1, q2, q3, t_set q4 hap hk _⟩ ?_
  intro j _
  unfold updV
  by_cases hj : j = k
  · subst hj; rw [if_pos rfl, st_same]
  · rw [if_neg hj, st_neI (by omega)]
theorem b_pf (hC : Cx g p s m meth c own cc nL) {i d ci k : Nat} {a x : Int} (hd : decode cc pc = .ok (.putfield i, 3)) (hlk : LkF own i ci k) (hk : kd a = d) (hci : d % 50 = 10 + ci) (ha : a ≤ n) {t : Nat} (ht : ft ci k = t) (hz : fb ci k = 1 → x = 0 ∨ x = 1) (hfx : fxk d k = false ∨ nf < a) (hfin : ∀ C T N, vwCl[ci]? = some (C, T, N) → (T k).2.2.2 = false ∨ (meth.name = "<init>" ∧ (T k).1 = own ∧ Cond.fieldLink own i (T k).1 (T k).2.1 (T k).2.2.1 ∈ lw_tbl)) (kk : BW g p e R s m args below meth c Q cells slots (pc + 3) ls sk n nf (st M a k x)) : BW g p e R s m args below meth c Q cells slots pc ls ((t, x) :: (2, a) :: sk) n nf M := by
  subst ht
  intro H locs A hH hS hl hL hs
  obtain ⟨h1, -⟩ := kd_pos (a := a) (by rw [hk]; omega)
  obtain ⟨C, T, N, hcl, hkN, hlink⟩ := hlk
  obtain ⟨hin, ty, hty, hnm, htg⟩ := vw_all hcl
  have hts := u_ws_tb hC.2.2.2.2.2.1 hin args
  have hx : okt (ft ci k) x := hs.hd
  have hap := va_apart (own := own) hts (fun _ h => h) ty hty hnm hC.2.2.2.2.1.1 hcl
  obtain ⟨r, hr1, cell, q1, q2, q3, q4⟩ := hH.obj h1 ha (by rw [hk, hci]) (by omega)
  have e10 : 10 + ci - 10 = ci := by omega
  rw [e10] at hr1 q2 q4
  have hr : r = (C, T, N) := Option.some.inj (hr1.symm.trans hcl)
  subst hr
  obtain ⟨hSl, hfc, kC, hkC, hkind⟩ := hC.2.2.2.2.1.1.1 ci _ hcl
  obtain ⟨cf, kf, fi, f, hi, hsl⟩ := hSl k hkN
  have hlay := hts _ (u_in_lay hkN)
  have hst := (u_facts hfc hkC (u_lays hts (fun _ h => h) hkN) hi).1
  obtain ⟨t1, t2, t3⟩ := htg k hkN
  have hff := fits_of (B := gB g) t3 (by rw [t1]; exact hx) (by rw [t2]; exact hz)
  rw [t1] at hff
  have hA : Ag g (gB g + a.toNat) := by show gB g < _; omega
  have fin : ∀ (H' : Heap), H'[gB g + a.toNat]? = some (cell.setSlot ((gD g).2 ci k) (fv (gB g) (ft ci k) x)) → H'.size = H.size → (∀ q, q ≠ gB g + a.toNat → H'[q]? = H[q]?) → W p g.1 e R s m args below meth c H' (locs ++ [⟨gB g + a.toNat, (gD g).2 ci k⟩]) cells slots Q (F0 m (pc + 3) A (sk.map (tv (gB g)))) := by
    intro H' e1 e2 e3
    refine kk H' _ A (hH.set h1 ha (Int.natCast_nonneg k) e2 e3 ?_ ?_ (by rw [hk]; exact hfx)) (hS.put e2 e3 hA) hl hL hs.tl.tl
    · unfold cellAt
      rw [hk, hci, if_neg (by omega), e10]
      exact ⟨_, hcl, obj_set e1 q2 q3 q4 hap hkN⟩
    · rw [tyOf_obj hk hci]; exact hx
  show W p g.1 e R s m args below meth c H locs cells slots Q (F0 m pc A (fv (gB g) (ft ci k) x :: fv (gB g) 2 a :: sk.map (tv (gB g))))
  rw [okt_ref (by omega)]
  unfold u_lay at hlay
  rcases hfin _ _ _ hcl with hf | ⟨hini, hdecl, hw⟩
  · rw [if_neg (by rw [hf]; decide)] at hlay
    have h6 := u_store hfc hkC hkind hlay hi (hty k hkN) hff.1 hff.2
    rcases hlink with hw | ⟨host, hw⟩
    · refine W.putK hC.1 hC.2.1 (f := f) ⟨hC.2.2.2.1, hC.2.2.2.2.2.1.use hw rfl rfl args, ⟨_, _, _, hi⟩, hst⟩ (by rw [q2]; exact h6) q1 q3 (by rw [hsl]; exact k2_hasslot (q4 k hkN)) rfl rfl hd ?_
      rw [hsl]; exact fin
    · refine va_WputK hC.1 hC.2.1 (f := f) hC.2.2.2.1 (hC.2.2.2.2.2.1.use hw rfl rfl args) hi hst (by rw [q2]; exact h6) q1 q3 (by rw [hsl]; exact k2_hasslot (q4 k hkN)) rfl rfl hd ?_
      rw [hsl]; exact fin
  · by_cases hf : (T k).2.2.2 = true
    · rw [if_pos hf] at hlay
      have hcf : m.cls = cf := by
        obtain ⟨_, _, c', _, _, _, -, -, hf', -, -, -, hown2, -⟩ := Cond.laysFinal_spec hlay
        have e1 : c' = cf := by have := hi.symm.trans hf'; simp at this; exact this.1.symm
        rw [hdecl] at hown2
        rw [← e1]; exact Option.some.inj (hC.2.2.2.1.symm.trans hown2)
      have h6 := u_fits hfc hkC hkind (Or.inr hlay) hi (hty k hkN) hff.1 hff.2
      refine W.putFinK hC.1 hC.2.1 hC.2.2.2.1 (hC.2.2.2.2.2.1.use hw rfl rfl args) hi hst hcf hini (by rw [q2]; exact h6) q1 q3 (by rw [hsl]; exact k2_hasslot (q4 k hkN)) rfl rfl hd ?_
      rw [hsl]; exact fin
    · rw [if_neg hf] at hlay
      have h6 := u_store hfc hkC hkind hlay hi (hty k hkN) hff.1 hff.2
      refine W.putK hC.1 hC.2.1 (f := f) ⟨hC.2.2.2.1, hC.2.2.2.2.2.1.use hw rfl rfl args, ⟨_, _, _, hi⟩, hst⟩ (by rw [q2]; exact h6) q1 q3 (by rw [hsl]; exact k2_hasslot (q4 k hkN)) rfl rfl hd ?_
      rw [hsl]; exact fin
theorem ix_in {i : Int} {N : Int} (h : 0 ≤ i ∧ i < N) (hr : in32 i) : ¬ (Int32.ofInt i < 0 ∨ N.toNat ≤ (Int32.ofInt i).toNatClampNeg) ∧ (Int32.ofInt i).toNatClampNeg = i.toNat := by
  have e : (Int32.ofInt i).toNatClampNeg = i.toNat := by unfold Int32.toNatClampNeg; rw [i32_to hr]
  refine ⟨?_, e⟩
  rw [e]
  rintro (q | q)
  · rw [i32_0] at q; have := (i32_lt hr in32_0).mp q; omega
  · omega
theorem arr_st {g : GT} {cI : ClassId} {N b : Nat} {M : Mem} {a i x : Int} (hi : 0 ≤ i) : (arrV cI N (fun j => fv (gB g) b (M a j))).setSlot i.toNat (fv (gB g) b x) = arrV cI N (fun j => fv (gB g) b (st M a i x a j)) := by
  rw [arrV_store]
  congr 1
  funext j
  unfold updV
  by_cases hj : j = i.toNat
  · rw [if_pos hj, show ((j : Nat) : Int) = i by omega, st_same]
  · rw [if_neg hj, st_neI (by omega)]

theorem b_iald (hC : Cx g p s m meth c own cc nL) {d b : Nat} {a i : Int} (hd : decode cc pc = .ok (.iaload, 1)) (hk : kd a = d) (hdb : d % 50 = b) (hb : b = 1 ∨ b = 8) (ha : a ≤ n) (hi : 0 ≤ i ∧ i < ln a) (kk : BW g p e R s m args below meth c Q cells slots (pc + 1) ls ((0, M a i) :: sk) n nf M) : BW g p e R s m args below meth c Q cells slots pc ls ((0, i) :: (2, a) :: sk) n nf M := by
  intro H locs A hH hS hl hL hs
  have hb0 : b < 10 ∧ b ≠ 0 := by omega
  obtain ⟨h1, -⟩ := kd_pos (a := a) (by rw [hk]; omega)
  have hcy : gc g (cyi b) = gc g 1 := by rcases hb with rfl | rfl <;> rfl
  have het : et b = 0 := by rcases hb with rfl | rfl <;> rfl
  have hcell := hH.arr h1 ha (by rw [hk, hdb]) hb0.1
  rw [hcy, het] at hcell
  have hv := hH.rng h1 ha hi.1
  rw [tyOf_arr hk hdb hb0.1, het] at hv
  obtain ⟨hin, ei⟩ := ix_in hi hs.hd
  have hfin := kk H locs A hH hS hl hL (hs.tl.tl.cons hv)
  show W p g.1 e R s m args below meth c H locs cells slots Q (F0 m pc A (.int (Int32.ofInt i) :: fv (gB g) 2 a :: sk.map (tv (gB g))))
  rw [okt_ref (by omega)]
  exact W.iald (v := fv (gB g) 0 (M a i)) hC.1 hC.2.1 hcell ((hC.2.2.2.2.1.1.2 0 _ rfl).1 _ _) (fun q => by cases q) (by rw [arrV_size]; exact hin) (by rw [ei, arrV_read _ _ (by omega)]; congr 2; rw [show ((i.toNat : Nat) : Int) = i by omega]) rfl rfl hd hfin
theorem b_iast (hC : Cx g p s m meth c own cc nL) {d b : Nat} {a i x : Int} (hd : decode cc pc = .ok (.iastore, 1)) (hk : kd a = d) (hdb : d % 50 = b) (hb : b = 1 ∨ b = 8) (ha : a ≤ n) (hi : 0 ≤ i ∧ i < ln a) (hfx : fxk d i = false ∨ nf < a) (kk : BW g p e R s m args below meth c Q cells slots (pc + 1) ls sk n nf (st M a i x)) : BW g p e R s m args below meth c Q cells slots pc ls ((0, x) :: (0, i) :: (2, a) :: sk) n nf M := by
  intro H locs A hH hS hl hL hs
  have hb0 : b < 10 ∧ b ≠ 0 := by omega
  obtain ⟨h1, -⟩ := kd_pos (a := a) (by rw [hk]; omega)
  have hcy : gc g (cyi b) = gc g 1 := by rcases hb with rfl | rfl <;> rfl
  have het : et b = 0 := by rcases hb with rfl | rfl <;> rfl
  have hcell := hH.arr h1 ha (by rw [hk, hdb]) hb0.1
  rw [hcy, het] at hcell
  obtain ⟨hin, ei⟩ := ix_in hi hs.hd2
  have hA : Ag g (gB g + a.toNat) := by show gB g < _; omega
  show W p g.1 e R s m args below meth c H locs cells slots Q (F0 m pc A (fv (gB g) 0 x :: .int (Int32.ofInt i) :: fv (gB g) 2 a :: sk.map (tv (gB g))))
  rw [okt_ref (by omega)]
  refine W.iast hC.1 hC.2.1 hcell ((hC.2.2.2.2.1.1.2 0 _ rfl).1 _ _) (fun q => by cases q) (by rw [arrV_size]; exact hin) rfl rfl hd fun H1 e1 z oq => ?_
  refine kk H1 _ A (hH.set h1 ha hi.1 z oq ?_ ?_ (by rw [hk]; exact hfx)) (hS.put z oq hA) hl hL hs.tl.tl.tl
  · unfold cellAt
    rw [hk, hdb, if_pos hb0.1, hcy, het, e1, ei, ← arr_st hi.1]
    rfl
  · rw [tyOf_arr hk hdb hb0.1, het]; exact hs.hd
theorem b_lald (hC : Cx g p s m meth c own cc nL) {d b : Nat} {a i : Int} (hd : decode cc pc = .ok (.laload, 1)) (hk : kd a = d) (hdb : d % 50 = b) (hb : b = 2) (ha : a ≤ n) (hi : 0 ≤ i ∧ i < ln a) (kk : BW g p e R s m args below meth c Q cells slots (pc + 1) ls ((1, M a i) :: sk) n nf M) : BW g p e R s m args below meth c Q cells slots pc ls ((0, i) :: (2, a) :: sk) n nf M := by
  intro H locs A hH hS hl hL hs
  have hb0 : b < 10 ∧ b ≠ 0 := by omega
  obtain ⟨h1, -⟩ := kd_pos (a := a) (by rw [hk]; omega)
  have hcy : gc g (cyi b) = gc g 2 := by rw [hb]; rfl
  have het : et b = 1 := by rw [hb]; rfl
  have hcell := hH.arr h1 ha (by rw [hk, hdb]) hb0.1
  rw [hcy, het] at hcell
  have hv := hH.rng h1 ha hi.1
  rw [tyOf_arr hk hdb hb0.1, het] at hv
  obtain ⟨hin, ei⟩ := ix_in hi hs.hd
  have hfin := kk H locs A hH hS hl hL (hs.tl.tl.cons hv)
  show W p g.1 e R s m args below meth c H locs cells slots Q (F0 m pc A (.int (Int32.ofInt i) :: fv (gB g) 2 a :: sk.map (tv (gB g))))
  rw [okt_ref (by omega)]
  exact W.lald (v := fv (gB g) 1 (M a i)) hC.1 hC.2.1 hcell ((hC.2.2.2.2.1.1.2 1 _ rfl).1 _ _) (fun q => by cases q) (by rw [arrV_size]; exact hin) (by rw [ei, arrV_read _ _ (by omega)]; congr 2; rw [show ((i.toNat : Nat) : Int) = i by omega]) rfl rfl hd hfin
theorem b_last (hC : Cx g p s m meth c own cc nL) {d b : Nat} {a i x : Int} (hd : decode cc pc = .ok (.lastore, 1)) (hk : kd a = d) (hdb : d % 50 = b) (hb : b = 2) (ha : a ≤ n) (hi : 0 ≤ i ∧ i < ln a) (hfx : fxk d i = false ∨ nf < a) (kk : BW g p e R s m args below meth c Q cells slots (pc + 1) ls sk n nf (st M a i x)) : BW g p e R s m args below meth c Q cells slots pc ls ((1, x) :: (0, i) :: (2, a) :: sk) n nf M := by
  intro H locs A hH hS hl hL hs
  have hb0 : b < 10 ∧ b ≠ 0 := by omega
  obtain ⟨h1, -⟩ := kd_pos (a := a) (by rw [hk]; omega)
  have hcy : gc g (cyi b) = gc g 2 := by rw [hb]; rfl
  have het : et b = 1 := by rw [hb]; rfl
  have hcell := hH.arr h1 ha (by rw [hk, hdb]) hb0.1
  rw [hcy, het] at hcell
  obtain ⟨hin, ei⟩ := ix_in hi hs.hd2
  have hA : Ag g (gB g + a.toNat) := by show gB g < _; omega
  show W p g.1 e R s m args below meth c H locs cells slots Q (F0 m pc A (fv (gB g) 1 x :: .int (Int32.ofInt i) :: fv (gB g) 2 a :: sk.map (tv (gB g))))
  rw [okt_ref (by omega)]
  refine W.last hC.1 hC.2.1 hcell ((hC.2.2.2.2.1.1.2 1 _ rfl).1 _ _) (fun q => by cases q) (by rw [arrV_size]; exact hin) rfl rfl hd fun H1 e1 z oq => ?_
  refine kk H1 _ A (hH.set h1 ha hi.1 z oq ?_ ?_ (by rw [hk]; exact hfx)) (hS.put z oq hA) hl hL hs.tl.tl.tl
  · unfold cellAt
    rw [hk, hdb, if_pos hb0.1, hcy, het, e1, ei, ← arr_st hi.1]
    rfl
  · rw [tyOf_arr hk hdb hb0.1, het]; exact hs.hd
theorem b_zald (hC : Cx g p s m meth c own cc nL) {d b : Nat} {a i : Int} (hd : decode cc pc = .ok (.baload, 1)) (hk : kd a = d) (hdb : d % 50 = b) (hb : b = 3) (ha : a ≤ n) (hi : 0 ≤ i ∧ i < ln a) (kk : BW g p e R s m args below meth c Q cells slots (pc + 1) ls ((0, M a i) :: sk) n nf M) : BW g p e R s m args below meth c Q cells slots pc ls ((0, i) :: (2, a) :: sk) n nf M := by
  intro H locs A hH hS hl hL hs
  have hb0 : b < 10 ∧ b ≠ 0 := by omega
  obtain ⟨h1, -⟩ := kd_pos (a := a) (by rw [hk]; omega)
  have hcy : gc g (cyi b) = gc g 3 := by rw [hb]; rfl
  have het : et b = 0 := by rw [hb]; rfl
  have hcell := hH.arr h1 ha (by rw [hk, hdb]) hb0.1
  rw [hcy, het] at hcell
  have hv := hH.rng h1 ha hi.1
  rw [tyOf_arr hk hdb hb0.1, het] at hv
  obtain ⟨hin, ei⟩ := ix_in hi hs.hd
  have hfin := kk H locs A hH hS hl hL (hs.tl.tl.cons hv)
  show W p g.1 e R s m args below meth c H locs cells slots Q (F0 m pc A (.int (Int32.ofInt i) :: fv (gB g) 2 a :: sk.map (tv (gB g))))
  rw [okt_ref (by omega)]
  exact W.zald (v := fv (gB g) 0 (M a i)) hC.1 hC.2.1 hcell ((hC.2.2.2.2.1.1.2 2 _ rfl).1 _ _) (fun q => by cases q) (by rw [arrV_size]; exact hin) (by rw [ei, arrV_read _ _ (by omega)]; congr 2; rw [show ((i.toNat : Nat) : Int) = i by omega]) rfl rfl hd hfin
theorem b_zast (hC : Cx g p s m meth c own cc nL) {d b : Nat} {a i x : Int} (hd : decode cc pc = .ok (.bastore, 1)) (hk : kd a = d) (hdb : d % 50 = b) (hb : b = 3) (ha : a ≤ n) (hi : 0 ≤ i ∧ i < ln a) (hz : x = 0 ∨ x = 1) (hfx : fxk d i = false ∨ nf < a) (kk : BW g p e R s m args below meth c Q cells slots (pc + 1) ls sk n nf (st M a i x)) : BW g p e R s m args below meth c Q cells slots pc ls ((0, x) :: (0, i) :: (2, a) :: sk) n nf M := by
  intro H locs A hH hS hl hL hs
  have hb0 : b < 10 ∧ b ≠ 0 := by omega
  obtain ⟨h1, -⟩ := kd_pos (a := a) (by rw [hk]; omega)
  have hcy : gc g (cyi b) = gc g 3 := by rw [hb]; rfl
  have het : et b = 0 := by rw [hb]; rfl
  have hcell := hH.arr h1 ha (by rw [hk, hdb]) hb0.1
  rw [hcy, het] at hcell
  obtain ⟨hin, ei⟩ := ix_in hi hs.hd2
  have hA : Ag g (gB g + a.toNat) := by show gB g < _; omega
  show W p g.1 e R s m args below meth c H locs cells slots Q (F0 m pc A (fv (gB g) 0 x :: .int (Int32.ofInt i) :: fv (gB g) 2 a :: sk.map (tv (gB g))))
  rw [okt_ref (by omega)]
  refine W.zast hC.1 hC.2.1 hcell ((hC.2.2.2.2.1.1.2 2 _ rfl).1 _ _) (fun q => by cases q) (by rw [arrV_size]; exact hin) rfl rfl hd fun H1 e1 z oq => ?_
  refine kk H1 _ A (hH.set h1 ha hi.1 z oq ?_ ?_ (by rw [hk]; exact hfx)) (hS.put z oq hA) hl hL hs.tl.tl.tl
  · unfold cellAt
    rw [hk, hdb, if_pos hb0.1, hcy, het, e1, ei, ← arr_st hi.1]
    rcases hz with rfl | rfl <;> rfl
  · rw [tyOf_arr hk hdb hb0.1, het]; exact hs.hd
theorem nar_c {x : Int} (h : 0 ≤ x ∧ x < 128) : narrow .char (.int (Int32.ofInt x)) = .int (Int32.ofInt x) := by
  obtain ⟨j, hj, rfl⟩ : ∃ j : Nat, j < 128 ∧ x = j := ⟨x.toNat, by omega, by omega⟩
  have q : ∀ j : Nat, j < 128 → narrow .char (.int (Int32.ofInt j)) = .int (Int32.ofInt j) := by decide +kernel
  exact q j hj
theorem b_cald (hC : Cx g p s m meth c own cc nL) {d b : Nat} {a i : Int} (hd : decode cc pc = .ok (.caload, 1)) (hk : kd a = d) (hdb : d % 50 = b) (hb : b = 4) (ha : a ≤ n) (hi : 0 ≤ i ∧ i < ln a) (kk : BW g p e R s m args below meth c Q cells slots (pc + 1) ls ((0, M a i) :: sk) n nf M) : BW g p e R s m args below meth c Q cells slots pc ls ((0, i) :: (2, a) :: sk) n nf M := by
  intro H locs A hH hS hl hL hs
  have hb0 : b < 10 ∧ b ≠ 0 := by omega
  obtain ⟨h1, -⟩ := kd_pos (a := a) (by rw [hk]; omega)
  have hcy : gc g (cyi b) = gc g 4 := by rw [hb]; rfl
  have het : et b = 0 := by rw [hb]; rfl
  have hcell := hH.arr h1 ha (by rw [hk, hdb]) hb0.1
  rw [hcy, het] at hcell
  have hv := hH.rng h1 ha hi.1
  rw [tyOf_arr hk hdb hb0.1, het] at hv
  obtain ⟨hin, ei⟩ := ix_in hi hs.hd
  have hfin := kk H locs A hH hS hl hL (hs.tl.tl.cons hv)
  show W p g.1 e R s m args below meth c H locs cells slots Q (F0 m pc A (.int (Int32.ofInt i) :: fv (gB g) 2 a :: sk.map (tv (gB g))))
  rw [okt_ref (by omega)]
  exact W.cald (v := fv (gB g) 0 (M a i)) hC.1 hC.2.1 hcell ((hC.2.2.2.2.1.1.2 3 _ rfl).1 _ _) (fun q => by cases q) (by rw [arrV_size]; exact hin) (by rw [ei, arrV_read _ _ (by omega)]; congr 2; rw [show ((i.toNat : Nat) : Int) = i by omega]) rfl rfl hd hfin
theorem b_cast (hC : Cx g p s m meth c own cc nL) {d b : Nat} {a i x : Int} (hd : decode cc pc = .ok (.castore, 1)) (hk : kd a = d) (hdb : d % 50 = b) (hb : b = 4) (ha : a ≤ n) (hi : 0 ≤ i ∧ i < ln a) (hz : 0 ≤ x ∧ x < 128) (hfx : fxk d i = false ∨ nf < a) (kk : BW g p e R s m args below meth c Q cells slots (pc + 1) ls sk n nf (st M a i x)) : BW g p e R s m args below meth c Q cells slots pc ls ((0, x) :: (0, i) :: (2, a) :: sk) n nf M := by
  intro H locs A hH hS hl hL hs
  have hb0 : b < 10 ∧ b ≠ 0 := by omega
  obtain ⟨h1, -⟩ := kd_pos (a := a) (by rw [hk]; omega)
  have hcy : gc g (cyi b) = gc g 4 := by rw [hb]; rfl
  have het : et b = 0 := by rw [hb]; rfl
  have hcell := hH.arr h1 ha (by rw [hk, hdb]) hb0.1
  rw [hcy, het] at hcell
  obtain ⟨hin, ei⟩ := ix_in hi hs.hd2
  have hA : Ag g (gB g + a.toNat) := by show gB g < _; omega
  show W p g.1 e R s m args below meth c H locs cells slots Q (F0 m pc A (fv (gB g) 0 x :: .int (Int32.ofInt i) :: fv (gB g) 2 a :: sk.map (tv (gB g))))
  rw [okt_ref (by omega)]
  refine W.cast hC.1 hC.2.1 hcell ((hC.2.2.2.2.1.1.2 3 _ rfl).1 _ _) (fun q => by cases q) (by rw [arrV_size]; exact hin) rfl rfl hd fun H1 e1 z oq => ?_
  refine kk H1 _ A (hH.set h1 ha hi.1 z oq ?_ ?_ (by rw [hk]; exact hfx)) (hS.put z oq hA) hl hL hs.tl.tl.tl
  · unfold cellAt
    rw [hk, hdb, if_pos hb0.1, hcy, het, e1, ei, ← arr_st hi.1]
    rw [nar_c hz]; rfl
  · rw [tyOf_arr hk hdb hb0.1, het]; exact hs.hd
theorem b_aald (hC : Cx g p s m meth c own cc nL) {d : Nat} {a i : Int} (hd : decode cc pc = .ok (.aaload, 1)) (hk : kd a = d) (hb : d = 5 ∨ d = 6 ∨ d = 7) (ha : a ≤ n) (hi : 0 ≤ i ∧ i < ln a) (kk : BW g p e R s m args below meth c Q cells slots (pc + 1) ls ((2, M a i) :: sk) n nf M) : BW g p e R s m args below meth c Q cells slots pc ls ((0, i) :: (2, a) :: sk) n nf M := by
  intro H locs A hH hS hl hL hs
  obtain ⟨h1, -⟩ := kd_pos (a := a) (by rw [hk]; omega)
  have hcell := hH.arr (c := d) h1 ha (by rw [hk]; omega) (by omega)
  have het : et d = 2 := by rcases hb with rfl | rfl | rfl <;> rfl
  rw [het] at hcell
  have hv := hH.rng h1 ha hi.1
  rw [tyOf_arr (b := d) hk (by omega) (by omega), het] at hv
  obtain ⟨hin, ei⟩ := ix_in hi hs.hd
  have hfin := kk H locs A hH hS hl hL (hs.tl.tl.cons hv)
  have hrd : (arrV (gc g (cyi d)) (ln a).toNat (fun j => fv (gB g) 2 (M a j))).slots[(Int32.ofInt i).toNatClampNeg]? = some (fv (gB g) 2 (M a i)) := by
    rw [ei, arrV_read _ _ (by omega)]; congr 2; rw [show ((i.toNat : Nat) : Int) = i by omega]
  show W p g.1 e R s m args below meth c H locs cells slots Q (F0 m pc A (.int (Int32.ofInt i) :: fv (gB g) 2 a :: sk.map (tv (gB g))))
  rw [okt_ref (by omega)]
  rcases hb with rfl | rfl | rfl
  · exact W.aald (ty := .object RX7) hC.1 hC.2.1 hcell ((hC.2.2.2.2.1.1.2 4 _ rfl).1 _ _) rfl (fun q => by cases q) (by rw [arrV_size]; exact hin) hrd rfl rfl hd hfin
  · exact W.aald (ty := .object RX8) hC.1 hC.2.1 hcell ((hC.2.2.2.2.1.1.2 5 _ rfl).1 _ _) rfl (fun q => by cases q) (by rw [arrV_size]; exact hin) hrd rfl rfl hd hfin
  · exact W.aald (ty := .object RX10) hC.1 hC.2.1 hcell ((hC.2.2.2.2.1.1.2 6 _ rfl).1 _ _) rfl (fun q => by cases q) (by rw [arrV_size]; exact hin) hrd rfl rfl hd hfin
theorem b_aalx (hC : Cx g p s m meth c own cc nL) {d : Nat} {a i v : Int} (hd : decode cc pc = .ok (.aaload, 1)) (hk : kd a = d) (hb : d = 5 ∨ d = 6 ∨ d = 7) (ha : a ≤ n) (hi : 0 ≤ i ∧ i < ln a) (hf : a ≤ nf) (hx : ((a, i, v) : Int × Int × Int) ∈ fxl) (kk : BW g p e R s m args below meth c Q cells slots (pc + 1) ls ((2, v) :: sk) n nf M) : BW g p e R s m args below meth c Q cells slots pc ls ((0, i) :: (2, a) :: sk) n nf M := by
  intro H locs A hH hS hl hL hs
  have e1 := hH.2.2.2.2.2.1 _ hx hf
  refine b_aald hC hd hk hb ha hi ?_ H locs A hH hS hl hL hs
  rw [e1]; exact kk
theorem b_iax (hC : Cx g p s m meth c own cc nL) {d b : Nat} {a i v : Int} (hd : decode cc pc = .ok (.iaload, 1)) (hk : kd a = d) (hdb : d % 50 = b) (hb : b = 1 ∨ b = 8) (ha : a ≤ n) (hi : 0 ≤ i ∧ i < ln a) (hf : a ≤ nf) (hx : ((a, i, v) : Int × Int × Int) ∈ fxl) (kk : BW g p e R s m args below meth c Q cells slots (pc + 1) ls ((0, v) :: sk) n nf M) : BW g p e R s m args below meth c Q cells slots pc ls ((0, i) :: (2, a) :: sk) n nf M := by
  intro H locs A hH hS hl hL hs
  have e1 := hH.2.2.2.2.2.1 _ hx hf
  refine b_iald hC hd hk hdb hb ha hi ?_ H locs A hH hS hl hL hs
  rw [e1]; exact kk
theorem b_cax (hC : Cx g p s m meth c own cc nL) {d b : Nat} {a i v : Int} (hd : decode cc pc = .ok (.caload, 1)) (hk : kd a = d) (hdb : d % 50 = b) (hb : b = 4) (ha : a ≤ n) (hi : 0 ≤ i ∧ i < ln a) (hf : a ≤ nf) (hx : ((a, i, v) : Int × Int × Int) ∈ fxl) (kk : BW g p e R s m args below meth c Q cells slots (pc + 1) ls ((0, v) :: sk) n nf M) : BW g p e R s m args below meth c Q cells slots pc ls ((0, i) :: (2, a) :: sk) n nf M := by
  intro H locs A hH hS hl hL hs
  have e1 := hH.2.2.2.2.2.1 _ hx hf
  refine b_cald hC hd hk hdb hb ha hi ?_ H locs A hH hS hl hL hs
  rw [e1]; exact kk
theorem b_aast (hC : Cx g p s m meth c own cc nL) {d ci : Nat} {a i x : Int} (hd : decode cc pc = .ok (.aastore, 1)) (hk : kd a = d) (hb : (d = 5 ∧ ci = 7) ∨ (d = 6 ∧ ci = 8) ∨ (d = 7 ∧ ci = 10)) (ha : a ≤ n) (hi : 0 ≤ i ∧ i < ln a) (hx : kd x = 10 + ci) (hxn : x ≤ n) (hfx : fxk d i = false ∨ nf < a) (kk : BW g p e R s m args below meth c Q cells slots (pc + 1) ls sk n nf (st M a i x)) : BW g p e R s m args below meth c Q cells slots pc ls ((2, x) :: (0, i) :: (2, a) :: sk) n nf M := by
  intro H locs A hH hS hl hL hs
  obtain ⟨h1, -⟩ := kd_pos (a := a) (by rw [hk]; omega)
  obtain ⟨h2, -⟩ := kd_pos (a := x) (by rw [hx]; omega)
  have hcell := hH.arr (c := d) h1 ha (by rw [hk]; omega) (by omega)
  have het : et d = 2 := by rcases hb with ⟨rfl, _⟩ | ⟨rfl, _⟩ | ⟨rfl, _⟩ <;> rfl
  have hcy : cyi d = d := by rcases hb with ⟨rfl, _⟩ | ⟨rfl, _⟩ | ⟨rfl, _⟩ <;> rfl
  rw [het, hcy] at hcell
  obtain ⟨hin, ei⟩ := ix_in hi hs.hd2
  have hA : Ag g (gB g + a.toNat) := by show gB g < _; omega
  obtain ⟨r, hr1, cellV, g1, g2, g3, -⟩ := hH.obj h2 hxn (c := 10 + ci) (by rw [hx]; omega) (by omega)
  have e10 : 10 + ci - 10 = ci := by omega
  rw [e10] at hr1 g2
  have hcls := (hC.2.2.2.2.1.1.1 ci r hr1).2
  have hRA : ∃ (kA : Class) (comp : ClassId), s.vm.classes[gc g d]? = some kA ∧ kA.kind = .array comp (.object r.1) ∧ s.vm.findClass r.1 = some comp := by
    rcases hb with ⟨rfl, rfl⟩ | ⟨rfl, rfl⟩ | ⟨rfl, rfl⟩
    · cases hr1; obtain ⟨kA, comp, k1, k2, k3, -⟩ := (hC.2.2.2.2.1.1.2 4 _ rfl).2; exact ⟨kA, comp, k1, k2, k3⟩
    · cases hr1; obtain ⟨kA, comp, k1, k2, k3, -⟩ := (hC.2.2.2.2.1.1.2 5 _ rfl).2; exact ⟨kA, comp, k1, k2, k3⟩
    · cases hr1; obtain ⟨kA, comp, k1, k2, k3, -⟩ := (hC.2.2.2.2.1.1.2 6 _ rfl).2; exact ⟨kA, comp, k1, k2, k3⟩
  obtain ⟨kA, comp, k1, k2, k3⟩ := hRA
  have hcomp : comp = (gD g).1 ci := Option.some.inj (k3.symm.trans hcls.1)
  subst hcomp
  obtain ⟨kC, hkC, -⟩ := hcls.2
  show W p g.1 e R s m args below meth c H locs cells slots Q (F0 m pc A (fv (gB g) 2 x :: .int (Int32.ofInt i) :: fv (gB g) 2 a :: sk.map (tv (gB g))))
  rw [okt_ref (x := a) (by omega), okt_ref (x := x) (by omega)]
  refine W.aast hC.1 hC.2.1 hcell (fun q h => by cases h) (fun h => by cases h) k1 k2 rfl hkC ⟨fun q => hin (Or.inl q), by rw [arrV_size, ei]; omega⟩ g1 (fun q h => by rw [g3] at h; cases h) (by rw [g2]; exact hkC) (by rw [g2]; exact va_assign hcls) rfl rfl hd fun H1 e1 z oq => ?_
  refine kk H1 _ A (hH.set h1 ha hi.1 z oq ?_ ?_ (by rw [hk]; exact hfx)) (hS.put z oq hA) hl hL hs.tl.tl.tl
  · unfold cellAt
    rw [hk, show d % 50 = d by omega, if_pos (by omega), hcy, het, e1, ei, ← arr_st hi.1, okt_ref (x := x) (by omega)]
  · rw [tyOf_arr (b := d) hk (by omega) (by omega), het]; exact hs.hd
theorem b_alen (hC : Cx g p s m meth c own cc nL) {d b : Nat} {a v : Int} (hd : decode cc pc = .ok (.arraylength, 1)) (hk : kd a = d) (hdb : d % 50 = b) (hb : b = 1 ∨ b = 2 ∨ b = 3 ∨ b = 4) (ha : a ≤ n) (hv : ln a = v) (hr : 0 ≤ v ∧ v ≤ 100000) (kk : BW g p e R s m args below meth c Q cells slots (pc + 1) ls ((0, v) :: sk) n nf M) : BW g p e R s m args below meth c Q cells slots pc ls ((2, a) :: sk) n nf M := by
  intro H locs A hH hS hl hL hs
  subst hv
  obtain ⟨h1, -⟩ := kd_pos (a := a) (by rw [hk]; omega)
  have hcell := hH.arr (c := b) h1 ha (by rw [hk, hdb]) (by omega)
  have hfin := kk H locs A hH hS hl hL (hs.tl.cons (show in32 _ from ⟨by omega, by omega⟩))
  have hsz : (arrV (gc g (cyi b)) (ln a).toNat (fun j => fv (gB g) (et b) (M a j))).slots.size.toInt32 = Int32.ofInt (ln a) := by
    rw [arrV_size]
    show Int32.ofNat _ = _
    rw [← Int32.ofInt_eq_ofNat]
    congr 1; omega
  show W p g.1 e R s m args below meth c H locs cells slots Q (F0 m pc A (fv (gB g) 2 a :: sk.map (tv (gB g))))
  rw [okt_ref (by omega)]
  rcases hb with rfl | rfl | rfl | rfl
  · exact W.alen hC.1 hC.2.1 hcell ((hC.2.2.2.2.1.1.2 0 _ rfl).1 _ _) hsz rfl rfl hd hfin
  · exact W.alen hC.1 hC.2.1 hcell ((hC.2.2.2.2.1.1.2 1 _ rfl).1 _ _) hsz rfl rfl hd hfin
  · exact W.alen hC.1 hC.2.1 hcell ((hC.2.2.2.2.1.1.2 2 _ rfl).1 _ _) hsz rfl rfl hd hfin
  · exact W.alen hC.1 hC.2.1 hcell ((hC.2.2.2.2.1.1.2 3 _ rfl).1 _ _) hsz rfl rfl hd hfin
end MR
