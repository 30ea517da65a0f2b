/-! the JDK's own methods of Strings, on the text of OWN WORDS -/
def owc (i : Int) : Int := (owB.getD i.toNat 0).toInt
theorem cs_self (n : Int) : cs n n = 0 := by unfold cs; omega
theorem sl_self (n : Int) : sl n n = 0 := by unfold sl; omega
theorem RM_ofF {g : GT} {y : MethodName} {cc : ByteArray} {nL d : Nat} {ret : Option FieldType} {nS nE nf r : Int} {av : List AV} {M M' : Mem} (hy : plainFor y = true) (hw : argW av ≤ nL) (h : ∀ (p : Program) (e : Env) (s : State) (m : MethodId) (args : Array Value) (below : List Frame) (meth : Method) (c : Code), Cx g p s m meth c y.cls cc nL → meth.sig.returnType = ret → BW g p e (rmOf d (cs nS nE) (sl nS nE)) s m args below meth c (MQ below (QcA g nE nf M' ret r) args s (cs nS nE) (sl nS nE) (Ag g)) (cs nS nS) (sl nS nS) 0 (argL 0 av) [] nS nf M) (hok : okS av) : RM g y cc nL ret d nS nE nf av M M' r := by
  refine Met_ofWF (cc := cc) (maxL := nL) (ret := ret) hy rfl ?_
  intro p e s m args below meth c s₁ B hml hv
  obtain ⟨rfl, hH, hK, hT⟩ := hv
  have hown : s.vm.findClass y.cls = some m.cls := findClass_of_methodNamed B.named
  have hsz : gB g < s.heap.size := by rw [hH.2.1]; omega
  have hC : Cx g p s m meth c y.cls cc nL := ⟨B.exec, B.bytes, hml, hown, hK, hT, B.notSynchronized, hsz⟩
  have hb := h p e s m (av.map (tv (gB g))).toArray below meth c hC B.returns
  have hl := lv_entry (av.map (tv (gB g))) (n := nL) (by rw [lgsl_len]; exact hw)
  rw [argL_map] at hl
  rw [lg_entry_eq]
  have h0 : cs nS nS = 0 := cs_self nS
  have h1 : sl nS nS = 0 := sl_self nS
  rw [h0, h1] at hb
  exact hb s.heap [] _ hH va_S.rf (by rw [hml]; exact hl) (argL_ok av 0 hok) (fun v hv => by cases hv)
section ST3
variable {g : GT} {p : Program} {e : Env} {R : Room} {s : State} {m : MethodId} {args : Array Value} {below : List Frame} {meth : Method} {c : Code} {Q : State → Prop} {cells slots pc : Nat} {ls ls' : List LV} {sk : List AV} {n nf : Int} {M : Mem} {own : String} {cc : ByteArray} {nL i : Nat}
theorem kept_at (hC : Cx g p s m meth c own cc nL) {H : Heap} {locs : List Loc} (hH : Hp g n nf M H) (hS : va_S (Ag g) s.heap H locs) (a : Nat) (ha : ¬ Ag g a) : s.heap[a]? = (gH g)[a]? := by
  have h1 : a ≤ gB g := Nat.not_lt.mp ha
  rw [← hS.2.1 a (Nat.lt_of_le_of_lt h1 hC.2.2.2.2.2.2.2) ha]
  exact hH.2.2.2.2.2.2 a h1
theorem Cx.ks (hC : Cx g p s m meth c own cc nL) : Ks g s := hC.2.2.2.2.1.2.2.2.2
theorem b_aload3 (hC : Cx g p s m meth c own cc nL) {j : Fin 4} {i q : Nat} {x : Int} (hd : decode cc pc = .ok (.aload_n j, 1)) (hi : (j : Nat) = i) (hq : ls[q]? = some (i, 3, x)) (k : BW g p e R s m args below meth c Q cells slots (pc + 1) ls ((3, x) :: sk) n nf M) : BW g p e R s m args below meth c Q cells slots pc ls sk n nf M := by
  intro H locs A hH hS hl hL hs
  exact lv_aload_n hC.1 hC.2.1 hd hi (lw_get hq hl) (k H locs A hH hS hl hL (hs.cons (okL_get hq hL)))
theorem b_ldcS (hC : Cx g p s m meth c RX4 cc nL) (hd : decode cc pc = .ok (.ldc 28, 2)) (k : BW g p e R s m args below meth c Q cells slots (pc + 2) ls ((3, (gq g : Int)) :: sk) n nf M) : BW g p e R s m args below meth c Q cells slots pc ls sk n nf M := by
  intro H locs A hH hS hl hL hs
  exact va_ldcS hC.1 hC.2.1 hC.2.2.2.1 hC.ks.1 hd (k H locs A hH hS hl hL (hs.cons (show okt 3 (gq g : Int) from Int.natCast_nonneg _)))
theorem b_gsC (hC : Cx g p s m meth c own cc nL) (hd : decode cc pc = .ok (.getstatic i, 3)) (hk : Cond.fieldLink own i "java/lang/String" "COMPACT_STRINGS" "Z" ∈ lw_tbl) (k : BW g p e R s m args below meth c Q cells slots (pc + 3) ls ((0, 1) :: sk) n nf M) : BW g p e R s m args below meth c Q cells slots pc ls sk n nf M := by
  intro H locs A hH hS hl hL hs
  have hT := hC.2.2.2.2.2.1
  have hZ := hC.ks.2.2.1.kept (H1 := s.heap) (fun a _ h => kept_at hC hH hS a h)
  exact va_gets hC.1 hC.2.1 hZ hS hC.2.2.2.1 (hT.use hk rfl rfl args) (fun x h => h) hd (k H locs A hH hS hl hL (hs.cons (show okt 0 1 from ⟨by decide, by decide⟩)))
theorem b_gsR (hC : Cx g p s m meth c own cc nL) (hd : decode cc pc = .ok (.getstatic i, 3)) (hk : Cond.fieldLink own i "jdk/internal/util/Preconditions" "SIOOBE_FORMATTER" "Ljava/util/function/BiFunction;" ∈ lw_tbl) (k : ∀ (t : Nat) (z : Int), t = 2 ∨ t = 3 → BW g p e R s m args below meth c Q cells slots (pc + 3) ls ((t, z) :: sk) n nf M) : BW g p e R s m args below meth c Q cells slots pc ls sk n nf M := by
  intro H locs A hH hS hl hL hs
  have hT := hC.2.2.2.2.2.1
  have hZ := hC.ks.2.2.2.kept (H1 := s.heap) (fun a _ h => kept_at hC hH hS a h)
  by_cases h0 : gr g = 0
  · have e : rvV (gr g) = .null := if_pos h0
    rw [e] at hZ
    exact va_gets hC.1 hC.2.1 hZ hS hC.2.2.2.1 (hT.use hk rfl rfl args) (fun x h => h) hd (k 2 0 (Or.inl rfl) H locs A hH hS hl hL (hs.cons (show okt 2 0 from Int.le_refl 0)))
  · have e : rvV (gr g) = .ref (gr g - 1) := if_neg h0
    rw [e] at hZ
    exact va_gets hC.1 hC.2.1 hZ hS hC.2.2.2.1 (hT.use hk rfl rfl args) (fun x h => h) hd (k 3 ((gr g - 1 : Nat) : Int) (Or.inr rfl) H locs A hH hS hl hL (hs.cons (show okt 3 ((gr g - 1 : Nat) : Int) from Int.natCast_nonneg _)))
theorem Cx.vs (hC : Cx g p s m meth c own cc nL) {H : Heap} {locs : List Loc} (hH : Hp g n nf M H) (hS : va_S (Ag g) s.heap H locs) : vk_S 1 [106] [owB] (fun _ => gq g) (fun _ => gv g) (Ag g) s s.heap := hC.ks.2.1.kept (fun a _ h => kept_at hC hH hS a h)
theorem b_gfV (hC : Cx g p s m meth c own cc nL) (hd : decode cc pc = .ok (.getfield i, 3)) (hk : Cond.fieldLink own i "java/lang/String" "value" "[B" ∈ lw_tbl) (k : BW g p e R s m args below meth c Q cells slots (pc + 3) ls ((3, (gv g : Int)) :: sk) n nf M) : BW g p e R s m args below meth c Q cells slots pc ls ((3, (gq g : Int)) :: sk) n nf M := by
  intro H locs A hH hS hl hL hs
  have hT := hC.2.2.2.2.2.1
  have hE := ((hC.vs hH hS).1 0 (by decide)).2.2.1
  exact vk_getf hC.1 hC.2.1 hE hS hC.2.2.2.1 (hT.use hk rfl rfl args) (fun x h => h) hd (k H locs A hH hS hl hL (hs.tl.cons (show okt 3 (gv g : Int) from Int.natCast_nonneg _)))
theorem b_gfC (hC : Cx g p s m meth c own cc nL) (hd : decode cc pc = .ok (.getfield i, 3)) (hk : Cond.fieldLink own i "java/lang/String" "coder" "B" ∈ lw_tbl) (k : BW g p e R s m args below meth c Q cells slots (pc + 3) ls ((0, 0) :: sk) n nf M) : BW g p e R s m args below meth c Q cells slots pc ls ((3, (gq g : Int)) :: sk) n nf M := by
  intro H locs A hH hS hl hL hs
  have hT := hC.2.2.2.2.2.1
  have hE := ((hC.vs hH hS).1 0 (by decide)).2.1
  exact vk_getf hC.1 hC.2.1 hE hS hC.2.2.2.1 (hT.use hk rfl rfl args) (fun x h => h) hd (k H locs A hH hS hl hL (hs.tl.cons (show okt 0 0 from ⟨by decide, by decide⟩)))
theorem b_alenV (hC : Cx g p s m meth c own cc nL) (hd : decode cc pc = .ok (.arraylength, 1)) (k : BW g p e R s m args below meth c Q cells slots (pc + 1) ls ((0, 106) :: sk) n nf M) : BW g p e R s m args below meth c Q cells slots pc ls ((3, (gv g : Int)) :: sk) n nf M := by
  intro H locs A hH hS hl hL hs
  have hX := ((hC.vs hH hS).1 0 (by decide)).2.2.2
  exact va_tlen hC.1 hC.2.1 hX hS (v := Int32.ofInt 106) (by decide) hd (k H locs A hH hS hl hL (hs.tl.cons (show okt 0 106 from ⟨by decide, by decide⟩)))
theorem owc_rng : ∀ j : Nat, j < 106 → 0 ≤ (owB.getD j 0).toInt ∧ (owB.getD j 0).toInt ≤ 127 := by decide +kernel
theorem owc_r {x : Int} (hx : 0 ≤ x ∧ x < 106) : 0 ≤ owc x ∧ owc x ≤ 127 := owc_rng x.toNat (by omega)
theorem b_baldV (hC : Cx g p s m meth c own cc nL) (hd : decode cc pc = .ok (.baload, 1)) {x : Int} (hx : 0 ≤ x ∧ x < 106) (k : BW g p e R s m args below meth c Q cells slots (pc + 1) ls ((0, owc x) :: sk) n nf M) : BW g p e R s m args below meth c Q cells slots pc ls ((0, x) :: (3, (gv g : Int)) :: sk) n nf M := by
  intro H locs A hH hS hl hL hs
  have hX := ((hC.vs hH hS).1 0 (by decide)).2.2.2
  have hx32 : in32 x := hs.hd
  obtain ⟨hin, ei⟩ := ix_in (N := 106) hx hx32
  have hr := owc_r hx
  refine va_tb hC.1 hC.2.1 hX hS (i := Int32.ofInt x) hin (v := .int (Int32.ofInt (owc x))) ?_ hd (k H locs A hH hS hl hL (hs.tl.tl.cons (show okt 0 (owc x) from ⟨by omega, by omega⟩)))
  rw [ei]
  show Value.int (owB.getD x.toNat 0) = .int (Int32.ofInt (owB.getD x.toNat 0).toInt)
  rw [Int32.ofInt_toInt]
theorem b_i2cX (hC : Cx g p s m meth c own cc nL) (hd : decode cc pc = .ok (.i2c, 1)) {x : Int} (hx : ((Int32.ofInt x).toUInt32 % 65536).toInt32 = Int32.ofInt x) (k : BW g p e R s m args below meth c Q cells slots (pc + 1) ls ((0, x) :: sk) n nf M) : BW g p e R s m args below meth c Q cells slots pc ls ((0, x) :: sk) n nf M := by
  intro H locs A hH hS hl hL hs
  exact lv_i2c hC.1 hC.2.1 hd hx (k H locs A hH hS hl hL hs)
theorem b_iretN (hC : Cx g p s m meth c own cc nL) {ty : FieldType} {r : Int} (hret : meth.sig.returnType = some ty) (htg : tagT ty = 0) (hn : narrow ty (.int (Int32.ofInt r)) = .int (Int32.ofInt r)) (hd : decode cc pc = .ok (.ireturn, 1)) : BW g p e R s m args below meth c (MQ below (QcA g n nf M (some ty) r) args s cells slots (Ag g)) cells slots pc ls [(0, r)] n nf M := by
  intro H locs A hH hS hl hL hs
  have hr : in32 r := hs.hd
  have hv : rvl g (some ty) r = some (.int (Int32.ofInt r)) := by show some (fv (gB g) (tagT ty) r) = _; rw [htg]; rfl
  refine W.zret hC.1 hC.2.1 hret hn (fun t ht hW => ?_) hS.2.2 hd hC.2.2.2.2.2.2.1
  have := Q_of (args := args) (ret := some ty) (r := r) hC hH hS ht hW (by show okt (tagT ty) r; rw [htg]; exact hr)
  rw [hv] at this
  exact this
theorem b_invS (hC : Cx g p s m meth c own cc nL) {y : MethodName} {bytes : ByteArray} {maxL d' np : Nat} {ret : Option FieldType} {av : List AV} {r : Int} (hd : decode cc pc = .ok (.invokevirtual i, 3)) (hlk : LkV own i y bytes maxL ret np) (hy : y.cls = "java/lang/String") (hnp : av.length = np) {st0 : List AV} (h0 : st0 = av.reverse ++ (3, (gq g : Int)) :: sk) (hw : skw sk ≤ 8) (hfr : d' + 1 ≤ R.frames) (hlo : 8 + (maxL + 11) + 64 * d' ≤ R.locals) (hce : cells ≤ R.cells) (hsl : slots ≤ R.slots) (hM : okS ((3, (gq g : Int)) :: av) → RM g y bytes maxL ret d' n n nf ((3, (gq g : Int)) :: av) M M r) (kk : BW g p e R s m args below meth c Q cells slots (pc + 3) ls (rsk ret r ++ sk) n nf M) : BW g p e R s m args below meth c Q cells slots pc ls st0 n nf M := by
  subst h0
  obtain ⟨l1, l2, l3, l4, l5, l6⟩ := hlk
  have hT := hC.2.2.2.2.2.1
  have kk' : BW g p e R s m args below meth c Q (cells + cs n n) (slots + sl n n) (pc + 3) ls (rsk ret r ++ sk) n nf M := by
    rw [cs_self, sl_self]; exact kk
  refine b_call (ret := ret) (r := r) (M' := M) (nE := n) (a0 := (Value.ref (gq g) :: av.map (tv (gB g))).toArray) (fun H locs A hH hS hl hL hs => ?_) (fun hs => fun v hv => hs v (List.mem_append_right _ (List.mem_cons_of_mem _ hv))) kk'
  have hokv : okS ((3, (gq g : Int)) :: av) := by
    intro v hv
    rcases List.mem_cons.mp hv with rfl | hv
    · exact hs _ (List.mem_append_right _ List.mem_cons_self)
    · exact hs v (List.mem_append_left _ (List.mem_reverse.mpr hv))
  obtain ⟨cell, q1, q2, q3, q4⟩ := ((hC.vs hH hS).1 0 (by decide)).1
  have q1' : H[gq g]? = some cell := by rw [hS.2.1 _ (Array.getElem?_eq_some_iff.mp q1).1 q4]; exact q1
  have hpre : PreV s H y.cls (gq g) (PcA g n nf M ((3, (gq g : Int)) :: av)) (av.map (tv (gB g))) := by
    refine ⟨PcA.blind g n nf M _, ⟨cell, q1', q2, by rw [hy]; exact q3⟩, fun U hU hW => ⟨?_, by rw [hU]; exact hH, hC.2.2.2.2.1.warm hW, hT.warm hW⟩⟩
    rfl
  have hstk : (av.reverse ++ (3, (gq g : Int)) :: sk).map (tv (gB g)) = (av.map (tv (gB g))).reverse ++ .ref (gq g) :: sk.map (tv (gB g)) := by
    rw [List.map_append, List.map_cons, List.map_reverse]
    rfl
  have hwk : ((sk.map (tv (gB g))).map fun v => v.category).sum ≤ 8 := by rw [skw_eq]; exact hw
  have hfix : CallFix p m c cc c.maxLocals s args [] own := ⟨hC.1, hC.2.1, rfl, hC.2.2.2.1, fun w hw => by cases hw⟩
  have hcc : cells + cs n n ≤ R.cells := by rw [cs_self]; exact hce
  have hss : slots + sl n n ≤ R.slots := by rw [sl_self]; exact hsl
  rcases l6 with l6 | ⟨host, l6⟩
  · exact va_runV (C := y.cls) (As := av.map (tv (gB g))) (rest := sk.map (tv (gB g))) hfix (hM hokv) ⟨⟨rfl, rfl, hfr, hlo, code_w hT l1, List.mem_singleton.mpr rfl, hT.use l1 rfl rfl args, hT.use l2 rfl rfl args, ⟨l5.1, l5.2.1⟩, np_of l5.2.2, hT.use l6 rfl rfl args⟩, hT.use l3 rfl rfl args, hT.use l4 rfl rfl args⟩ hpre rfl (by rw [List.length_map]; exact hnp) hl.1 hstk (lv_room hwk) hd ⟨hcc, hss⟩
  · exact va_runVN (C := y.cls) (As := av.map (tv (gB g))) (rest := sk.map (tv (gB g))) hfix (hM hokv) ⟨⟨⟨rfl, rfl, hfr, hlo, code_w hT l1, List.mem_singleton.mpr rfl⟩, hT.use l1 rfl rfl args, hT.use l2 rfl rfl args, ⟨l5.1, l5.2.1⟩, np_of l5.2.2, hT.use l6 rfl rfl args⟩, hT.use l3 rfl rfl args, hT.use l4 rfl rfl args⟩ hpre rfl (by rw [List.length_map]; exact hnp) hl.1 hstk (lv_room hwk) hd ⟨hcc, hss⟩
/-- a static call that makes nothing and changes nothing -/
theorem b_insK (hC : Cx g p s m meth c own cc nL) {y : MethodName} {bytes : ByteArray} {maxL d' np : Nat} {ret : Option FieldType} {av : List AV} {r : Int} (hd : decode cc pc = .ok (.invokestatic i, 3)) (hlk : LkS own i y bytes maxL ret np) (hnp : av.length = np) {st0 : List AV} (h0 : st0 = av.reverse ++ sk) (hw : skw sk ≤ 8) (hfr : d' + 1 ≤ R.frames) (hlo : 8 + (maxL + 11) + 64 * d' ≤ R.locals) (hce : cells ≤ R.cells) (hsl : slots ≤ R.slots) (hM : okS av → RM g y bytes maxL ret d' n n nf av M M r) (kk : BW g p e R s m args below meth c Q cells slots (pc + 3) ls (rsk ret r ++ sk) n nf M) : BW g p e R s m args below meth c Q cells slots pc ls st0 n nf M := by
  have kk' : BW g p e R s m args below meth c Q (cells + cs n n) (slots + sl n n) (pc + 3) ls (rsk ret r ++ sk) n nf M := by
    rw [cs_self, sl_self]; exact kk
  exact b_ins hC hd hlk hnp h0 hw hfr hlo (by rw [cs_self]; exact hce) (by rw [sl_self]; exact hsl) hM kk'
end ST3
theorem dJ0_coder_7d493_0 : decode cJ0_coder_7d493 0 = .ok (.getstatic 38, 3) := by decide +kernel
theorem dJ0_coder_7d493_3 : decode cJ0_coder_7d493 3 = .ok (.ifCond .eq 10, 3) := by decide +kernel
theorem dJ0_coder_7d493_6 : decode cJ0_coder_7d493 6 = .ok (.aload_n 0, 1) := by decide +kernel
theorem dJ0_coder_7d493_7 : decode cJ0_coder_7d493 7 = .ok (.getfield 15, 3) := by decide +kernel
theorem dJ0_coder_7d493_10 : decode cJ0_coder_7d493 10 = .ok (.goto 4, 3) := by decide +kernel
theorem dJ0_coder_7d493_13 : decode cJ0_coder_7d493 13 = .ok (.iconst 1, 1) := by decide +kernel
theorem dJ0_coder_7d493_14 : decode cJ0_coder_7d493 14 = .ok (.ireturn, 1) := by decide +kernel
theorem dJ0_isLatin1_aae02_0 : decode cJ0_isLatin1_aae02 0 = .ok (.getstatic 38, 3) := by decide +kernel
theorem dJ0_isLatin1_aae02_3 : decode cJ0_isLatin1_aae02 3 = .ok (.ifCond .eq 14, 3) := by decide +kernel
theorem dJ0_isLatin1_aae02_6 : decode cJ0_isLatin1_aae02 6 = .ok (.aload_n 0, 1) := by decide +kernel
theorem dJ0_isLatin1_aae02_7 : decode cJ0_isLatin1_aae02 7 = .ok (.getfield 15, 3) := by decide +kernel
theorem dJ0_isLatin1_aae02_10 : decode cJ0_isLatin1_aae02 10 = .ok (.ifCond .ne 7, 3) := by decide +kernel
theorem dJ0_isLatin1_aae02_13 : decode cJ0_isLatin1_aae02 13 = .ok (.iconst 1, 1) := by decide +kernel
theorem dJ0_isLatin1_aae02_14 : decode cJ0_isLatin1_aae02 14 = .ok (.goto 4, 3) := by decide +kernel
theorem dJ0_isLatin1_aae02_17 : decode cJ0_isLatin1_aae02 17 = .ok (.iconst 0, 1) := by decide +kernel
theorem dJ0_isLatin1_aae02_18 : decode cJ0_isLatin1_aae02 18 = .ok (.ireturn, 1) := by decide +kernel
theorem dJ0_length_8abf5_0 : decode cJ0_length_8abf5 0 = .ok (.aload_n 0, 1) := by decide +kernel
theorem dJ0_length_8abf5_1 : decode cJ0_length_8abf5 1 = .ok (.getfield 9, 3) := by decide +kernel
theorem dJ0_length_8abf5_4 : decode cJ0_length_8abf5 4 = .ok (.arraylength, 1) := by decide +kernel
theorem dJ0_length_8abf5_5 : decode cJ0_length_8abf5 5 = .ok (.aload_n 0, 1) := by decide +kernel
theorem dJ0_length_8abf5_6 : decode cJ0_length_8abf5 6 = .ok (.invokevirtual 335, 3) := by decide +kernel
theorem dJ0_length_8abf5_9 : decode cJ0_length_8abf5 9 = .ok (.ishr, 1) := by decide +kernel
theorem dJ0_length_8abf5_10 : decode cJ0_length_8abf5 10 = .ok (.ireturn, 1) := by decide +kernel
theorem dJ3_checkIndex_8e157_0 : decode cJ3_checkIndex_8e157 0 = .ok (.iload_n 0, 1) := by decide +kernel
theorem dJ3_checkIndex_8e157_1 : decode cJ3_checkIndex_8e157 1 = .ok (.ifCond .lt 8, 3) := by decide +kernel
theorem dJ3_checkIndex_8e157_4 : decode cJ3_checkIndex_8e157 4 = .ok (.iload_n 0, 1) := by decide +kernel
theorem dJ3_checkIndex_8e157_5 : decode cJ3_checkIndex_8e157 5 = .ok (.iload_n 1, 1) := by decide +kernel
theorem dJ3_checkIndex_8e157_6 : decode cJ3_checkIndex_8e157 6 = .ok (.if_icmp .lt 10, 3) := by decide +kernel
theorem dJ3_checkIndex_8e157_9 : decode cJ3_checkIndex_8e157 9 = .ok (.aload_n 2, 1) := by decide +kernel
theorem dJ3_checkIndex_8e157_10 : decode cJ3_checkIndex_8e157 10 = .ok (.iload_n 0, 1) := by decide +kernel
theorem dJ3_checkIndex_8e157_11 : decode cJ3_checkIndex_8e157 11 = .ok (.iload_n 1, 1) := by decide +kernel
theorem dJ3_checkIndex_8e157_12 : decode cJ3_checkIndex_8e157 12 = .ok (.invokestatic 95, 3) := by decide +kernel
theorem dJ3_checkIndex_8e157_15 : decode cJ3_checkIndex_8e157 15 = .ok (.athrow, 1) := by decide +kernel
theorem dJ3_checkIndex_8e157_16 : decode cJ3_checkIndex_8e157 16 = .ok (.iload_n 0, 1) := by decide +kernel
theorem dJ3_checkIndex_8e157_17 : decode cJ3_checkIndex_8e157 17 = .ok (.ireturn, 1) := by decide +kernel
theorem dJ0_checkIndex_df160_0 : decode cJ0_checkIndex_df160 0 = .ok (.iload_n 0, 1) := by decide +kernel
theorem dJ0_checkIndex_df160_1 : decode cJ0_checkIndex_df160 1 = .ok (.iload_n 1, 1) := by decide +kernel
theorem dJ0_checkIndex_df160_2 : decode cJ0_checkIndex_df160 2 = .ok (.getstatic 1053, 3) := by decide +kernel
theorem dJ0_checkIndex_df160_5 : decode cJ0_checkIndex_df160 5 = .ok (.invokestatic 1059, 3) := by decide +kernel
theorem dJ0_checkIndex_df160_8 : decode cJ0_checkIndex_df160 8 = .ok (.pop, 1) := by decide +kernel
theorem dJ0_checkIndex_df160_9 : decode cJ0_checkIndex_df160 9 = .ok (.return_, 1) := by decide +kernel
theorem dJ1_charAt_3b067_0 : decode cJ1_charAt_3b067 0 = .ok (.iload_n 1, 1) := by decide +kernel
theorem dJ1_charAt_3b067_1 : decode cJ1_charAt_3b067 1 = .ok (.aload_n 0, 1) := by decide +kernel
theorem dJ1_charAt_3b067_2 : decode cJ1_charAt_3b067 2 = .ok (.arraylength, 1) := by decide +kernel
theorem dJ1_charAt_3b067_3 : decode cJ1_charAt_3b067 3 = .ok (.invokestatic 9, 3) := by decide +kernel
theorem dJ1_charAt_3b067_6 : decode cJ1_charAt_3b067 6 = .ok (.aload_n 0, 1) := by decide +kernel
theorem dJ1_charAt_3b067_7 : decode cJ1_charAt_3b067 7 = .ok (.iload_n 1, 1) := by decide +kernel
theorem dJ1_charAt_3b067_8 : decode cJ1_charAt_3b067 8 = .ok (.baload, 1) := by decide +kernel
theorem dJ1_charAt_3b067_9 : decode cJ1_charAt_3b067 9 = .ok (.sipush 255, 3) := by decide +kernel
theorem dJ1_charAt_3b067_12 : decode cJ1_charAt_3b067 12 = .ok (.iand, 1) := by decide +kernel
theorem dJ1_charAt_3b067_13 : decode cJ1_charAt_3b067 13 = .ok (.i2c, 1) := by decide +kernel
theorem dJ1_charAt_3b067_14 : decode cJ1_charAt_3b067 14 = .ok (.ireturn, 1) := by decide +kernel
theorem dJ0_charAt_5068e_0 : decode cJ0_charAt_5068e 0 = .ok (.aload_n 0, 1) := by decide +kernel
theorem dJ0_charAt_5068e_1 : decode cJ0_charAt_5068e 1 = .ok (.invokevirtual 492, 3) := by decide +kernel
theorem dJ0_charAt_5068e_4 : decode cJ0_charAt_5068e 4 = .ok (.ifCond .eq 12, 3) := by decide +kernel
theorem dJ0_charAt_5068e_7 : decode cJ0_charAt_5068e 7 = .ok (.aload_n 0, 1) := by decide +kernel
theorem dJ0_charAt_5068e_8 : decode cJ0_charAt_5068e 8 = .ok (.getfield 9, 3) := by decide +kernel
theorem dJ0_charAt_5068e_11 : decode cJ0_charAt_5068e 11 = .ok (.iload_n 1, 1) := by decide +kernel
theorem dJ0_charAt_5068e_12 : decode cJ0_charAt_5068e 12 = .ok (.invokestatic 495, 3) := by decide +kernel
theorem dJ0_charAt_5068e_15 : decode cJ0_charAt_5068e 15 = .ok (.ireturn, 1) := by decide +kernel
theorem dJ0_charAt_5068e_16 : decode cJ0_charAt_5068e 16 = .ok (.aload_n 0, 1) := by decide +kernel
theorem dJ0_charAt_5068e_17 : decode cJ0_charAt_5068e 17 = .ok (.getfield 9, 3) := by decide +kernel
theorem dJ0_charAt_5068e_20 : decode cJ0_charAt_5068e 20 = .ok (.iload_n 1, 1) := by decide +kernel
theorem dJ0_charAt_5068e_21 : decode cJ0_charAt_5068e 21 = .ok (.invokestatic 498, 3) := by decide +kernel
theorem dJ0_charAt_5068e_24 : decode cJ0_charAt_5068e 24 = .ok (.ireturn, 1) := by decide +kernel
theorem kS_coder : LkV RJ0 335 yJ0_coder_7d493 cJ0_coder_7d493 1 (some .byte) 0 := ⟨List.mem_of_getElem? (i := 241) (by decide +kernel), List.mem_of_getElem? (i := 182) (by decide +kernel), List.mem_of_getElem? (i := 239) (by decide +kernel), List.mem_of_getElem? (i := 240) (by decide +kernel), ⟨by decide +kernel, by decide +kernel, by decide +kernel⟩, Or.inl (List.mem_of_getElem? (i := 238) (by decide +kernel))⟩
theorem kS_isL1 : LkV RJ0 492 yJ0_isLatin1_aae02 cJ0_isLatin1_aae02 1 (some .boolean) 0 := ⟨List.mem_of_getElem? (i := 251) (by decide +kernel), List.mem_of_getElem? (i := 182) (by decide +kernel), List.mem_of_getElem? (i := 249) (by decide +kernel), List.mem_of_getElem? (i := 250) (by decide +kernel), ⟨by decide +kernel, by decide +kernel, by decide +kernel⟩, Or.inl (List.mem_of_getElem? (i := 248) (by decide +kernel))⟩
theorem kS_l1 : LkS RJ0 495 yJ1_charAt_3b067 cJ1_charAt_3b067 2 (some .char) 2 := ⟨List.mem_of_getElem? (i := 254) (by decide +kernel), List.mem_of_getElem? (i := 183) (by decide +kernel), List.mem_of_getElem? (i := 253) (by decide +kernel), ⟨by decide +kernel, by decide +kernel, by decide +kernel⟩, Or.inl (List.mem_of_getElem? (i := 252) (by decide +kernel))⟩
theorem kS_ci : LkS RJ1 9 yJ0_checkIndex_df160 cJ0_checkIndex_df160 2 none 2 := ⟨List.mem_of_getElem? (i := 257) (by decide +kernel), List.mem_of_getElem? (i := 182) (by decide +kernel), List.mem_of_getElem? (i := 256) (by decide +kernel), ⟨by decide +kernel, by decide +kernel, by decide +kernel⟩, Or.inl (List.mem_of_getElem? (i := 255) (by decide +kernel))⟩
theorem kS_pre : LkS RJ0 1059 yJ3_checkIndex_8e157 cJ3_checkIndex_8e157 3 (some .int) 3 := ⟨List.mem_of_getElem? (i := 262) (by decide +kernel), List.mem_of_getElem? (i := 184) (by decide +kernel), List.mem_of_getElem? (i := 261) (by decide +kernel), ⟨by decide +kernel, by decide +kernel, by decide +kernel⟩, Or.inl (List.mem_of_getElem? (i := 260) (by decide +kernel))⟩
theorem kS_len : LkV RX4 30 yJ0_length_8abf5 cJ0_length_8abf5 1 (some .int) 0 := ⟨List.mem_of_getElem? (i := 237) (by decide +kernel), List.mem_of_getElem? (i := 182) (by decide +kernel), List.mem_of_getElem? (i := 235) (by decide +kernel), List.mem_of_getElem? (i := 236) (by decide +kernel), ⟨by decide +kernel, by decide +kernel, by decide +kernel⟩, Or.inl (List.mem_of_getElem? (i := 234) (by decide +kernel))⟩
theorem kS_cha : LkV RX4 36 yJ0_charAt_5068e cJ0_charAt_5068e 2 (some .char) 1 := ⟨List.mem_of_getElem? (i := 247) (by decide +kernel), List.mem_of_getElem? (i := 182) (by decide +kernel), List.mem_of_getElem? (i := 245) (by decide +kernel), List.mem_of_getElem? (i := 246) (by decide +kernel), ⟨by decide +kernel, by decide +kernel, by decide +kernel⟩, Or.inl (List.mem_of_getElem? (i := 244) (by decide +kernel))⟩
theorem fS_cs : Cond.fieldLink RJ0 38 "java/lang/String" "COMPACT_STRINGS" "Z" ∈ lw_tbl := List.mem_of_getElem? (i := 242) (by decide +kernel)
theorem fS_sf : Cond.fieldLink RJ0 1053 "jdk/internal/util/Preconditions" "SIOOBE_FORMATTER" "Ljava/util/function/BiFunction;" ∈ lw_tbl := List.mem_of_getElem? (i := 258) (by decide +kernel)
theorem fS_v : Cond.fieldLink RJ0 9 "java/lang/String" "value" "[B" ∈ lw_tbl := List.mem_of_getElem? (i := 2192) (by decide +kernel)
theorem fS_c : Cond.fieldLink RJ0 15 "java/lang/String" "coder" "B" ∈ lw_tbl := List.mem_of_getElem? (i := 2193) (by decide +kernel)
theorem ms_coder {g : GT} {n nf : Int} {M : Mem} (hok : okS [(3, (gq g : Int))]) : RM g yJ0_coder_7d493 cJ0_coder_7d493 1 (some .byte) 0 n n nf [(3, (gq g : Int))] M M 0 := by
  refine RM_ofF (by decide +kernel) (Nat.le_of_ble_eq_true rfl) (fun p e s m args below meth c hC hr => ?_) hok
  have hC : Cx g p s m meth c RJ0 cJ0_coder_7d493 1 := hC
  show BW g p e (rmOf 0 (cs n n) (sl n n)) s m args below meth c (MQ below (QcA g n nf M (some .byte) 0) args s (cs n n) (sl n n) (Ag g)) (cs n n) (sl n n) 0 [(0, 3, (gq g : Int))] [] n nf M
  refine b_gsC hC dJ0_coder_7d493_0 fS_cs ?_
  refine b_if_eq (tgt := 13) hC dJ0_coder_7d493_3 rfl (fun h => absurd h (by decide)) (fun _ => ?_)
  refine b_aload3 (q := 0) hC dJ0_coder_7d493_6 rfl rfl ?_
  refine b_gfC hC dJ0_coder_7d493_7 fS_c ?_
  refine b_goto (tgt := 14) hC dJ0_coder_7d493_10 rfl ?_
  exact b_iretN hC hr rfl (by decide) dJ0_coder_7d493_14
theorem ms_isL1 {g : GT} {n nf : Int} {M : Mem} (hok : okS [(3, (gq g : Int))]) : RM g yJ0_isLatin1_aae02 cJ0_isLatin1_aae02 1 (some .boolean) 0 n n nf [(3, (gq g : Int))] M M 1 := by
  refine RM_ofF (by decide +kernel) (Nat.le_of_ble_eq_true rfl) (fun p e s m args below meth c hC hr => ?_) hok
  have hC : Cx g p s m meth c RJ0 cJ0_isLatin1_aae02 1 := hC
  show BW g p e (rmOf 0 (cs n n) (sl n n)) s m args below meth c (MQ below (QcA g n nf M (some .boolean) 1) args s (cs n n) (sl n n) (Ag g)) (cs n n) (sl n n) 0 [(0, 3, (gq g : Int))] [] n nf M
  refine b_gsC hC dJ0_isLatin1_aae02_0 fS_cs ?_
  refine b_if_eq (tgt := 17) hC dJ0_isLatin1_aae02_3 rfl (fun h => absurd h (by decide)) (fun _ => ?_)
  refine b_aload3 (q := 0) hC dJ0_isLatin1_aae02_6 rfl rfl ?_
  refine b_gfC hC dJ0_isLatin1_aae02_7 fS_c ?_
  refine b_if_ne (tgt := 17) hC dJ0_isLatin1_aae02_10 rfl (fun h => absurd rfl h) (fun _ => ?_)
  refine b_iconst hC dJ0_isLatin1_aae02_13 ⟨by decide, by decide⟩ ?_
  refine b_goto (tgt := 18) hC dJ0_isLatin1_aae02_14 rfl ?_
  exact b_iretN hC hr rfl (by decide) dJ0_isLatin1_aae02_18
theorem ms_len {g : GT} {n nf : Int} {M : Mem} (hok : okS [(3, (gq g : Int))]) : RM g yJ0_length_8abf5 cJ0_length_8abf5 1 (some .int) 1 n n nf [(3, (gq g : Int))] M M 106 := by
  refine RM_ofF (by decide +kernel) (Nat.le_of_ble_eq_true rfl) (fun p e s m args below meth c hC hr => ?_) hok
  have hC : Cx g p s m meth c RJ0 cJ0_length_8abf5 1 := hC
  show BW g p e (rmOf 1 (cs n n) (sl n n)) s m args below meth c (MQ below (QcA g n nf M (some .int) 106) args s (cs n n) (sl n n) (Ag g)) (cs n n) (sl n n) 0 [(0, 3, (gq g : Int))] [] n nf M
  refine b_aload3 (q := 0) hC dJ0_length_8abf5_0 rfl rfl ?_
  refine b_gfV hC dJ0_length_8abf5_1 fS_v ?_
  refine b_alenV hC dJ0_length_8abf5_4 ?_
  refine b_aload3 (q := 0) hC dJ0_length_8abf5_5 rfl rfl ?_
  refine b_invS (av := []) (sk := [(0, 106)]) hC dJ0_length_8abf5_6 kS_coder rfl rfl rfl (by decide) (show 0 + 1 ≤ 1 by decide) (show 8 + (1 + 11) + 64 * 0 ≤ 64 * 1 by decide) (Nat.le_refl _) (Nat.le_refl _) ms_coder ?_
  refine b_ishr hC dJ0_length_8abf5_9 ?_
  rw [show ishr 106 0 = 106 by decide]
  exact b_iretN hC hr rfl (by decide) dJ0_length_8abf5_10
theorem ms_pre {g : GT} {n nf : Int} {M : Mem} {x : Int} (hx : 0 ≤ x ∧ x < 106) {t : Nat} {z : Int} (ht : t = 2 ∨ t = 3) (hok : okS [(0, x), (0, 106), (t, z)]) : RM g yJ3_checkIndex_8e157 cJ3_checkIndex_8e157 3 (some .int) 0 n n nf [(0, x), (0, 106), (t, z)] M M x := by
  have hw : argW [(0, x), (0, 106), (t, z)] ≤ 3 := by rcases ht with rfl | rfl <;> exact Nat.le_of_ble_eq_true rfl
  refine RM_ofF (by decide +kernel) hw (fun p e s m args below meth c hC hr => ?_) hok
  have hC : Cx g p s m meth c RJ3 cJ3_checkIndex_8e157 3 := hC
  show BW g p e (rmOf 0 (cs n n) (sl n n)) s m args below meth c (MQ below (QcA g n nf M (some .int) x) args s (cs n n) (sl n n) (Ag g)) (cs n n) (sl n n) 0 [(0, 0, x), (1, 0, 106), (2, t, z)] [] n nf M
  refine b_iload_n (q := 0) hC dJ3_checkIndex_8e157_0 rfl rfl ?_
  refine b_if_lt (tgt := 9) hC dJ3_checkIndex_8e157_1 rfl (fun h => absurd h (by omega)) (fun _ => ?_)
  refine b_iload_n (q := 0) hC dJ3_checkIndex_8e157_4 rfl rfl ?_
  refine b_iload_n (q := 1) hC dJ3_checkIndex_8e157_5 rfl rfl ?_
  refine b_icmp_lt (tgt := 16) hC dJ3_checkIndex_8e157_6 rfl (fun _ => ?_) (fun h => absurd hx.2 h)
  refine b_iload_n (q := 0) hC dJ3_checkIndex_8e157_16 rfl rfl ?_
  exact b_iret hC hr (Or.inl rfl) dJ3_checkIndex_8e157_17
theorem ms_ci {g : GT} {n nf : Int} {M : Mem} {x : Int} (hx : 0 ≤ x ∧ x < 106) (hok : okS [(0, x), (0, 106)]) : RM g yJ0_checkIndex_df160 cJ0_checkIndex_df160 2 none 1 n n nf [(0, x), (0, 106)] M M 0 := by
  refine RM_ofF (by decide +kernel) (Nat.le_of_ble_eq_true rfl) (fun p e s m args below meth c hC hr => ?_) hok
  have hC : Cx g p s m meth c RJ0 cJ0_checkIndex_df160 2 := hC
  show BW g p e (rmOf 1 (cs n n) (sl n n)) s m args below meth c (MQ below (QcA g n nf M none 0) args s (cs n n) (sl n n) (Ag g)) (cs n n) (sl n n) 0 [(0, 0, x), (1, 0, 106)] [] n nf M
  refine b_iload_n (q := 0) hC dJ0_checkIndex_df160_0 rfl rfl ?_
  refine b_iload_n (q := 1) hC dJ0_checkIndex_df160_1 rfl rfl ?_
  refine b_gsR hC dJ0_checkIndex_df160_2 fS_sf (fun t z ht => ?_)
  refine b_insK (av := [(0, x), (0, 106), (t, z)]) (sk := []) hC dJ0_checkIndex_df160_5 kS_pre rfl rfl (by decide) (show 0 + 1 ≤ 1 by decide) (show 8 + (3 + 11) + 64 * 0 ≤ 64 * 1 by decide) (Nat.le_refl _) (Nat.le_refl _) (ms_pre hx ht) ?_
  refine b_pop hC dJ0_checkIndex_df160_8 (show (0 : Nat) ≠ 1 by decide) ?_
  exact b_vret hC hr dJ0_checkIndex_df160_9
theorem iand_c : ∀ j : Nat, j < 128 → iand (j : Int) 255 = j ∧ ((Int32.ofInt (j : Int)).toUInt32 % 65536).toInt32 = Int32.ofInt (j : Int) ∧ narrow .char (.int (Int32.ofInt (j : Int))) = .int (Int32.ofInt (j : Int)) := by decide +kernel
theorem owc_c {x : Int} (hx : 0 ≤ x ∧ x < 106) : iand (owc x) 255 = owc x ∧ ((Int32.ofInt (owc x)).toUInt32 % 65536).toInt32 = Int32.ofInt (owc x) ∧ narrow .char (.int (Int32.ofInt (owc x))) = .int (Int32.ofInt (owc x)) := by
  have hr := owc_r hx
  have := iand_c (owc x).toNat (by omega)
  rw [show (((owc x).toNat : Nat) : Int) = owc x by omega] at this
  exact this
theorem ms_l1 {g : GT} {n nf : Int} {M : Mem} {x : Int} (hx : 0 ≤ x ∧ x < 106) (hok : okS [(3, (gv g : Int)), (0, x)]) : RM g yJ1_charAt_3b067 cJ1_charAt_3b067 2 (some .char) 2 n n nf [(3, (gv g : Int)), (0, x)] M M (owc x) := by
  refine RM_ofF (by decide +kernel) (Nat.le_of_ble_eq_true rfl) (fun p e s m args below meth c hC hr => ?_) hok
  have hC : Cx g p s m meth c RJ1 cJ1_charAt_3b067 2 := hC
  show BW g p e (rmOf 2 (cs n n) (sl n n)) s m args below meth c (MQ below (QcA g n nf M (some .char) (owc x)) args s (cs n n) (sl n n) (Ag g)) (cs n n) (sl n n) 0 [(0, 3, (gv g : Int)), (1, 0, x)] [] n nf M
  obtain ⟨w1, w2, w3⟩ := owc_c hx
  refine b_iload_n (q := 1) hC dJ1_charAt_3b067_0 rfl rfl ?_
  refine b_aload3 (q := 0) hC dJ1_charAt_3b067_1 rfl rfl ?_
  refine b_alenV hC dJ1_charAt_3b067_2 ?_
  refine b_insK (av := [(0, x), (0, 106)]) (sk := []) hC dJ1_charAt_3b067_3 kS_ci rfl rfl (by decide) (show 1 + 1 ≤ 2 by decide) (show 8 + (2 + 11) + 64 * 1 ≤ 64 * 2 by decide) (Nat.le_refl _) (Nat.le_refl _) (ms_ci hx) ?_
  refine b_aload3 (q := 0) hC dJ1_charAt_3b067_6 rfl rfl ?_
  refine b_iload_n (q := 1) hC dJ1_charAt_3b067_7 rfl rfl ?_
  refine b_baldV hC dJ1_charAt_3b067_8 hx ?_
  refine b_sipush hC dJ1_charAt_3b067_9 (by decide) ⟨by decide, by decide⟩ ?_
  refine b_iand hC dJ1_charAt_3b067_12 ?_
  rw [w1]
  refine b_i2cX hC dJ1_charAt_3b067_13 w2 ?_
  exact b_iretN hC hr rfl w3 dJ1_charAt_3b067_14
theorem ms_cha {g : GT} {n nf : Int} {M : Mem} {x : Int} (hx : 0 ≤ x ∧ x < 106) (hok : okS [(3, (gq g : Int)), (0, x)]) : RM g yJ0_charAt_5068e cJ0_charAt_5068e 2 (some .char) 3 n n nf [(3, (gq g : Int)), (0, x)] M M (owc x) := by
  refine RM_ofF (by decide +kernel) (Nat.le_of_ble_eq_true rfl) (fun p e s m args below meth c hC hr => ?_) hok
  have hC : Cx g p s m meth c RJ0 cJ0_charAt_5068e 2 := hC
  show BW g p e (rmOf 3 (cs n n) (sl n n)) s m args below meth c (MQ below (QcA g n nf M (some .char) (owc x)) args s (cs n n) (sl n n) (Ag g)) (cs n n) (sl n n) 0 [(0, 3, (gq g : Int)), (1, 0, x)] [] n nf M
  obtain ⟨w1, w2, w3⟩ := owc_c hx
  refine b_aload3 (q := 0) hC dJ0_charAt_5068e_0 rfl rfl ?_
  refine b_invS (av := []) (sk := []) hC dJ0_charAt_5068e_1 kS_isL1 rfl rfl rfl (by decide) (show 0 + 1 ≤ 3 by decide) (show 8 + (1 + 11) + 64 * 0 ≤ 64 * 3 by decide) (Nat.le_refl _) (Nat.le_refl _) ms_isL1 ?_
  refine b_if_eq (tgt := 16) hC dJ0_charAt_5068e_4 rfl (fun h => absurd h (by decide)) (fun _ => ?_)
  refine b_aload3 (q := 0) hC dJ0_charAt_5068e_7 rfl rfl ?_
  refine b_gfV hC dJ0_charAt_5068e_8 fS_v ?_
  refine b_iload_n (q := 1) hC dJ0_charAt_5068e_11 rfl rfl ?_
  refine b_insK (av := [(3, (gv g : Int)), (0, x)]) (sk := []) hC dJ0_charAt_5068e_12 kS_l1 rfl rfl (by decide) (show 2 + 1 ≤ 3 by decide) (show 8 + (2 + 11) + 64 * 2 ≤ 64 * 3 by decide) (Nat.le_refl _) (Nat.le_refl _) (ms_l1 hx) ?_
  exact b_iretN hC hr rfl w3 dJ0_charAt_5068e_15
