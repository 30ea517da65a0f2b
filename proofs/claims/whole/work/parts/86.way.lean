/-! way: both readers side by side -/
section JW
variable {b : Int → Int} {n sp fl km : Int} {A0 B0 Mx Mm M : Mem} {T : List Tok} {C : List Int} {k : Nat}
theorem m_105bad {e p w : Int} (h : ME M e p) (hw : M 366 0 = w ∧ 0 ≤ w ∧ w ≤ 4) : ∃ M1, j_X12_wayTold_105 M w = some (0, M1) ∧ ME M1 e p ∧ M1 337 36 = M 337 36 ∧ Fr ScJ M M1 := by
  have hne : M 337 5 ≠ 0 := by rw [h.1]; exact h.2.2
  have sS : ∀ (x : Mem) (a i v j : Int), a ≠ 337 → st x a i v 337 j = x 337 j := fun x a i v j ha => st_neA (by omega)
  have h3 : ∀ (x : Mem) (j : Int), j ≠ 34 → j ≠ 35 → j ≠ 51 → st (st (st x 337 34 0) 337 35 (x 337 52)) 337 51 0 337 j = x 337 j := fun x j j1 j2 j3 => by rw [st_neI j3, st_neI j2, st_neI j1]
  unfold j_X12_wayTold_105
  rw [ok_t ⟨by omega, by omega⟩, bm_e]
  have n2 : st M 369 w (M 337 32) 337 5 ≠ 0 := by rw [sS _ _ _ _ _ (by decide)]; exact hne
  rw [m_rSum0 n2, cl_some, bm_e]
  have n3 : ∀ v, st (st (st (st (st M 369 w (M 337 32)) 337 34 0) 337 35 (st M 369 w (M 337 32) 337 52)) 337 51 0) 370 w v 337 5 ≠ 0 := by
    intro v
    rw [sS _ _ _ _ _ (by decide), h3 _ 5 (by decide) (by decide) (by decide)]; exact n2
  rw [m_rTest0 (n3 _), cl_some, bm_e]
  have e366 : ∀ v v2, st (st (st (st (st (st M 369 w (M 337 32)) 337 34 0) 337 35 (st M 369 w (M 337 32) 337 52)) 337 51 0) 370 w v) 371 w v2 366 0 = w := by
    intro v v2
    rw [st_neA (by decide), st_neA (by decide), st_neA (by decide), st_neA (by decide), st_neA (by decide), st_neA (by decide)]; exact hw.1
  rw [e366, ok_t ⟨by omega, by omega⟩, bm_e]
  have e337 : ∀ (v v2 v3 : Int) (j : Int), j ≠ 34 → j ≠ 35 → j ≠ 51 → st (st (st (st (st (st (st M 369 w (M 337 32)) 337 34 0) 337 35 (st M 369 w (M 337 32) 337 52)) 337 51 0) 370 w v) 371 w v2) 366 0 v3 337 j = M 337 j := by
    intro v v2 v3 j j1 j2 j3
    rw [sS _ _ _ _ _ (by decide), sS _ _ _ _ _ (by decide), sS _ _ _ _ _ (by decide), h3 _ j j1 j2 j3, sS _ _ _ _ _ (by decide)]
  refine ⟨_, rfl, ⟨?_, ?_, h.2.2⟩, ?_, ?_⟩
  · rw [e337 _ _ _ 5 (by decide) (by decide) (by decide)]; exact h.1
  · rw [e337 _ _ _ 6 (by decide) (by decide) (by decide)]; exact h.2.1
  · rw [e337 _ _ _ 36 (by decide) (by decide) (by decide)]
  · exact Fr.st (Fr.st (Fr.st (Fr.st (Fr.st (Fr.st (Fr.st (Fr.rf _ _) (by unfold ScJ; omega)) (by unfold ScJ ScS; omega)) (by unfold ScJ ScS; omega)) (by unfold ScJ ScS; omega)) (by unfold ScJ; omega)) (by unfold ScJ; omega)) (by unfold ScJ; omega)
theorem x_knows (h : XT b n sp M T C) {s : Int} (hs : sp + 4 ≤ s ∧ s ≤ sp + 43) : (∃ v, ((isW T 4 ∧ v = 1) ∨ (isW T 5 ∧ v = 0)) ∧ ∃ M1, f_X5_readKnows M s = some (1, M1) ∧ XT b n sp M1 T.tail C ∧ M1 s 5 = v ∧ (∀ a i, sp ≤ a → a ≤ sp + 43 → a ≠ sp + 3 → ¬ (a = sp ∧ i = 5) → ¬ (a = s ∧ i = 5) → M1 a i = M a i) ∧ Fr (ScG sp) M M1 ∧ M1 4 3 = M 4 3) ∨ (¬ isW T 4 ∧ ¬ isW T 5 ∧ ∃ M1, f_X5_readKnows M s = some (0, M1) ∧ XE sp M1 1 (hq T) ∧ Fr (ScG sp) M M1) := by
  have ks := kd17 sp h.2.2.1.2
  have k3 := h.2.2.2.2.2.1.2.2.1
  have go : ∀ v : Int, (v = 0 ∨ v = 1) → hk T ≠ 0 → ∃ M1, j_X5_readKnows_40 s M v = some (1, M1) ∧ XT b n sp M1 T.tail C ∧ M1 s 5 = v ∧ (∀ a i, sp ≤ a → a ≤ sp + 43 → a ≠ sp + 3 → ¬ (a = sp ∧ i = 5) → ¬ (a = s ∧ i = 5) → M1 a i = M a i) ∧ Fr (ScG sp) M M1 ∧ M1 4 3 = M 4 3 := by
    intro v hv hz
    unfold j_X5_readKnows_40
    rw [ok_t hv, bm_e]
    obtain ⟨M1, e1, x1, f1⟩ := x_step (h.ot (a := s) (i := 5) (v := v) (by omega)) hz
    rw [e1, cl_some]
    refine ⟨M1, rfl, x1, ?_, ?_, ?_, ?_⟩
    · rw [f1 s 5 (by unfold ScQ; omega), st_at]
    · intro a i h1 h2 h3 h4 h5
      rw [f1 a i (by unfold ScQ; omega), st_ne (by omega)]
    · exact (Fr.st (Fr.rf _ _) (by unfold ScG; omega)).tr (ScQ_G f1)
    · rw [f1 4 3 (by unfold ScQ; omega), st_neA (by omega)]
  unfold f_X5_readKnows
  by_cases c4 : isW T 4
  · left
    obtain ⟨M1, e, q⟩ := go 1 (Or.inr rfl) (by omega)
    have c4' := (h.ow (w := 4) (by decide)).mpr c4
    rw [if_pos c4']
    unfold j_X5_readKnows_26
    rw [if_pos c4']
    exact ⟨1, Or.inl ⟨c4, rfl⟩, M1, e, q⟩
  have c4' : ¬ M 4 10 = 4 := fun q => c4 ((h.ow (by decide)).mp q)
  rw [if_neg c4']
  by_cases c5 : isW T 5
  · left
    obtain ⟨M1, e, q⟩ := go 0 (Or.inl rfl) (by omega)
    rw [if_pos ((h.ow (by decide)).mpr c5)]
    unfold j_X5_readKnows_26
    rw [if_neg c4']
    exact ⟨0, Or.inr ⟨c5, rfl⟩, M1, e, q⟩
  · right
    rw [if_neg (fun q => c5 ((h.ow (by decide)).mp q)), k3]
    obtain ⟨M1, e, x1, f1⟩ := x_ref h (k := 1) (by decide) (hq T)
    rw [e, cl_some, ok_t (Or.inl rfl)]
    exact ⟨c4, c5, M1, rfl, x1, ScQ_G f1⟩
/-- a WAY behind knows or blind -/
theorem j_wrest {M4 M5 : Mem} {T' : List Tok} {N : Nat} {w r v m c : Int} (hk17 : kd sp = 17) (hk40 : k < 40) (hw : 0 ≤ w ∧ w < 5) (hr : 0 ≤ r ∧ r ≤ k) (hv01 : v = 0 ∨ v = 1) (hNR : NR m c) (hN : T'.length < N) (hB : C.length + T'.length ≤ 900) (x4 : XT b n sp M4 T' C) (d0 : M4 (sp + 4 + k) 0 = 3) (d1 : M4 (sp + 4 + k) 1 = c) (d5 : M4 (sp + 4 + k) 5 = v) (ds : M4 sp 1 = k + 1 ∧ M4 sp 3 = w + 1 ∧ M4 (sp + 2) w = k) (oX : OldX sp k w Mx M4) (e43 : M4 4 3 = 1) (fx : Fr (ScG sp) B0 M4) (mc5 : MC b n M5 T' C) (g52 : M5 337 52 = 0) (g366 : M5 366 0 = w) (g367 : M5 367 w = m) (g368 : M5 368 w = v) (g362 : M5 362 0 = r) (g36 : M5 337 36 = km) (oM : OldM r w Mm M5) (fm5 : Fr ScJ A0 M5) (hR : RlY Mm Mx sp 6 C r k 0 0) (hW : WyY Mm Mx sp C k w) : JB b n sp 0 A0 B0 N (k + 1) km (cl (f_X5_readRule M4 (sp + 4 + k)) (fun r36 M37 => if r36 = 0 then (some (0, M37)) else (some (1, M37)))) (j_X12_wayTold_105 M5 w) := by
  have ks := kd17 sp hk17
  have hx := x_rule x4 hB (s := sp + 4 + k) (by omega)
  obtain ⟨M6, M8, e6, e8, hm⟩ := m_rd3 mc5 g52 hB (aF := 369) (k := w) (Or.inr rfl)
  have hm : RuM b n 369 w M5 (st M8 371 w (M8 337 32)) C (pRule T') := hm
  have fmJ : Fr (ScV 369 w) M5 (st M8 371 w (M8 337 32)) → Fr ScJ A0 (st (st M8 371 w (M8 337 32)) 366 0 (w + 1)) := by
    intro fm
    refine Fr.st (fm5.tr (fm.mono (fun a i q => ?_))) (by unfold ScJ; omega)
    clear hx e6 e8 hm fm oX oM hR hW
    unfold ScV at q
    unfold ScJ
    rcases q with q | q
    · exact Or.inl q
    · omega
  have eM : M8 366 0 = w → j_X12_wayTold_105 M5 w = some (0, st (st M8 371 w (M8 337 32)) 366 0 (w + 1)) := by
    intro hv3
    unfold j_X12_wayTold_105
    rw [ok_t ⟨by omega, by omega⟩, bm_e, e6, cl_some, bm_e]
    show cl (f_X12_readsTest (st M6 (369 + 1) w (M6 337 32))) _ = _
    rw [e8, cl_some, bm_e, st_neA (by decide), hv3, ok_t ⟨by omega, by omega⟩, bm_e]
  have ev : Fr (ScV 369 w) M5 (st M8 371 w (M8 337 32)) → M8 366 0 = w := by
    intro fm
    have := fm 366 0 (by unfold ScV ScS; omega)
    rw [st_neA (by decide)] at this
    rw [this, g366]
  cases hy : pRule T' with
  | error z =>
    obtain ⟨e, p⟩ := z
    rw [hy] at hx hm
    obtain ⟨M7, e7, x7, f7⟩ := hx
    obtain ⟨me, fm⟩ := hm
    rw [e7, cl_some, if_pos rfl, eM (ev fm)]
    left
    refine ⟨e, p, M7, _, 0, rfl, rfl, x7, ⟨?_, ?_, me.1.2.2⟩, ?_, fmJ fm, ?_⟩
    · rw [st_neA (by decide)]; exact me.1.1
    · rw [st_neA (by decide)]; exact me.1.2.1
    · rw [st_neA (by decide), fm 337 36 (by unfold ScV ScS; omega)]; exact g36
    · exact fx.tr (f7.mono (fun a i q => by unfold ScU ScQ at q; unfold ScG; omega))
  | ok z =>
    obtain ⟨c1, c2, T2⟩ := z
    rw [hy] at hx hm
    obtain ⟨M7, e7, x7, ⟨y1, y2, y3⟩, f7⟩ := hx
    obtain ⟨mc, ⟨y4, y5, y6⟩, fm⟩ := hm
    obtain ⟨gg1, gg2, gg3, gg4, gg5⟩ := pRule_ok x4.1 hy
    rw [e7, cl_some, if_neg (by decide), eM (ev fm)]
    have fx7 : ∀ a i, sp ≤ a → a ≤ sp + 43 → a ≠ sp + 3 → ¬ (a = sp ∧ i = 5) → ¬ (a = sp + 4 + k ∧ 6 ≤ i ∧ i ≤ 8) → M7 a i = M4 a i := fun a i z1 z2 z3 z4 z5 => by
      refine f7 a i ?_
      clear e6 e8 fm oX oM hR hW y1 y2 y3 y4 y5 y6 x7 x4
      unfold ScU ScQ; omega
    have gm : ∀ a i, ¬ ScV 369 w a i → ¬ (a = 366 ∧ i = 0) → st (st M8 371 w (M8 337 32)) 366 0 (w + 1) a i = M5 a i := by
      intro a i m1 m3
      rw [st_ne m3, fm a i m1]
    have oX7 : OldX sp k w Mx M7 := by
      refine ⟨fun i c i0 i1 => ?_, fun j j0 j1 => ?_⟩
      · rw [fx7 _ _ (by omega) (by omega) (by omega) (by omega) (by omega)]; exact oX.1 i c i0 i1
      · rw [fx7 _ _ (by omega) (by omega) (by omega) (by omega) (by omega)]; exact oX.2 j j0 j1
    have oM7 : OldM r w Mm (st (st M8 371 w (M8 337 32)) 366 0 (w + 1)) := by
      refine ⟨fun c j c0 c1 j0 j1 => ?_, fun c j c0 c1 c2 j0 j1 => ?_⟩
      · rw [gm _ _ (by unfold ScV ScS; omega) (by omega)]; exact oM.1 c j c0 c1 j0 j1
      · rw [gm _ _ (by unfold ScV ScS; omega) (by omega)]; exact oM.2 c j c0 c1 c2 j0 j1
    have e0 : M7 (sp + 4 + k) 0 = 3 := by rw [fx7 _ _ (by omega) (by omega) (by omega) (by omega) (by omega)]; exact d0
    have ea : C ++ c1 ++ c2 = C ++ (c1 ++ c2) := by simp
    have c367 : st (st M8 371 w (M8 337 32)) 366 0 (w + 1) 367 w = m := by
      rw [gm _ _ (by unfold ScV ScS; omega) (by omega)]; exact g367
    have c368 : st (st M8 371 w (M8 337 32)) 366 0 (w + 1) 368 w = v := by
      rw [gm _ _ (by unfold ScV ScS; omega) (by omega)]; exact g368
    have c369 : st (st M8 371 w (M8 337 32)) 366 0 (w + 1) 369 w = C.length := by rw [st_neA (by decide)]; exact y4
    have c370 : st (st M8 371 w (M8 337 32)) 366 0 (w + 1) 370 w = ((C ++ c1).length : Int) := by rw [st_neA (by decide)]; exact y5
    have c371 : st (st M8 371 w (M8 337 32)) 366 0 (w + 1) 371 w = ((C ++ c1 ++ c2).length : Int) := by rw [st_neA (by decide)]; exact y6
    have c362 : st (st M8 371 w (M8 337 32)) 366 0 (w + 1) 362 0 = r := by
      rw [gm _ _ (by unfold ScV ScS; omega) (by omega)]; exact g362
    right
    refine ⟨M7, _, 0, T2, C ++ c1 ++ c2, rfl, rfl, ⟨x7, mc.ot (by omega), ⟨?_, ?_⟩, ⟨?_, ?_, by omega⟩, by simp; omega, ⟨?_, ?_, ?_⟩, fun _ => ?_, fun hf => absurd hf (by decide), fmJ fm, ?_⟩, by omega⟩
    · rw [gm _ _ (by unfold ScV ScS; omega) (by omega)]; exact g52
    · rw [f7 4 3 (by unfold ScU ScQ; omega), e43]; rfl
    · rw [fx7 _ _ (by omega) (by omega) (by omega) (by omega) (by omega), ds.1]; omega
    · rw [gm _ _ (by unfold ScV ScS; omega) (by omega)]; exact g36
    · rw [c362]; exact hr.1
    · rw [c362]; omega
    · rw [c362]
      have r1 := RlY.old (c1 ++ c2) oM7 oX7 k 0 0 (by omega) (by omega) (by omega) hR
      rw [← ea] at r1
      refine RlY.skip k 0 0 r1 ?_
      rw [show (0 : Int) + k = k by omega, e0]; decide
    · rw [st_at, fx7 sp 3 (by omega) (by omega) (by omega) (by omega) (by omega)]
      refine ⟨⟨by omega, by omega⟩, ds.2.1, ?_⟩
      intro t t0 t1'
      by_cases et : t = w
      · subst et
        rw [fx7 (sp + 2) t (by omega) (by omega) (by omega) (by omega) (by omega), ds.2.2, fx7 (sp + 4 + k) 5 (by omega) (by omega) (by omega) (by omega) (by omega), d5, c368, fx7 (sp + 4 + k) 1 (by omega) (by omega) (by omega) (by omega) (by omega), d1, c367, y1, y2, y3, c369, c370, c371]
        exact ⟨⟨by omega, by omega⟩, rfl, hv01, hNR, ⟨rfl, rfl, rfl⟩, (Sg2.new gg4).app c2, Sg2.new gg5⟩
      · have := WyY.old (c1 ++ c2) oM7 oX7 hW t t0 (by omega)
        rw [← ea] at this
        exact this
    · exact fx.tr (f7.mono (fun a i q => by unfold ScU ScQ at q; unfold ScG; omega))
set_option maxHeartbeats 4000000 in
theorem j_way {M9 M1 : Mem} (h : JS b n sp 0 A0 B0 Mx Mm T C k km) (hk40 : k < 40) (x9 : XT b n sp M9 T.tail C) (hz : hk T ≠ 0) (b1 : M9 (sp + 4 + k) 0 = 3 ∧ M9 (sp + 4 + k) 9 = k + 1 ∧ M9 sp 1 = k + 1) (same : ∀ a i, sp ≤ a → a ≤ sp + 43 → a ≠ sp + 3 → ¬ (a = sp ∧ (i = 1 ∨ i = 5)) → ¬ (a = sp + 4 + k ∧ (i = 0 ∨ i = 9)) → M9 a i = Mx a i) (f9 : Fr (ScG sp) Mx M9) (e43 : M9 4 3 = Mx 4 3) (q1 : MP b n M1 T.tail) (q2 : Fr ScP Mm M1) (hw5 : Mm 366 0 < 5) (bg : Int) : JB b n sp 0 A0 B0 T.length (k + 1) km (cl (f_X5_readNewName M9) (fun r28 M29 => if r28 = 0 then (some (0, M29)) else (cl (f_X5_readKnows M29 (sp + 4 + k)) (fun r32 M33 => if r32 = 0 then (some (0, M33)) else (cl (f_X5_readRule M33 (sp + 4 + k)) (fun r36 M37 => if r36 = 0 then (some (0, M37)) else (some (1, M37)))))))) (f_X12_wayTold M1 bg) := by
  obtain ⟨h1, h2, ⟨h3, h3b⟩, ⟨h4, h5, h6⟩, h7, ⟨h8, h9, h10⟩, h11, h12, h13, h14⟩ := h
  have ks := kd17 sp h1.2.2.1.2
  obtain ⟨t1, t2⟩ := h1.1.tl hz
  obtain ⟨w1, w2, w3⟩ := h11 rfl
  generalize hwe : Mm 366 0 = w at *
  have e3 : M9 sp 3 = w := (same _ _ (by omega) (by omega) (by omega) (by omega) (by omega)).trans w2
  have oX9 : OldX sp k w Mx M9 := ⟨fun i c i0 i1 => same _ _ (by omega) (by omega) (by omega) (by omega) (by omega), fun j j0 j1 => same _ _ (by omega) (by omega) (by omega) (by omega) (by omega)⟩
  have hn9 : ∀ j, 0 ≤ j → j < w → 0 ≤ M9 (sp + 2) j ∧ M9 (sp + 2) j < 40 := fun j j0 j1 => by
    have := (w3 j j0 j1).1
    rw [oX9.2 j j0 j1]; omega
  have e366 : M1 366 0 = w := (q2 366 0 (by unfold ScP; omega)).trans hwe
  unfold f_X12_wayTold
  rw [e366]
  show JB b n sp 0 A0 B0 T.length (k + 1) km _ (if w = 5 then _ else _)
  rw [if_neg (by omega)]
  have hN : ∀ {M' : Mem}, Fr (ScN sp k w) M9 M' → Fr (ScG sp) M9 M' := fun f => f.mono (fun a i q => by unfold ScN ScQ at q; unfold ScG; omega)
  have bad : ∀ (M3 M4 : Mem) (e p : Int) (Rx : Res), Rx = some (0, M3) → XE sp M3 e p → Fr (ScG sp) M9 M3 → ME M4 e p → M4 366 0 = w → M4 337 36 = km → Fr ScJ A0 M4 → JB b n sp 0 A0 B0 T.length (k + 1) km Rx (j_X12_wayTold_74 M4 w) := by
    intro M3 M4 e p Rx eR x3 f3 m4 e4 k4 f4
    obtain ⟨M5, e5, m5, k5, f5⟩ := m_wayBad m4 ⟨e4, by omega, by omega⟩
    exact Or.inl ⟨e, p, M3, M5, 0, eR, e5, x3, m5, k5.trans k4, f4.tr f5, (h14.tr f9).tr f3⟩
  have k36 : ∀ M', Fr ScP M1 M' → M' 337 36 = km := fun M' f => (f 337 36 (by unfold ScP; omega)).trans ((q2 337 36 (by unfold ScP; omega)).trans h5)
  rcases m_name q1 with ⟨c, m, M2, em, nr, mp2, e30, f2⟩ | ⟨c, M2, em, me, f2⟩
  · rw [em, cl_some]
    show JB b n sp 0 A0 B0 T.length (k + 1) km _ (ok (0 ≤ w ∧ w < 25) (bm (st M2 367 w m) (fun M9 => wl2 (b_X12_wayTold_31) FU M9 w 0)))
    rw [ok_t ⟨by omega, by omega⟩, bm_e]
    have fP : Fr ScP Mm M2 := q2.tr f2
    have s367 : ∀ j, 0 ≤ j → j < w → st M2 367 w m 367 j = Mm 367 j := fun j j0 j1 => by rw [st_neI (by omega)]; exact fP 367 j (by unfold ScP; omega)
    have sw : st M2 367 w m 367 w = m := st_at _ _ _ _
    have di := dup_iff (na := 367) (fun j j0 j1 => (w3 j j0 j1).2.2.2.1) (fun j j0 j1 => (w3 j j0 j1).1) nr oX9
    have f13 : Fr ScJ A0 (st M2 367 w m) := Fr.st ((h13.tr (ScS_J (ScP_S fP)))) (by unfold ScJ; omega)
    rcases m_dupW (k := w) ⟨by omega, by omega⟩ w.toNat FU (st M2 367 w m) 0 (by rw [st_neA (by decide)]; exact mp2.1) (by decide) (by omega) (by have : FU = 1000000000 := rfl; omega) with ⟨⟨j, j0, j1, ej⟩, ed⟩ | ⟨nd, ed⟩
    · have hd : dupX M9 sp w (hv T.tail) := di.mpr ⟨j, j0, j1, by rw [← s367 j j0 j1, ej, sw]⟩
      rw [ed]
      rcases x_newName x9 (k := k) (w := w) ⟨e3, by omega, by omega⟩ ⟨b1.2.2, by omega, by omega⟩ hn9 with ⟨-, q, -⟩ | ⟨-, -, M3, e', x3, f3⟩ | ⟨q, -⟩
      · exact absurd hd q
      · rw [e', cl_some, if_pos rfl]
        refine bad M3 _ 3 (hq T.tail) _ rfl x3 (hN f3) ?_ ?_ ?_ ?_
        · rw [st_neA (by decide), e30]; exact me_fail (by decide)
        · rw [st_neA (by decide), st_neA (by decide), st_neA (by decide), f2 366 0 (by unfold ScP; omega)]; exact e366
        · rw [st_neI (by decide), st_neI (by decide), st_neA (by decide)]; exact k36 M2 f2
        · exact Fr.st (Fr.st f13 (by unfold ScJ ScS; omega)) (by unfold ScJ ScS; omega)
      · exact absurd c q
    · have hd : ¬ dupX M9 sp w (hv T.tail) := by
        intro q
        obtain ⟨j, j0, j1, ej⟩ := di.mp q
        exact nd ⟨j, j0, j1, by rw [s367 j j0 j1, sw]; exact ej⟩
      rw [ed]
      rcases x_newName x9 (k := k) (w := w) ⟨e3, by omega, by omega⟩ ⟨b1.2.2, by omega, by omega⟩ hn9 with ⟨-, -, M3, e', x3, ⟨n1, n2, n3⟩, f3⟩ | ⟨-, q, -⟩ | ⟨q, -⟩
      · rw [e', cl_some, if_neg (by decide)]
        clear nd hd di
        obtain ⟨u1, u2⟩ := t1.tl (by omega)
        have mp3 : MP b n (st M2 367 w m) T.tail.tail := mp2.fr (fun i => st_neA (by decide)) (st_neA (by decide)) (st_neA (by decide)) (st_neA (by decide)) (st_neA (by decide))
        unfold j_X12_wayTold_74
        -- behind knows or blind
        have rest : ∀ (v : Int) (M4 M5 : Mem), (v = 0 ∨ v = 1) → hk T.tail.tail ≠ 0 → XT b n sp M4 T.tail.tail.tail C → M4 (sp + 4 + k) 5 = v → (∀ a i, sp ≤ a → a ≤ sp + 43 → a ≠ sp + 3 → ¬ (a = sp ∧ i = 5) → ¬ (a = sp + 4 + k ∧ i = 5) → M4 a i = M3 a i) → Fr (ScG sp) M3 M4 → M4 4 3 = M3 4 3 → MP b n M5 T.tail.tail.tail → Fr ScP (st (st M2 367 w m) 368 w v) M5 → JB b n sp 0 A0 B0 T.length (k + 1) km (cl (f_X5_readRule M4 (sp + 4 + k)) (fun r36 M37 => if r36 = 0 then (some (0, M37)) else (some (1, M37)))) (j_X12_wayTold_105 M5 w) := by
          intro v M4 M5 hv01 hz3 x4 e45 same4 f4 e443 mp5 f5
          obtain ⟨v1, v2⟩ := u1.tl hz3
          have g5 : ∀ a i, ¬ ScP a i → ¬ (a = 367 ∧ i = w) → ¬ (a = 368 ∧ i = w) → M5 a i = Mm a i := fun a i m1 m2 m3 => by
            rw [f5 a i m1, st_ne m3, st_ne m2]; exact fP a i m1
          have mc5 : MC b n M5 T.tail.tail.tail C := ⟨mp5, (g5 337 32 (by unfold ScP; omega) (by omega) (by omega)).trans h2.2.1, Seg.fr (fun i => g5 360 i (by unfold ScP; omega) (by omega) (by omega)) h2.2.2⟩
          have g43 : ∀ a i, sp ≤ a → a ≤ sp + 43 → a ≠ sp + 3 → ¬ (a = sp ∧ (i = 5 ∨ i = 3)) → ¬ (a = sp + 4 + k ∧ (i = 1 ∨ i = 5)) → ¬ (a = sp + 2 ∧ i = w) → M4 a i = M9 a i := fun a i z1 z2 z3 z4 z5 z6 => by
            rw [same4 a i z1 z2 z3 (by omega) (by omega)]
            exact f3 a i (by unfold ScN ScQ; omega)
          refine j_wrest (Mx := Mx) (Mm := Mm) (r := Mm 362 0) (m := m) (c := hv T.tail) (v := v) h1.2.2.1.2 hk40 ⟨by omega, by omega⟩ ⟨h8, h9⟩ hv01 nr (by omega) (by omega) x4 ?_ ?_ e45 ⟨?_, ?_, ?_⟩ ⟨?_, ?_⟩ ?_ (((h14.tr f9).tr (hN f3)).tr f4) mc5 ?_ ?_ ?_ ?_ ?_ ?_ ⟨?_, ?_⟩ ?_ h10 w3
          · rw [g43 _ _ (by omega) (by omega) (by omega) (by omega) (by omega) (by omega)]; exact b1.1
          · rw [same4 _ _ (by omega) (by omega) (by omega) (by omega) (by omega)]; exact n1
          · rw [g43 _ _ (by omega) (by omega) (by omega) (by omega) (by omega) (by omega)]; exact b1.2.2
          · rw [same4 _ _ (by omega) (by omega) (by omega) (by omega) (by omega)]; exact n3
          · rw [same4 _ _ (by omega) (by omega) (by omega) (by omega) (by omega)]; exact n2
          · intro i c i0 i1
            rw [g43 _ _ (by omega) (by omega) (by omega) (by omega) (by omega) (by omega)]; exact oX9.1 i c i0 i1
          · intro j j0 j1
            rw [g43 _ _ (by omega) (by omega) (by omega) (by omega) (by omega) (by omega)]; exact oX9.2 j j0 j1
          · rw [e443, f3 4 3 (by unfold ScN ScQ; omega), e43]; exact h3b
          · rw [g5 _ _ (by unfold ScP; omega) (by omega) (by omega)]; exact h3
          · rw [g5 _ _ (by unfold ScP; omega) (by omega) (by omega)]; exact hwe
          · rw [f5 367 w (by unfold ScP; omega), st_neA (by decide), st_at]
          · rw [f5 368 w (by unfold ScP; omega), st_at]
          · exact g5 _ _ (by unfold ScP; omega) (by omega) (by omega)
          · rw [g5 _ _ (by unfold ScP; omega) (by omega) (by omega)]; exact h5
          · exact fun c j c0 c1 j0 j1 => g5 _ _ (by unfold ScP; omega) (by omega) (by omega)
          · exact fun c j c0 c1 c2 j0 j1 => g5 _ _ (by unfold ScP; omega) (by omega) (by omega)
          · exact (Fr.st f13 (by unfold ScJ; omega)).tr (ScS_J (ScP_S f5))
        rcases x_knows x3 (s := sp + 4 + k) (by omega) with ⟨v, hv01, M4, e4, x4, e45, same4, f4, e443⟩ | ⟨c4, c5, M4, e4, x4, f4⟩
        · rw [e4, cl_some, if_neg (by decide)]
          rcases hv01 with ⟨c4, rfl⟩ | ⟨c5, rfl⟩
          · rcases m_takes mp3 (a := 343) (by decide) with ⟨-, M5, e5, mp5, f5⟩ | ⟨q, -⟩
            · rw [e5, cl_some, ok_t ⟨by omega, by omega⟩, ok_t (Or.inr rfl), bm_e, st_at, if_neg (by decide)]
              refine rest 1 M4 _ (Or.inr rfl) (by omega) x4 e45 same4 f4 e443 (mp5.fr (fun i => st_neA (by decide)) (st_neA (by decide)) (st_neA (by decide)) (st_neA (by decide)) (st_neA (by decide))) ?_
              exact fr_st2 f5 368 w 1
            · exact absurd c4 q
          · rcases m_takes mp3 (a := 343) (by decide) with ⟨q, -⟩ | ⟨-, e5⟩
            · have z1 := q.2
              have z2 := c5.2
              omega
            · rw [e5, cl_some, ok_t ⟨by omega, by omega⟩, ok_t (Or.inl rfl), bm_e, st_at, if_pos rfl]
              have mp5 : MP b n (st (lk (st M2 367 w m) T.tail.tail) 368 w 0) T.tail.tail := mp3.lo.fr (fun i => st_neA (by decide)) (st_neA (by decide)) (st_neA (by decide)) (st_neA (by decide)) (st_neA (by decide))
              rcases m_asks mp5 (a := 344) (by decide) with ⟨-, M6, e6, mp6, f6⟩ | ⟨q, -⟩
              · rw [e6, cl_some]
                exact rest 0 M4 M6 (Or.inl rfl) (by omega) x4 e45 same4 f4 e443 mp6 ((fr_st2 (lk_fr _ _) 368 w 0).tr f6)
              · exact absurd c5 q
        · rw [e4, cl_some, if_pos rfl]
          rcases m_takes mp3 (a := 343) (by decide) with ⟨q, -⟩ | ⟨-, e5⟩
          · exact absurd q c4
          rw [e5, cl_some, ok_t ⟨by omega, by omega⟩, ok_t (Or.inl rfl), bm_e, st_at, if_pos rfl]
          have mp5 : MP b n (st (lk (st M2 367 w m) T.tail.tail) 368 w 0) T.tail.tail := mp3.lo.fr (fun i => st_neA (by decide)) (st_neA (by decide)) (st_neA (by decide)) (st_neA (by decide)) (st_neA (by decide))
          rcases m_asks mp5 (a := 344) (by decide) with ⟨q, -⟩ | ⟨-, M6, e6, m6, f6⟩
          · exact absurd q c5
          rw [e6, cl_some]
          have fl5 : Fr ScP (st (st M2 367 w m) 368 w 0) M6 := (fr_st2 (lk_fr _ _) 368 w 0).tr f6
          obtain ⟨M7, e7, m7, k7, f7⟩ := m_105bad m6 (w := w) ⟨by rw [fl5 366 0 (by unfold ScP; omega), st_neA (by decide), st_neA (by decide), f2 366 0 (by unfold ScP; omega)]; exact e366, by omega, by omega⟩
          refine Or.inl ⟨1, hq T.tail.tail, M4, M7, 0, rfl, e7, x4, m7, ?_, ((Fr.st f13 (by unfold ScJ; omega)).tr (ScS_J (ScP_S fl5))).tr f7, (h14.tr f9).tr ((hN f3).tr f4)⟩
          rw [k7, fl5 337 36 (by unfold ScP; omega), st_neA (by decide), st_neA (by decide)]; exact k36 M2 f2
      · exact absurd q hd
      · exact absurd c q
  · rw [em, cl_some]
    show JB b n sp 0 A0 B0 T.length (k + 1) km _ (ok (0 ≤ w ∧ w < 25) (bm (st M2 367 w 0) (fun M9 => wl2 (b_X12_wayTold_31) FU M9 w 0)))
    rw [ok_t ⟨by omega, by omega⟩, bm_e]
    have hne : st M2 367 w 0 337 5 ≠ 0 := by rw [st_neA (by decide), me.1]; exact me.2.2
    have ed : wl2 (b_X12_wayTold_31) FU (st M2 367 w 0) w 0 = j_X12_wayTold_74 (st M2 367 w 0) w := by
      show wl2 (b_X12_wayTold_31) (999999999 + 1) (st M2 367 w 0) w 0 = _
      rw [wl2_s]
      unfold b_X12_wayTold_31
      by_cases c2 : w ≤ 0
      · rw [if_pos c2]
      · rw [if_neg c2, if_neg hne]
    rw [ed]
    rcases x_newName x9 (k := k) (w := w) ⟨e3, by omega, by omega⟩ ⟨b1.2.2, by omega, by omega⟩ hn9 with ⟨q, -⟩ | ⟨q, -⟩ | ⟨-, M3, e', x3, f3⟩
    · exact absurd q c
    · exact absurd q c
    · rw [e', cl_some, if_pos rfl]
      refine bad M3 _ 1 _ _ rfl x3 (hN f3) ⟨?_, ?_, by decide⟩ ?_ ?_ ?_
      · rw [st_neA (by decide)]; exact me.1
      · rw [st_neA (by decide)]; exact me.2.1
      · rw [st_neA (by decide), f2 366 0 (by unfold ScP; omega)]; exact e366
      · rw [st_neA (by decide)]; exact k36 M2 f2
      · exact Fr.st (h13.tr (ScS_J (ScP_S (q2.tr f2)))) (by unfold ScJ; omega)
end JW
