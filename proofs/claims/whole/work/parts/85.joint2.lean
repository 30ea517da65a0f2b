/-! disc, thing, way: both readers side by side -/
section JK
variable {b : Int → Int} {n sp fl km : Int} {A0 B0 Mx Mm : Mem} {T : List Tok} {C : List Int} {k : Nat}
theorem j_disc {M9 M1 : Mem} (h : JS b n sp 1 A0 B0 Mx Mm T C k km) (hk40 : k < 40) (x9 : XT b n sp M9 T.tail C) (hz : hk T ≠ 0) (b1 : M9 (sp + 4 + k) 0 = 1 ∧ M9 (sp + 4 + k) 9 = k + 1 ∧ M9 sp 1 = k + 1) (same : ∀ a i, sp ≤ a → a ≤ sp + 43 → a ≠ sp + 3 → ¬ (a = sp ∧ (i = 1 ∨ i = 5)) → ¬ (a = sp + 4 + k ∧ (i = 0 ∨ i = 9)) → M9 a i = Mx a i) (f9 : Fr (ScG sp) Mx M9) (e43 : M9 4 3 = Mx 4 3) (q1 : MP b n M1 T.tail) (q2 : Fr ScP Mm M1) : JB b n sp 1 A0 B0 T.length (k + 1) km (f_X5_readSquare M9 (sp + 4 + k)) (f_X12_discTold M1) := by
  obtain ⟨h1, h2, ⟨h3, h3b⟩, ⟨h4, h5, h6⟩, h7, ⟨h8, h9, h10⟩, h11, h12, h13, h14⟩ := h
  have ks := kd17 sp h1.2.2.1.2
  obtain ⟨t1, t2⟩ := h1.1.tl hz
  obtain ⟨w1, w2, w3, w4, w5⟩ := h12 rfl
  have hx := x_num x9 (lo := 0) (hi := 11) (by decide)
  have hm := m_number q1 0 11
  unfold f_X5_readSquare f_X12_discTold
  have bad : ∀ (M3 M4 : Mem) (e p r3 r4 : Int) (Rx : Res), Rx = some (0, M3) → XE sp M3 e p → Fr (ScG sp) M9 M3 → ME M4 e p → Fr ScP M1 M4 → (0 ≤ r3 ∧ r3 ≤ 9999) → (0 ≤ r4 ∧ r4 ≤ 9999) → JB b n sp 1 A0 B0 T.length (k + 1) km Rx (ok (in32 (12 * r3)) (ok (in32 ((12 * r3) + r4)) (bm (st M4 375 0 ((12 * r3) + r4)) (fun M7 => some (0, M7))))) := by
    intro M3 M4 e p r3 r4 Rx eR x3 f3 m4 f4 hr3 hr4
    rw [ok_t ⟨by omega, by omega⟩, ok_t ⟨by omega, by omega⟩, bm_e]
    left
    refine ⟨e, p, M3, _, 0, eR, rfl, x3, ⟨?_, ?_, m4.2.2⟩, ?_, ?_, (h14.tr f9).tr f3⟩
    · rw [st_neA (by decide)]; exact m4.1
    · rw [st_neA (by decide)]; exact m4.2.1
    · rw [st_neA (by decide), f4 337 36 (by unfold ScP; omega), q2 337 36 (by unfold ScP; omega)]; exact h5
    · exact Fr.st ((h13.tr (ScS_J (ScP_S q2))).tr (ScS_J (ScP_S f4))) (by unfold ScJ; omega)
  cases hy : pNum 0 11 T.tail with
  | error z =>
    obtain ⟨e, p⟩ := z
    rw [hy] at hx hm
    obtain ⟨M3, e3, x3, f3⟩ := hx
    obtain ⟨r, M4, e4, r0, m4, f4⟩ := hm
    have hne : M4 337 5 ≠ 0 := by rw [m4.1]; exact m4.2.2
    rw [e3, e4, cl_some, cl_some, m_number0 hne, cl_some, bm_e, st_at, if_pos rfl]
    exact bad _ M4 e p 0 r _ rfl (x3.ot (by omega)) (Fr.st (ScQ_G f3) (by unfold ScG; omega)) m4 f4 (by decide) r0
  | ok z =>
    obtain ⟨v, T1⟩ := z
    rw [hy] at hx hm
    obtain ⟨M3, e3, v0, x3, f3⟩ := hx
    obtain ⟨M4, e4, m4, f4⟩ := hm
    have hv11 : v ≤ 11 ∧ Tk b n T1 ∧ T1.length + 1 = T.tail.length := by
      unfold pNum at hy
      by_cases c6 : hk T.tail = 6
      · rw [if_pos c6] at hy; cases hy
      rw [if_neg c6] at hy
      by_cases c3 : hk T.tail = 3
      · rw [if_pos c3] at hy
        by_cases c7 : hv T.tail < 0 ∨ 11 < hv T.tail
        · rw [if_pos c7] at hy; cases hy
        · rw [if_neg c7] at hy; cases hy
          have := t1.tl (by omega)
          exact ⟨by omega, this⟩
      · rw [if_neg c3] at hy; cases hy
    have x4 : XT b n sp (st M3 (sp + 4 + k) 3 v) T1 C := x3.ot (by omega)
    have hx2 := x_num x4 (lo := 0) (hi := 7) (by decide)
    have hm2 := m_number m4 0 7
    rw [e3, e4, cl_some, cl_some, bm_e, st_at, if_neg (by omega)]
    cases hz2 : pNum 0 7 T1 with
    | error z =>
      obtain ⟨e, p⟩ := z
      rw [hz2] at hx2 hm2
      obtain ⟨M5, e5, x5, f5⟩ := hx2
      obtain ⟨r, M6, e6, r0, m6, f6⟩ := hm2
      rw [e5, e6, cl_some, cl_some, bm_e, st_at, if_pos rfl]
      exact bad _ M6 e p r v _ rfl (x5.ot (by omega)) (Fr.st ((Fr.st (ScQ_G f3) (by unfold ScG; omega)).tr (ScQ_G f5)) (by unfold ScG; omega)) m6 (f4.tr f6) r0 ⟨v0, by omega⟩
    | ok z =>
      obtain ⟨w, T2⟩ := z
      rw [hz2] at hx2 hm2
      obtain ⟨M5, e5, v5, x5, f5⟩ := hx2
      obtain ⟨M6, e6, m6, f6⟩ := hm2
      have hw : w ≤ 7 ∧ Tk b n T2 ∧ T2.length + 1 = T1.length := by
        unfold pNum at hz2
        by_cases c6 : hk T1 = 6
        · rw [if_pos c6] at hz2; cases hz2
        rw [if_neg c6] at hz2
        by_cases c3 : hk T1 = 3
        · rw [if_pos c3] at hz2
          by_cases c7 : hv T1 < 0 ∨ 7 < hv T1
          · rw [if_pos c7] at hz2; cases hz2
          · rw [if_neg c7] at hz2; cases hz2
            have := hv11.2.1.tl (by omega)
            exact ⟨by omega, this⟩
        · rw [if_neg c3] at hz2; cases hz2
      rw [e5, e6, cl_some, cl_some, bm_e, st_at, if_neg (by omega), ok_t ⟨by omega, by omega⟩, ok_t ⟨by omega, by omega⟩, bm_e]
      have fm : Fr ScP Mm M6 := (q2.tr f4).tr f6
      have fx : ∀ a i, sp ≤ a → a ≤ sp + 43 → a ≠ sp + 3 → ¬ (a = sp ∧ i = 5) → ¬ (a = sp + 4 + k ∧ (i = 3 ∨ i = 4)) → st M5 (sp + 4 + k) 4 w a i = M9 a i := fun a i _ _ _ _ _ => by
        rw [st_ne (by omega), f5 a i (by unfold ScQ; omega), st_ne (by omega), f3 a i (by unfold ScQ; omega)]
      have gm : ∀ a i, ¬ ScP a i → ¬ (a = 375 ∧ i = 0) → st M6 375 0 (12 * w + v) a i = Mm a i := fun a i n1 n2 => by
        rw [st_ne n2]; exact fm a i n1
      have oX : OldX sp k (Mx sp 3) Mx (st M5 (sp + 4 + k) 4 w) := by
        refine ⟨fun i c i0 i1 => ?_, fun j j0 j1 => ?_⟩
        · rw [fx _ _ (by omega) (by omega) (by omega) (by omega) (by omega)]; exact same _ _ (by omega) (by omega) (by omega) (by omega) (by omega)
        · rw [fx _ _ (by omega) (by omega) (by omega) (by omega) (by omega)]; exact same _ _ (by omega) (by omega) (by omega) (by omega) (by omega)
      have oM : ∀ r w', OldM r w' Mm (st M6 375 0 (12 * w + v)) := fun r w' => ⟨fun c j c0 c1 j0 j1 => gm _ _ (by unfold ScP; omega) (by omega), fun c j c0 c1 c2 j0 j1 => gm _ _ (by unfold ScP; omega) (by omega)⟩
      have e3' : st M5 (sp + 4 + k) 4 w sp 3 = Mx sp 3 := by rw [fx _ _ (by omega) (by omega) (by omega) (by omega) (by omega)]; exact same _ _ (by omega) (by omega) (by omega) (by omega) (by omega)
      have e0 : st M5 (sp + 4 + k) 4 w (sp + 4 + k) 0 = 1 := by rw [fx _ _ (by omega) (by omega) (by omega) (by omega) (by omega)]; exact b1.1
      have mc6 : MC b n M6 T2 C := ⟨m6, (fm 337 32 (by unfold ScP; omega)).trans h2.2.1, Seg.fr (fun i => fm 360 i (by unfold ScP; omega)) h2.2.2⟩
      right
      refine ⟨_, _, 0, T2, C, rfl, rfl, ⟨x5.ot (by omega), mc6.ot (by decide), ⟨?_, ?_⟩, ⟨?_, ?_, by omega⟩, by omega, ⟨?_, ?_, ?_⟩, fun hf => absurd hf (by decide), fun _ => ?_, ?_, ?_⟩, by omega⟩
      · exact (gm _ _ (by unfold ScP; omega) (by omega)).trans h3
      · rw [st_neA (by omega), f5 4 3 (by unfold ScQ; omega), st_neA (by omega), f3 4 3 (by unfold ScQ; omega), e43]; exact h3b
      · rw [fx _ _ (by omega) (by omega) (by omega) (by omega) (by omega), b1.2.2]; omega
      · exact (gm _ _ (by unfold ScP; omega) (by omega)).trans h5
      · rw [gm _ _ (by unfold ScP; omega) (by omega)]; exact h8
      · rw [gm _ _ (by unfold ScP; omega) (by omega)]; omega
      · rw [gm 362 0 (by unfold ScP; omega) (by omega)]
        have r1 := RlY.old [] (oM (Mm 362 0) 0) oX k 0 0 (by omega) (by omega) (by omega) h10
        rw [List.append_nil] at r1
        refine RlY.skip k 0 0 r1 ?_
        rw [show (0 : Int) + k = k by omega, e0]; decide
      · have dd := dscN.old oX k (by omega)
        rw [gm 372 0 (by unfold ScP; omega) (by omega), e3', st_at]
        rw [w2] at oX
        refine ⟨w1, w2, ThY.old (oM 0 _) oX w3, ?_, by omega, (gm 366 0 (by unfold ScP; omega) (by omega)).trans w5.2.1, w5.2.2.add oX (fun _ => by rw [st_at, st_neI (by decide), f5 (sp + 4 + k) 3 (by unfold ScQ; omega), st_at]; exact ⟨⟨v0, hv11.1⟩, v5, hw.1⟩)⟩
        show _ = (if st M5 (sp + 4 + k) 4 w (sp + 4 + k) 0 = 1 then _ else _)
        rw [if_pos e0, st_at, st_neI (by decide), f5 (sp + 4 + k) 3 (by unfold ScQ; omega), st_at]
      · exact Fr.st (h13.tr (ScS_J (ScP_S fm))) (by unfold ScJ; omega)
      · exact Fr.st ((h14.tr f9).tr ((Fr.st (ScQ_G f3) (by unfold ScG; omega)).tr (ScQ_G f5))) (by unfold ScG; omega)
theorem pNum_ok {lo hi v : Int} {T1 : List Tok} (hT : Tk b n T) (hy : pNum lo hi T = .ok (v, T1)) : (lo ≤ v ∧ v ≤ hi) ∧ Tk b n T1 ∧ T1.length + 1 = T.length := by
  unfold pNum at hy
  by_cases c6 : hk T = 6
  · rw [if_pos c6] at hy; cases hy
  rw [if_neg c6] at hy
  by_cases c3 : hk T = 3
  · rw [if_pos c3] at hy
    by_cases c7 : hv T < lo ∨ hi < hv T
    · rw [if_pos c7] at hy; cases hy
    · rw [if_neg c7] at hy; cases hy
      have := hT.tl (by omega)
      exact ⟨by omega, this⟩
  · rw [if_neg c3] at hy; cases hy
/-- the names that are there already: in both alike -/
theorem dup_iff {A B B' : Mem} {sp w na v m k0 : Int} (hN : ∀ j, 0 ≤ j → j < w → NR (A na j) (B (sp + 4 + B (sp + 2) j) 1)) (hj : ∀ j, 0 ≤ j → j < w → 0 ≤ B (sp + 2) j ∧ B (sp + 2) j < k0) (hv : NR m v) (hX : OldX sp k0 w B B') : dupX B' sp w v ↔ ∃ j, 0 ≤ j ∧ j < w ∧ A na j = m := by
  have e : ∀ j, 0 ≤ j → j < w → B' (sp + 4 + B' (sp + 2) j) 1 = B (sp + 4 + B (sp + 2) j) 1 := fun j j0 j1 => by
    have := hj j j0 j1
    rw [hX.2 j j0 j1, hX.1 _ 1 this.1 this.2]
  constructor
  · rintro ⟨j, j0, j1, ej⟩
    rw [e j j0 j1] at ej
    exact ⟨j, j0, j1, (nr_inj (hN j j0 j1) hv).mpr ej⟩
  · rintro ⟨j, j0, j1, ej⟩
    refine ⟨j, j0, j1, ?_⟩
    rw [e j j0 j1]
    exact (nr_inj (hN j j0 j1) hv).mp ej
theorem j_thing {M9 M1 : Mem} {R : Mem → Res} (h : JS b n sp 1 A0 B0 Mx Mm T C k km) (hk40 : k < 40) (x9 : XT b n sp M9 T.tail C) (hz : hk T ≠ 0) (b1 : M9 (sp + 4 + k) 0 = 2 ∧ M9 (sp + 4 + k) 9 = k + 1 ∧ M9 sp 1 = k + 1) (same : ∀ a i, sp ≤ a → a ≤ sp + 43 → a ≠ sp + 3 → ¬ (a = sp ∧ (i = 1 ∨ i = 5)) → ¬ (a = sp + 4 + k ∧ (i = 0 ∨ i = 9)) → M9 a i = Mx a i) (f9 : Fr (ScG sp) Mx M9) (e43 : M9 4 3 = Mx 4 3) (q1 : MP b n M1 T.tail) (q2 : Fr ScP Mm M1) (hw5 : Mm 372 0 < 5) (bg : Int) : JB b n sp 1 A0 B0 T.length (k + 1) km (cl (f_X5_readNewName M9) (fun r18 M19 => if r18 = 0 then (some (0, M19)) else (cl (f_X5_readNumber M19 (sp + 4 + k) 2 6) (fun r22 M23 => if r22 = 0 then (some (0, M23)) else (some (1, M23)))))) (f_X12_thingTold M1 bg) := by
  obtain ⟨h1, h2, ⟨h3, h3b⟩, ⟨h4, h5, h6⟩, h7, ⟨h8, h9, h10⟩, h11, h12, h13, h14⟩ := h
  have ks := kd17 sp h1.2.2.1.2
  obtain ⟨t1, t2⟩ := h1.1.tl hz
  obtain ⟨w1, w2, w3, w4, w5⟩ := h12 rfl
  generalize hwe : Mm 372 0 = w at *
  have e3 : M9 sp 3 = w := (same _ _ (by omega) (by omega) (by omega) (by omega) (by omega)).trans w2
  have oX9 : OldX sp k w Mx M9 := ⟨fun i c i0 i1 => same _ _ (by omega) (by omega) (by omega) (by omega) (by omega), fun j j0 j1 => same _ _ (by omega) (by omega) (by omega) (by omega) (by omega)⟩
  have hn9 : ∀ j, 0 ≤ j → j < w → 0 ≤ M9 (sp + 2) j ∧ M9 (sp + 2) j < 40 := fun j j0 j1 => by
    have := (w3 j j0 j1).2.1
    rw [oX9.2 j j0 j1]; omega
  have e372 : M1 372 0 = w := (q2 372 0 (by unfold ScP; omega)).trans hwe
  unfold f_X12_thingTold
  rw [e372]
  show JB b n sp 1 A0 B0 T.length (k + 1) km _ (if w = 5 then _ else _)
  rw [if_neg (by omega)]
  have hN : ∀ {M' : Mem}, Fr (ScN sp k w) M9 M' → Fr (ScG sp) M9 M' := fun f => f.mono (fun a i q => by unfold ScN ScQ at q; unfold ScG; omega)
  have bad : ∀ (M3 M4 : Mem) (e p : Int) (Rx : Res), Rx = some (0, M3) → XE sp M3 e p → Fr (ScG sp) M9 M3 → ME M4 e p → M4 372 0 = w → M4 337 36 = km → Fr ScJ A0 M4 → JB b n sp 1 A0 B0 T.length (k + 1) km Rx (j_X12_thingTold_74 M4 w) := by
    intro M3 M4 e p Rx eR x3 f3 m4 e4 k4 f4
    obtain ⟨M5, e5, m5, k5, f5⟩ := m_thBad m4 ⟨e4, by omega, by omega⟩
    exact Or.inl ⟨e, p, M3, M5, 0, eR, e5, x3, m5, k5.trans k4, f4.tr f5, (h14.tr f9).tr f3⟩
  have k36 : ∀ M', Fr ScP M1 M' → M' 337 36 = km := fun M' f => (f 337 36 (by unfold ScP; omega)).trans ((q2 337 36 (by unfold ScP; omega)).trans h5)
  rcases m_name q1 with ⟨c, m, M2, em, nr, mp2, e30, f2⟩ | ⟨c, M2, em, me, f2⟩
  · rw [em, cl_some]
    show JB b n sp 1 A0 B0 T.length (k + 1) km _ (ok (0 ≤ w ∧ w < 10) (bm (st M2 373 w m) (fun M9 => wl2 (b_X12_thingTold_31) FU M9 w 0)))
    rw [ok_t ⟨by omega, by omega⟩, bm_e]
    have fP : Fr ScP Mm M2 := q2.tr f2
    have s373 : ∀ j, 0 ≤ j → j < w → st M2 373 w m 373 j = Mm 373 j := fun j j0 j1 => by rw [st_neI (by omega)]; exact fP 373 j (by unfold ScP; omega)
    have sw : st M2 373 w m 373 w = m := st_at _ _ _ _
    have di := dup_iff (na := 373) (fun j j0 j1 => (w3 j j0 j1).2.2.2.1) (fun j j0 j1 => (w3 j j0 j1).2.1) nr oX9
    have f13 : Fr ScJ A0 (st M2 373 w m) := Fr.st ((h13.tr (ScS_J (ScP_S fP)))) (by unfold ScJ; omega)
    rcases m_dupT (k := w) ⟨by omega, by omega⟩ w.toNat FU (st M2 373 w m) 0 (by rw [st_neA (by decide)]; exact mp2.1) (by decide) (by omega) (by have : FU = 1000000000 := rfl; omega) with ⟨⟨j, j0, j1, ej⟩, ed⟩ | ⟨nd, ed⟩
    · -- there already
      have hd : dupX M9 sp w (hv T.tail) := di.mpr ⟨j, j0, j1, by rw [← s373 j j0 j1, ej, sw]⟩
      rw [ed]
      rcases x_newName x9 (k := k) (w := w) ⟨e3, by omega, by omega⟩ ⟨b1.2.2, by omega, by omega⟩ hn9 with ⟨-, q, -⟩ | ⟨-, -, M3, e', x3, f3⟩ | ⟨q, -⟩
      · exact absurd hd q
      · rw [e', cl_some, if_pos rfl]
        refine bad M3 _ 3 (hq T.tail) _ rfl x3 (hN f3) ?_ ?_ ?_ ?_
        · rw [st_neA (by decide), e30]; exact me_fail (by decide)
        · rw [st_neA (by decide), st_neA (by decide), st_neA (by decide), f2 372 0 (by unfold ScP; omega)]; exact e372
        · rw [st_neI (by decide), st_neI (by decide), st_neA (by decide)]; exact k36 M2 f2
        · exact Fr.st (Fr.st f13 (by unfold ScJ ScS; omega)) (by unfold ScJ ScS; omega)
      · exact absurd c q
    · have hd : ¬ dupX M9 sp w (hv T.tail) := by
        intro q
        obtain ⟨j, j0, j1, ej⟩ := di.mp q
        exact nd ⟨j, j0, j1, by rw [s373 j j0 j1, sw]; exact ej⟩
      rw [ed]
      rcases x_newName x9 (k := k) (w := w) ⟨e3, by omega, by omega⟩ ⟨b1.2.2, by omega, by omega⟩ hn9 with ⟨-, -, M3, e', x3, ⟨n1, n2, n3⟩, f3⟩ | ⟨-, q, -⟩ | ⟨q, -⟩
      · rw [e', cl_some, if_neg (by decide)]
        have hun : ∀ u, 0 ≤ u → u < w → Mm 373 u ≠ m := fun u u0 u1 q => nd ⟨u, u0, u1, by rw [s373 u u0 u1, sw]; exact q⟩
        clear nd hd di
        obtain ⟨u1, u2⟩ := t1.tl (by omega)
        have mp3 : MP b n (st M2 373 w m) T.tail.tail := mp2.fr (fun i => st_neA (by decide)) (st_neA (by decide)) (st_neA (by decide)) (st_neA (by decide)) (st_neA (by decide))
        have hx := x_num x3 (lo := 2) (hi := 6) (by decide)
        have hm := m_number mp3 2 6
        unfold f_X5_readNumber j_X12_thingTold_74
        cases hy : pNum 2 6 T.tail.tail with
        | error z =>
          obtain ⟨e, p⟩ := z
          rw [hy] at hx hm
          obtain ⟨M4, e4, x4, f4⟩ := hx
          obtain ⟨r, M5, e5, r0, m5, f5⟩ := hm
          rw [e4, e5, cl_some, cl_some, bm_e, st_at, if_pos rfl, cl_some, if_pos rfl, ok_t ⟨by omega, by omega⟩, bm_e, st_neA (by decide), f5 372 0 (by unfold ScP; omega), st_neA (by decide), f2 372 0 (by unfold ScP; omega), e372, ok_t ⟨by omega, by omega⟩, bm_e]
          left
          refine ⟨e, p, _, _, 0, rfl, rfl, x4.ot (by omega), ⟨?_, ?_, m5.2.2⟩, ?_, ?_, ?_⟩
          · rw [st_neA (by decide), st_neA (by decide)]; exact m5.1
          · rw [st_neA (by decide), st_neA (by decide)]; exact m5.2.1
          · rw [st_neA (by decide), st_neA (by decide), f5 337 36 (by unfold ScP; omega), st_neA (by decide)]; exact k36 M2 f2
          · exact Fr.st (Fr.st (f13.tr (ScS_J (ScP_S f5))) (by unfold ScJ; omega)) (by unfold ScJ; omega)
          · exact Fr.st ((h14.tr f9).tr ((hN f3).tr (ScQ_G f4))) (by unfold ScG; omega)
        | ok z =>
          obtain ⟨v, T2⟩ := z
          rw [hy] at hx hm
          obtain ⟨M4, e4, v0, x4, f4⟩ := hx
          obtain ⟨M5, e5, m5, f5⟩ := hm
          obtain ⟨hv26, g1, g2⟩ := pNum_ok u1 hy
          rw [e4, e5, cl_some, cl_some, bm_e, st_at, if_neg (by omega), cl_some, if_neg (by decide), ok_t ⟨by omega, by omega⟩, bm_e, st_neA (by decide), f5 372 0 (by unfold ScP; omega), st_neA (by decide), f2 372 0 (by unfold ScP; omega), e372, ok_t ⟨by omega, by omega⟩, bm_e]
          have gm : ∀ a i, ¬ ScP a i → ¬ (a = 373 ∧ i = w) → ¬ (a = 374 ∧ i = w) → ¬ (a = 372 ∧ i = 0) → st (st M5 374 w v) 372 0 (w + 1) a i = Mm a i := fun a i n1 n2 n3 n4 => by
            rw [st_ne n4, st_ne n3, f5 a i n1, st_ne n2]; exact fP a i n1
          have fx : ∀ a i, sp ≤ a → a ≤ sp + 43 → a ≠ sp + 3 → ¬ (a = sp ∧ (i = 5 ∨ i = 3)) → ¬ (a = sp + 4 + k ∧ (i = 1 ∨ i = 2)) → ¬ (a = sp + 2 ∧ i = w) → st M4 (sp + 4 + k) 2 v a i = M9 a i := fun a i _ _ _ _ _ _ => by
            rw [st_ne (by omega), f4 a i (by unfold ScQ; omega), f3 a i (by unfold ScN ScQ; omega)]
          have oX : OldX sp k w Mx (st M4 (sp + 4 + k) 2 v) := by
            refine ⟨fun i c i0 i1 => ?_, fun j j0 j1 => ?_⟩
            · rw [fx _ _ (by omega) (by omega) (by omega) (by omega) (by omega) (by omega)]; exact oX9.1 i c i0 i1
            · rw [fx _ _ (by omega) (by omega) (by omega) (by omega) (by omega) (by omega)]; exact oX9.2 j j0 j1
          have oM : ∀ r, OldM r w Mm (st (st M5 374 w v) 372 0 (w + 1)) := fun r => ⟨fun c j c0 c1 j0 j1 => gm _ _ (by unfold ScP; omega) (by omega) (by omega) (by omega), fun c j c0 c1 c2 j0 j1 => gm _ _ (by unfold ScP; omega) (by omega) (by omega) (by omega)⟩
          have e0 : st M4 (sp + 4 + k) 2 v (sp + 4 + k) 0 = 2 := by rw [fx _ _ (by omega) (by omega) (by omega) (by omega) (by omega) (by omega)]; exact b1.1
          have n4 : ∀ a i, sp ≤ a → a ≤ sp + 43 → a ≠ sp + 3 → ¬ (a = sp ∧ i = 5) → ¬ (a = sp + 4 + k ∧ i = 2) → st M4 (sp + 4 + k) 2 v a i = M3 a i := fun a i _ _ _ _ _ => by rw [st_ne (by omega), f4 a i (by unfold ScQ; omega)]
          have mc5 : MC b n M5 T2 C := ⟨m5, by rw [f5 337 32 (by unfold ScP; omega), st_neA (by decide), fP 337 32 (by unfold ScP; omega)]; exact h2.2.1, Seg.fr (fun i => by rw [f5 360 i (by unfold ScP; omega), st_neA (by decide), fP 360 i (by unfold ScP; omega)]) h2.2.2⟩
          right
          refine ⟨_, _, 0, T2, C, rfl, rfl, ⟨x4.ot (by omega), (mc5.ot (by omega)).ot (by omega), ⟨?_, ?_⟩, ⟨?_, ?_, by omega⟩, by omega, ⟨?_, ?_, ?_⟩, fun hf => absurd hf (by decide), fun _ => ?_, ?_, ?_⟩, by omega⟩
          · exact (gm _ _ (by unfold ScP; omega) (by omega) (by omega) (by omega)).trans h3
          · rw [st_neA (by omega), f4 4 3 (by unfold ScQ; omega), f3 4 3 (by unfold ScN ScQ; omega), e43]; exact h3b
          · rw [fx _ _ (by omega) (by omega) (by omega) (by omega) (by omega) (by omega), b1.2.2]; omega
          · exact (gm _ _ (by unfold ScP; omega) (by omega) (by omega) (by omega)).trans h5
          · rw [gm _ _ (by unfold ScP; omega) (by omega) (by omega) (by omega)]; exact h8
          · rw [gm _ _ (by unfold ScP; omega) (by omega) (by omega) (by omega)]; omega
          · rw [gm 362 0 (by unfold ScP; omega) (by omega) (by omega) (by omega)]
            have r1 := RlY.old [] (oM (Mm 362 0)) oX k 0 0 (by omega) (by omega) (by omega) h10
            rw [List.append_nil] at r1
            refine RlY.skip k 0 0 r1 ?_
            rw [show (0 : Int) + k = k by omega, e0]; decide
          · have dd := dscN.old oX k (by omega)
            have e375 : st (st M5 374 w v) 372 0 (w + 1) 375 0 = Mm 375 0 := gm _ _ (by unfold ScP; omega) (by omega) (by omega) (by omega)
            rw [e375, st_at, n4 sp 3 (by omega) (by omega) (by omega) (by omega) (by omega)]
            refine ⟨⟨by omega, by omega⟩, n3, ?_, ?_, w5.1, (gm 366 0 (by unfold ScP; omega) (by omega) (by omega) (by omega)).trans w5.2.1, w5.2.2.add oX (fun z => absurd z (by rw [e0]; decide))⟩
            · intro t t0 t1'
              by_cases et : t = w
              · subst et
                rw [n4 (sp + 2) t (by omega) (by omega) (by omega) (by omega) (by omega), n2, n4 (sp + 4 + k) 1 (by omega) (by omega) (by omega) (by omega) (by omega), n1, st_at, st_neA (show (374 : Int) ≠ 372 by decide), st_at, st_neA (show (373 : Int) ≠ 372 by decide), st_neA (show (373 : Int) ≠ 374 by decide), f5 373 t (by unfold ScP; omega), st_at]
                exact ⟨hv26, ⟨by omega, by omega⟩, rfl, nr, fun u u0 u1 => by rw [gm 373 u (by unfold ScP; omega) (by omega) (by omega) (by omega)]; exact hun u u0 u1⟩
              · exact ThY.old (oM 0) oX w3 t t0 (by omega)
            · show _ = (if st M4 (sp + 4 + k) 2 v (sp + 4 + k) 0 = 1 then _ else dscN _ sp k)
              rw [if_neg (by rw [e0]; decide), dd]; exact w4
          · exact Fr.st (Fr.st (f13.tr (ScS_J (ScP_S f5))) (by unfold ScJ; omega)) (by unfold ScJ; omega)
          · exact Fr.st ((h14.tr f9).tr ((hN f3).tr (ScQ_G f4))) (by unfold ScG; omega)
      · exact absurd q hd
      · exact absurd c q
  · -- no NAME
    rw [em, cl_some]
    show JB b n sp 1 A0 B0 T.length (k + 1) km _ (ok (0 ≤ w ∧ w < 10) (bm (st M2 373 w 0) (fun M9 => wl2 (b_X12_thingTold_31) FU M9 w 0)))
    rw [ok_t ⟨by omega, by omega⟩, bm_e]
    have hne : st M2 373 w 0 337 5 ≠ 0 := by rw [st_neA (by decide), me.1]; exact me.2.2
    have ed : wl2 (b_X12_thingTold_31) FU (st M2 373 w 0) w 0 = j_X12_thingTold_74 (st M2 373 w 0) w := by
      show wl2 (b_X12_thingTold_31) (999999999 + 1) (st M2 373 w 0) w 0 = _
      rw [wl2_s]
      unfold b_X12_thingTold_31
      by_cases c2 : w ≤ 0
      · rw [if_pos c2]
      · rw [if_neg c2, if_neg hne]
    rw [ed]
    rcases x_newName x9 (k := k) (w := w) ⟨e3, by omega, by omega⟩ ⟨b1.2.2, by omega, by omega⟩ hn9 with ⟨q, -⟩ | ⟨q, -⟩ | ⟨-, M3, e', x3, f3⟩
    · exact absurd q c
    · exact absurd q c
    · rw [e', cl_some, if_pos rfl]
      refine bad M3 _ 1 _ _ rfl x3 (hN f3) ⟨?_, ?_, by decide⟩ ?_ ?_ ?_
      · rw [st_neA (by decide)]; exact me.1
      · rw [st_neA (by decide)]; exact me.2.1
      · rw [st_neA (by decide), f2 372 0 (by unfold ScP; omega)]; exact e372
      · rw [st_neA (by decide)]; exact k36 M2 f2
      · exact Fr.st (h13.tr (ScS_J (ScP_S (q2.tr f2)))) (by unfold ScJ; omega)
end JK
