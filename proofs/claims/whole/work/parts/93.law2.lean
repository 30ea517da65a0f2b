/-! law(): a text that was taken, alike -/
theorem scW_n {sp old c j a i : Int} (hn : ¬ ScX old a i) (z : ¬ ScT1 sp c j a i) : ¬ ScW sp a i := by
  intro y
  rcases y with y | y | y | y
  · exact z (Or.inl y)
  · exact hn (by unfold ScX; omega)
  · exact hn (by unfold ScX; omega)
  · by_cases e : i = 4 ∨ i = 5
    · exact z (Or.inr (Or.inr (Or.inl ⟨y.1, e⟩)))
    · exact hn (by unfold ScX; omega)
theorem scX_n {sp old c j a i : Int} (hn : ¬ ScX old a i) (z : ¬ ScT1 sp c j a i) : ¬ ScX sp a i := by
  intro y
  rcases y with y | y
  · exact z (Or.inl y)
  · exact hn (Or.inr y)
section LX2
variable {A B Mx Mm : Mem}
theorem PtrB.swapL {B B1 : Mem} {k : Int} (hk : 0 ≤ k ∧ k < 3) (h : PtrB B) (h8 : B1 1 8 = B 1 8) (h9 : B1 1 9 = B 1 9) (h10 : B1 1 10 = B 68 k) (hk1 : B1 68 k = B 1 10) (hj : ∀ j, j ≠ k → B1 68 j = B 68 j) : PtrB B1 := by
  obtain ⟨⟨a1, a2, a3, a4, a5, a6⟩, ⟨b1, b2, b3⟩, ⟨c1, c2, c3⟩, d⟩ := h
  have d0 := d 0 (by decide) (by decide)
  have d1 := d 1 (by decide) (by decide)
  have d2 := d 2 (by decide) (by decide)
  have e : k = 0 ∨ k = 1 ∨ k = 2 := by omega
  unfold PtrB
  rw [h8, h9, h10]
  rcases e with rfl | rfl | rfl
  · rw [hk1, hj 1 (by decide), hj 2 (by decide)]
    refine ⟨⟨a1, a2, a4, a3, a5, a6⟩, ⟨b1, Ne.symm d0.1, Ne.symm d0.2.1⟩, ⟨Ne.symm d1.2.2, Ne.symm d2.2.2, c3⟩, fun j j0 j1 => ?_⟩
    have : j = 0 ∨ j = 1 ∨ j = 2 := by omega
    rcases this with rfl | rfl | rfl
    · rw [hk1]; exact ⟨Ne.symm b2, Ne.symm b3, Ne.symm d0.2.2⟩
    · rw [hj 1 (by decide)]; exact ⟨d1.1, d1.2.1, Ne.symm c1⟩
    · rw [hj 2 (by decide)]; exact ⟨d2.1, d2.2.1, Ne.symm c2⟩
  · rw [hk1, hj 0 (by decide), hj 2 (by decide)]
    refine ⟨⟨a1, a2, a5, a4, a3, a6⟩, ⟨b1, Ne.symm d1.1, Ne.symm d1.2.1⟩, ⟨d0.2.2, c2, Ne.symm d2.2.2⟩, fun j j0 j1 => ?_⟩
    have : j = 0 ∨ j = 1 ∨ j = 2 := by omega
    rcases this with rfl | rfl | rfl
    · rw [hj 0 (by decide)]; exact ⟨d0.1, d0.2.1, c1⟩
    · rw [hk1]; exact ⟨Ne.symm b2, Ne.symm b3, Ne.symm d1.2.2⟩
    · rw [hj 2 (by decide)]; exact ⟨d2.1, d2.2.1, Ne.symm c3⟩
  · rw [hk1, hj 0 (by decide), hj 1 (by decide)]
    refine ⟨⟨a1, a2, a6, a4, a5, a3⟩, ⟨b1, Ne.symm d2.1, Ne.symm d2.2.1⟩, ⟨c1, d0.2.2, d1.2.2⟩, fun j j0 j1 => ?_⟩
    have : j = 0 ∨ j = 1 ∨ j = 2 := by omega
    rcases this with rfl | rfl | rfl
    · rw [hj 0 (by decide)]; exact ⟨d0.1, d0.2.1, c2⟩
    · rw [hj 1 (by decide)]; exact ⟨d1.1, d1.2.1, c3⟩
    · rw [hk1]; exact ⟨Ne.symm b2, Ne.symm b3, Ne.symm d2.2.2⟩
/-- what the text that was read is in the cells that came to place p -/
theorem read_at {b : Int → Int} {n sp fl : Int} {A0 B0 Mx0 Mm1 M10 A1 B1 : Mem} {T1 : List Tok} {C1 : List Int} {k1 : Nat} {p : Int} (hJ : JS b n sp fl A0 B0 Mx0 Mm1 T1 C1 k1 k1) (hp : 1 ≤ p ∧ p ≤ 4) (hM : ∀ a i, a ≠ 337 ∨ i = 32 → M10 a i = Mm1 a i) (hS : StP p M10 A1) (hB : ∀ a i, sp ≤ a → a ≤ sp + 43 → ¬ (a = sp ∧ i = 6) → B1 a i = Mx0 a i) : RulA A1 p ∧ RulX A1 B1 sp p (6 - 6 * fl) ∧ B1 sp 1 = k1 ∧ (fl = 0 → LawA A1 p ∧ LawX A1 B1 sp p) := by
  obtain ⟨h1, h2, ⟨h3, h3b⟩, ⟨h4, h5, h6⟩, h7, ⟨h8, h9, h10⟩, h11, h12, h13, h14⟩ := hJ
  have hd := h1.1.hd
  have hC : C1.length ≤ 900 := by omega
  have e362 := hM 362 0 (by omega)
  have e366 := hM 366 0 (by omega)
  have oM : ∀ r w, OldM r w Mm1 M10 := fun r w => ⟨fun c j _ _ _ _ => hM c j (by omega), fun c j _ _ _ _ _ => hM c j (by omega)⟩
  have oX : ∀ w, OldX sp k1 w Mx0 B1 := fun w => ⟨fun i c i0 i1 => hB _ _ (by omega) (by omega) (by omega), fun j _ _ => hB _ _ (by omega) (by omega) (by omega)⟩
  have s360 : Seg A1 360 (900 * p) C1 := by
    refine seg_of (fun j hj => ?_)
    have hc32 : M10 337 32 = C1.length := (hM 337 32 (by omega)).trans h2.2.1
    rw [hS.2.2.2.2 j (by omega) (by omega), hM 360 j (by omega)]
    have := seg_at j h2.2.2 hj
    rw [Int.zero_add] at this
    exact this
  have sB : Seg B1 (sp + 3) 0 (C1.map mk) := Seg.fr (fun i => hB _ _ (by omega) (by omega) (by omega)) h1.2.2.2.2.2.2.2.2.1
  have r1 := RlY.old [] (oM (Mm1 362 0) 0) (oX 0) k1 0 0 (by omega) (by omega) (by omega) h10
  rw [List.append_nil, ← e362] at r1
  have b1 : B1 sp 1 = k1 := (hB _ _ (by omega) (by omega) (by omega)).trans h4
  refine ⟨rul_A hS (by rw [e362]; omega) s360 hC r1, ⟨by rw [b1]; omega, ?_⟩, b1, fun hf => ?_⟩
  · rw [b1]
    exact lin_X hS s360 hC sB k1 0 0 (by decide) r1
  · obtain ⟨w1, w2, w3⟩ := h11 hf
    have w4 := WyY.mv (oM 0 _) (oX _) w3
    rw [← e366] at w4 w1
    exact ⟨way_A hS w1 s360 hC w4, way_X (by omega) hS s360 hC sB (by rw [e366, ← w2]; exact hB _ _ (by omega) (by omega) (by omega)) w4⟩
theorem js_stands {b : Int → Int} {n sp fl : Int} {A0 B0 Mx0 Mm1 M10 : Mem} {T1 : List Tok} {C1 : List Int} {k1 : Nat} {p : Int} (hfl : fl = 0 ∨ fl = 1) (hJ : JS b n sp fl A0 B0 Mx0 Mm1 T1 C1 k1 k1) (hp : 1 ≤ p ∧ p ≤ 4) (hM : ∀ a i, a ≠ 337 ∨ i = 32 → M10 a i = Mm1 a i) : ∃ M14, f_X12_stands M10 p = some (0, M14) ∧ StP p M10 M14 ∧ Fr (ScZ p) M10 M14 := by
  obtain ⟨h1, h2, ⟨h3, h3b⟩, ⟨h4, h5, h6⟩, h7, ⟨h8, h9, h10⟩, h11, h12, h13, h14⟩ := hJ
  have hd := h1.1.hd
  have e362 := hM 362 0 (by omega)
  have e366 := hM 366 0 (by omega)
  have all := RlY.all k1 0 0 h10
  have hw : 0 ≤ Mm1 366 0 ∧ Mm1 366 0 ≤ 5 := by
    rcases hfl with rfl | rfl
    · exact (h11 rfl).1
    · have := (h12 rfl).2.2.2.2.2.1
      omega
  have hW : ∀ j, 0 ≤ j → j < Mm1 366 0 → (Mm1 368 j = 0 ∨ Mm1 368 j = 1) ∧ Sg2 C1 (Mm1 369 j) (Mm1 370 j) false ∧ Sg2 C1 (Mm1 370 j) (Mm1 371 j) true := by
    rcases hfl with rfl | rfl
    · intro j j0 j1
      obtain ⟨-, -, g3, -, -, g8, g9⟩ := (h11 rfl).2.2 j j0 j1
      exact ⟨g3, g8, g9⟩
    · intro j j0 j1
      have := (h12 rfl).2.2.2.2.2.1
      omega
  refine m_stands hp (by rw [e362]; omega) (by rw [e366]; exact hw) (by rw [hM 337 32 (by omega), h2.2.1]; omega) (fun c j c0 c1 j0 j1 => ?_) (fun c j c0 c1 j0 j1 => ?_) (fun j j0 j1 => ?_)
  · rw [e362] at j1
    rw [hM c j (by omega)]
    obtain ⟨⟨⟨g1, g2, g3⟩, -⟩, ⟨⟨g4, g5, g6⟩, -⟩⟩ := all j j0 j1
    have : c = 363 ∨ c = 364 ∨ c = 365 := by omega
    rcases this with rfl | rfl | rfl <;> omega
  · rw [e366] at j1
    rw [hM c j (by omega)]
    obtain ⟨-, ⟨⟨g1, g2, g3⟩, -⟩, ⟨⟨g4, g5, g6⟩, -⟩⟩ := hW j j0 j1
    have : c = 369 ∨ c = 370 ∨ c = 371 := by omega
    rcases this with rfl | rfl | rfl <;> omega
  · rw [e366] at j1
    rw [hM 368 j (by omega)]
    exact (hW j j0 j1).1
set_option maxHeartbeats 4000000 in
theorem J_law (h : R Mx Mm) (a1 : Int) : Jt (f_X11_law Mx a1) (f_X12_law Mm a1) := by
  obtain ⟨A, B, h⟩ := h
  unfold f_X11_law f_X12_law
  obtain ⟨q, eq, hq⟩ := e_isIn Mm a1 0 2
  rw [eq, cl_some]
  rcases hq with ⟨rfl, k0, k2⟩ | ⟨rfl, hq⟩
  · rw [if_neg (by omega), if_neg (by omega), if_neg (by decide), ok_t ⟨by omega, by omega⟩]
    unfold j_X11_law_14
    have hsp := h.ptr.1.2.2.1
    have ks := kd17 _ hsp
    have ho := h.ptr.law k0 (show a1 < 3 by omega)
    have ko := kd17 _ ho
    have hd := h.ptr.2.2.2 a1 k0 (by omega)
    rw [if_neg (by decide), h.rx (a := 1) (by omega) (by omega), h.rx (a := 1) (by omega) (by omega), ok_t hsp, ok_t h.ptr.1.1]
    obtain ⟨r, Mx1, Mm1, e1, e2, fx, fm, g1, g6, g4, g5, hr⟩ := reads_alike h (fl := 0) (pl := 2 + a1) (Or.inl rfl) ⟨fun z => by omega, fun z => by omega⟩
    rw [show (1 : Int) - 0 = 1 from rfl] at e1
    rw [e1, e2, cl_some]
    unfold j_X12_reads_36
    rw [bm_e, st_neI (show (6 : Int) ≠ 7 by decide), bm_e, st_neI (show (5 : Int) ≠ 8 by decide), st_neI (show (5 : Int) ≠ 7 by decide)]
    rcases hr with ⟨rfl, hne⟩ | ⟨rfl, h0, T1, C1, k1, A0, B0, Mx0, hJ, rfl⟩
    · -- refused
      rw [if_pos rfl, if_neg hne, cl_some, if_pos rfl]
      unfold j_X11_law_42 j_X11_law_43
      rw [bm_e, if_pos rfl, if_neg (by decide)]
      exact ⟨-1, _, _, rfl, rfl, h.refu fx fm g1 g4 g5⟩
    · have hM : ∀ a i, a ≠ 337 ∨ i = 32 → st (st Mm1 337 7 (Mm1 337 5)) 337 8 (Mm1 337 6) a i = Mm1 a i := fun a i z => by rw [st_ne (by omega), st_ne (by omega)]
      obtain ⟨M14, e14, s14, f14⟩ := js_stands (p := 2 + a1) (Or.inl rfl) hJ (by omega) hM
      rw [if_neg (by decide), if_pos h0, e14, cl_some, cl_some, if_neg (by decide), ok_t ⟨by omega, by omega⟩, bm_e]
      unfold j_X11_law_43
      have n2 : (2 : Int) ≠ B 1 10 := by omega
      have x68 : ∀ i, st (st Mx0 (B 1 10) 6 1) 2 1 0 68 i = B 68 i := fun i => by
        rw [st_neA (by decide), fx 68 i (by unfold ScW; omega)]; exact h.rx (a := 68) (by omega) (by omega)
      have x1 : ∀ i, st (st Mx0 (B 1 10) 6 1) 2 1 0 1 i = B 1 i := fun i => by
        rw [st_neA (by decide), fx 1 i (by unfold ScW; omega)]; exact h.rx (a := 1) (by omega) (by omega)
      rw [bm_e, if_neg (by decide), ok_t ⟨by omega, by omega⟩]
      show Jt (ok (kd (st (st Mx0 (B 1 10) 6 1) 2 1 0 1 10) = 17) _) _
      rw [x1, x68, ok_t hsp, bm_e, bm_e, st_neA (show (68 : Int) ≠ 1 by decide), st_at, ok_t hsp]
      -- the new cells
      obtain ⟨Mxf, hMxf⟩ : ∃ Mxf, Mxf = st (st (st (st Mx0 (B 1 10) 6 1) 2 1 0) 68 a1 (B 1 10)) 1 10 (B 68 a1) := ⟨_, rfl⟩
      obtain ⟨Mmf, hMmf⟩ : ∃ Mmf, Mmf = st M14 386 a1 1 := ⟨_, rfl⟩
      rw [← hMxf, ← hMmf]
      have vX : ∀ a i, ¬ (a = 68 ∧ i = a1) → ¬ (a = 1 ∧ i = 10) → ¬ (a = 2 ∧ i = 1) → Mxf a i = st Mx0 (B 1 10) 6 1 a i := fun a i z1 z2 z3 => by
        rw [hMxf, st_ne z2, st_ne z1, st_ne z3]
      have vM : ∀ a i, ¬ ScZ (2 + a1) a i → ¬ (a = 386 ∧ i = a1) → ¬ (a = 337 ∧ (i = 7 ∨ i = 8)) → Mmf a i = Mm1 a i := fun a i z1 z2 z3 => by
        rw [hMmf, st_ne z2, f14 a i z1, st_ne (by omega), st_ne (by omega)]
      have eA : ∀ a i, ScL1 a1 a i → mxm (ScL1 a1) Mmf A a i = Mmf a i := fun a i z => mxm_in z
      have nA : ∀ a i, ¬ ScL1 a1 a i → mxm (ScL1 a1) Mmf A a i = A a i := fun a i z => mxm_out z
      have eB : ∀ a i, ScT1 (B 1 10) 68 a1 a i → mxm (ScT1 (B 1 10) 68 a1) Mxf B a i = Mxf a i := fun a i z => mxm_in z
      have nB : ∀ a i, ¬ ScT1 (B 1 10) 68 a1 a i → mxm (ScT1 (B 1 10) 68 a1) Mxf B a i = B a i := fun a i z => mxm_out z
      generalize hA1 : mxm (ScL1 a1) Mmf A = A1 at eA nA
      generalize hB1 : mxm (ScT1 (B 1 10) 68 a1) Mxf B = B1 at eB nB
      have sSA : ∀ a, kd a = 17 → a ≠ B 1 10 → SA B B1 a := by
        intro a ha hne c i z1 z2
        have := kd17 a ha
        exact nB c i (by unfold ScT1; omega)
      have b8 : B1 1 8 = B 1 8 := nB _ _ (by unfold ScT1; omega)
      have b9 : B1 1 9 = B 1 9 := nB _ _ (by unfold ScT1; omega)
      have b10 : B1 1 10 = B 68 a1 := by rw [eB _ _ (by unfold ScT1; omega), hMxf, st_at]
      have b68 : B1 68 a1 = B 1 10 := by rw [eB _ _ (by unfold ScT1; omega), hMxf, st_neA (by decide), st_at]
      have b68j : ∀ j, j ≠ a1 → B1 68 j = B 68 j := fun j z => nB _ _ (by unfold ScT1; omega)
      have S1 : StP (2 + a1) (st (st Mm1 337 7 (Mm1 337 5)) 337 8 (Mm1 337 6)) A1 := by
        have z1 := hJ.2.2.2.2.2.1
        have z2 := hJ.2.2.2.1.2.2
        have z3 := (hJ.2.2.2.2.2.2.1 rfl).1
        have z4 := hJ.2.1.2.1
        have z5 := hJ.2.2.2.2.1
        have z6 := hJ.1.1.hd
        refine s14.eq (by omega) (by rw [hM 362 0 (by omega)]; omega) (by rw [hM 366 0 (by omega)]; omega) (by rw [hM 337 32 (by omega), z4]; omega) (fun a i z => ?_) (fun a i _ => rfl)
        rw [eA a i (Or.inl z), hMmf, st_ne (by unfold ScZ at z; omega)]
      have rd := read_at (p := 2 + a1) (A1 := A1) (B1 := B1) hJ (by omega) hM S1 (fun a i z1 z2 z3 => by
        rw [eB a i (Or.inl ⟨z1, z2⟩), vX a i (by omega) (by omega) (by omega), st_ne z3])
      have PA : ∀ p, 2 ≤ p → p ≤ 4 → p ≠ 2 + a1 → PlA A A1 p := fun p z0 z1 z2 => ⟨fun j _ _ => nA _ _ (by unfold ScL1 ScZ; omega), nA _ _ (by unfold ScL1 ScZ; omega), nA _ _ (by unfold ScL1 ScZ; omega), fun a j _ _ _ _ => nA _ _ (by unfold ScL1 ScZ; omega), fun a j _ _ _ _ => nA _ _ (by unfold ScL1 ScZ; omega)⟩
      have PP : PlP A A1 := ⟨fun j _ _ => nA _ _ (by unfold ScL1 ScZ; omega), nA _ _ (by unfold ScL1 ScZ; omega), nA _ _ (by unfold ScL1 ScZ; omega), nA _ _ (by unfold ScL1 ScZ; omega), fun a j _ _ _ _ => nA _ _ (by unfold ScL1 ScZ; omega)⟩
      have a388 : A1 388 = A 388 := funext fun i => nA _ _ (by unfold ScL1 ScZ; omega)
      have ret : Mxf (B 1 10) 1 = k1 := by
        rw [vX _ _ (by omega) (by omega) (by omega), st_neI (by decide)]; exact hJ.2.2.2.1.1
      have retM : Mmf 337 36 = k1 := by
        rw [vM _ _ (by unfold ScZ; omega) (by omega) (by omega)]; exact hJ.2.2.2.1.2.1
      rw [ret, retM]
      refine ⟨k1, Mxf, Mmf, rfl, rfl, A1, B1, ⟨h.ptr.swapL ⟨k0, by omega⟩ b8 b9 b10 b68 b68j, ⟨?_, ?_, ?_⟩, ⟨?_, ?_⟩, ?_, ?_, ?_, ?_, ?_, ?_, ?_⟩, ?_, ?_, ?_⟩
      · rw [eA _ _ (by unfold ScL1; omega), vM _ _ (by unfold ScZ; omega) (by omega) (by omega), g1, eB _ _ (by unfold ScT1; omega), hMxf, st_neA (by decide), st_neA (by decide), st_at]
      · rw [eB _ _ (by unfold ScT1; omega), hMxf, st_neA (by decide), st_neA (by decide), st_at]; decide
      · intro i i0 i1
        rw [eB _ _ (by unfold ScT1; omega), hMxf, st_neA (by decide), st_neA (by decide), st_at] at i1
        omega
      · rw [eA _ _ (by unfold ScL1; omega), hMmf, st_neA (by decide), f14 _ _ (by unfold ScZ; omega), st_neI (by decide), st_at, eB _ _ (by unfold ScT1; omega), vX _ _ (by omega) (by omega) (by omega)]; exact g4.symm
      · rw [eA _ _ (by unfold ScL1; omega), hMmf, st_neA (by decide), f14 _ _ (by unfold ScZ; omega), st_at, eB _ _ (by unfold ScT1; omega), vX _ _ (by omega) (by omega) (by omega)]; exact g5.symm
      · rw [b8]
        exact h.thg.ext h.ptr.1.1 (nA _ _ (by unfold ScL1 ScZ; omega)) (fun t _ _ => ⟨nA _ _ (by unfold ScL1 ScZ; omega), nA _ _ (by unfold ScL1 ScZ; omega)⟩) (sSA _ h.ptr.1.1 h.ptr.2.1.2.1)
      · exact h.fld.ext a388 (nA _ _ (by unfold ScL1 ScZ; omega)) (fun i => nA _ _ (by unfold ScL1 ScZ; omega)) (nA _ _ (by unfold ScL1 ScZ; omega)) (funext fun i => nA _ _ (by unfold ScL1 ScZ; omega)) (fun i => nA _ _ (by unfold ScL1 ScZ; omega)) (fun a i _ _ => nB _ _ (by unfold ScT1; omega))
      · exact h.trs.ext (fun a i _ _ => nA _ _ (by unfold ScL1 ScZ; omega)) (nA _ _ (by unfold ScL1 ScZ; omega)) (fun t => nA _ _ (by unfold ScL1 ScZ; omega)) (nA _ _ (by unfold ScL1 ScZ; omega)) (nB _ _ (by unfold ScT1; omega)) (fun i j _ _ => nB _ _ (by unfold ScT1; omega))
      · intro j j0 j3
        by_cases ej : j = a1
        · subst ej
          rw [b68]
          have a386 : A1 386 j = 1 := by rw [eA _ _ (by unfold ScL1; omega), hMmf, st_at]
          rw [a386]
          obtain ⟨r1, r2, r3, r4⟩ := rd
          obtain ⟨r5, r6⟩ := r4 rfl
          refine ⟨Or.inr rfl, ?_, fun _ => ⟨r5, r1, r6, r2⟩⟩
          rw [eB _ _ (by unfold ScT1; omega), vX _ _ (by omega) (by omega) (by omega), st_at]
        · rw [b68j j ej]
          exact LwR.ext (h.ptr.law j0 j3) (nA _ _ (by unfold ScL1 ScZ; omega)) (PA _ (by omega) (by omega) (by omega)) (sSA _ (h.ptr.law j0 j3) (h.ptr.2.2.2 j j0 j3).2.2) (h.lws j j0 j3)
      · rw [b9]
        exact h.plr.ext h.ptr.1.2.1 PP (fun a j _ _ _ _ => nA _ _ (by unfold ScL1 ScZ; omega)) (sSA _ h.ptr.1.2.1 h.ptr.2.1.2.2) (nB _ _ (by unfold ScT1; omega)) (nB _ _ (by unfold ScT1; omega)) (fun i => nB _ _ (by unfold ScT1; omega))
      · exact h.chr.ext (funext fun i => nA _ _ (by unfold ScL1 ScZ; omega)) (fun i => nB _ _ (by unfold ScT1; omega)) (nB _ _ (by unfold ScT1; omega))
      · exact h.oct.ext (nA _ _ (by unfold ScL1 ScZ; omega)) (fun i => nA _ _ (by unfold ScL1 ScZ; omega)) (nB _ _ (by unfold ScT1; omega)) (fun i => nB _ _ (by unfold ScT1; omega))
      · intro a i hn
        by_cases z : ScL1 a1 a i
        · exact (eA a i z).symm
        · rw [nA a i z, vM a i (fun y => z (Or.inl y)) (fun y => z (Or.inr (Or.inr y))) (fun y => z (Or.inr (Or.inl (by omega)))), fm a i (by
            unfold ScMW
            rintro (y | y)
            · exact hn y
            · exact z (Or.inr (Or.inl ⟨y.1, Or.inl y.2⟩)))]
          exact h.fm a i hn
      · intro a i hn
        rw [b10] at hn
        by_cases z : ScT1 (B 1 10) 68 a1 a i
        · exact (eB a i z).symm
        · rw [nB a i z, vX a i (fun y => z (by unfold ScT1; omega)) (fun y => z (by unfold ScT1; omega)) (fun y => z (by unfold ScT1; omega)), fx a i (scW_n hn z)]
          exact h.fx a i (scX_n hn z)
      · rw [a388]
        intro s s0 s1
        rw [vX _ _ (by omega) (by omega) (by omega), vX _ _ (by omega) (by omega) (by omega), fx 20 s (by unfold ScW; omega), fx 19 s (by unfold ScW; omega)]
        exact h.lc s s0 s1
  · -- no such LAW
    rw [if_pos rfl, bm_e]
    have e13 : j_X11_law_13 a1 Mx = some (-2, st Mx 2 1 0) := by
      unfold j_X11_law_13 j_X11_law_14 j_X11_law_42 j_X11_law_43
      rw [if_pos rfl, bm_e, if_pos rfl, if_pos rfl]
    have ec : (if a1 < 0 then j_X11_law_13 a1 Mx else (if 3 ≤ a1 then j_X11_law_13 a1 Mx else j_X11_law_14 a1 Mx 1)) = some (-2, st Mx 2 1 0) := by
      by_cases c : a1 < 0
      · rw [if_pos c, e13]
      · rw [if_neg c, if_pos (by omega), e13]
    rw [ec]
    exact ⟨-2, _, _, rfl, rfl, _, _, h.empt⟩
end LX2
