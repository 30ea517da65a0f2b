/-! plan(): both objects afterwards -/
def ScP1 (a i : Int) : Prop := (a = 337 ∧ (i = 1 ∨ i = 7 ∨ i = 8 ∨ i = 60)) ∨ (a = 376 ∧ i = 1) ∨ ((377 ≤ a ∧ a ≤ 382) ∧ 80 ≤ i ∧ i < 160) ∨ (a = 360 ∧ 4500 ≤ i ∧ i < 5400) ∨ S38 a i
def ScP2 (sp a i : Int) : Prop := (sp ≤ a ∧ a ≤ sp + 43) ∨ (a = 2 ∧ i = 1) ∨ (a = 4 ∧ (i = 4 ∨ i = 5)) ∨ (a = 1 ∧ (i = 9 ∨ i = 10 ∨ i = 12 ∨ i = 13)) ∨ a = 201
theorem scP_W {sp old a i : Int} (hn : ¬ ScX old a i) (z : ¬ ScP2 sp a i) : ¬ ScW sp a i := by
  intro y
  rcases y with y | y | y | y
  · exact z (Or.inl y)
  · exact hn (by unfold ScX; omega)
  · exact hn (by unfold ScX; omega)
  · by_cases e : i = 4 ∨ i = 5
    · exact z (Or.inr (Or.inr (Or.inl ⟨y.1, e⟩)))
    · exact hn (by unfold ScX; omega)
theorem scP_X {sp old a i : Int} (hn : ¬ ScX old a i) (z : ¬ ScP2 sp a i) : ¬ ScX sp a i := by
  intro y
  rcases y with y | y
  · exact z (Or.inl y)
  · exact hn (Or.inr y)
/-- the reference: what it does when a PLAN was read -/
theorem m_planEnd {M : Mem} {k1 : Int} {l1 len : Int} (h5 : M 337 5 = 0) (h36 : M 337 36 = k1) (h376 : M 376 0 = l1) (hl : 0 ≤ l1 ∧ l1 ≤ 80) (h32 : M 337 32 = len) (hlen : 0 ≤ len ∧ len ≤ 900) (hb : StB M) : ∃ M1, j_X12_plan_40 M = some (k1, M1) ∧ CpP M M1 l1 ∧ (∀ j, 0 ≤ j → j < len → M1 360 (4500 + j) = M 360 j) ∧ (M1 337 60 = 1 ∧ M1 376 1 = l1 ∧ M1 337 7 = 0 ∧ M1 337 8 = M 337 6) ∧ ∀ a i, ¬ ((377 ≤ a ∧ a ≤ 382) ∧ 80 ≤ i ∧ i < 160) → ¬ (a = 360 ∧ 4500 ≤ i ∧ i < 5400) → ¬ (a = 337 ∧ (i = 60 ∨ i = 7 ∨ i = 8 ∨ i = 52)) → ¬ (a = 376 ∧ i = 1) → M1 a i = M a i := by
  have hFU : FU = 1000000000 := rfl
  unfold j_X12_plan_40
  rw [bm_e, bm_e, st_neI (show (5 : Int) ≠ 52 by decide), bm_e, st_neI (show (6 : Int) ≠ 7 by decide), st_neI (show (6 : Int) ≠ 52 by decide), st_neI (show (5 : Int) ≠ 8 by decide), st_neI (show (5 : Int) ≠ 7 by decide), st_neI (show (5 : Int) ≠ 52 by decide), if_pos h5, bm_e]
  generalize hM17 : st (st (st (st M 337 52 0) 337 7 (M 337 5)) 337 8 (M 337 6)) 376 1 (st (st (st M 337 52 0) 337 7 (M 337 5)) 337 8 (M 337 6) 376 0) = M17
  have g17 : ∀ a i, ¬ (a = 337 ∧ (i = 52 ∨ i = 7 ∨ i = 8)) → ¬ (a = 376 ∧ i = 1) → M17 a i = M a i := fun a i z1 z2 => by
    rw [← hM17, st_ne (by omega), st_ne (by omega), st_ne (by omega), st_ne (by omega)]
  have e376 : M17 376 1 = l1 := by rw [← hM17, st_at, st_neA (by decide), st_neA (by decide), st_neA (by decide)]; exact h376
  have sb : StB M17 := hb.fr (fun a j _ _ _ _ => g17 _ _ (by omega) (by omega))
  obtain ⟨M2, e2, c2, f2⟩ := m_cp1 e376 hl sb l1.toNat FU M17 0 (by omega) (by decide) (fun j j0 j1 => by omega) (fun _ _ _ => rfl) (by omega)
  have e32 : M2 337 32 = len := by rw [f2 _ _ (by omega), g17 _ _ (by omega) (by omega)]; exact h32
  obtain ⟨M1, e1, c1, d1, f1⟩ := m_cp2 e32 hlen len.toNat FU M2 0 (by omega) (by decide) (fun j j0 j1 => by omega) (fun _ _ _ => rfl) (by omega)
  have v36 : M2 337 36 = k1 := by rw [f2 _ _ (by omega), g17 _ _ (by omega) (by omega)]; exact h36
  refine ⟨M1, by rw [e2, e1, v36], ?_, fun j j0 j1 => ?_, ⟨d1, ?_, ?_, ?_⟩, fun a i z1 z2 z3 z4 => ?_⟩
  · intro j j0 j1
    obtain ⟨y1, y2⟩ := c2 j j0 j1
    refine ⟨fun c hc => ?_, fun c q0 q1 => ?_⟩
    · rw [f1 _ _ (by omega) (by omega), y1 c hc, g17 _ _ (by omega) (by omega)]
    · rw [f1 _ _ (by omega) (by omega), y2 c q0 q1, g17 _ _ (by omega) (by omega)]
  · rw [c1 j j0 j1, f2 _ _ (by omega), g17 _ _ (by omega) (by omega)]
  · rw [f1 _ _ (by omega) (by omega), f2 _ _ (by omega)]; exact e376
  · rw [f1 _ _ (by omega) (by omega), f2 _ _ (by omega), ← hM17, st_neA (by decide), st_neI (by decide), st_at]; exact h5
  · rw [f1 _ _ (by omega) (by omega), f2 _ _ (by omega), ← hM17, st_neA (by decide), st_at]
  · rw [f1 _ _ (by omega) (by omega), f2 _ _ (by omega), g17 _ _ (by omega) (by omega)]
/-- the class: the list and the number of SHOWINGS -/
theorem x_planEnd {M B : Mem} {sp : Int} {k1 m : Nat} {w : Int} {Mm : Mem} {C : List Int} {l1 : Int} (h19 : M 1 9 = sp) (hs : kd sp = 17) (h1 : M sp 1 = k1 ∧ k1 ≤ 40) (h12 : M 1 12 = 0) (hB : ∀ i c, 0 ≤ i → i < 40 → M (sp + 4 + i) c = B (sp + 4 + i) c) (hm : MY Mm B sp w C m 6 0 k1 0 l1) : ∃ M1, (∀ K : Mem → Res, ok (kd (M 1 9) = 17) (cl (f_X11_listShows 8 M 0 (M (M 1 9) 1) 0) (fun r13 M14 => ok (kd (M14 1 9) = 17) (cl (f_X7_showsInAll M14 (M14 1 9)) (fun r16 M17 => bm (st M17 1 13 r16) (fun M18 => ok (kd (M18 1 9) = 17) (K M18)))))) = K (st M1 1 13 (min 1000000 ((exL B sp m 0 k1).length : Int)))) ∧ Fr ScLs M M1 ∧ LSt M1 (exL B sp m 0 k1) ∧ XS B sp m 6 0 k1 := by
  have hFU : FU = 1000000000 := rfl
  have rs := kd_rg hs
  have hP : LsP B sp k1 M := ⟨⟨h19, hs⟩, ⟨h1.1, by omega, by omega⟩, hB⟩
  have hx : XS B sp m 6 0 k1 := MY.xs (B := B) (K := 40) (fun _ _ _ _ => rfl) m 6 0 k1 0 l1 (Int.le_refl _) (by omega) hm
  have hL : LSt M [] := ⟨by rw [h12]; rfl, fun q v hv => by simp at hv⟩
  obtain ⟨M1, e1, l2, f1⟩ := seg_ls m 6 0 k1 0 M [] FU hx (Int.le_refl _) (Int.le_refl _) (by decide) (by decide) hP hL (by omega)
  have e8 : f_X11_listShows 8 M 0 k1 0 = wl1 (b_X11_listShows_3 (f_X11_listShows (6 + 1)) k1 0) FU M 0 := rfl
  have hP1 := hP.fr f1
  have al := (XS.all m 6 0 k1 hx).2
  have hsum := XS.sum m 6 0 k1 1 hx (fun s _ _ => rfl)
  have hsum' : smg (gM B sp) k1 = ((exL B sp m 0 k1).length : Int) := by
    rw [hsum, Int.one_mul]
    show (0 : Int) + _ = _
    rw [Int.zero_add]
    rfl
  have ea := x_showsAll hP1 (fun x x0 x1 hw => by
    rcases (al x x0 x1).1 with z | z
    · omega
    · exact z.2)
  rw [List.nil_append] at l2
  refine ⟨M1, fun K => ?_, f1, l2, hx⟩
  rw [h19, ok_t hs, h1.1, e8, e1, cl_some, hP1.1.1, ok_t hs, ea, cl_some, bm_e, st_neI (show (9 : Int) ≠ 13 by decide), hP1.1.1, ok_t hs, hsum']
section PK
variable {A B Mx Mm : Mem}
set_option maxHeartbeats 8000000 in
theorem J_plan (h : R Mx Mm) : Jt (f_X11_plan Mx) (f_X12_plan Mm) := by
  obtain ⟨A, B, h⟩ := h
  have hsp := h.ptr.1.2.2.1
  have ho := h.ptr.1.1
  have hp9 := h.ptr.1.2.1
  have ks := kd_rg hsp
  have k9 := kd_rg hp9
  have apt := kd_apt hp9 hsp h.ptr.2.1.2.2
  have n201 : ∀ c, B 1 10 ≤ c → c ≤ B 1 10 + 43 → c ≠ 201 := by
    have := kd17 _ hsp
    intro c c0 c1
    omega
  have n202 : ¬ (B 1 10 ≤ 202 ∧ 202 ≤ B 1 10 + 43) := by
    have := kd17 _ hsp
    omega
  unfold f_X11_plan
  rw [h.rx (a := 1) (i := 10) (by omega) (by omega), h.rx (a := 1) (i := 8) (by omega) (by omega), ok_t hsp, ok_t ho]
  obtain ⟨r, Mx1, Mm1, e1, e2, fx, fm, g1, g4, g5, sb, hr⟩ := plan_alike h
  rw [e1, e2, cl_some, bm_e]
  rcases hr with ⟨rfl, hne0⟩ | ⟨rfl, h0, C1, k1, m, l1, Mx0, rfl, ⟨k40, l0, l80, c900⟩, ⟨x1, m36, m376, m32⟩, s360, sX, hm⟩
  · -- refused
    obtain ⟨A', h'⟩ := h.mix sb
    have fm' : Fr ScMW (mxm S38 Mm1 Mm) (st Mm1 337 52 0) := by
      intro a i hn
      rw [st_ne (by unfold ScMW ScM at hn; omega)]
      by_cases z : S38 a i
      · exact (mxm_in z).symm
      · rw [mxm_out z]
        exact fm a i (by rintro (y | y); exact hn y; exact z y)
    have hR := h'.refu fx fm' (by rw [st_neI (by decide)]; exact g1) (by rw [st_neI (by decide)]; exact g4) (by rw [st_neI (by decide)]; exact g5)
    rw [if_pos rfl]
    unfold j_X12_plan_40
    rw [bm_e, bm_e, bm_e, if_neg (by rw [st_neI (by decide), st_neI (by decide), st_neI (by decide)]; exact hne0)]
    rw [st_neI (show (6 : Int) ≠ 7 by decide)]
    exact ⟨-1, _, _, rfl, rfl, hR⟩
  · have hcl : (0 : Int) ≤ (C1.length : Int) ∧ (C1.length : Int) ≤ 900 := by omega
    obtain ⟨Mmf, em, cP, cC, ⟨v60, v376, v7, v8⟩, fMm⟩ := m_planEnd h0 m36 m376 ⟨l0, l80⟩ m32 hcl sb
    rw [if_neg (show ¬ (1 : Int) = 0 by decide), em]
    have x1v : ∀ i, st (st Mx0 (B 1 10) 6 1) 2 1 0 1 i = B 1 i := fun i => by
      rw [st_neA (by decide), fx 1 i (by unfold ScW; omega)]; exact h.rx (a := 1) (by omega) (by omega)
    rw [bi_e, x1v, bm_e, x1v, bm_e, bm_e]
    obtain ⟨M11, hM11⟩ : ∃ M11, M11 = st (st (st (st (st Mx0 (B 1 10) 6 1) 2 1 0) 1 9 (B 1 10)) 1 10 (B 1 9)) 1 12 0 := ⟨_, rfl⟩
    rw [← hM11]
    have v11 : ∀ a i, ¬ (a = 1 ∧ (i = 9 ∨ i = 10 ∨ i = 12)) → ¬ (a = 2 ∧ i = 1) → M11 a i = st Mx0 (B 1 10) 6 1 a i := fun a i z1 z2 => by
      rw [hM11, st_ne (by omega), st_ne (by omega), st_ne (by omega), st_ne z2]
    have v11s : ∀ a i, B 1 10 ≤ a → a ≤ B 1 10 + 43 → ¬ (a = B 1 10 ∧ i = 6) → M11 a i = Mx0 a i := fun a i z1 z2 z3 => by
      rw [v11 a i (by omega) (by omega), st_ne z3]
    have p9 : M11 1 9 = B 1 10 := by rw [hM11, st_neI (by decide), st_neI (by decide), st_at]
    obtain ⟨M14, eX, f14, l14, hx⟩ := x_planEnd (M := M11) (B := Mx0) (sp := B 1 10) (k1 := k1) (m := m) p9 hsp ⟨(v11s _ _ (by omega) (by omega) (by omega)).trans x1, k40⟩ (by rw [hM11, st_at]) (fun i c i0 i1 => v11s _ _ (by omega) (by omega) (by omega)) hm
    have eX' := eX (fun M18 => some (M18 (M18 1 9) 1, M18))
    obtain ⟨Mxf, hMxf⟩ : ∃ Mxf, Mxf = st M14 1 13 (min 1000000 ((exL Mx0 (B 1 10) m 0 k1).length : Int)) := ⟨_, rfl⟩
    rw [← hMxf] at eX'
    rw [eX']
    have vX : ∀ a i, ¬ (a = 1 ∧ (i = 9 ∨ i = 10 ∨ i = 12 ∨ i = 13)) → ¬ (a = 2 ∧ i = 1) → a ≠ 201 → Mxf a i = st Mx0 (B 1 10) 6 1 a i := fun a i z1 z2 z3 => by
      rw [hMxf, st_ne (by omega), f14 a i (by unfold ScLs; omega), v11 a i (by omega) z2]
    have vXs : ∀ a i, B 1 10 ≤ a → a ≤ B 1 10 + 43 → ¬ (a = B 1 10 ∧ i = 6) → Mxf a i = Mx0 a i := fun a i z1 z2 z3 => by
      have := n201 a z1 z2
      rw [vX a i (by omega) (by omega) this, st_ne z3]
    have w9 : Mxf 1 9 = B 1 10 := by rw [hMxf, st_neI (by decide), f14 _ _ (by unfold ScLs; omega)]; exact p9
    have w10 : Mxf 1 10 = B 1 9 := by rw [hMxf, st_neI (by decide), f14 _ _ (by unfold ScLs; omega), hM11, st_neI (by decide), st_at]
    have w2 : Mxf 2 1 = 0 := by rw [hMxf, st_neA (by decide), f14 _ _ (by unfold ScLs; omega), hM11, st_neA (by decide), st_neA (by decide), st_neA (by decide), st_at]
    have ret : Mxf (B 1 10) 1 = k1 := (vXs _ _ (by omega) (by omega) (by omega)).trans x1
    rw [w9, ret]
    have eA : ∀ a i, ScP1 a i → mxm ScP1 Mmf A a i = Mmf a i := fun a i z => mxm_in z
    have nA : ∀ a i, ¬ ScP1 a i → mxm ScP1 Mmf A a i = A a i := fun a i z => mxm_out z
    have eB : ∀ a i, ScP2 (B 1 10) a i → mxm (ScP2 (B 1 10)) Mxf B a i = Mxf a i := fun a i z => mxm_in z
    have nB : ∀ a i, ¬ ScP2 (B 1 10) a i → mxm (ScP2 (B 1 10)) Mxf B a i = B a i := fun a i z => mxm_out z
    generalize hA1 : mxm ScP1 Mmf A = A1 at eA nA
    generalize hB1 : mxm (ScP2 (B 1 10)) Mxf B = B1 at eB nB
    have b8 : B1 1 8 = B 1 8 := nB _ _ (by unfold ScP2; omega)
    have b9 : B1 1 9 = B 1 10 := by rw [eB _ _ (by unfold ScP2; omega)]; exact w9
    have b10 : B1 1 10 = B 1 9 := by rw [eB _ _ (by unfold ScP2; omega)]; exact w10
    have b68 : ∀ j, B1 68 j = B 68 j := fun j => nB _ _ (by unfold ScP2; omega)
    have bsp : ∀ a i, B 1 10 ≤ a → a ≤ B 1 10 + 43 → ¬ (a = B 1 10 ∧ i = 6) → B1 a i = Mx0 a i := fun a i z1 z2 z3 => by
      rw [eB a i (Or.inl ⟨z1, z2⟩)]; exact vXs a i z1 z2 z3
    have sSA : ∀ a, kd a = 17 → a ≠ B 1 10 → SA B B1 a := by
      intro a ha hne c i z1 z2
      have q1 := kd_apt ha hsp hne
      have q2 := kd_rg ha
      have q3 : c ≠ 201 := by
        have := kd17 _ ha
        omega
      exact nB c i (by unfold ScP2; omega)
    have a388 : A1 388 = A 388 := funext fun i => nA _ _ (by unfold ScP1 S38; omega)
    have PA : ∀ p, 2 ≤ p → p ≤ 4 → PlA A A1 p := fun p z0 z1 => ⟨fun j _ _ => nA _ _ (by unfold ScP1 S38; omega), nA _ _ (by unfold ScP1 S38; omega), nA _ _ (by unfold ScP1 S38; omega), fun a j _ _ _ _ => nA _ _ (by unfold ScP1 S38; omega), fun a j _ _ _ _ => nA _ _ (by unfold ScP1 S38; omega)⟩
    refine ⟨k1, Mxf, Mmf, rfl, rfl, A1, B1, ⟨h.ptr.swapP b8 b9 b10 b68, ⟨?_, ?_, ?_⟩, ⟨?_, ?_⟩, ?_, ?_, ?_, ?_, ⟨?_, ?_⟩, ?_, ?_⟩, ?_, ?_, ?_⟩
    · rw [eA _ _ (by unfold ScP1; omega), fMm _ _ (by omega) (by omega) (by omega) (by omega), g1, eB _ _ (by unfold ScP2; omega)]; exact w2.symm
    · rw [eB _ _ (by unfold ScP2; omega), w2]; decide
    · intro i i0 i1
      rw [eB _ _ (by unfold ScP2; omega), w2] at i1
      omega
    · rw [eA _ _ (by unfold ScP1; omega), v7, eB _ _ (by unfold ScP2; omega), vX _ _ (by omega) (by omega) (by decide), ← h0]; exact g4.symm
    · rw [eA _ _ (by unfold ScP1; omega), v8, eB _ _ (by unfold ScP2; omega), vX _ _ (by omega) (by omega) (by decide)]; exact g5.symm
    · rw [b8]
      exact h.thg.ext ho (nA _ _ (by unfold ScP1 S38; omega)) (fun t _ _ => ⟨nA _ _ (by unfold ScP1 S38; omega), nA _ _ (by unfold ScP1 S38; omega)⟩) (sSA _ ho h.ptr.2.1.2.1)
    · exact h.fld.ext a388 (nA _ _ (by unfold ScP1 S38; omega)) (fun i => nA _ _ (by unfold ScP1 S38; omega)) (nA _ _ (by unfold ScP1 S38; omega)) (funext fun i => nA _ _ (by unfold ScP1 S38; omega)) (fun i => nA _ _ (by unfold ScP1 S38; omega)) (fun a i _ _ => nB _ _ (by unfold ScP2; omega))
    · exact h.trs.ext (fun a i _ _ => nA _ _ (by unfold ScP1 S38; omega)) (nA _ _ (by unfold ScP1 S38; omega)) (fun t => nA _ _ (by unfold ScP1 S38; omega)) (nA _ _ (by unfold ScP1 S38; omega)) (nB _ _ (by unfold ScP2; omega)) (fun i j _ _ => nB _ _ (by unfold ScP2; omega))
    · intro j j0 j3
      rw [b68]
      exact LwR.ext (h.ptr.law j0 j3) (nA _ _ (by unfold ScP1 S38; omega)) (PA _ (by omega) (by omega)) (sSA _ (h.ptr.law j0 j3) (h.ptr.2.2.2 j j0 j3).2.2) (h.lws j j0 j3)
    · rw [b9]
      have a60 : A1 337 60 = 1 := by rw [eA _ _ (by unfold ScP1; omega)]; exact v60
      have a376 : A1 376 1 = l1 := by rw [eA _ _ (by unfold ScP1; omega)]; exact v376
      have b1 : B1 (B 1 10) 1 = k1 := (bsp _ _ (by omega) (by omega) (by omega)).trans x1
      have bst : ∀ i c, 0 ≤ i → i < 40 → B1 (B 1 10 + 4 + i) c = Mx0 (B 1 10 + 4 + i) c := fun i c i0 i1 => bsp _ _ (by omega) (by omega) (by omega)
      have cA : CpP Mm1 A1 l1 := by
        intro j j0 j1
        obtain ⟨y1, y2⟩ := cP j j0 j1
        refine ⟨fun c hc => ?_, fun c c0 c1 => ?_⟩
        · rw [eA _ _ (by unfold ScP1; omega)]; exact y1 c hc
        · rw [eA _ _ (by unfold ScP1; omega)]; exact y2 c c0 c1
      have sA : Seg A1 360 4500 C1 := by
        refine seg_of (fun j hj => ?_)
        rw [eA _ _ (by unfold ScP1; omega), cC j (by omega) (by omega)]
        have := seg_at j s360 hj
        rw [Int.zero_add] at this
        exact this
      have sB : Seg B1 (B 1 10 + 3) 0 (C1.map mk) := Seg.fr (fun i => bsp _ _ (by omega) (by omega) (by omega)) sX
      have mr := MY.mr (B := B1) (K := 40) c900 sA sB (nA 372 1 (by unfold ScP1 S38; omega)) cA bst m 6 0 k1 0 l1 (Int.le_refl _) (by omega) (Int.le_refl _) (Int.le_refl _) hm
      rw [show (80 : Int) + 0 = 80 from rfl] at mr
      have ex := exL_cg (B := Mx0) (B1 := B1) (K := 40) bst m 6 0 k1 (Int.le_refl _) (by omega) hx
      refine ⟨Or.inr a60, ?_, by rw [a376]; exact ⟨l0, l80⟩, fun _ => ⟨by rw [b1]; omega, m, ?_, ?_, ?_, ?_⟩⟩
      · rw [a60, eB _ _ (by unfold ScP2; omega), vX _ _ (by omega) (by omega) (n201 _ (by omega) (by omega)), st_at]
      · rw [b1, a376]; exact mr
      · rw [b1, ex, eB _ _ (by unfold ScP2; omega), hMxf, st_neI (by decide)]; exact l14.1
      · rw [b1, ex]
        intro q v hv
        rw [eB _ _ (by unfold ScP2; omega), hMxf, st_neA (by decide)]; exact l14.2 q v hv
      · rw [b1, ex, eB _ _ (by unfold ScP2; omega), hMxf, st_at]
    · intro a j a0 a1 j0 j1
      rw [eA _ _ (by unfold ScP1 S38; omega), fMm _ _ (by omega) (by omega) (by omega) (by omega)]
      exact sb a j a0 a1 j0 j1
    · exact h.chr.ext (funext fun i => nA _ _ (by unfold ScP1 S38; omega)) (fun i => nB _ _ (by unfold ScP2; omega)) (nB _ _ (by unfold ScP2; omega))
    · exact h.oct.ext (nA _ _ (by unfold ScP1 S38; omega)) (fun i => nA _ _ (by unfold ScP1 S38; omega)) (nB _ _ (by unfold ScP2; omega)) (fun i => nB _ _ (by unfold ScP2; omega))
    · intro a i hn
      by_cases z : ScP1 a i
      · exact (eA a i z).symm
      · rw [nA a i z]
        have z' := z
        have hn' := hn
        unfold ScP1 at z'
        unfold ScM at hn'
        rw [fMm a i (by omega) (by omega) (by omega) (by omega), fm a i (by
          unfold ScMY ScMW
          rintro ((y | y) | y)
          · exact hn y
          · omega
          · exact z (Or.inr (Or.inr (Or.inr (Or.inr y)))))]
        exact h.fm a i hn
    · intro a i hn
      rw [b10] at hn
      by_cases z : ScP2 (B 1 10) a i
      · exact (eB a i z).symm
      · have z' := z
        unfold ScP2 at z'
        rw [nB a i z, vX a i (by omega) (by omega) (by omega), fx a i (scP_W hn z)]
        exact h.fx a i (scP_X hn z)
    · rw [a388]
      intro s s0 s1
      rw [vX _ _ (by omega) (by omega) (by decide), vX _ _ (by omega) (by omega) (by decide), fx 20 s (by unfold ScW; omega), fx 19 s (by unfold ScW; omega)]
      exact h.lc s s0 s1
end PK
