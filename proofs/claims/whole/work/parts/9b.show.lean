/-! show: both readers -/
/-- what PLAN's reading writes in the reference -/
def ScY (a i : Int) : Prop := ScS a i ∨ (a = 376 ∧ i = 0) ∨ (377 ≤ a ∧ a ≤ 382 ∧ 0 ≤ i ∧ i < 80) ∨ (a = 337 ∧ (i = 36 ∨ i = 52))
/-- one step l of it -/
def ScLp (l a i : Int) : Prop := ScS a i ∨ (a = 376 ∧ i = 0) ∨ (377 ≤ a ∧ a ≤ 382 ∧ i = l)
/-- one STATEMENT s in the class -/
def ScSt (sp s a i : Int) : Prop := ScQ sp a i ∨ (a = s ∧ (i = 2 ∨ i = 3 ∨ i = 4 ∨ i = 6 ∨ i = 7))
def ScSq (sp s a i : Int) : Prop := ScQ sp a i ∨ (a = s ∧ (i = 3 ∨ i = 4))
theorem ScLp_Y {l : Int} (hl : 0 ≤ l ∧ l < 80) {M M1 : Mem} (f : Fr (ScLp l) M M1) : Fr ScY M M1 := f.mono (fun a i q => by unfold ScLp ScS at q; unfold ScY ScS; omega)
theorem ScS_Lp {l : Int} {M M1 : Mem} (f : Fr ScS M M1) : Fr (ScLp l) M M1 := f.mono (fun a i q => Or.inl q)
theorem ScQ_St {sp s : Int} {M M1 : Mem} (f : Fr (ScQ sp) M M1) : Fr (ScSt sp s) M M1 := f.mono (fun a i q => Or.inl q)
theorem ScSq_St {sp s : Int} {M M1 : Mem} (f : Fr (ScSq sp s) M M1) : Fr (ScSt sp s) M M1 := f.mono (fun a i q => by unfold ScSq ScQ at q; unfold ScSt ScQ; omega)
def sh75 (M15 : Mem) (x1 x4 r12 r14 : Int) : Res := ok (0 ≤ x1 ∧ x1 < 160) (bm (st M15 378 x1 x4) (fun M17 => ok (in32 (12 * r14)) (ok (in32 ((12 * r14) + r12)) (bm (st M17 379 x1 ((12 * r14) + r12)) (fun M20 => bm (st M20 380 x1 (M20 337 32)) (fun M21 => cl (f_X12_readsSum M21) (fun _ M23 => bm (st M23 381 x1 (M23 337 32)) (fun M24 => cl (f_X12_step M24 0) (fun _ M26 => cl (f_X12_asksSign M26 59) (fun _ M28 => some (0, M28)))))))))))
theorem sh75_e (M : Mem) (l x4 : Int) : j_X12_showTold_75 M l x4 = cl (f_X12_number M 0 11) (fun r12 M13 => cl (f_X12_number M13 0 7) (fun r14 M15 => sh75 M15 l x4 r12 r14)) := rfl
theorem m_step {M : Mem} {l : Int} (h : M 376 0 = l) (hl : 0 ≤ l ∧ l < 160) (v : Int) : f_X12_step M v = some (0, st (st M 377 l v) 376 0 (l + 1)) := by
  unfold f_X12_step
  rw [h, ok_t hl, bm_e, st_neA (by decide), h, ok_t ⟨by omega, by omega⟩, bm_e]
/-- what stands behind the first part of a show -/
theorem m_shA {M15 : Mem} {l x4 r12 r14 : Int} (hl : 0 ≤ l ∧ l < 80) (h12 : 0 ≤ r12 ∧ r12 ≤ 9999) (h14 : 0 ≤ r14 ∧ r14 ≤ 9999) {M21 M23 : Mem} (h21 : M21 = st (st (st M15 378 l x4) 379 l (12 * r14 + r12)) 380 l (M15 337 32)) (e : f_X12_readsSum M21 = some (0, M23)) (hs : M23 376 0 = l) : sh75 M15 l x4 r12 r14 = cl (f_X12_asksSign (st (st (st M23 381 l (M23 337 32)) 377 l 0) 376 0 (l + 1)) 59) (fun _ M28 => some (0, M28)) := by
  unfold sh75
  rw [ok_t ⟨by omega, by omega⟩, bm_e, ok_t ⟨by omega, by omega⟩, ok_t ⟨by omega, by omega⟩, bm_e, bm_e, st_neA (show (337 : Int) ≠ 379 by decide), st_neA (show (337 : Int) ≠ 378 by decide), ← h21, e, cl_some, bm_e, m_step (l := l) (by rw [st_neA (by decide)]; exact hs) ⟨by omega, by omega⟩, cl_some]
theorem m_shA_fr {M15 M21 M23 : Mem} {l x4 v w : Int} (h21 : M21 = st (st (st M15 378 l x4) 379 l v) 380 l w) (f : Fr ScS M21 M23) : Fr (ScLp l) M15 (st (st (st M23 381 l (M23 337 32)) 377 l 0) 376 0 (l + 1)) := by
  have f0 : Fr (ScLp l) M15 M21 := by rw [h21]; exact Fr.st (Fr.st (Fr.st (Fr.rf _ _) (by unfold ScLp; omega)) (by unfold ScLp; omega)) (by unfold ScLp; omega)
  exact Fr.st (Fr.st (Fr.st (f0.tr (ScS_Lp f)) (by unfold ScLp; omega)) (by unfold ScLp; omega)) (by unfold ScLp; omega)
def Bd (M : Mem) (l : Int) : Prop := (0 ≤ M 380 l ∧ M 380 l ≤ 900) ∧ 0 ≤ M 381 l ∧ M 381 l ≤ 900
/-- a fault that was met before goes through all that is left of a show -/
theorem m_shBad {M : Mem} {l r12 r14 e p x4 : Int} (h : ME M e p) (hs : M 376 0 = l) (hl : 0 ≤ l ∧ l < 80) (h32 : 0 ≤ M 337 32 ∧ M 337 32 ≤ 900) (h12 : 0 ≤ r12 ∧ r12 ≤ 9999) (h14 : 0 ≤ r14 ∧ r14 ≤ 9999) : ∃ M1, sh75 M l x4 r12 r14 = some (0, M1) ∧ ME M1 e p ∧ Bd M1 l ∧ Fr (ScLp l) M M1 := by
  have hne : ∀ v w, st (st (st M 378 l x4) 379 l v) 380 l w 337 5 ≠ 0 := fun v w => by rw [st_neA (by decide), st_neA (by decide), st_neA (by decide), h.1]; exact h.2.2
  have e1 := m_rSum0 (hne (12 * r14 + r12) (M 337 32))
  have hh := m_shA (M15 := M) (x4 := x4) hl h12 h14 rfl e1 (by simp [st]; exact hs)
  have f := m_shA_fr (M15 := M) (x4 := x4) (l := l) (v := 12 * r14 + r12) (w := M 337 32) rfl (M23 := st (st (st (st (st (st M 378 l x4) 379 l (12 * r14 + r12)) 380 l (M 337 32)) 337 34 0) 337 35 (st (st (st M 378 l x4) 379 l (12 * r14 + r12)) 380 l (M 337 32) 337 52)) 337 51 0) (Fr.st (Fr.st (Fr.st (Fr.rf _ _) (by unfold ScS; omega)) (by unfold ScS; omega)) (by unfold ScS; omega))
  rw [m_asksSign0 (by simp [st]; rw [h.1]; exact h.2.2), cl_some] at hh
  refine ⟨_, hh, ⟨?_, ?_, h.2.2⟩, ⟨?_, ?_⟩, f⟩
  · simp [st]; exact h.1
  · simp [st]; exact h.2.1
  · simp [st]; exact h32
  · simp [st]; exact h32
section SH
variable {b : Int → Int} {n sp : Int} {M Mm : Mem} {T : List Tok} {C : List Int}
/-- a square in both -/
theorem j_sq (x : XT b n sp M T C) {s : Int} (hs : sp + 4 ≤ s ∧ s ≤ sp + 43) (q : MP b n Mm T) : ∃ Mx r12 r14 M15, (∀ K : Int → Int → Mem → Res, cl (f_X12_number Mm 0 11) (fun r M => cl (f_X12_number M 0 7) (fun r' M' => K r r' M')) = K r12 r14 M15) ∧ Fr ScP Mm M15 ∧ ((0 ≤ r12 ∧ r12 ≤ 9999) ∧ 0 ≤ r14 ∧ r14 ≤ 9999) ∧ Fr (ScSq sp s) M Mx ∧ ((f_X5_readSquare M s = some (0, Mx) ∧ ∃ e p, XE sp Mx e p ∧ ME M15 e p) ∨ (f_X5_readSquare M s = some (1, Mx) ∧ (Mx s 3 = r12 ∧ Mx s 4 = r14 ∧ r12 ≤ 11 ∧ r14 ≤ 7) ∧ ∃ T2, XT b n sp Mx T2 C ∧ MP b n M15 T2 ∧ Tk b n T2 ∧ T2.length + 2 = T.length)) := by
  have ks := kd17 sp x.2.2.1.2
  have hx := x_num x (lo := 0) (hi := 11) (by decide)
  have hm := m_number q 0 11
  have tk := x.1
  have fq : ∀ {M0 M' : Mem}, Fr (ScQ sp) M0 M' → Fr (ScSq sp s) M0 M' := fun f => f.mono (fun a i z => Or.inl z)
  unfold f_X5_readSquare
  cases hy : pNum 0 11 T with
  | error z =>
    obtain ⟨e, p⟩ := z
    rw [hy] at hx hm
    obtain ⟨M3, e3, x3, f3⟩ := hx
    obtain ⟨r, M4, e4, r0, m4, f4⟩ := hm
    have hne : M4 337 5 ≠ 0 := by rw [m4.1]; exact m4.2.2
    refine ⟨st M3 s 3 (-1), r, 0, M4, fun K => by rw [e4, cl_some, m_number0 hne, cl_some], f4, ⟨r0, by decide⟩, Fr.st (fq f3) (Or.inr ⟨rfl, Or.inl rfl⟩), Or.inl ⟨?_, e, p, x3.ot (by omega), m4⟩⟩
    rw [e3, cl_some, bm_e, st_at, if_pos rfl]
  | ok z =>
    obtain ⟨v, T1⟩ := z
    rw [hy] at hx hm
    obtain ⟨M3, e3, v0, x3, f3⟩ := hx
    obtain ⟨M4, e4, m4, f4⟩ := hm
    obtain ⟨hv11, g1, g2⟩ := pNum_ok tk hy
    have x4 : XT b n sp (st M3 s 3 v) T1 C := x3.ot (by omega)
    have hx2 := x_num x4 (lo := 0) (hi := 7) (by decide)
    have hm2 := m_number m4 0 7
    cases hz2 : pNum 0 7 T1 with
    | error z =>
      obtain ⟨e, p⟩ := z
      rw [hz2] at hx2 hm2
      obtain ⟨M5, e5, x5, f5⟩ := hx2
      obtain ⟨r, M6, e6, r0, m6, f6⟩ := hm2
      refine ⟨st M5 s 4 (-1), v, r, M6, fun K => by rw [e4, cl_some, e6, cl_some], f4.tr f6, ⟨⟨v0, by omega⟩, r0⟩, Fr.st ((Fr.st (fq f3) (Or.inr ⟨rfl, Or.inl rfl⟩)).tr (fq f5)) (Or.inr ⟨rfl, Or.inr rfl⟩), Or.inl ⟨?_, e, p, x5.ot (by omega), m6⟩⟩
      rw [e3, cl_some, bm_e, st_at, if_neg (by omega), e5, cl_some, bm_e, st_at, if_pos rfl]
    | ok z =>
      obtain ⟨w, T2⟩ := z
      rw [hz2] at hx2 hm2
      obtain ⟨M5, e5, v5, x5, f5⟩ := hx2
      obtain ⟨M6, e6, m6, f6⟩ := hm2
      obtain ⟨hw7, k1, k2⟩ := pNum_ok g1 hz2
      refine ⟨st M5 s 4 w, v, w, M6, fun K => by rw [e4, cl_some, e6, cl_some], f4.tr f6, ⟨⟨v0, by omega⟩, v5, by omega⟩, Fr.st ((Fr.st (fq f3) (Or.inr ⟨rfl, Or.inl rfl⟩)).tr (fq f5)) (Or.inr ⟨rfl, Or.inr rfl⟩), Or.inr ⟨?_, ⟨?_, st_at _ _ _ _, hv11.2, hw7.2⟩, T2, x5.ot (by omega), m6, k1, by omega⟩⟩
      · rw [e3, cl_some, bm_e, st_at, if_neg (by omega), e5, cl_some, bm_e, st_at, if_neg (by omega)]
      · rw [st_neI (by decide), f5 s 3 (by unfold ScQ; omega), st_at]
/-- both refuse with one FAULT -/
def PE (sp s l : Int) (Mx0 Mm0 : Mem) (Rx Rm : Res) : Prop := ∃ e p Mx Mm, Rx = some (0, Mx) ∧ Rm = some (0, Mm) ∧ XE sp Mx e p ∧ ME Mm e p ∧ Bd Mm l ∧ Fr (ScSt sp s) Mx0 Mx ∧ Fr (ScLp l) Mm0 Mm
/-- both have read a show -/
def PS (b : Int → Int) (n sp s l w d : Int) (N : Nat) (C : List Int) (w2 : Mem → Int → Res) (x2 : Int) (Mx0 Mm0 : Mem) (Rx Rm : Res) : Prop := ∃ Mx Mm T c, Rx = w2 Mx (x2 + 1) ∧ Rm = some (0, Mm) ∧ (XT b n sp Mx T (C ++ c) ∧ MC b n Mm T (C ++ c) ∧ c.length + T.length ≤ N ∧ T.length < N) ∧ (Mm 376 0 = l + 1 ∧ Mm 377 l = 0) ∧ ((0 ≤ Mm 378 l ∧ Mm 378 l < w) ∧ Mx s 2 = Mm 378 l ∧ (0 ≤ Mx s 3 ∧ Mx s 3 < 12) ∧ (0 ≤ Mx s 4 ∧ Mx s 4 < 8) ∧ Mm 379 l = 12 * Mx s 4 + Mx s 3 ∧ (Mx s 6 = Mm 380 l ∧ Mx s 7 = Mm 381 l) ∧ Sg2 (C ++ c) (Mm 380 l) (Mm 381 l) false) ∧ Fr (ScSt sp s) Mx0 Mx ∧ Fr (ScLp l) Mm0 Mm
/-- behind the THING's name, which both know -/
theorem j_showB {w2 : Mem → Int → Res} {x2 s l w d r : Int} (hx2 : -100 ≤ x2 ∧ x2 ≤ 100) (hs : sp + 4 ≤ s ∧ s ≤ sp + 43) (hl : 0 ≤ l ∧ l < 80) (hd : 0 ≤ d ∧ d ≤ 6) (x : XT b n sp M T C) (mc : MC b n Mm T C) (hB : C.length + T.length ≤ 900) (h2 : M s 2 = r ∧ 0 ≤ r ∧ r < w) (h6 : M s 6 = C.length) (h52 : Mm 337 52 = d) (h376 : Mm 376 0 = l) : PE sp s l M Mm (cl (cl (f_X5_readSquare M s) (fun r18 M19 => if r18 = 0 then (some (0, M19)) else (cl (f_X5_readSum 8 M19 d) (fun r22 M23 => if r22 = 0 then (some (0, M23)) else (ok (kd (M23 4 1) = 17) (bm (st M23 s 7 (M23 (M23 4 1) 5)) (fun M27 => some (1, M27)))))))) (KX w2 x2)) (j_X12_showTold_75 Mm l r) ∨ PS b n sp s l w d T.length C w2 x2 M Mm (cl (cl (f_X5_readSquare M s) (fun r18 M19 => if r18 = 0 then (some (0, M19)) else (cl (f_X5_readSum 8 M19 d) (fun r22 M23 => if r22 = 0 then (some (0, M23)) else (ok (kd (M23 4 1) = 17) (bm (st M23 s 7 (M23 (M23 4 1) 5)) (fun M27 => some (1, M27)))))))) (KX w2 x2)) (j_X12_showTold_75 Mm l r) := by
  have ks := kd17 sp x.2.2.1.2
  obtain ⟨Mq, r12, r14, M15, eK, f15, ⟨h12, h14⟩, fq, hq⟩ := j_sq x hs mc.1
  have em : j_X12_showTold_75 Mm l r = sh75 M15 l r r12 r14 := by rw [sh75_e]; exact eK (fun r12 r14 M15 => sh75 M15 l r r12 r14)
  have e15 : M15 376 0 = l := by rw [f15 376 0 (by unfold ScP; omega)]; exact h376
  rw [em]
  rcases hq with ⟨eq, e, p, xe, me⟩ | ⟨eq, ⟨q3, q4, q11, q7⟩, T2, xq, mq, tk2, hl2⟩
  · left
    have e32 : M15 337 32 = C.length := (f15 337 32 (by unfold ScP; omega)).trans mc.2.1
    obtain ⟨M1, e1, m1, b1, f1⟩ := m_shBad (x4 := r) me e15 hl (by rw [e32]; omega) h12 h14
    rw [eq, cl_some, if_pos rfl, cl_some]
    unfold KX
    rw [if_pos rfl]
    exact ⟨e, p, Mq, M1, rfl, e1, xe, m1, b1, ScSq_St fq, (ScS_Lp (ScP_S f15)).tr f1⟩
  · rw [eq, cl_some, if_neg (by decide)]
    generalize h21 : st (st (st M15 378 l r) 379 l (12 * r14 + r12)) 380 l (M15 337 32) = M21
    have mc15 : MC b n M15 T2 C := ⟨mq, (f15 337 32 (by unfold ScP; omega)).trans mc.2.1, Seg.fr (fun i => f15 360 i (by unfold ScP; omega)) mc.2.2⟩
    have mc21 : MC b n M21 T2 C := by rw [← h21]; exact ((mc15.ot (by omega)).ot (by omega)).ot (by omega)
    have g21 : ∀ a i, ¬ (378 ≤ a ∧ a ≤ 380 ∧ i = l) → M21 a i = M15 a i := fun a i z => by rw [← h21, st_ne (by omega), st_ne (by omega), st_ne (by omega)]
    have a378 : M21 378 l = r := by rw [← h21, st_neA (by decide), st_neA (by decide), st_at]
    have a379 : M21 379 l = 12 * r14 + r12 := by rw [← h21, st_neA (by decide), st_at]
    have a380 : M21 380 l = C.length := by rw [← h21, st_at]; exact mc15.2.1
    have d21 : M21 337 52 = d := by rw [g21 _ _ (by omega), f15 337 52 (by unfold ScP; omega)]; exact h52
    have hsm := m_rSum (m := 900) (by decide) mc21 d21 hd (by omega)
    have hsx := x_sumR 8 d hd.1 hd.2 (by omega) Mq T2 C xq (by omega)
    cases hy : pSum 8 d T2 with
    | error z =>
      obtain ⟨e, p⟩ := z
      rw [hy] at hsm hsx
      obtain ⟨M2, e2, x2', f2⟩ := hsx
      obtain ⟨M3, e3, m3, f3⟩ := hsm
      left
      have e376 : M3 376 0 = l := by rw [f3 376 0 (by unfold ScS; omega), g21 _ _ (by omega)]; exact e15
      have hh := m_shA (M15 := M15) (x4 := r) hl h12 h14 h21.symm e3 e376
      have ff := m_shA_fr h21.symm f3
      rw [m_asksSign0 (by rw [st_neA (by decide), st_neA (by decide), st_neA (by decide), m3.1.1]; exact m3.1.2.2), cl_some] at hh
      rw [e2, cl_some, if_pos rfl, cl_some]
      unfold KX
      rw [if_pos rfl]
      refine ⟨e, p, M2, _, rfl, hh, x2', ⟨?_, ?_, m3.1.2.2⟩, ⟨?_, ?_⟩, (ScSq_St fq).tr (ScQ_St f2), (ScS_Lp (ScP_S f15)).tr ff⟩
      · rw [st_neA (by decide), st_neA (by decide), st_neA (by decide)]; exact m3.1.1
      · rw [st_neA (by decide), st_neA (by decide), st_neA (by decide)]; exact m3.1.2.1
      · rw [st_neA (by decide), st_neA (by decide), st_neA (by decide), f3 380 l (by unfold ScS; omega), a380]; omega
      · rw [st_neA (by decide), st_neA (by decide), st_at]; exact m3.2
    | ok z =>
      obtain ⟨c, T3⟩ := z
      rw [hy] at hsm hsx
      obtain ⟨M2, e2, x2', f2⟩ := hsx
      obtain ⟨M3, e3, m3, f3⟩ := hsm
      obtain ⟨⟨g1, g2, g3⟩, g4⟩ := pSum_ok 8 d T2 c T3 hd.1 hd.2 tk2 hy
      have g4 := g4 [] (by simp; omega)
      have e376 : M3 376 0 = l := by rw [f3 376 0 (by unfold ScS; omega), g21 _ _ (by omega)]; exact e15
      have hh := m_shA (M15 := M15) (x4 := r) hl h12 h14 h21.symm e3 e376
      have ff := m_shA_fr h21.symm f3
      have mc3 : MC b n (st (st (st M3 381 l (M3 337 32)) 377 l 0) 376 0 (l + 1)) T3 (C ++ c) := ((m3.mc.ot (by omega)).ot (by omega)).ot (by omega)
      have l3 : M3 337 32 = ((C ++ c).length : Int) := m3.mc.2.1
      have x3 : XT b n sp (st M2 s 7 ((C ++ c).length : Int)) T3 (C ++ c) := x2'.ot (by omega)
      have v3 : ∀ i, ¬ (i = 7) → st M2 s 7 ((C ++ c).length : Int) s i = Mq s i := fun i z => by rw [st_neI z, f2 s i (by unfold ScQ; omega)]
      have vq : ∀ i, ¬ (i = 3 ∨ i = 4) → Mq s i = M s i := fun i z => fq s i (by unfold ScSq ScQ; omega)
      rw [e2, cl_some, if_neg (by decide), x2'.2.2.1.1, ok_t x2'.2.2.1.2, bm_e, cl_some, hh, x2'.2.2.2.2.2.2.1]
      unfold KX
      rw [if_neg (by decide)]
      have fx3 : Fr (ScSt sp s) M (st M2 s 7 ((C ++ c).length : Int)) := Fr.st ((ScSq_St fq).tr (ScQ_St f2)) (by unfold ScSt; omega)
      have fm3 := (ScS_Lp (l := l) (ScP_S f15)).tr ff
      have k8 : ∀ a, 378 ≤ a → a ≤ 380 → st (st (st M3 381 l (M3 337 32)) 377 l 0) 376 0 (l + 1) a l = M21 a l := fun a a0 a1 => by
        rw [st_neA (by omega), st_neA (by omega), st_neA (by omega), f3 a l (by unfold ScS; omega)]
      have k381 : st (st (st M3 381 l (M3 337 32)) 377 l 0) 376 0 (l + 1) 381 l = ((C ++ c).length : Int) := by rw [st_neA (by decide), st_neA (by decide), st_at]; exact l3
      have lcc : ((C ++ c).length : Int) ≤ 900 := by rw [List.length_append]; omega
      rcases m_asksSign mc3.1 (c := 59) (by decide) (by decide) (by decide) with ⟨cc, M4, e4, q1, q2⟩ | ⟨cc, M4, e4, q1, q2⟩
      · rcases x_sign x3 59 with ⟨-, M5, e5, x5, f5⟩ | ⟨q, -⟩
        · right
          obtain ⟨t1, t2⟩ := g1.tl (by omega)
          rw [e4, e5, cl_some, cl_some, if_neg (by decide), ok_t ⟨by omega, by omega⟩, bi_e]
          have k4 : ∀ a i, ¬ ScP a i → M4 a i = st (st (st M3 381 l (M3 337 32)) 377 l 0) 376 0 (l + 1) a i := fun a i z => q2 a i z
          have w5 : ∀ i, M5 s i = st M2 s 7 ((C ++ c).length : Int) s i := fun i => f5 s i (by unfold ScQ; omega)
          refine ⟨M5, M4, T3.tail, c, rfl, rfl, ⟨x5, ⟨q1, (q2 337 32 (by unfold ScP; omega)).trans mc3.2.1, Seg.fr (fun i => q2 360 i (by unfold ScP; omega)) mc3.2.2⟩, by omega, by omega⟩, ⟨?_, ?_⟩, ?_, fx3.tr (ScQ_St f5), fm3.tr (ScS_Lp (ScP_S q2))⟩
          · rw [k4 _ _ (by unfold ScP; omega), st_at]
          · rw [k4 _ _ (by unfold ScP; omega), st_neA (by decide), st_at]
          · rw [k4 378 _ (by unfold ScP; omega), k4 379 _ (by unfold ScP; omega), k4 380 _ (by unfold ScP; omega), k4 381 _ (by unfold ScP; omega), k8 378 (by decide) (by decide), k8 379 (by decide) (by decide), k8 380 (by decide) (by decide), k381, a378, a379, a380, w5 2, w5 3, w5 4, w5 6, w5 7, v3 2 (by decide), v3 3 (by decide), v3 4 (by decide), v3 6 (by decide), st_at, vq 2 (by decide), vq 6 (by decide), q3, q4, h6, h2.1]
            exact ⟨h2.2, rfl, ⟨h12.1, by omega⟩, ⟨h14.1, by omega⟩, rfl, ⟨rfl, rfl⟩, Sg2.new g4⟩
        · exact absurd cc q
      · rcases x_sign x3 59 with ⟨q, -⟩ | ⟨-, M5, e5, x5, f5⟩
        · exact absurd q cc
        · left
          rw [e4, e5, cl_some, cl_some, if_pos rfl]
          refine ⟨1, hq T3, M5, M4, rfl, rfl, x5, q1, ⟨?_, ?_⟩, fx3.tr (ScQ_St f5), fm3.tr (ScS_Lp (ScP_S q2))⟩
          · rw [q2 380 _ (by unfold ScP; omega), k8 380 (by decide) (by decide), a380]; omega
          · rw [q2 381 _ (by unfold ScP; omega), k381]; omega
theorem j_show {w2 : Mem → Int → Res} {x2 s l w d kn : Int} (hx2 : -100 ≤ x2 ∧ x2 ≤ 100) (hs : sp + 4 ≤ s ∧ s ≤ sp + 43) (hl : 0 ≤ l ∧ l < 80) (hd : 0 ≤ d ∧ d ≤ 6) (x : XT b n sp M T C) (mc : MC b n Mm T C) (hB : C.length + T.length ≤ 900) (hK : Kn kn sp w M Mm) (h42 : M 4 2 = kn) (h52 : Mm 337 52 = d) (h376 : Mm 376 0 = l) : PE sp s l M Mm (cl (f_X5_readShow M s d) (KX w2 x2)) (f_X12_showTold Mm) ∨ PS b n sp s l w d T.length C w2 x2 M Mm (cl (f_X5_readShow M s d) (KX w2 x2)) (f_X12_showTold Mm) := by
  obtain ⟨⟨kk, kne⟩, ⟨k3, k372, w0, w5⟩, kt⟩ := hK
  have ap := kd_apt kk x.2.2.1.2 kne
  have rk := kd_rg kk
  have rs := kd_rg x.2.2.1.2
  have tk := x.1
  unfold f_X5_readShow f_X12_showTold
  rw [bi_e, bi_e, bi_e, x.2.2.2.2.2.1.2.1, x.2.2.2.2.2.1.2.2.1, h376]
  rcases x_name x with ⟨c1, M4, e4, x4, f4⟩ | ⟨c1, M4, e4, x4, f4⟩
  · rcases m_name mc.1 with ⟨-, m, M2, em, nr, mp2, e30, f2⟩ | ⟨c, -⟩
    · have t1 := tk.tl (by omega)
      have g4 : ∀ a i, ¬ ScQ sp a i → M4 a i = M a i := fun a i z => f4 a i z
      have g2 : ∀ a i, ¬ ScP a i → M2 a i = Mm a i := fun a i z => f2 a i z
      have e42 : M4 4 2 = kn := by rw [g4 _ _ (by unfold ScQ; omega)]; exact h42
      have hkt : ∀ t, 0 ≤ t → t < w → (0 ≤ M4 (kn + 2) t ∧ M4 (kn + 2) t < 40) ∧ NR (M2 373 (5 + t)) (M4 (kn + 4 + M4 (kn + 2) t) 1) ∧ ∀ u, 0 ≤ u → u < t → M2 373 (5 + u) ≠ M2 373 (5 + t) := by
        intro t t0 t1
        obtain ⟨y1, y2, y3⟩ := kt t t0 t1
        rw [g4 (kn + 2) t (by unfold ScQ; omega), g4 _ 1 (by unfold ScQ; omega), g2 373 _ (by unfold ScP; omega)]
        exact ⟨y1, y2, fun u u0 u1 => by rw [g2 373 _ (by unfold ScP; omega)]; exact y3 u u0 u1⟩
      have mw : M2 372 1 = w ∧ 0 ≤ w ∧ w ≤ 5 := ⟨by rw [g2 _ _ (by unfold ScP; omega)]; exact k372, w0, w5⟩
      obtain ⟨r, er, hr⟩ := x_whichIs (M := M4) (a := kn) (w := w) ⟨by rw [g4 _ _ (by unfold ScQ; omega)]; exact k3, w0, w5⟩ (fun t t0 t1 => (hkt t t0 t1).1) (hv T)
      obtain ⟨r', hr', er'⟩ := m_which mw l m w.toNat FU (-1) 0 (by omega) (by decide) (by have : FU = 1000000000 := rfl; omega)
      have err : r' = r := by
        rcases hr with ⟨e1, n1⟩ | ⟨b1, n1⟩
        · rcases hr' with ⟨e2, n2⟩ | ⟨b2, n2⟩
          · omega
          · exact absurd ((nr_inj (hkt r' b2.1 b2.2).2.1 nr).mp n2) (n1 r' b2.1 b2.2)
        · have em' := (nr_inj (hkt r b1.1 b1.2).2.1 nr).mpr n1
          rcases hr' with ⟨e2, n2⟩ | ⟨b2, n2⟩
          · exact absurd em' (n2 r b1.1 b1.2)
          · have q : M2 373 (5 + r') = M2 373 (5 + r) := n2.trans em'.symm
            rcases Int.lt_trichotomy r' r with z | z | z
            · exact absurd q ((hkt r b1.1 b1.2).2.2 r' b2.1 z)
            · exact z
            · exact absurd q.symm ((hkt r' b2.1 b2.2).2.2 r b1.1 z)
      have hr1 : r = -1 ∨ (0 ≤ r ∧ r < w) := by
        rcases hr with ⟨e1, -⟩ | ⟨b1, -⟩
        · exact Or.inl e1
        · exact Or.inr b1
      rw [err] at er'
      clear hr hr' kt hkt
      have x2a : XT b n sp (st M4 s 2 r) T.tail C := x4.ot (by omega)
      have ks : kd sp = 17 := x.2.2.1.2
      rw [e4, em, cl_some, cl_some, if_neg (by decide), e42, ok_t kk, er, cl_some, bm_e, st_at, er', if_pos mp2.1]
      rcases hr1 with rfl | hr1
      · -- no such THING
        left
        obtain ⟨M5, e5, x5, f5⟩ := x_ref x2a (k := 3) (by decide) (hq T)
        have m3 : ME (st (st M2 337 5 3) 337 6 (hq T)) 3 (hq T) := me_fail (by decide)
        have fm3 : Fr ScP Mm (st (st M2 337 5 3) 337 6 (hq T)) := fr_fail f2 _ _
        have hne : st (st M2 337 5 3) 337 6 (hq T) 337 5 ≠ 0 := by rw [m3.1]; exact m3.2.2
        rw [if_pos rfl, if_pos rfl, e5, cl_some, ok_t (Or.inl rfl), cl_some, m_fail mp2.1, cl_some, e30, sh75_e, m_number0 hne, cl_some, m_number0 hne, cl_some]
        obtain ⟨M6, e6, m6, b6, f6⟩ := m_shBad (x4 := -1) (r12 := 0) (r14 := 0) m3 (l := l) (by rw [fm3 376 0 (by unfold ScP; omega)]; exact h376) hl (by rw [fm3 337 32 (by unfold ScP; omega), mc.2.1]; omega) ⟨by decide, by decide⟩ ⟨by decide, by decide⟩
        unfold KX
        rw [if_pos rfl]
        exact ⟨3, hq T, M5, M6, rfl, e6, x5, m6, b6, (Fr.st (ScQ_St f4) (by unfold ScSt; omega)).tr (ScQ_St f5), (ScS_Lp (ScP_S fm3)).tr f6⟩
      · rw [if_neg (show ¬ r = -1 by omega), if_neg (show ¬ r = -1 by omega), x2a.2.2.1.1, ok_t ks, bm_e, x2a.2.2.2.2.2.2.1]
        have x2b : XT b n sp (st (st M4 s 2 r) s 6 (C.length : Int)) T.tail C := x2a.ot (by omega)
        have mcb : MC b n M2 T.tail C := ⟨mp2, (g2 337 32 (by unfold ScP; omega)).trans mc.2.1, Seg.fr (fun i => g2 360 i (by unfold ScP; omega)) mc.2.2⟩
        have fxb : Fr (ScSt sp s) M (st (st M4 s 2 r) s 6 (C.length : Int)) := Fr.st (Fr.st (ScQ_St f4) (by unfold ScSt; omega)) (by unfold ScSt; omega)
        have fmb : Fr (ScLp l) Mm M2 := ScS_Lp (ScP_S f2)
        have hh := j_showB (w2 := w2) (x2 := x2) (s := s) (l := l) (w := w) (d := d) (r := r) hx2 hs hl hd x2b mcb (by omega) ⟨by rw [st_neI (by decide), st_at], hr1.1, hr1.2⟩ (st_at _ _ _ _) (by rw [g2 _ _ (by unfold ScP; omega)]; exact h52) (by rw [g2 _ _ (by unfold ScP; omega)]; exact h376)
        rcases hh with ⟨e, p, Ma, Mb, ea, eb, z1, z2, z2b, z3, z4⟩ | ⟨Ma, Mb, T1, c, ea, eb, ⟨z1, z2, z3, z3'⟩, z4, z5, z6, z7⟩
        · exact Or.inl ⟨e, p, Ma, Mb, ea, eb, z1, z2, z2b, fxb.tr z3, fmb.tr z4⟩
        · exact Or.inr ⟨Ma, Mb, T1, c, ea, eb, ⟨z1, z2, by omega, by omega⟩, z4, z5, fxb.tr z6, fmb.tr z7⟩
    · exact absurd c1 c
  · rcases m_name mc.1 with ⟨c, -⟩ | ⟨-, M2, em, me, f2⟩
    · exact absurd c c1
    · left
      have mw : M2 372 1 = w ∧ 0 ≤ w ∧ w ≤ 5 := ⟨by rw [f2 _ _ (by unfold ScP; omega)]; exact k372, w0, w5⟩
      obtain ⟨r', -, er'⟩ := m_which mw l 0 w.toNat FU (-1) 0 (by omega) (by decide) (by have : FU = 1000000000 := rfl; omega)
      have hne : M2 337 5 ≠ 0 := by rw [me.1]; exact me.2.2
      rw [e4, em, cl_some, cl_some, if_pos rfl, cl_some, er', if_neg hne, sh75_e, m_number0 hne, cl_some, m_number0 hne, cl_some]
      obtain ⟨M6, e6, m6, b6, f6⟩ := m_shBad (x4 := r') (r12 := 0) (r14 := 0) me (l := l) (by rw [f2 376 0 (by unfold ScP; omega)]; exact h376) hl (by rw [f2 337 32 (by unfold ScP; omega), mc.2.1]; omega) ⟨by decide, by decide⟩ ⟨by decide, by decide⟩
      unfold KX
      rw [if_pos rfl]
      exact ⟨1, _, M4, M6, rfl, e6, x4, m6, b6, ScQ_St f4, (ScS_Lp (ScP_S f2)).tr f6⟩
end SH
