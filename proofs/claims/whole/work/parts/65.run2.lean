/-! RUN: one SHOWING becomes one TRIAL, alike -/
section RV
variable {A B Mx Mm : Mem}
/-- what a SHOWING draws: its sort, its guess, the dice after -/
def soR (n x : Int) : Int := nxs x / 256 % n
def SMs (a _i : Int) : Prop := a = 387 ∨ a = 337 ∨ (392 ≤ a ∧ a ≤ 400)
theorem RR.m_show1 (h : RR A B Mx Mm) {k t s b n x so g x1 : Int} (hl : isLw A k) (ht : isTh A t) (hs : 0 ≤ s ∧ s < 96) (hb : isBr b) (en : A 337 79 = n) (hn : n < 40) (hx : Mm 337 64 = x) (hx0 : 0 ≤ x ∧ x < 2147483648) (hso : soR (A 374 (5 + t)) x = so) (hd : drw (crd A (env (A 388) t s b) (2 + k) 0) so (A 374 (5 + t)) (nxs x) = (g, x1)) : ∃ M2, j_X12_runShowing_107 k Mm t s b = some (0, st (puA M2 n t s b so g (say A (env (A 388) t s b) (2 + k)) (crd A (env (A 388) t s b) (2 + k) 0 / 11)) 337 79 (n + 1)) ∧ Fr SMr Mm M2 ∧ M2 337 64 = x1 := by
  have hn5 := h.nt ht
  have hsr := h.sr ht
  obtain ⟨l1, l2, l3, l4, l5, l6⟩ := h.law hl
  have he := env_ok h.sg (t := t) (b := b) (by omega) hs hb
  obtain ⟨n1, n2, n3, n4⟩ := h.n79
  obtain ⟨Ma, p1, p2, p3⟩ := m_shows h.sg h.mg (t := t) hs hb
  have fa : Fr ScM A Ma := h.fm.tr (p3.mono (fun a i q => by unfold ScE at q; unfold ScM; omega))
  obtain ⟨Mb, q1, q2⟩ := m_crd he p2 fa hl.1 l3 0
  have fb : Fr ScM A Mb := fa.tr (q2.mono (fun _ _ => ScT_M))
  obtain ⟨Mc, r1, r2⟩ := m_says he (p2.fr q2) fb hl.1 l3 l4
  have fc : Fr ScM A Mc := fb.tr (r2.mono (fun _ _ => ScT_M))
  have f1 : Fr SMr Mm Mc := ((p3.mono (fun a i q => by unfold ScE at q; unfold SMr; omega)).tr (q2.mono (fun a i q => by unfold ScT at q; unfold SMr; omega))).tr (r2.mono (fun a i q => by unfold ScT at q; unfold SMr; omega))
  have c64 : Mc 337 64 = x := (r2 337 64 (by unfold ScT; omega)).trans ((q2 337 64 (by unfold ScT; omega)).trans ((p3 337 64 (by unfold ScE; omega)).trans hx))
  have c79 : Mc 337 79 = n := (f1 337 79 (by unfold SMr; omega)).trans (n1.trans en)
  have hc := crd_rng A (env (A 388) t s b) (2 + k) 0
  have x1r := nxs_rng x
  have x2r := nxs_rng (nxs x)
  have x3r := nxs_rng (nxs (nxs x))
  have y1 := Int.emod_nonneg (nxs x / 256) (show A 374 (5 + t) ≠ 0 by omega)
  have y2 := Int.emod_lt_of_pos (nxs x / 256) (show 0 < A 374 (5 + t) by omega)
  have y3 := Int.emod_nonneg (nxs (nxs (nxs x)) / 256) (show A 374 (5 + t) ≠ 0 by omega)
  have y4 := Int.emod_lt_of_pos (nxs (nxs (nxs x)) / 256) (show 0 < A 374 (5 + t) by omega)
  have hsay : say A (env (A 388) t s b) (2 + k) = 0 ∨ say A (env (A 388) t s b) (2 + k) = 1 := bI_01
  unfold soR at hso
  unfold j_X12_runShowing_107
  rw [p1, cl_some, q1, cl_some, r1, cl_some, ok_t ⟨by omega, by omega⟩, ok_t ⟨by omega, by omega⟩, bi_e, fc 374 (5 + t) (by unfold ScM; omega), c64, m_goes _ hx0, cl_some, bm_e, st_at, ok_t x1r.1, ok_t ⟨by omega, by omega⟩, ok_t ⟨by omega, by omega⟩, bi_e, m_goes _ x1r, cl_some, bm_e, st_at, ok_t x2r.1, ok_t (by omega), hso]
  unfold drw at hd
  have fin : ∀ (Md : Mem) (gg : Int), Md 337 79 = n → j_X12_runShowing_231 Md t s b (crd A (env (A 388) t s b) (2 + k) 0) (say A (env (A 388) t s b) (2 + k)) so gg = some (0, st (puA Md n t s b so gg (say A (env (A 388) t s b) (2 + k)) (crd A (env (A 388) t s b) (2 + k) 0 / 11)) 337 79 (n + 1)) := by
    intro Md gg hd79
    unfold j_X12_runShowing_231
    rw [ok_t hc.1, hd79, m_put Md ⟨by omega, by omega⟩ hsay, cl_some, puA_o (by decide), hd79, ok_t ⟨by omega, by omega⟩, bm_e]
  by_cases w : nxs (nxs x) / 256 % 100 < crd A (env (A 388) t s b) (2 + k) 0
  · rw [if_pos w] at hd
    rw [if_pos w]
    cases hd
    refine ⟨_, fin _ _ (by rw [st_neI (by decide), st_neI (by decide), c79]), (f1.st (Or.inr ⟨rfl, Or.inl rfl⟩)).st (Or.inr ⟨rfl, Or.inl rfl⟩), st_at _ _ _ _⟩
  · rw [if_neg w] at hd
    rw [if_neg w, m_goes _ x2r, cl_some, bm_e, st_at, ok_t x3r.1, ok_t ⟨by omega, by omega⟩, ok_t ⟨by omega, by omega⟩, bi_e]
    cases hd
    refine ⟨_, fin _ _ (by rw [st_neI (by decide), st_neI (by decide), st_neI (by decide), c79]), ((f1.st (Or.inr ⟨rfl, Or.inl rfl⟩)).st (Or.inr ⟨rfl, Or.inl rfl⟩)).st (Or.inr ⟨rfl, Or.inl rfl⟩), st_at _ _ _ _⟩
theorem drw_rng {c so n x : Int} (hn : 0 < n) (hso : 0 ≤ so ∧ so < n) : (0 ≤ (drw c so n x).1 ∧ (drw c so n x).1 < n) ∧ 0 ≤ (drw c so n x).2 ∧ (drw c so n x).2 < 2147483648 := by
  unfold drw
  split
  · exact ⟨hso, nxs_rng x⟩
  · exact ⟨⟨Int.emod_nonneg _ (by omega), Int.emod_lt_of_pos _ hn⟩, nxs_rng _⟩
/-- one SHOWING of a RUN -/
theorem RR.runs (h : RR A B Mx Mm) {k i q x z n : Int} (hl : isLw A k) (hi : 0 ≤ i ∧ i < 40) (hq : 80 ≤ q ∧ q < 160) (hS : ShwR A B (B 1 9) i q) (en : A 337 79 = n) (hn : n < 40) (hx : Mx 67 0 = x) (hm : Mm 337 64 = x) (hx0 : 0 ≤ x ∧ x < 2147483648) (hz : 0 ≤ z ∧ z ≤ 40) : ∃ A1 B1 Mx1 Mm1 x1, f_X11_runShow Mx (B 68 k) (B 1 9 + 4 + i) z = some (0, Mx1) ∧ f_X12_runShowing Mm k q z = some (0, Mm1) ∧ RR A1 B1 Mx1 Mm1 ∧ A1 337 79 = n + 1 ∧ (Mx1 67 0 = x1 ∧ Mm1 337 64 = x1 ∧ 0 ≤ x1 ∧ x1 < 2147483648) ∧ Fr SMs Mm Mm1 ∧ (∀ a i, ¬ (392 ≤ a ∧ a ≤ 400) → ¬ (a = 337 ∧ i = 79) → A1 a i = A a i) ∧ (∀ a i, ¬ (21 ≤ a ∧ a ≤ 62) → B1 a i = B a i) := by
  have hk9 := h.ptr.1.2.1
  have kk := kd17 _ hk9
  obtain ⟨b1, b2, b3, b4, b5, b6, b7⟩ := id hS
  have ht : isTh A (A 378 q) := b1
  generalize et : A 378 q = t at *
  generalize es : A 379 q = s at *
  have hs : 0 ≤ s ∧ s < 96 := by omega
  have hn5 := h.nt ht
  have hsr := h.sr ht
  obtain ⟨n1, n2, n3, n4⟩ := h.n79
  obtain ⟨l1, l2, l3, l4, l5, l6⟩ := h.law hl
  have kl := kd17 _ l1
  have x1r := nxs_rng x
  have hso : 0 ≤ soR (A 374 (5 + t)) x ∧ soR (A 374 (5 + t)) x < A 374 (5 + t) := ⟨Int.emod_nonneg _ (by omega), Int.emod_lt_of_pos _ (by omega)⟩
  have hb : isBr (brR A t s z q) := clp_rng (by decide)
  generalize eb : brR A t s z q = b at *
  have hdr := drw_rng (c := crd A (env (A 388) t s b) (2 + k) 0) (x := nxs x) (n := A 374 (5 + t)) (by omega) hso
  generalize ed : drw (crd A (env (A 388) t s b) (2 + k) 0) (soR (A 374 (5 + t)) x) (A 374 (5 + t)) (nxs x) = dd at *
  obtain ⟨g, x1⟩ := dd
  have he := env_ok h.sg (t := t) (b := b) (by omega) hs hb
  have hc := crd_rng A (env (A 388) t s b) (2 + k) 0
  have hsay : say A (env (A 388) t s b) (2 + k) = 0 ∨ say A (env (A 388) t s b) (2 + k) = 1 := bI_01
  -- the model
  obtain ⟨Ma, ma1, ma2, ma3⟩ := h.m_bright (k := k) hq hS es hs hz
  rw [et, eb] at ma1
  have ha : RR A B Mx Ma := h.nx (Fr.rf _ _) (ma2.mono (fun a i q => by unfold SMr at q; unfold ScM; omega)) h.lc
  obtain ⟨Mb, mb1, mb2, mb3⟩ := ha.m_show1 hl ht hs hb en hn (ma3.trans hm) hx0 rfl ed
  have hb' : RR A B Mx Mb := ha.nx (Fr.rf _ _) (mb2.mono (fun a i q => by unfold SMr at q; unfold ScM; omega)) h.lc
  -- the class
  have h1 := hb'.x67 (nxs x)
  have sa1 := h1.sa9
  obtain ⟨Xb, xb1, xb2, xb3⟩ := h1.x_bright hi hS es hs hz
  rw [et, eb] at xb1
  have h2 : RR A B Xb Mb := h1.nx (xb2.mono (fun a i q => by unfold SBr at q; unfold ScX; omega)) (Fr.rf _ _) xb3
  obtain ⟨Xc, xc1, xc2, xc3, xc4⟩ := x_shows h2.sg h2.xg h2.lc (t := t) hs hb
  have h3 : RR A B Xc Mb := h2.nx (xc3.mono (fun a i q => by unfold ScF at q; unfold ScX; omega)) (Fr.rf _ _) xc4
  obtain ⟨-, l2c, -⟩ := h3.law hl
  obtain ⟨Xd, xd1, xd2⟩ := x_crd he xc2 l1 l2c l3 l5 0
  have h4 : RR A B Xd Mb := h3.nx (xd2.mono (fun a i q => by unfold ScR at q; unfold ScX; omega)) (Fr.rf _ _) (lc_fr xd2 (fun i => by unfold ScR; omega) h3.lc)
  obtain ⟨-, l2d, -⟩ := h4.law hl
  have ed2 := xc2.fr xd2
  have d67 : Xd 67 0 = nxs x := (xd2 67 0 (by unfold ScR; omega)).trans ((xc3 67 0 (by unfold ScF; omega)).trans ((xb2 67 0 (by unfold SBr; omega)).trans (st_at _ _ _ _)))
  have d21 : Xd 21 1 = n := (h4.n79.2.1).trans en
  generalize hP : st (st (st (st (st (st Xd (23 + n) 0 t) (23 + n) 1 s) (23 + n) 2 b) (23 + n) 3 (soR (A 374 (5 + t)) x)) (23 + n) 7 0) (23 + n) 8 (-1) = P
  have fP : Fr (SAt (23 + n)) Xd P := by
    rw [← hP]; exact sat_st (sat_st (sat_st (sat_st (sat_st (sat_st (Fr.rf _ _))))))
  have fP2 : Fr (STr n) Xd P := by
    rw [← hP]
    exact ((((((Fr.rf _ _).st (Or.inl ⟨rfl, by decide, by decide⟩)).st (Or.inl ⟨rfl, by decide, by decide⟩)).st (Or.inl ⟨rfl, by decide, by decide⟩)).st (Or.inl ⟨rfl, by decide, by decide⟩)).st (Or.inl ⟨rfl, by decide, by decide⟩)).st (Or.inl ⟨rfl, by decide, by decide⟩)
  have w0 : P (23 + n) 0 = t := by rw [← hP]; simp [st]
  have w1 : P (23 + n) 1 = s := by rw [← hP]; simp [st]
  have w2 : P (23 + n) 2 = b := by rw [← hP]; simp [st]
  have w3 : P (23 + n) 3 = soR (A 374 (5 + t)) x := by rw [← hP]; simp [st]
  have w7 : P (23 + n) 7 = 0 := by rw [← hP]; simp [st]
  have w8 : P (23 + n) 8 = -1 := by rw [← hP]; simp [st]
  obtain ⟨Xe, xe1, xe2, xe3⟩ := x_guess (M := P) (c := crd A (env (A 388) t s b) (2 + k) 0) (so := soR (A 374 (5 + t)) x) (n := A 374 (5 + t)) ((fP 67 0 (by unfold SAt; omega)).trans d67) x1r ⟨by omega, by omega⟩
  rw [ed] at xe1 xe2
  have fe : ∀ a i, a ≠ 67 → a ≠ 23 + n → Xe a i = Xd a i := fun a i h1 h2 => (xe3 a i h1).trans (fP a i h2)
  have eE : EnvX Xe (env (A 388) t s b) := by
    obtain ⟨u1, u2, u3, u4, u5, u6⟩ := ed2
    exact ⟨(fe _ _ (by decide) (by omega)).trans u1, (fe _ _ (by decide) (by omega)).trans u2, (fe _ _ (by decide) (by omega)).trans u3, (fe _ _ (by decide) (by omega)).trans u4, (fe _ _ (by decide) (by omega)).trans u5, (fe _ _ (by decide) (by omega)).trans u6⟩
  have l2e : SA B Xe (B 68 k) := l2d.tr (fun c i c1 c2 => fe c i (by omega) (by omega))
  obtain ⟨Xf, xf1, xf2⟩ := x_says he eE l1 l2e l3 l5 l4 l6
  have gf : ∀ j, Xf (23 + n) j = P (23 + n) j := fun j => (xf2 _ _ (by unfold ScR; omega)).trans (xe3 _ _ (by omega))
  have f21 : Xf 21 1 = n := (xf2 21 1 (by unfold ScR; omega)).trans ((fe 21 1 (by decide) (by omega)).trans d21)
  generalize hQ : st (st (st (st Xf (23 + n) 4 g) (23 + n) 5 (say A (env (A 388) t s b) (2 + k))) (23 + n) 6 (crd A (env (A 388) t s b) (2 + k) 0 / 11)) 21 1 (n + 1) = Q
  have fQ : Fr (STr n) Xd Q := by
    have fPe : Fr (STr n) P Xe := fun a i hn2 => xe3 a i (fun e => hn2 (Or.inr (Or.inr (Or.inl e))))
    have fef : Fr (STr n) Xe Xf := xf2.mono (fun a i q => Or.inr (Or.inr (Or.inr q)))
    rw [← hQ]
    exact (((((fP2.tr fPe).tr fef).st (Or.inl ⟨rfl, by decide, by decide⟩)).st (Or.inl ⟨rfl, by decide, by decide⟩)).st (Or.inl ⟨rfl, by decide, by decide⟩)).st (Or.inr (Or.inl ⟨rfl, rfl⟩))
  have n21 : ¬ (23 + n = 21) := by omega
  have gq : ∀ j, j ≠ 4 → j ≠ 5 → j ≠ 6 → Q (23 + n) j = P (23 + n) j := by
    intro j j4 j5 j6
    rw [← hQ, st_neA n21, st_neI j6, st_neI j5, st_neI j4, gf]
  obtain ⟨A1, B1, r1, r2, r3, r4, r5⟩ := h4.more2 (Mx1 := Q) (n := n) (t := t) (s := s) (b := b) (so := soR (A 374 (5 + t)) x) (g := g) (sa := say A (env (A 388) t s b) (2 + k)) (su := crd A (env (A 388) t s b) (2 + k) 0 / 11) en hn ht hs hb hso hdr.1 hsay ⟨by omega, by omega⟩ fQ (by rw [gq 0 (by decide) (by decide) (by decide), w0]) (by rw [gq 1 (by decide) (by decide) (by decide), w1]) (by rw [gq 2 (by decide) (by decide) (by decide), w2]) (by rw [gq 3 (by decide) (by decide) (by decide), w3]) (by rw [← hQ, st_neA n21, st_neI (by decide), st_neI (by decide), st_at]) (by rw [← hQ, st_neA n21, st_neI (by decide), st_at]) (by rw [← hQ, st_neA n21, st_at]) (by rw [gq 7 (by decide) (by decide) (by decide), w7]) (by rw [gq 8 (by decide) (by decide) (by decide), w8]) (by rw [← hQ, st_at])
  refine ⟨A1, B1, Q, _, x1, ?_, ma1.trans mb1, r1, r2, ⟨?_, ?_, hdr.2⟩, ?_, r4, r5⟩
  · have sax := hb'.sa9
    unfold f_X11_runShow f_X0_nextFree
    rw [n2, en, if_neg (by omega), ok_t ⟨by omega, hn⟩, cl_some, if_neg (by omega), sax _ 3 (by omega) (by omega), sax _ 4 (by omega) (by omega), xx_sqAt Mx ⟨b3, b4⟩, cl_some, sax _ 2 (by omega) (by omega), b2, h.sorts ht, cl_some, x_roll Mx hx hx0 ⟨by omega, by omega⟩, cl_some, ← b5, xb1, cl_some, h2.sa9 _ 2 (by omega) (by omega), b2, xc1, cl_some, xd1, cl_some, ok_t (kdTr _ ⟨by omega, hn⟩), h4.sa9 _ 2 (by omega) (by omega), b2]
    show cl (f_X10_putShowing Xd (23 + n) t s b (soR (A 374 (5 + t)) x)) _ = _
    unfold f_X10_putShowing
    simp only [bm_e, cl_some]
    rw [hP, show nxs x / 256 % A 374 (5 + t) = soR (A 374 (5 + t)) x from rfl, xe1, cl_some, xf1, cl_some, ok_t hc.1]
    unfold f_X10_putAnswer
    simp only [bm_e]
    rw [ok_t hsay, cl_some, st_neA (by omega), st_neA (by omega), st_neA (by omega), f21, ok_t ⟨by omega, by omega⟩, hQ]
  · rw [← hQ, st_neA (by decide), st_neA (by omega), st_neA (by omega), st_neA (by omega), xf2 67 0 (by unfold ScR; omega), xe2]
  · rw [st_neI (by decide), puA_o (by decide), mb3]
  · intro a i hn2
    unfold SMs at hn2
    rw [st_neA (by omega), puA_o (by omega), mb2 a i (by unfold SMr; omega), ma2 a i (by unfold SMr; omega)]
end RV
