/-! QUERIES of laws, alike -/
section QL
variable {A B Mx Mm : Mem}
theorem Jt.cg {ox om ox1 om1 : Res} (ex : ox = ox1) (em : om = om1) (h : Jt ox1 om1) : Jt ox om := by rw [ex, em]; exact h
theorem RR.mixx {Mx1 Mm1 : Mem} (h : RR A B Mx Mm) (h1 : RR A B Mx1 Mm1) : RR A B Mx1 Mm := ⟨h.1, h.2.1, h1.2.2⟩
theorem RR.mixm {Mx1 Mm1 : Mem} (h : RR A B Mx Mm) (h1 : RR A B Mx1 Mm1) : RR A B Mx Mm1 := ⟨h.1, h1.2.1, h.2.2⟩
theorem RR.law2 (h : RR A B Mx Mm) (k : Int) : (isLw A k ∧ f_X11_lawAt Mx k = some (B 68 k, Mx) ∧ f_X12_isLaw Mm k = some (1, Mm) ∧ ¬ B 68 k = 0 ∧ kd (B 68 k) = 17) ∨ (¬ isLw A k ∧ f_X11_lawAt Mx k = some (0, Mx) ∧ f_X12_isLaw Mm k = some (0, Mm)) := by
  obtain ⟨q1, e1, h1⟩ := x_lawAt h.ptr h.fx h.lws k
  obtain ⟨q2, e2, h2⟩ := m_isLaw h.fm h.lws k
  rcases h1 with ⟨rfl, h1⟩ | ⟨rfl, h1⟩
  · rcases h2 with ⟨rfl, h2⟩ | ⟨rfl, h2⟩
    · have := kd17 _ (h.law h1).1
      exact Or.inl ⟨h1, e1, e2, by omega, (h.law h1).1⟩
    · exact absurd h1 h2
  · rcases h2 with ⟨rfl, h2⟩ | ⟨rfl, h2⟩
    · exact absurd h2 h1
    · exact Or.inr ⟨h1, e1, e2⟩
theorem RR.shw2 (h : RR A B Mx Mm) (t c r b : Int) : (isShw A t c r b ∧ f_X12_isShowing Mm t c r b = some (1, Mm) ∧ ∃ Mx1 Mm1, f_X11_showsTold Mx t c r b = some (1, Mx1) ∧ f_X12_shows Mm t (12 * r + c) b = some (0, Mm1) ∧ RR A B Mx1 Mm1 ∧ EnvX Mx1 (env (A 388) t (12 * r + c) b) ∧ EnvM Mm1 (env (A 388) t (12 * r + c) b) ∧ EnvOk (env (A 388) t (12 * r + c) b) ∧ in32 (12 * r) ∧ in32 (12 * r + c)) ∨ (¬ isShw A t c r b ∧ f_X12_isShowing Mm t c r b = some (0, Mm) ∧ f_X11_showsTold Mx t c r b = some (0, Mx)) := by
  obtain ⟨q2, e2, h2⟩ := m_isShw h.fm h.thg t c r b
  rcases h.told (t := t) (c := c) (r := r) (b := b) with ⟨Mx1, e1, h1, rfl⟩ | ⟨h1, Mx1, Mm1, e1, em, k⟩
  · rcases h2 with ⟨rfl, h2⟩ | ⟨rfl, h2⟩
    · exact absurd h2 h1
    · exact Or.inr ⟨h1, e2, e1⟩
  · rcases h2 with ⟨rfl, h2⟩ | ⟨rfl, h2⟩
    · obtain ⟨-, ⟨a1, a2⟩, -⟩ := h1
      exact Or.inl ⟨h2, e2, Mx1, Mm1, e1, em, k.1, k.2.1, k.2.2.1, k.2.2.2, ⟨by omega, by omega⟩, ⟨by omega, by omega⟩⟩
    · exact absurd h1 h2
theorem J_says (h : R Mx Mm) (a1 a2 a3 a4 a5 : Int) : Jt (f_X11_says Mx a1 a2 a3 a4 a5) (f_X12_says Mm a1 a2 a3 a4 a5) := by
  obtain ⟨A, B, h⟩ := h
  unfold f_X11_says f_X12_says
  rcases h.law2 a1 with ⟨l, x1, m1, n1, k1⟩ | ⟨l, x1, m1⟩
  · rw [x1, m1, cl_some, cl_some, if_neg n1, if_neg (by decide)]
    rcases h.shw2 a2 a3 a4 a5 with ⟨s, m2, Mx1, Mm1, x2, m3, h1, ex, em, eo, i1, i2⟩ | ⟨s, m2, x2⟩
    · rw [x2, m2, cl_some, cl_some, if_neg (by decide), if_neg (by decide), ok_t k1, ok_t i1, ok_t i2, m3, cl_some]
      obtain ⟨Mx2, Mm2, x4, m4, h2, -⟩ := h1.says eo ex em l
      rw [x4, m4, cl_some, cl_some]
      by_cases q : say A (env (A 388) a2 (12 * a4 + a3) a5) (2 + a1) = 0
      · rw [if_pos q, if_pos q]; exact h2.J rfl rfl
      · rw [if_neg q, if_neg q]; exact h2.J rfl rfl
    · rw [x2, m2, cl_some, cl_some, if_pos rfl, if_pos rfl]; exact h.J rfl rfl
  · rw [x1, m1, cl_some, cl_some, if_pos rfl, if_pos rfl]; exact h.J rfl rfl
theorem J_carries (h : R Mx Mm) (a1 a2 a3 a4 a5 a6 : Int) : Jt (f_X11_carries Mx a1 a2 a3 a4 a5 a6) (f_X12_carries Mm a1 a2 a3 a4 a5 a6) := by
  obtain ⟨A, B, h⟩ := h
  unfold f_X11_carries f_X12_carries
  rcases h.law2 a1 with ⟨l, x1, m1, n1, k1⟩ | ⟨l, x1, m1⟩
  · rw [x1, m1, cl_some, cl_some, if_neg n1, if_neg (by decide)]
    rcases h.shw2 a3 a4 a5 a6 with ⟨s, m2, Mx1, Mm1, x2, m3, h1, ex, em, eo, i1, i2⟩ | ⟨s, m2, x2⟩
    · obtain ⟨-, l2, l3, -, l5, -⟩ := h1.law l
      have hw := l3.1
      have hl := l.1
      have hk := kd17 _ k1
      rw [x2, m2, cl_some, cl_some]
      refine Jt.cg (if_neg (by decide)) (if_neg (by decide)) ?_
      refine Jt.cg rfl ((ok_t ⟨by omega, by omega⟩).trans (ok_t ⟨by omega, by omega⟩)) ?_
      rw [h.rm (a := 366) (i := 2 + a1) (by unfold ScM; omega)]
      refine Jt.cg rfl (ok_t ⟨by omega, by omega⟩) ?_
      obtain ⟨q, e, hq⟩ := e_isIn Mm a2 (-3) (A 366 (2 + a1) - 1)
      rw [e, cl_some]
      rcases hq with ⟨rfl, hq⟩ | ⟨rfl, hq⟩
      · refine Jt.cg rfl ((if_neg (show ¬ ((1 : Int) = 0) by decide)).trans ((ok_t i1).trans (ok_t i2))) ?_
        rw [m3, cl_some]
        by_cases w3 : a2 = -3
        · subst w3
          obtain ⟨Mx2, Mm2, x4, m4, h2, -⟩ := h1.line eo ex em l
          exact h2.J (by rw [if_pos rfl, ok_t k1, x4, cl_some]) (by rw [if_neg (by decide), if_neg (by decide), if_pos rfl, m4, cl_some])
        · by_cases w2 : a2 = -2
          · subst w2
            obtain ⟨Mx2, Mm2, x4, m4, h2, -⟩ := h1.pcrd eo ex em l 1
            exact h2.J (by rw [if_neg (by decide), if_pos rfl, ok_t k1, x4, cl_some]) (by rw [if_neg (by decide), if_pos rfl, m4, cl_some])
          · by_cases w1 : a2 = -1
            · subst w1
              obtain ⟨Mx2, Mm2, x4, m4, h2, -⟩ := h1.pcrd eo ex em l 0
              exact h2.J (by rw [if_neg (by decide), if_neg (by decide), if_pos rfl, ok_t k1, x4, cl_some]) (by rw [if_pos rfl, m4, cl_some])
            · obtain ⟨b1, -⟩ := l5.2 a2 (by omega) (by omega)
              obtain ⟨Mx2, x4, fx⟩ := x_way eo ex k1 l2 l3 l5 (j := a2) (by omega)
              obtain ⟨Mm2, m4, fm⟩ := m_way eo em h1.fm l.1 l3 (j := a2) (by omega)
              refine (h1.nr fx fm).J (r := wayV A (env (A 388) a3 (12 * a5 + a4) a6) (2 + a1) a2) ?_ ?_
              · rw [if_neg w3, if_neg w2, if_neg w1, ok_t k1]
                unfold f_X7_namedAt
                rw [if_neg (by omega), l2 _ 3 (by omega) (by omega), l5.1, if_neg (by omega), l2 (B 68 a1 + 2) a2 (by omega) (by omega), ok_t ⟨by omega, by omega⟩, ok_t b1, cl_some, x4, cl_some]
              · rw [if_neg w1, if_neg w2, if_neg w3, m4, cl_some]
      · have hn : f_X7_namedAt Mx1 (B 68 a1) a2 = some (0, Mx1) := by
          unfold f_X7_namedAt
          by_cases w : a2 < 0
          · rw [if_pos w]
          · rw [if_neg w, l2 _ 3 (by omega) (by omega), l5.1, if_pos (by omega)]
        refine (h.mixx h1).J (r := -1) ?_ (if_pos rfl)
        rw [if_neg (by omega), if_neg (by omega), if_neg (by omega), ok_t k1, hn, cl_some]
        unfold f_X7_carriedBy
        rw [if_pos rfl, cl_some]
    · rw [x2, m2, cl_some, cl_some, if_pos rfl, if_pos rfl]; exact h.J rfl rfl
  · rw [x1, m1, cl_some, cl_some, if_pos rfl, if_pos rfl]; exact h.J rfl rfl
/-- PARTED -/
def prt (A : Mem) (e : Int → Int) (p q s : Int) : Int := ((crd A e p 0 - crd A e q 0).natAbs : Int) * (s - 1) * 10000 / s
theorem abs_of {x : Int} : (x.natAbs : Int) = if 0 ≤ x then x else -x := by split <;> omega
theorem e_abs (M : Mem) {x : Int} (h : in32 x) (h2 : in32 (-x)) : f_J9_abs_0f7a4 M x = some ((x.natAbs : Int), M) := by
  unfold f_J9_abs_0f7a4
  rw [abs_of]
  by_cases q : 0 ≤ x
  · rw [if_pos q, if_pos q]
  · rw [if_neg q, if_neg q, ok_t h2]
theorem prt_rng {A : Mem} {e : Int → Int} {p q s : Int} (hs : 2 ≤ s ∧ s ≤ 6) : 0 ≤ prt A e p q s ∧ prt A e p q s ≤ 5000000 := by
  have h1 := crd_rng A e p 0
  have h2 := crd_rng A e q 0
  have h3 := mul_rng (x := ((crd A e p 0 - crd A e q 0).natAbs : Int)) (X := 100) (y := s - 1) (Y := 5) (by omega) (by omega)
  unfold prt
  have := ed_nn (x := ((crd A e p 0 - crd A e q 0).natAbs : Int) * (s - 1) * 10000) (y := s) (by omega) (by omega)
  omega
theorem RR.xprt (h : RR A B Mx Mm) {e : Int → Int} (eo : EnvOk e) (ex : EnvX Mx e) {a b : Int} (la : isLw A a) (lb : isLw A b) {s : Int} (hs : 2 ≤ s ∧ s ≤ 6) : ∃ Mx1, f_X11_partedBy Mx (B 68 a) (B 68 b) s = some (prt A e (2 + a) (2 + b) s, Mx1) ∧ RR A B Mx1 Mm := by
  obtain ⟨a1, a2, a3, -, a5, -⟩ := h.law la
  obtain ⟨M1, q1, f1⟩ := x_crd eo ex a1 a2 a3 a5 0
  have h1 : RR A B M1 Mm := h.nr f1 (Fr.rf _ _)
  obtain ⟨b1, b2, b3, -, b5, -⟩ := h1.law lb
  obtain ⟨M2, q2, f2⟩ := x_crd eo (ex.fr f1) b1 b2 b3 b5 0
  have r1 := crd_rng A e (2 + a) 0
  have r2 := crd_rng A e (2 + b) 0
  have r3 := mul_rng (x := ((crd A e (2 + a) 0 - crd A e (2 + b) 0).natAbs : Int)) (X := 100) (y := s - 1) (Y := 5) (by omega) (by omega)
  refine ⟨M2, ?_, h1.nr f2 (Fr.rf _ _)⟩
  unfold f_X11_partedBy prt
  rw [q1, cl_some, q2, cl_some, ok_t ⟨by omega, by omega⟩, e_abs _ ⟨by omega, by omega⟩ ⟨by omega, by omega⟩, cl_some, ok_t ⟨by omega, by omega⟩, ok_t ⟨by omega, by omega⟩, ok_t ⟨by omega, by omega⟩, ok_t ⟨by omega, by omega⟩]
theorem RR.mprt (h : RR A B Mx Mm) {a b t s c : Int} (la : isLw A a) (lb : isLw A b) (ht : isTh A t) (hs : 0 ≤ s ∧ s < 96) (hc : isBr c) : ∃ Mm1, f_X12_partedAt Mm a b t s c = some (prt A (env (A 388) t s c) (2 + a) (2 + b) (A 374 (5 + t)), Mm1) ∧ RR A B Mx Mm1 := by
  have hn := h.nt ht
  have hsr := h.sr ht
  obtain ⟨_, Mm1, -, m1, h1, -, em, eo⟩ := h.shows (t := t) (by omega) hs hc
  have h1' := h.mixm h1
  obtain ⟨a1, a2, a3, -, a5, -⟩ := h1'.law la
  obtain ⟨M1, q1, f1⟩ := m_crd eo em h1'.fm la.1 a3 0
  have h2 : RR A B Mx M1 := h1'.nr (Fr.rf _ _) f1
  obtain ⟨b1, b2, b3, -, b5, -⟩ := h2.law lb
  obtain ⟨M2, q2, f2⟩ := m_crd eo (em.fr f1) h2.fm lb.1 b3 0
  have h3 : RR A B Mx M2 := h2.nr (Fr.rf _ _) f2
  have r1 := crd_rng A (env (A 388) t s c) (2 + a) 0
  have r2 := crd_rng A (env (A 388) t s c) (2 + b) 0
  have r3 := mul_rng (x := ((crd A (env (A 388) t s c) (2 + a) 0 - crd A (env (A 388) t s c) (2 + b) 0).natAbs : Int)) (X := 100) (y := A 374 (5 + t) - 1) (Y := 5) (by omega) (by omega)
  refine ⟨M2, ?_, h3⟩
  unfold f_X12_partedAt prt
  rw [m1, cl_some, q1, cl_some, q2, cl_some, ok_t ⟨by omega, by omega⟩]
  show ok (in32 (5 + t)) _ = _
  rw [ok_t ⟨by omega, by omega⟩, ok_t ⟨by omega, by omega⟩, h3.m374 ht]
  show (if 0 ≤ _ then _ else _) = _
  rw [abs_of] at r3 ⊢
  by_cases q : 0 ≤ crd A (env (A 388) t s c) (2 + a) 0 - crd A (env (A 388) t s c) (2 + b) 0
  · rw [if_pos q] at r3 ⊢
    rw [if_pos q, ok_t ⟨by omega, by omega⟩, ok_t ⟨by omega, by omega⟩, ok_t ⟨by omega, by omega⟩, ok_t ⟨by omega, by omega⟩]
  · rw [if_neg q] at r3 ⊢
    rw [if_neg q, ok_t ⟨by omega, by omega⟩, ok_t ⟨by omega, by omega⟩, ok_t ⟨by omega, by omega⟩, ok_t ⟨by omega, by omega⟩, ok_t ⟨by omega, by omega⟩]
theorem J_parted (h : R Mx Mm) (a1 a2 a3 a4 a5 a6 : Int) : Jt (f_X11_parted Mx a1 a2 a3 a4 a5 a6) (f_X12_parted Mm a1 a2 a3 a4 a5 a6) := by
  obtain ⟨A, B, h⟩ := h
  unfold f_X11_parted f_X12_parted
  rcases h.law2 a1 with ⟨l, x1, m1, n1, k1⟩ | ⟨l, x1, m1⟩
  · rcases h.law2 a2 with ⟨l', x1', m1', n1', k1'⟩ | ⟨l', x1', m1'⟩
    · rw [x1, m1, cl_some, cl_some, if_neg (show ¬ ((1 : Int) = 0) by decide), x1', m1', cl_some, cl_some, if_neg n1, if_neg n1', if_neg (show ¬ ((1 : Int) = 0) by decide)]
      rcases h.shw2 a3 a4 a5 a6 with ⟨s, m2, Mx1, Mm1, x2, m3, h1, ex, em, eo, i1, i2⟩ | ⟨s, m2, x2⟩
      · have hsr := h.sr s.1
        obtain ⟨Mx2, q1, h2⟩ := h1.xprt eo ex l l' hsr
        obtain ⟨Mm2, q2, h3⟩ := h.mprt l l' s.1 (sh_sq s) s.2.2
        refine (h3.mixx h2).J (r := prt A (env (A 388) a3 (12 * a5 + a4) a6) (2 + a1) (2 + a2) (A 374 (5 + a3))) ?_ ?_
        · rw [x2, cl_some, if_neg (by decide), h1.sorts s.1, cl_some, ok_t k1, ok_t k1', q1, cl_some]
        · rw [m2, cl_some, if_neg (by decide), ok_t i1, ok_t i2, q2, cl_some]
      · rw [x2, m2, cl_some, cl_some, if_pos rfl, if_pos rfl]; exact h.J rfl rfl
    · rw [x1, m1, cl_some, cl_some, if_neg (show ¬ ((1 : Int) = 0) by decide), x1', m1', cl_some, cl_some, if_neg n1, if_pos rfl, if_pos rfl]; exact h.J rfl rfl
  · have hm : ∀ K : Int → Mem → Res, cl (f_X12_isLaw Mm a1) (fun r1 M2 => if r1 = 0 then some (-1, M2) else K r1 M2) = some (-1, Mm) := by intro K; rw [m1]; rfl
    rw [x1, cl_some, hm]
    rcases h.law2 a2 with ⟨l', x1', m1', n1', k1'⟩ | ⟨l', x1', m1'⟩
    · rw [x1', cl_some, if_pos rfl]; exact h.J rfl rfl
    · rw [x1', cl_some, if_pos rfl]; exact h.J rfl rfl
end QL
