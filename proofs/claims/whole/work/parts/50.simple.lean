/-! simple reads, alike; TRIALS told, moved, voices; CHAIRS -/
section SQ
variable {A B Mx Mm A1 B1 : Mem}
theorem RR.sq2 (h : RR A B Mx Mm) (c r : Int) : (isSq c r ∧ f_X11_isSquare Mx c r = some (1, Mx) ∧ f_X12_isSquare Mm c r = some (1, Mm) ∧ f_X11_squareAt Mx c r = some (12 * r + c, Mx) ∧ in32 (12 * r) ∧ in32 (12 * r + c) ∧ 0 ≤ 12 * r + c ∧ 12 * r + c < 96) ∨ (¬ isSq c r ∧ f_X11_isSquare Mx c r = some (0, Mx) ∧ f_X12_isSquare Mm c r = some (0, Mm)) := by
  obtain ⟨q1, e1, h1⟩ := xx_isSq Mx c r
  obtain ⟨q2, e2, h2⟩ := mx_isSq Mm c r
  rcases h1 with ⟨rfl, h1⟩ | ⟨rfl, h1⟩
  · rcases h2 with ⟨rfl, h2⟩ | ⟨rfl, h2⟩
    · left
      obtain ⟨u1, u2⟩ := id h1
      exact ⟨h1, e1, e2, xx_sqAt Mx h1, ⟨by omega, by omega⟩, ⟨by omega, by omega⟩, by omega, by omega⟩
    · exact absurd h1 h2
  · rcases h2 with ⟨rfl, h2⟩ | ⟨rfl, h2⟩
    · exact absurd h2 h1
    · exact Or.inr ⟨h1, e1, e2⟩
theorem J_fault (h : R Mx Mm) (a1 : Int) : Jt (f_X11_fault Mx a1) (f_X12_fault Mm a1) := by
  obtain ⟨A, B, h⟩ := h
  obtain ⟨f1, f2⟩ := h.flt
  have x4 : Mx 4 4 = B 4 4 := h.rx (by omega) (by omega)
  have x5 : Mx 4 5 = B 4 5 := h.rx (by omega) (by omega)
  have m7 : Mm 337 7 = A 337 7 := h.rm (by unfold ScM; omega)
  have m8 : Mm 337 8 = A 337 8 := h.rm (by unfold ScM; omega)
  unfold f_X11_fault f_X12_fault
  rw [x4, x5, m7, m8, f1, f2]
  by_cases w : a1 = 0
  · exact h.J (if_pos w) (if_pos w)
  · refine Jt.cg (if_neg w) (if_neg w) ?_
    by_cases w : a1 = 1
    · exact h.J (if_pos w) (if_pos w)
    · exact h.J (if_neg w) (if_neg w)
theorem J_sight (h : R Mx Mm) (a1 a2 : Int) : Jt (f_X11_sight Mx a1 a2) (f_X12_sight Mm a1 a2) := by
  obtain ⟨A, B, h⟩ := h
  unfold f_X11_sight f_X12_sight
  rcases h.sq2 a1 a2 with ⟨s, x1, m1, x2, i1, i2, s0, s1⟩ | ⟨s, x1, m1⟩
  · rw [x1, m1, cl_some, cl_some]
    refine h.J (r := A 388 (12 * a2 + a1)) ?_ ?_
    · rw [if_neg (by decide), x2, cl_some, ok_t ⟨s0, s1⟩, h.xg _ s0 s1]
    · rw [if_neg (by decide), ok_t i1, ok_t i2, ok_t ⟨s0, s1⟩, h.mg _ s0 s1]
  · rw [x1, m1, cl_some, cl_some]; exact h.J (r := -1) (if_pos rfl) (if_pos rfl)
theorem J_piece (h : R Mx Mm) (a1 a2 : Int) : Jt (f_X11_piece Mx a1 a2) (f_X12_piece Mm a1 a2) := by
  obtain ⟨A, B, h⟩ := h
  unfold f_X11_piece f_X12_piece
  rcases h.sq2 a1 a2 with ⟨s, x1, m1, x2, i1, i2, s0, s1⟩ | ⟨s, x1, m1⟩
  · obtain ⟨g1, g2, g3⟩ := h.fld.2.2.2.1 _ s0 s1
    have hg := h.sg _ s0 s1
    rw [x1, m1, cl_some, cl_some]
    by_cases w : A 388 (12 * a2 + a1) = 0
    · refine h.J (r := -1) ?_ ?_
      · rw [if_neg (by decide), x2, cl_some, ok_t ⟨s0, s1⟩, h.rx (a := 15) (by omega) (by omega), g2 w]
      · rw [if_neg (by decide), ok_t i1, ok_t i2, ok_t ⟨s0, s1⟩, h.mg _ s0 s1, if_pos (by omega)]
    · refine h.J (r := A 389 (12 * a2 + a1)) ?_ ?_
      · rw [if_neg (by decide), x2, cl_some, ok_t ⟨s0, s1⟩, h.rx (a := 15) (by omega) (by omega), (g3 w).1]
      · rw [if_neg (by decide), ok_t i1, ok_t i2, ok_t ⟨s0, s1⟩, h.mg _ s0 s1, if_neg (by omega), h.rm (a := 389) (by unfold ScM; omega)]
  · rw [x1, m1, cl_some, cl_some]; exact h.J (r := -1) (if_pos rfl) (if_pos rfl)
theorem J_light (h : R Mx Mm) (a1 a2 a3 : Int) : Jt (f_X11_light Mx a1 a2 a3) (f_X12_light Mm a1 a2 a3) := by
  obtain ⟨A, B, h⟩ := h
  unfold f_X11_light f_X12_light
  rcases h.sq2 a1 a2 with ⟨s, x1, m1, x2, i1, i2, s0, s1⟩ | ⟨s, x1, m1⟩
  · rw [x1, m1, cl_some, cl_some]
    refine Jt.cg (if_neg (by decide)) (if_neg (by decide)) ?_
    obtain ⟨q, e, hq⟩ := xx_isBr Mx a3
    obtain ⟨q', e', hq'⟩ := e_isIn Mm a3 0 99
    rw [e, e', cl_some, cl_some]
    rcases hq with ⟨rfl, hq⟩ | ⟨rfl, hq⟩
    · rcases hq' with ⟨rfl, -⟩ | ⟨rfl, hq'⟩
      · obtain ⟨M1, q1, q2, h3⟩ := h.lit2 (s := 12 * a2 + a1) ⟨s0, s1⟩ hq
        exact h3.J (r := lit (A 388) (12 * a2 + a1) a3) (by rw [if_neg (by decide), x2, cl_some, q1, cl_some]) (by rw [if_neg (by decide), ok_t i1, ok_t i2, q2, cl_some])
      · exact absurd hq hq'
    · rcases hq' with ⟨rfl, hq'⟩ | ⟨rfl, -⟩
      · exact absurd hq' hq
      · exact h.J (r := -1) (if_pos rfl) (if_pos rfl)
  · rw [x1, m1, cl_some, cl_some]; exact h.J (r := -1) (if_pos rfl) (if_pos rfl)
theorem J_pieceHas (h : R Mx Mm) (a1 a2 : Int) : Jt (f_X11_pieceHas Mx a1 a2) (f_X12_pieceHas Mm a1 a2) := by
  obtain ⟨A, B, h⟩ := h
  obtain ⟨-, -, -, -, -, -, g1, g2, g3, g4⟩ := h.fld
  have x8 : Mx 13 8 = A 337 78 := (h.rx (by omega) (by omega)).trans g1
  have m78 : Mm 337 78 = A 337 78 := h.rm (by unfold ScM; omega)
  unfold f_X11_pieceHas f_X12_pieceHas
  rw [x8, m78]
  refine Jt.cg rfl (ok_t ⟨by omega, by omega⟩) ?_
  obtain ⟨q, e, hq⟩ := e_isIn Mm a1 0 (A 337 78 - 1)
  rw [e, cl_some]
  rcases hq with ⟨rfl, hq⟩ | ⟨rfl, hq⟩
  · refine Jt.cg ((if_neg (by omega)).trans (if_pos (by omega))) (if_neg (by decide)) ?_
    obtain ⟨p1, p2⟩ := g3 a1 hq.1 (by omega)
    by_cases w0 : a2 = 0
    · exact h.J (r := A 390 a1) (by rw [if_pos w0, ok_t ⟨by omega, by omega⟩, h.rx (a := 16) (by omega) (by omega), p1]) (by rw [if_pos w0, ok_t ⟨by omega, by omega⟩, h.rm (a := 390) (by unfold ScM; omega)])
    refine Jt.cg (if_neg w0) (if_neg w0) ?_
    by_cases w1 : a2 = 1
    · exact h.J (r := A 391 a1) (by rw [if_pos w1, ok_t ⟨by omega, by omega⟩, h.rx (a := 17) (by omega) (by omega), p2]) (by rw [if_pos w1, ok_t ⟨by omega, by omega⟩, h.rm (a := 391) (by unfold ScM; omega)])
    refine Jt.cg (if_neg w1) (if_neg w1) ?_
    by_cases w2 : a2 = 2
    · refine h.J (r := if a1 = sdA A then 0 else 1) ?_ ?_
      · rw [if_pos w2]
        unfold f_X3_isIsland
        rw [if_neg (by omega), h.rx (a := 13) (i := 9) (by omega) (by omega), g4, if_neg (show ¬ A 337 78 = 0 by omega)]
        show cl (if a1 = sdA A then _ else _) _ = _
        by_cases w3 : a1 = sdA A
        · rw [if_pos w3, if_pos w3, cl_some, if_pos rfl]
        · rw [if_neg w3, if_neg w3, cl_some, if_neg (by decide)]
      · rw [if_pos w2, h.m_seen (by omega), cl_some]
        by_cases w3 : a1 = sdA A
        · rw [if_pos w3, if_pos w3]
        · rw [if_neg w3, if_neg w3]
    · exact h.J (r := -1) (if_neg w2) (if_neg w2)
  · refine h.J (r := -1) ?_ (if_pos rfl)
    by_cases w : a1 < 0
    · rw [if_pos w]
    · rw [if_neg w, if_neg (by omega)]
theorem J_octet (h : R Mx Mm) (a1 : Int) : Jt (f_X11_octet Mx a1) (f_X12_octet Mm a1) := by
  obtain ⟨A, B, h⟩ := h
  obtain ⟨o1, o2, o3⟩ := h.oct
  have x15 : Mx 1 15 = B 1 15 := h.rx (by omega) (by omega)
  have m95 : Mm 337 95 = B 1 15 := (h.rm (by unfold ScM; omega)).trans o1
  unfold f_X11_octet f_X12_octet
  rw [x15, m95]
  by_cases w : a1 < 0
  · exact h.J (if_pos w) (if_pos w)
  · refine Jt.cg (if_neg w) (if_neg w) ?_
    by_cases w2 : B 1 15 ≤ a1
    · exact h.J (if_pos w2) (if_pos w2)
    · exact h.J (r := B 202 a1) (by rw [if_neg w2, ok_t ⟨by omega, by omega⟩, h.rx (a := 202) (by omega) (by omega)]) (by rw [if_neg w2, ok_t ⟨by omega, by omega⟩, h.rm (a := 406) (by unfold ScM; omega), o3 a1 (by omega) (by omega)])
theorem RR.isSort2 (h : RR A B Mx Mm) {t : Int} (ht : isTh A t) (s : Int) : (0 ≤ s ∧ s < A 374 (5 + t) ∧ f_X11_isSort Mx t s = some (1, Mx) ∧ f_X12_isIn Mm s 0 (A 374 (5 + t) - 1) = some (1, Mm)) ∨ (¬ (0 ≤ s ∧ s < A 374 (5 + t)) ∧ f_X11_isSort Mx t s = some (0, Mx) ∧ f_X12_isIn Mm s 0 (A 374 (5 + t) - 1) = some (0, Mm)) := by
  obtain ⟨q, e, hq⟩ := e_isIn Mm s 0 (A 374 (5 + t) - 1)
  unfold f_X11_isSort
  rcases hq with ⟨rfl, hq⟩ | ⟨rfl, hq⟩
  · left
    exact ⟨hq.1, by omega, by rw [if_neg (by omega), h.sorts ht, cl_some, if_neg (by omega)], e⟩
  · right
    refine ⟨by omega, ?_, e⟩
    by_cases w : s < 0
    · rw [if_pos w]
    · rw [if_neg w, h.sorts ht, cl_some, if_pos (by omega)]
theorem J_voice (h : R Mx Mm) (a1 a2 : Int) : Jt (f_X11_voice Mx a1 a2) (f_X12_voice Mm a1 a2) := by
  obtain ⟨A, B, h⟩ := h
  obtain ⟨n1, n2, n3, n4⟩ := h.n79
  unfold f_X11_voice f_X12_voice
  rw [n1]
  refine Jt.cg rfl (ok_t ⟨by omega, by omega⟩) ?_
  rcases h.tr2 a1 with ⟨t, y1, y2, kt⟩ | ⟨t, y1, y2⟩
  · rw [y1, y2, cl_some, cl_some]
    have t0 := t.1
    obtain ⟨h2, ha, hx⟩ := h.tx t.1 t.2
    have ht := h.th t.1 t.2
    have hn := h.nt ht
    have hs := h.sr ht
    obtain ⟨x0, x1, x2, x3, x4, x5, x6, x7, x8⟩ := id hx
    refine Jt.cg ((if_neg (by omega)).trans (ok_t kt)) ((if_neg (by decide)).trans (ok_t ⟨t0, h2⟩)) ?_
    rw [x8, h.mt (a := 399) a1 (by omega)]
    by_cases w : A 399 a1 = -1
    · refine Jt.cg (if_pos w) (if_pos w) ?_
      rw [x0, h.mt (a := 392) a1 (by omega)]
      refine Jt.cg rfl ((ok_t ⟨by omega, by omega⟩).trans (ok_t ⟨by omega, by omega⟩)) ?_
      rw [h.m374 ht]
      refine Jt.cg rfl (ok_t ⟨by omega, by omega⟩) ?_
      rcases h.isSort2 ht a2 with ⟨s0, s1, e1, e2⟩ | ⟨s0, e1, e2⟩
      · rw [e1, e2, cl_some, cl_some]
        refine Jt.cg (if_neg (by decide)) (if_neg (by decide)) ?_
        refine ⟨1, _, _, rfl, rfl, ?_⟩
        refine h.upd (A1 := st A 399 a1 a2) (B1 := st B (23 + a1) 8 a2) (Fr.st (Fr.rf _ _) (by unfold SimA; omega)) (Fr.st (Fr.rf _ _) (by unfold SimB; omega)) (h.tap.ext ?_ ?_ ?_ ?_) (h.flt.ext ?_ ?_ ?_ ?_) ?_ (h.chr.ext ?_ ?_ ?_) (h.oct.ext ?_ ?_ ?_ ?_) (fr_st2 h.fm _ _ _) (fr_st2 h.fx _ _ _) (lc_st h.lc (by omega))
        rotate_left 8
        · obtain ⟨u1, u2, u3⟩ := h.trs
          refine ⟨by rw [st_neA (by decide)]; exact u1, by rw [st_neA (by omega), st_neA (by decide)]; exact u2, fun i i0 i1 => ?_⟩
          rw [st_neA (by decide)] at i1
          obtain ⟨v1, v2⟩ := u3 i i0 i1
          by_cases ei : i = a1
          · subst ei
            constructor
            · unfold TrlA at v1 ⊢
              simp [st]
              omega
            · unfold TrlX at v2 ⊢
              obtain ⟨c0, c1, c2, c3, c4, c5, c6, c7, c8⟩ := v2
              simp [st]
              exact ⟨c0, c1, c2, c3, c4, c5, c6, c7⟩
          · exact ⟨v1.ext (fun a _ _ => st_neI ei) (st_neA (by decide)) (fun t => st_neA (by decide)), v2.ext (fun a _ _ => st_neI ei) (fun j => st_neA (by omega))⟩
        all_goals first | exact funext fun _ => st_neA (by decide) | exact st_neA (by decide) | exact st_neA (by omega) | exact fun _ => st_neA (by decide) | exact fun _ => st_neA (by omega)
      · rw [e1, e2, cl_some, cl_some]; exact h.J (r := 0) (if_pos rfl) (if_pos rfl)
    · exact h.J (r := 0) (if_neg w) (if_neg w)
  · rw [y1, y2, cl_some, cl_some]; exact h.J (r := 0) (if_pos rfl) (if_pos rfl)
end SQ
