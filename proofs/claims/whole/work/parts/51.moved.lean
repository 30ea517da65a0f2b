/-! TRIALS told, moved; CHAIRS -/
section SM
variable {A B Mx Mm A1 B1 : Mem}
theorem e_absL (M : Mem) {x : Int} (h : in32 x) : f_J9_abs_067f4 M x = some ((x.natAbs : Int), M) := by
  obtain ⟨h1, h2⟩ := h
  unfold f_J9_abs_067f4
  rw [abs_of]
  by_cases q : 0 ≤ x
  · rw [if_pos q, if_pos q]
  · rw [if_neg q, if_neg q, ok_t ⟨by omega, by omega⟩]
theorem J_moved (h : R Mx Mm) (a1 : Int) {a2 a3 : Int} (i2 : in32 a2) (i3 : in32 a3) : Jt (f_X11_moved Mx a1 a2 a3) (f_X12_moved Mm a1 a2 a3) := by
  obtain ⟨A, B, h⟩ := h
  obtain ⟨n1, n2, n3, n4⟩ := h.n79
  unfold f_X11_moved f_X12_moved
  rw [n1]
  refine Jt.cg rfl (ok_t ⟨by omega, by omega⟩) ?_
  rcases h.tr2 a1 with ⟨t, y1, y2, kt⟩ | ⟨t, y1, y2⟩
  · rw [y1, y2, cl_some, cl_some]
    have t0 := t.1
    obtain ⟨h2, ha, hx⟩ := h.tx t.1 t.2
    obtain ⟨x0, x1, x2, x3, x4, x5, x6, x7, x8⟩ := id hx
    obtain ⟨-, b1, -⟩ := ha
    refine Jt.cg ((if_neg (by omega)).trans (ok_t kt)) ((if_neg (by decide)).trans (ok_t ⟨t0, h2⟩)) ?_
    rw [x7, h.mt (a := 398) a1 (by omega)]
    by_cases w : A 398 a1 = 0
    · refine Jt.cg (if_pos w) (if_pos w) ?_
      have go : Jt (j_X11_moved_33 a2 a3 Mx (23 + a1)) (j_X12_moved_33 a1 a2 a3 Mm) := by
        by_cases hok : isSq (A 393 a1 % 12 + a2) (A 393 a1 / 12 + a3)
        · obtain ⟨u1, u2⟩ := id hok
          rcases h.sq2 (A 393 a1 % 12 + a2) (A 393 a1 / 12 + a3) with ⟨-, s1, s2, s3, s4, s5, s6, s7⟩ | ⟨s, -⟩
          · refine ⟨1, st (st Mx (23 + a1) 1 (12 * (A 393 a1 / 12 + a3) + (A 393 a1 % 12 + a2))) (23 + a1) 7 1, st (st Mm 393 a1 (12 * (A 393 a1 / 12 + a3) + (A 393 a1 % 12 + a2))) 398 a1 1, ?_, ?_, ?_⟩
            · unfold j_X11_moved_33
              rw [e_absL _ i2, cl_some, if_neg (by omega), e_absL _ i3, cl_some, if_pos (by omega), ok_t kt, x1, ok_t b1.1, ok_t ⟨by omega, by omega⟩, bi_e, ok_t ⟨by omega, by omega⟩, bi_e, s1, cl_some, if_neg (by decide), s3, cl_some, bm_e, bm_e]
            · unfold j_X12_moved_33
              obtain ⟨q, e, hq⟩ := e_isIn Mm a2 (-12) 12
              obtain ⟨q', e', hq'⟩ := e_isIn Mm a3 (-8) 8
              rcases hq with ⟨rfl, -⟩ | ⟨rfl, hq⟩
              · rcases hq' with ⟨rfl, -⟩ | ⟨rfl, hq'⟩
                · rw [e, cl_some, if_neg (by decide), e', cl_some, if_neg (by decide), ok_t ⟨t0, h2⟩, h.mt (a := 393) a1 (by omega), ok_t b1.1, ok_t ⟨by omega, by omega⟩, bi_e, ok_t ⟨by omega, by omega⟩, bi_e, s2, cl_some, if_neg (by decide), ok_t s4, ok_t s5, bm_e, bm_e]
                · omega
              · omega
            · refine h.upd (A1 := st (st A 393 a1 (12 * (A 393 a1 / 12 + a3) + (A 393 a1 % 12 + a2))) 398 a1 1) (B1 := st (st B (23 + a1) 1 (12 * (A 393 a1 / 12 + a3) + (A 393 a1 % 12 + a2))) (23 + a1) 7 1) (Fr.st (Fr.st (Fr.rf _ _) (by unfold SimA; omega)) (by unfold SimA; omega)) (Fr.st (Fr.st (Fr.rf _ _) (by unfold SimB; omega)) (by unfold SimB; omega)) (h.tap.ext ?_ ?_ ?_ ?_) (h.flt.ext ?_ ?_ ?_ ?_) ?_ (h.chr.ext ?_ ?_ ?_) (h.oct.ext ?_ ?_ ?_ ?_) (fr_st2 (fr_st2 h.fm _ _ _) _ _ _) (fr_st2 (fr_st2 h.fx _ _ _) _ _ _) (lc_st (lc_st h.lc (by omega)) (by omega))
              rotate_left 8
              · obtain ⟨u1, u2, u3⟩ := h.trs
                refine ⟨by rw [st_neA (by decide), st_neA (by decide)]; exact u1, by rw [st_neA (by omega), st_neA (by omega), st_neA (by decide), st_neA (by decide)]; exact u2, fun i i0 i1 => ?_⟩
                rw [st_neA (by decide), st_neA (by decide)] at i1
                obtain ⟨v1, v2⟩ := u3 i i0 i1
                by_cases ei : i = a1
                · subst ei
                  constructor
                  · unfold TrlA at v1 ⊢
                    simp [st]
                    omega
                  · unfold TrlX at v2 ⊢
                    obtain ⟨c0, c1, c2, c3, c4, c5, c6, c7, c8⟩ := v2
                    simp [st]
                    exact ⟨c0, c2, c3, c4, c5, c6, c8⟩
                · exact ⟨v1.ext (fun a _ _ => (st_neI ei).trans (st_neI ei)) ((st_neA (by decide)).trans (st_neA (by decide))) (fun t => (st_neA (by decide)).trans (st_neA (by decide))), v2.ext (fun a _ _ => (st_neI ei).trans (st_neI ei)) (fun j => (st_neA (by omega)).trans (st_neA (by omega)))⟩
              all_goals first | exact funext fun _ => (st_neA (by decide)).trans (st_neA (by decide)) | exact (st_neA (by decide)).trans (st_neA (by decide)) | exact (st_neA (by omega)).trans (st_neA (by omega)) | exact fun _ => (st_neA (by decide)).trans (st_neA (by decide)) | exact fun _ => (st_neA (by omega)).trans (st_neA (by omega))
          · exact absurd hok s
        · refine h.J (r := 0) ?_ ?_
          · unfold j_X11_moved_33
            rw [e_absL _ i2, cl_some]
            by_cases c1 : 12 ≤ (a2.natAbs : Int)
            · rw [if_pos c1]
            · rw [if_neg c1, e_absL _ i3, cl_some]
              by_cases c2 : (a3.natAbs : Int) < 8
              · rw [if_pos c2, ok_t kt, x1, ok_t b1.1, ok_t ⟨by omega, by omega⟩, bi_e, ok_t ⟨by omega, by omega⟩, bi_e]
                rcases h.sq2 (A 393 a1 % 12 + a2) (A 393 a1 / 12 + a3) with ⟨s, -⟩ | ⟨-, s1, s2⟩
                · exact absurd s hok
                · rw [s1, cl_some, if_pos rfl]
              · rw [if_neg c2]
          · unfold j_X12_moved_33
            obtain ⟨q, e, hq⟩ := e_isIn Mm a2 (-12) 12
            obtain ⟨q', e', hq'⟩ := e_isIn Mm a3 (-8) 8
            rw [e, cl_some]
            rcases hq with ⟨rfl, hq⟩ | ⟨rfl, hq⟩
            · rw [if_neg (by decide), e', cl_some]
              rcases hq' with ⟨rfl, hq'⟩ | ⟨rfl, hq'⟩
              · rw [if_neg (by decide), ok_t ⟨t0, h2⟩, h.mt (a := 393) a1 (by omega), ok_t b1.1, ok_t ⟨by omega, by omega⟩, bi_e, ok_t ⟨by omega, by omega⟩, bi_e]
                rcases h.sq2 (A 393 a1 % 12 + a2) (A 393 a1 / 12 + a3) with ⟨s, -⟩ | ⟨-, s1, s2⟩
                · exact absurd s hok
                · rw [s2, cl_some, if_pos rfl]
              · rw [if_pos rfl]
            · rw [if_pos rfl]
      by_cases w2 : a2 = 0
      · refine Jt.cg (if_pos w2) (if_pos w2) ?_
        by_cases w3 : a3 = 0
        · exact h.J (r := 0) (if_pos w3) (if_pos w3)
        · exact Jt.cg (if_neg w3) (if_neg w3) go
      · exact Jt.cg (if_neg w2) (if_neg w2) go
    · exact h.J (r := 0) (if_neg w) (if_neg w)
  · rw [y1, y2, cl_some, cl_some]; exact h.J (r := 0) (if_pos rfl) (if_pos rfl)
end SM
