/-! RUN, alike -/
theorem RR.m_showings2 {A B Mx Mm : Mem} (h : RR A B Mx Mm) : ∃ Mm1, f_X12_showings Mm = some (if A 337 60 = 0 then 0 else B 1 13, Mm1) ∧ RR A B Mx Mm1 ∧ Fr (SD 0) Mm Mm1 := by
  obtain ⟨p1, p2, p3, p4⟩ := h.pln
  have m60 : Mm 337 60 = A 337 60 := h.rm (by unfold ScM; omega)
  have m376 : Mm 376 1 = A 376 1 := h.rm (by unfold ScM; omega)
  have f0 : Fr ScM Mm (st Mm 385 0 0) := (Fr.rf _ _).st (by unfold ScM; omega)
  unfold f_X12_showings
  rw [bm_e]
  rcases p1 with p1 | p1
  · refine ⟨st Mm 385 0 0, ?_, h.nx (Fr.rf _ _) f0 h.lc, (Fr.rf _ _).st ⟨Or.inl rfl, Int.le_refl _⟩⟩
    rw [if_pos p1, show FU = 999999999 + 1 from rfl, wl2_s]
    have s0 := st_at Mm 385 0 0
    refine (sh_e (A := A) _ (by rw [st_neA (by decide), m376]) p3 (Or.inr (by rw [st_neA (by decide), m60, p1])) 0 (by rw [s0]; decide)).trans ?_
    rw [s0]
  · obtain ⟨c1, n, c2, c3, c4, c5⟩ := p4 p1
    have hP : Pl A (st Mm 385 0 0) := ⟨fun x s x0 x1 s0 => by rw [st_neA (by omega)]; exact h.rm (by unfold ScM; omega), by rw [st_neA (by decide), m376], by rw [st_neA (by decide), m60, p1]⟩
    have s0 := st_at Mm 385 0 0
    obtain ⟨r1, M1, r2, r3, r4⟩ := seg_sh p3.2 n 6 0 (B (B 1 9) 1) 80 (80 + A 376 1) 0 _ (FU - (80 + A 376 1 - 80).toNat) c2 (by decide) (Int.le_refl _) hP (by decide) (by decide) (by rw [s0]; decide) (by rw [s0]; decide)
    have hP1 := hP.fr r4
    refine ⟨M1, ?_, h.nx (Fr.rf _ _) (f0.tr (r4.mono (fun x s q => by unfold SD at q; unfold ScM; omega))) h.lc, ((Fr.rf _ _).st ⟨Or.inl rfl, Int.le_refl _⟩).tr r4⟩
    have hF : FU = (FU - (80 + A 376 1 - 80).toNat) + (80 + A 376 1 - 80).toNat := by
      have : FU = 1000000000 := rfl
      omega
    have hG : FU - (80 + A 376 1 - 80).toNat = (FU - (80 + A 376 1 - 80).toNat - 1) + 1 := by
      have : FU = 1000000000 := rfl
      omega
    rw [s0] at r3
    rw [if_neg (by omega), c5]
    have n0 : (0 : Int) ≤ ((exL B (B 1 9) n 0 (B (B 1 9) 1)).length : Int) := Int.natCast_nonneg _
    rw [hF, r2, hG, wl2_s]
    rw [Int.zero_add] at r3
    refine (sh_e (A := A) _ hP1.2.1 p3 (Or.inl (Int.le_refl _)) 0 (by rw [r3]; exact ⟨by omega, by omega⟩)).trans ?_
    rw [r3]
theorem J_run {Mx Mm : Mem} (h : R Mx Mm) (a1 : Int) {a2 : Int} (h2 : in32 a2) : Jt (f_X11_run Mx a1 a2) (f_X12_run Mm a1 a2) := by
  obtain ⟨A, B, h⟩ := h
  obtain ⟨p1, p2, p3, p4⟩ := h.pln
  have hk := h.ptr.1.2.1
  have kk := kd17 _ hk
  have x9 : Mx 1 9 = B 1 9 := h.rx (by omega) (by omega)
  have m60 : Mm 337 60 = A 337 60 := h.rm (by unfold ScM; omega)
  have x6 : Mx (B 1 9) 6 = A 337 60 := (h.sa9 _ 6 (by omega) (by omega)).trans p2
  unfold f_X11_run f_X12_run
  rw [m60]
  by_cases w60 : A 337 60 = 0
  · refine h.J (r := -1) ?_ (if_pos w60)
    rcases h.law2 a1 with ⟨l, x1, m1, n1, k1⟩ | ⟨l, x1, m1⟩
    · rw [x1, cl_some, if_neg n1, x9, ok_t hk, x6, if_pos w60]
    · rw [x1, cl_some, if_pos rfl]
  refine Jt.cg rfl (if_neg w60) ?_
  rcases h.law2 a1 with ⟨l, x1, m1, n1, k1⟩ | ⟨l, x1, m1⟩
  · rw [x1, m1, cl_some, cl_some, x9, x6]
    refine Jt.cg ((if_neg n1).trans ((ok_t hk).trans (if_neg w60))) (if_neg (by decide)) ?_
    by_cases w2 : 0 ≤ a2
    · refine Jt.cg (if_pos w2) (if_pos w2) ?_
      have h67 := h.x67 a2
      have h0 : RR A B (st Mx 67 0 a2) (st Mm 337 64 a2) := h67.nx (Fr.rf _ _) ((Fr.rf _ _).st (by unfold ScM; omega)) h67.lc
      obtain ⟨n1', n2', n3', n4'⟩ := h0.n79
      obtain ⟨M1, e1, h1, f1⟩ := h0.m_showings2
      obtain ⟨c1, n, c2, c3, c4, c5⟩ := p4 (p1.resolve_left w60)
      have m64 : M1 337 64 = a2 := (f1 337 64 (by unfold SD; omega)).trans (st_at _ _ _ _)
      have s0 : StR A B (A 337 79) (st Mx 67 0 a2) M1 0 := ⟨A, B, a2, h1, by omega, ⟨by omega, by omega, by omega⟩, st_at _ _ _ _, m64, ⟨w2, by have := h2.2; omega⟩, fun _ _ _ _ => rfl, fun _ _ _ => rfl⟩
      rw [bm_e, bm_e, n1', n2', bi_e, bi_e, e1, cl_some]
      have len0 : (0 : Int) ≤ ((exL B (B 1 9) n 0 (B (B 1 9) 1)).length : Int) := Int.natCast_nonneg _
      have m376 := s0.cells.1
      have hFU : FU = 999999999 + 1 := rfl
      have fin : ∀ {L1 : List Int} {Mx1 Mm1 : Mem} {z1 : Int}, Cr B (A 337 79) (B 1 9) (B 68 a1) L1 (st Mx 67 0 a2) 0 Mx1 z1 → StR A B (A 337 79) Mx1 Mm1 z1 → (∃ L2, exL B (B 1 9) n 0 (B (B 1 9) 1) = L1 ++ L2) → (A 337 79 + z1 = 40 ∨ L1 = exL B (B 1 9) n 0 (B (B 1 9) 1)) → wl3 b_X11_run_47 FU (st Mx 67 0 a2) (B 68 a1) (A 337 79) 0 = some (z1, Mx1) := by
        intro L1 Mx1 Mm1 z1 cr sr hL hz
        obtain ⟨L2, hL⟩ := hL
        have hlen := cr.len
        obtain ⟨d1, d2, d3, d4⟩ := sr.crp
        obtain ⟨-, -, -, d5, d6, d7⟩ := sr.cells
        have lt : (((exL B (B 1 9) n 0 (B (B 1 9) 1)).take 40).length : Int) = min 40 ((exL B (B 1 9) n 0 (B (B 1 9) 1)).length : Int) := by rw [List.length_take]; omega
        have ll : ((exL B (B 1 9) n 0 (B (B 1 9) 1)).length : Int) = L1.length + L2.length := by rw [hL, List.length_append]; omega
        have run := cls_run k1 hk d7 cr (Int.le_refl _) (fun p v hp => by
          have hpl : p < L1.length := (List.getElem?_eq_some_iff.mp hp).1
          have hg : (exL B (B 1 9) n 0 (B (B 1 9) 1))[p]? = some v := by rw [hL, List.getElem?_append_left hpl, hp]
          have ht : ((exL B (B 1 9) n 0 (B (B 1 9) 1)).take 40)[p]? = some v := by rw [List.getElem?_take, if_pos (by omega), hg]
          have hm := exL_rng n 6 _ _ _ _ c2 v (List.mem_of_getElem? hg)
          rw [Int.zero_add]
          exact ⟨by omega, c4 p v ht, by omega, by omega⟩) (FU - L1.length)
        have eF : FU - L1.length + L1.length = FU := by omega
        rw [eF] at run
        rw [run, show FU - L1.length = (FU - L1.length - 1) + 1 by omega, wl3_s]
        unfold b_X11_run_47
        rw [d1, d4]
        by_cases w3 : B 1 12 ≤ z1
        · rw [if_pos w3, ok_t ⟨by omega, by omega⟩, show A 337 79 + z1 - A 337 79 = z1 by omega]
        · rw [if_neg w3]
          have : A 337 79 + z1 = 40 := by
            rcases hz with hz | hz
            · exact hz
            · rw [hz] at hlen; omega
          rw [if_pos (by omega), ok_t ⟨by omega, by omega⟩, show A 337 79 + z1 - A 337 79 = z1 by omega]
      obtain ⟨L1, Mx1, Mm1, z1, f, hf, r1, r2, r3⟩ := seg_run l hk p3 n 6 0 (B (B 1 9) 1) 80 (80 + A 376 1) 0 _ M1 0 c2 (Int.le_refl _) (by omega) (Int.le_refl _) (Int.le_refl _) (Int.le_refl _) (by decide) s0
      have hf2 : (f : Int) ≤ 80 * 531441 := by
        have : (80 + A 376 1 - 80) * 9 ^ 6 ≤ 80 * 531441 := by
          rw [show (9 : Int) ^ 6 = 531441 by decide]; omega
        omega
      have hX := r2
      obtain ⟨A2, B2, x2, hr2, -⟩ := r2
      by_cases w4 : (if A 337 60 = 0 then 0 else B 1 13) ≤ 0
      · have l0 : exL B (B 1 9) n 0 (B (B 1 9) 1) = [] := by
          rw [if_neg w60] at w4
          apply List.eq_nil_of_length_eq_zero; omega
        refine ⟨0, st Mx 67 0 a2, M1, fin (L1 := []) ⟨rfl, rfl⟩ s0 ⟨[], by rw [l0]; rfl⟩ (Or.inr l0.symm), ?_, A, B, h1⟩
        rw [if_pos w4, m376, ok_t ⟨by omega, by omega⟩, bi_e, hFU, wl3_s]
        exact rn_e _ s0 p3 a1 0 (Int.le_refl _)
      · rw [if_neg w4]
        have eF : FU = (FU - f) + f := by rw [hFU]; omega
        rcases r3 with ⟨eL, fr, go⟩ | ⟨e40, eL, stp⟩
        · refine ⟨z1, Mx1, Mm1, fin r1 hX ⟨[], by rw [eL, List.append_nil]⟩ (Or.inr eL), ?_, A2, B2, hr2⟩
          rw [eF, go, show FU - f = (FU - f - 1) + 1 by rw [hFU]; omega, wl3_s]
          exact rn_e _ hX p3 a1 0 (Int.le_refl _)
        · refine ⟨z1, Mx1, Mm1, fin r1 hX eL (Or.inl e40), ?_, A2, B2, hr2⟩
          rw [eF, stp]
    · exact h.J (r := -1) (if_neg w2) (if_neg w2)
  · rw [x1, m1, cl_some, cl_some]
    exact h.J (r := -1) (if_pos rfl) (if_pos rfl)
