/-! a WHOLE one beside him -/
section QL
variable {A B Mx Mm : Mem}
theorem J_whole (h : R Mx Mm) (a1 a2 a3 a4 a5 a6 a7 a8 : Int) : Jt (f_X11_whole Mx a1 a2 a3 a4 a5 a6 a7 a8) (f_X12_whole Mm a1 a2 a3 a4 a5 a6 a7 a8) := by
  obtain ⟨A, B, h⟩ := h
  by_cases hok : isLw A a1 ∧ isShw A a2 a3 a4 a5 ∧ isSq a6 a7 ∧ (0 ≤ a8 ∧ a8 ≤ 2)
  · obtain ⟨l, s, hq, hw⟩ := hok
    have k1 := (h.law l).1
    have n1 := kd17 _ k1
    have hs0 := sh_sq s
    have hn := h.nt s.1
    have hsq : 0 ≤ 12 * a7 + a6 ∧ 12 * a7 + a6 < 96 := by obtain ⟨u1, u2⟩ := hq; omega
    have hi1 : in32 (12 * a7) := by obtain ⟨u1, u2⟩ := hq; exact ⟨by omega, by omega⟩
    have hi2 : in32 (12 * a7 + a6) := ⟨by omega, by omega⟩
    have hc := crd_rng A (env (A 388) a2 (12 * a4 + a3) a5) (2 + a1) 0
    have hc1 := crd_rng A (env (A 388) a2 (12 * a4 + a3) a5) (2 + a1) 1
    obtain ⟨F, eF⟩ : ∃ F, F = nbF A (2 + a1) a2 (12 * a7 + a6) (crd A (env (A 388) a2 (12 * a4 + a3) a5) (2 + a1) 0) := ⟨_, rfl⟩
    have hF : ∀ n, 0 ≤ F n ∧ F n ≤ 100 := by rw [eF]; exact nbF_rng hc
    have hN := nbR_rng hF 99
    have hN1 := hN.2.2.2 (by omega)
    obtain ⟨N, eN⟩ : ∃ N, N = (nbR F 99).1 := ⟨_, rfl⟩
    rw [← eN] at hN hN1
    have hNb : isBr N := ⟨by omega, by omega⟩
    obtain ⟨V, eV⟩ : ∃ V, V = (if a8 = 0 then N else if a8 = 1 then crd A (env (A 388) a2 (12 * a7 + a6) N) (2 + a1) 0 else crd A (env (A 388) a2 (12 * a7 + a6) N) (2 + a1) 1 - crd A (env (A 388) a2 (12 * a4 + a3) a5) (2 + a1) 1) := ⟨_, rfl⟩
    have hr0 := crd_rng A (env (A 388) a2 (12 * a7 + a6) N) (2 + a1) 0
    have hr1 := crd_rng A (env (A 388) a2 (12 * a7 + a6) N) (2 + a1) 1
    have cx : Tt (f_X11_whole Mx a1 a2 a3 a4 a5 a6 a7 a8) (fun r M => r = V ∧ RR A B M Mm) := by
      unfold f_X11_whole
      rcases h.law2 a1 with ⟨-, x1, -⟩ | ⟨l', -⟩
      · refine tt_cq x1 (tt_in (by omega) (tt_in (by omega) ?_))
        obtain ⟨q, e, hq'⟩ := xx_isSq Mx a6 a7
        rcases hq' with ⟨rfl, -⟩ | ⟨rfl, hq'⟩
        · refine tt_cq e (tt_in (by decide) ?_)
          unfold j_X11_whole_33
          refine tt_in (by decide) (tt_in (by omega) ?_)
          rcases h.shw2 a2 a3 a4 a5 with ⟨-, -, Mx1, Mm1, x2, -, h1, ex, em, eo, -, -⟩ | ⟨s', -⟩
          · have h1' := h.mixx h1
            refine tt_cq x2 (tt_in (by decide) (tt_ok k1 ?_))
            obtain ⟨-, l2, l3, -, l5, -⟩ := h1'.law l
            obtain ⟨M2, q2, f2⟩ := x_crd eo ex k1 l2 l3 l5 0
            have h2 : RR A B M2 Mm := h1'.nr f2 (Fr.rf _ _)
            have ex2 := ex.fr f2
            obtain ⟨-, l2', -, -, -, -⟩ := h2.law l
            obtain ⟨M3, q3, f3⟩ := x_crd eo ex2 k1 l2' l3 l5 1
            have h3 : RR A B M3 Mm := h2.nr f3 (Fr.rf _ _)
            refine tt_cq q2 (tt_cq q3 (tt_cq (xx_sqAt M3 hq) ?_))
            obtain ⟨M4, q4, h4⟩ := h3.xnear l s.1 hsq hc
            rw [← eF, ← eN] at q4
            refine tt_cq q4 ?_
            rw [eV]
            refine tt_if (fun w => ?_) (fun w => ?_)
            · rw [if_pos w]; exact tt_ret ⟨rfl, h4⟩
            · rw [if_neg w]
              obtain ⟨M5, Mm5, q5, -, h5, ex5, -, eo5⟩ := h4.shows (t := a2) (s := 12 * a7 + a6) (b := N) (by omega) hsq hNb
              have h5' := h4.mixx h5
              obtain ⟨-, l2'', -, -, -, -⟩ := h5'.law l
              refine tt_cq q5 (tt_if (fun w1 => ?_) (fun w1 => ?_))
              · rw [if_pos w1]
                obtain ⟨M6, q6, f6⟩ := x_crd eo5 ex5 k1 l2'' l3 l5 0
                exact tt_cq q6 (tt_ret ⟨rfl, h5'.nr f6 (Fr.rf _ _)⟩)
              · rw [if_neg w1]
                obtain ⟨M6, q6, f6⟩ := x_crd eo5 ex5 k1 l2'' l3 l5 1
                exact tt_cq q6 (tt_ok ⟨by omega, by omega⟩ (tt_ret ⟨rfl, h5'.nr f6 (Fr.rf _ _)⟩))
          · exact absurd s s'
        · exact absurd hq hq'
      · exact absurd l l'
    have cm : Tt (f_X12_whole Mm a1 a2 a3 a4 a5 a6 a7 a8) (fun r M => r = V ∧ RR A B Mx M) := by
      unfold f_X12_whole
      rcases h.law2 a1 with ⟨-, -, x1, -⟩ | ⟨l', -⟩
      · refine tt_cq x1 (tt_in (by decide) ?_)
        rcases h.shw2 a2 a3 a4 a5 with ⟨-, m2, Mx1, Mm1, -, m3, h1, ex, em, eo, i1, i2⟩ | ⟨s', -⟩
        · refine tt_cq m2 (tt_in (by decide) ?_)
          obtain ⟨q, e, hq'⟩ := mx_isSq Mm a6 a7
          rcases hq' with ⟨rfl, -⟩ | ⟨rfl, hq'⟩
          · refine tt_cq e (tt_in (by decide) ?_)
            obtain ⟨q', e', hw'⟩ := e_isIn Mm a8 0 2
            rcases hw' with ⟨rfl, -⟩ | ⟨rfl, hw'⟩
            · refine tt_cq e' (tt_in (by decide) (tt_ok i1 (tt_ok i2 (tt_cq m3 ?_))))
              have h1' := h.mixm h1
              obtain ⟨-, -, l3, -, -, -⟩ := h1'.law l
              obtain ⟨M2, q2, f2⟩ := m_crd eo em h1'.fm l.1 l3 0
              have h2 : RR A B Mx M2 := h1'.nr (Fr.rf _ _) f2
              obtain ⟨M3, q3, f3⟩ := m_crd eo (em.fr f2) h2.fm l.1 l3 1
              have h3 : RR A B Mx M3 := h2.nr (Fr.rf _ _) f3
              refine tt_cq q2 (tt_cq q3 ?_)
              refine tt_wl5 (fun M x9 x10 x11 x12 b => RR A B Mx M ∧ x9 = crd A (env (A 388) a2 (12 * a4 + a3) a5) (2 + a1) 0 ∧ x10 = crd A (env (A 388) a2 (12 * a4 + a3) a5) (2 + a1) 1 ∧ (1 ≤ b ∧ b ≤ 100) ∧ x11 = (nbR F (b - 1).toNat).1 ∧ x12 = (nbR F (b - 1).toNat).2) (fun _ _ _ _ _ b => (100 - b).toNat) ?_ FU M3 _ _ 0 1000 1 ⟨h3, rfl, rfl, ⟨by omega, by omega⟩, rfl, rfl⟩ (by unfold FU; omega)
              rintro w M x9 x10 x11 x12 b ⟨hM, rfl, rfl, hb, rfl, rfl⟩ K
              unfold b_X12_whole_89
              refine tt_if (fun h5 => ?_) (fun h5 => ?_)
              · have eb : (b - 1).toNat = 99 := by omega
                rw [eb, ← eN]
                obtain ⟨_, M5, -, q5, h5', -, em5, eo5⟩ := hM.shows (t := a2) (s := 12 * a7 + a6) (b := N) (by omega) hsq hNb
                have h6 := hM.mixm h5'
                refine tt_ok hi1 (tt_ok hi2 (tt_cq q5 ?_))
                rw [eV]
                refine tt_if (fun w => ?_) (fun w => ?_)
                · rw [if_pos w]; exact tt_ret ⟨rfl, h6⟩
                · rw [if_neg w]
                  refine tt_if (fun w1 => ?_) (fun w1 => ?_)
                  · rw [if_pos w1]
                    obtain ⟨M6, q6, f6⟩ := m_crd eo5 em5 h6.fm l.1 l3 0
                    exact tt_cq q6 (tt_ret ⟨rfl, h6.nr (Fr.rf _ _) f6⟩)
                  · rw [if_neg w1]
                    obtain ⟨M6, q6, f6⟩ := m_crd eo5 em5 h6.fm l.1 l3 1
                    exact tt_cq q6 (tt_ok ⟨by omega, by omega⟩ (tt_ret ⟨rfl, h6.nr (Fr.rf _ _) f6⟩))
              · obtain ⟨_, M5, -, q5, h5', -, em5, eo5⟩ := hM.shows (t := a2) (s := 12 * a7 + a6) (b := b) (by omega) hsq ⟨by omega, by omega⟩
                have h6 := hM.mixm h5'
                obtain ⟨M6, q6, f6⟩ := m_crd eo5 em5 h6.fm l.1 l3 0
                have h7 : RR A B Mx M6 := h6.nr (Fr.rf _ _) f6
                have r1 := crd_rng A (env (A 388) a2 (12 * a7 + a6) b) (2 + a1) 0
                have hbn : ((b.toNat : Nat) : Int) = b := by omega
                have hbt : b.toNat = (b - 1).toNat + 1 := by omega
                have hb1 : (b + 1 - 1).toNat = (b - 1).toNat + 1 := by omega
                have eFb : F b.toNat = ((crd A (env (A 388) a2 (12 * a7 + a6) b) (2 + a1) 0 - crd A (env (A 388) a2 (12 * a4 + a3) a5) (2 + a1) 0).natAbs : Int) := by rw [eF]; unfold nbF; rw [hbn]
                have hstep : nbR F (b + 1 - 1).toNat = if F b.toNat < (nbR F (b - 1).toNat).2 then (b, F b.toNat) else nbR F (b - 1).toNat := by
                  rw [hb1, nbR_succ, ← hbt, show (((b - 1).toNat : Nat) : Int) + 1 = b by omega]
                have go : ∀ d, d = F b.toNat → Tt (j_X12_whole_135 a1 a2 a6 a7 a8 w M6 (crd A (env (A 388) a2 (12 * a4 + a3) a5) (2 + a1) 0) (crd A (env (A 388) a2 (12 * a4 + a3) a5) (2 + a1) 1) (nbR F (b - 1).toNat).1 (nbR F (b - 1).toNat).2 b d) (fun r M => r = V ∧ RR A B Mx M) := by
                  intro d hd
                  subst hd
                  unfold j_X12_whole_135
                  refine tt_if (fun w1 => ?_) (fun w1 => ?_)
                  · refine tt_ok ⟨by omega, by omega⟩ (tt_bi (K M6 _ _ _ _ (b + 1) ⟨h7, rfl, rfl, ⟨by omega, by omega⟩, ?_, ?_⟩ (by omega)))
                    · rw [hstep, if_pos w1]
                    · rw [hstep, if_pos w1]
                  · refine tt_ok ⟨by omega, by omega⟩ (tt_bi (K M6 _ _ _ _ (b + 1) ⟨h7, rfl, rfl, ⟨by omega, by omega⟩, ?_, ?_⟩ (by omega)))
                    · rw [hstep, if_neg w1]
                    · rw [hstep, if_neg w1]
                refine tt_ok hi1 (tt_ok hi2 (tt_cq q5 (tt_cq q6 (tt_ok ⟨by omega, by omega⟩ (tt_bi ?_)))))
                refine tt_if (fun w1 => ?_) (fun w1 => ?_)
                · exact go _ (by rw [eFb]; omega)
                · exact tt_ok ⟨by omega, by omega⟩ (go _ (by rw [eFb]; omega))
            · exact absurd hw hw'
          · exact absurd hq hq'
        · exact absurd s s'
      · exact absurd l l'
    obtain ⟨r, M1, e1, rfl, h1⟩ := cx
    obtain ⟨r2, M2, e2, rfl, h2⟩ := cm
    exact (h2.mixx h1).J e1 e2
  · have cx : ∃ M, f_X11_whole Mx a1 a2 a3 a4 a5 a6 a7 a8 = some (-1000, M) ∧ RR A B M Mm := by
      unfold f_X11_whole
      have j0 : ∀ y, j_X11_whole_32 a2 a3 a4 a5 a6 a7 a8 Mx y = some (-1000, Mx) := by
        intro y; unfold j_X11_whole_32 j_X11_whole_33; rw [if_pos rfl]
      obtain ⟨y, ey, hy⟩ := x_lawAt h.ptr h.fx h.lws a1
      rw [ey, cl_some]
      by_cases w1 : a8 < 0
      · rw [if_pos w1, j0]; exact ⟨_, rfl, h⟩
      · rw [if_neg w1]
        by_cases w2 : 2 < a8
        · rw [if_pos w2, j0]; exact ⟨_, rfl, h⟩
        · rw [if_neg w2]
          obtain ⟨q, e, hq⟩ := xx_isSq Mx a6 a7
          rw [e, cl_some]
          rcases hq with ⟨rfl, hq⟩ | ⟨rfl, hq⟩
          · rw [if_neg (by decide)]
            unfold j_X11_whole_33
            rw [if_neg (by decide)]
            rcases hy with ⟨rfl, hy⟩ | ⟨rfl, hy⟩
            · have := kd17 _ (h.law hy).1
              rw [if_neg (by omega)]
              rcases h.shw2 a2 a3 a4 a5 with ⟨s, -⟩ | ⟨-, -, x2⟩
              · exact absurd ⟨hy, s, hq, by omega, by omega⟩ hok
              · rw [x2, cl_some, if_pos rfl]; exact ⟨_, rfl, h⟩
            · rw [if_pos rfl]; exact ⟨_, rfl, h⟩
          · rw [if_pos rfl, j0]; exact ⟨_, rfl, h⟩
    have cm : f_X12_whole Mm a1 a2 a3 a4 a5 a6 a7 a8 = some (-1000, Mm) := by
      unfold f_X12_whole
      obtain ⟨y, ey, hy⟩ := m_isLaw h.fm h.lws a1
      rw [ey, cl_some]
      rcases hy with ⟨rfl, hy⟩ | ⟨rfl, hy⟩
      · rw [if_neg (by decide)]
        obtain ⟨z, ez, hz⟩ := m_isShw h.fm h.thg a2 a3 a4 a5
        rw [ez, cl_some]
        rcases hz with ⟨rfl, hz⟩ | ⟨rfl, hz⟩
        · rw [if_neg (by decide)]
          obtain ⟨q, e, hq⟩ := mx_isSq Mm a6 a7
          rw [e, cl_some]
          rcases hq with ⟨rfl, hq⟩ | ⟨rfl, hq⟩
          · rw [if_neg (by decide)]
            obtain ⟨q', e', hq'⟩ := e_isIn Mm a8 0 2
            rw [e', cl_some]
            rcases hq' with ⟨rfl, hq'⟩ | ⟨rfl, hq'⟩
            · exact absurd ⟨hy, hz, hq, hq'⟩ hok
            · rw [if_pos rfl]
          · rw [if_pos rfl]
        · rw [if_pos rfl]
      · rw [if_pos rfl]
    obtain ⟨M, e, h'⟩ := cx
    exact h'.J e cm
end QL
