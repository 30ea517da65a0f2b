/-! CHANCES: the reference's row -/
section QH
variable {A B Mx Mm : Mem}
theorem m_chance (h : RR A B Mx Mm) (t hon : Int) : ∃ Mm1, f_X12_chanceOf Mm t hon = some (chV A t hon, Mm1) ∧ RR A B Mx Mm1 := by
  obtain ⟨n1, n2, n3, n4⟩ := h.n79
  have q0 : Tt (f_X12_chanceOf Mm t hon) (fun r M => r = chV A t hon ∧ RR A B Mx M) := by
    unfold f_X12_chanceOf
    refine tt_wl1 (fun M x => Fr Sc4 Mm M ∧ (0 ≤ x ∧ x ≤ 42) ∧ ∀ j, 0 ≤ j → j < x → M 401 j = 0) (fun _ x => (42 - x).toNat) ?_ FU Mm 0 ⟨Fr.rf _ _, ⟨by omega, by omega⟩, fun j h0 h1 => by omega⟩ (by unfold FU; omega)
    rintro w M x ⟨f1, hx, h1⟩ K
    unfold b_X12_chanceOf_2
    refine tt_if (fun w1 => ?_) (fun w1 => ?_)
    · refine tt_bm ?_
      have f2 : Fr Sc4 Mm (st M 401 0 1000000000000) := Fr.st f1 rfl
      refine tt_wl2 (fun M x3 i => RR A B Mx M ∧ (0 ≤ i ∧ i ≤ A 337 79) ∧ x3 = (fld (chF A t hon) (0, 0, ch0) i.toNat).2.1 ∧ ∀ j, 0 ≤ j → j ≤ 41 → M 401 j = (fld (chF A t hon) (0, 0, ch0) i.toNat).2.2 j) (fun _ _ i => (41 - i).toNat) ?_ FU _ 0 0 ⟨h.f401 f2, ⟨by omega, by omega⟩, rfl, fun j h0 h2 => ?_⟩ (by unfold FU; omega)
      · rintro w3 M x3 i ⟨hM, hi, rfl, hq⟩ K3
        have inv := ch_inv hM t hon i.toNat (by omega)
        unfold b_X12_chanceOf_35
        rw [hM.n79.1]
        refine tt_if (fun w4 => ?_) (fun w4 => ?_)
        · have ei : i = A 337 79 := by omega
          subst ei
          refine tt_wl2 (fun M1 v j => RR A B Mx M1 ∧ ((fld (chF A t hon) (0, 0, ch0) (A 337 79).toNat).2.1 ≤ j ∧ j ≤ 42) ∧ (∀ j, 0 ≤ j → j ≤ 41 → M1 401 j = (fld (chF A t hon) (0, 0, ch0) (A 337 79).toNat).2.2 j) ∧ v = smq (fld (chF A t hon) (0, 0, ch0) (A 337 79).toNat).2.2 (fld (chF A t hon) (0, 0, ch0) (A 337 79).toNat).2.1 (j - (fld (chF A t hon) (0, 0, ch0) (A 337 79).toNat).2.1).toNat) (fun _ _ j => (42 - j).toNat) ?_ FU M 0 _ ⟨hM, ⟨Int.le_refl _, by omega⟩, hq, by rw [Int.sub_self]; rfl⟩ (by unfold FU; omega)
          rintro w5 M1 v j ⟨h5, hj, hq5, rfl⟩ K5
          unfold b_X12_chanceOf_177
          refine tt_if (fun w6 => ?_) (fun w6 => ?_)
          · refine tt_ret ⟨?_, h5⟩
            unfold chV
            rw [show (j - (fld (chF A t hon) (0, 0, ch0) (A 337 79).toNat).2.1).toNat = (41 - (fld (chF A t hon) (0, 0, ch0) (A 337 79).toNat).2.1).toNat + 1 by omega]
            show smq _ _ _ + _ = _
            rw [show (fld (chF A t hon) (0, 0, ch0) (A 337 79).toNat).2.1 + (((41 - (fld (chF A t hon) (0, 0, ch0) (A 337 79).toNat).2.1).toNat : Nat) : Int) = 41 by omega, inv.2.2.1 41 (by omega), Int.add_zero]
          · have sr := smq_rng inv.2.2 (fld (chF A t hon) (0, 0, ch0) (A 337 79).toNat).2.1 (j - (fld (chF A t hon) (0, 0, ch0) (A 337 79).toNat).2.1).toNat
            have qr := inv.2.2.2.2 j
            rw [hq5 j (by omega) (by omega)]
            refine tt_ok ⟨by omega, by omega⟩ (tt_ok ⟨by omega, by omega⟩ (tt_bi (tt_bi (K5 M1 _ (j + 1) ⟨h5, ⟨by omega, by omega⟩, hq5, ?_⟩ (by omega)))))
            rw [show (j + 1 - (fld (chF A t hon) (0, 0, ch0) (A 337 79).toNat).2.1).toNat = (j - (fld (chF A t hon) (0, 0, ch0) (A 337 79).toNat).2.1).toNat + 1 by omega]
            show _ = smq _ _ _ + _
            rw [show (fld (chF A t hon) (0, 0, ch0) (A 337 79).toNat).2.1 + (((j - (fld (chF A t hon) (0, 0, ch0) (A 337 79).toNat).2.1).toNat : Nat) : Int) = j by omega]
        · obtain ⟨h2, ha, -⟩ := hM.tx hi.1 (show i < A 337 79 by omega)
          have hs := hM.sr (hM.th hi.1 (show i < A 337 79 by omega))
          have hn := hM.nt (hM.th hi.1 (show i < A 337 79 by omega))
          have skip : ¬ chD A t hon i → Tt (w3 M (fld (chF A t hon) (0, 0, ch0) i.toNat).2.1 (i + 1)) (fun r M => r = chV A t hon ∧ RR A B Mx M) := by
            intro hn
            have e : fld (chF A t hon) (0, 0, ch0) (i + 1).toNat = fld (chF A t hon) (0, 0, ch0) i.toNat := by rw [fld_succ _ _ _ hi.1, chF_f hn]
            exact K3 M _ (i + 1) ⟨hM, ⟨by omega, by omega⟩, by rw [e], by rw [e]; exact hq⟩ (by omega)
          have go : chD A t hon i → Tt (j_X12_chanceOf_80 t hon w3 M (fld (chF A t hon) (0, 0, ch0) i.toNat).2.1 i) (fun r M => r = chV A t hon ∧ RR A B Mx M) := by
            intro hd
            have e : fld (chF A t hon) (0, 0, ch0) (i + 1).toNat = ((fld (chF A t hon) (0, 0, ch0) i.toNat).1 + 1, (fld (chF A t hon) (0, 0, ch0) i.toNat).2.1 + bI (A 395 i = A 396 i), chS (A 374 (5 + A 392 i)) (fld (chF A t hon) (0, 0, ch0) i.toNat).2.2) := by rw [fld_succ _ _ _ hi.1, chF_t hd]
            have body : ∀ y, y = (fld (chF A t hon) (0, 0, ch0) i.toNat).2.1 + bI (A 395 i = A 396 i) → Tt (j_X12_chanceOf_92 t hon w3 M y i) (fun r M => r = chV A t hon ∧ RR A B Mx M) := by
              intro y hy
              unfold j_X12_chanceOf_92
              rw [hM.mt (a := 392) i (by omega), hM.m374 (hM.th hi.1 (by omega))]
              refine tt_ok ⟨by omega, by omega⟩ (tt_ok ⟨by omega, by omega⟩ (tt_ok ⟨by omega, by omega⟩ (tt_bi ?_)))
              refine tt_wl4 (fun M1 x3 x4 x5 j => RR A B Mx M1 ∧ x3 = y ∧ x4 = i ∧ x5 = A 374 (5 + A 392 i) ∧ (-1 ≤ j ∧ j ≤ 41) ∧ (∀ u, 0 ≤ u → u ≤ j → M1 401 u = (fld (chF A t hon) (0, 0, ch0) i.toNat).2.2 u) ∧ ∀ u, j < u → u ≤ 41 → M1 401 u = chS (A 374 (5 + A 392 i)) (fld (chF A t hon) (0, 0, ch0) i.toNat).2.2 u) (fun _ _ _ _ j => (j + 1).toNat) ?_ FU M _ _ _ 41 ⟨hM, rfl, rfl, rfl, ⟨by omega, by omega⟩, hq, fun u h0 h1 => by omega⟩ (by unfold FU; omega)
              rintro w5 M1 x3 x4 x5 j ⟨h5, rfl, rfl, rfl, hj, g1, g2⟩ K5
              unfold b_X12_chanceOf_113
              refine tt_if (fun w6 => ?_) (fun w6 => ?_)
              · have ej : j = -1 := by omega
                subst ej
                have hb := bI_01 (p := A 395 x4 = A 396 x4)
                refine tt_ok ⟨by omega, by omega⟩ (tt_bi (K3 M1 _ (x4 + 1) ⟨h5, ⟨by omega, by omega⟩, by rw [e]; exact hy, by rw [e]; exact fun u h0 h1 => g2 u (by omega) h1⟩ (by omega)))
              · have rr := chS_rng hs inv.1.1 inv.2.2 j
                have store : ∀ v, v = chS (A 374 (5 + A 392 x4)) (fld (chF A t hon) (0, 0, ch0) x4.toNat).2.2 j → Tt (w5 (st M1 401 j v) x3 x4 (A 374 (5 + A 392 x4)) (j + -1)) (fun r M => r = chV A t hon ∧ RR A B Mx M) := by
                  intro v hv
                  refine K5 _ _ _ _ (j + -1) ⟨h5.f401 (Fr.st (Fr.rf _ _) rfl), rfl, rfl, rfl, ⟨by omega, by omega⟩, fun u h0 h1 => ?_, fun u h0 h1 => ?_⟩ (by omega)
                  · rw [st_neI (by omega)]; exact g1 u h0 (by omega)
                  · by_cases eu : u = j
                    · subst eu; rw [st_at]; exact hv
                    · rw [st_neI eu]; exact g2 u (by omega) h1
                rw [g1 j (by omega) (Int.le_refl j)]
                refine tt_ok ⟨by omega, by omega⟩ (tt_ok ⟨by omega, by omega⟩ (tt_ok ⟨by omega, by omega⟩ (tt_if (fun w7 => ?_) (fun w7 => ?_))))
                · rw [if_neg (by omega)] at rr
                  refine tt_ok ⟨by omega, by omega⟩ (tt_ok ⟨by omega, by omega⟩ (tt_bm (tt_bi (store _ ?_))))
                  unfold chS; rw [if_neg (by omega)]
                · rw [if_pos (by omega)] at rr
                  rw [g1 (j - 1) (by omega) (by omega)]
                  refine tt_ok ⟨by omega, by omega⟩ (tt_ok ⟨by omega, by omega⟩ (tt_ok ⟨by omega, by omega⟩ (tt_bm (tt_bi (store _ ?_)))))
                  unfold chS; rw [if_pos (by omega)]
            unfold j_X12_chanceOf_80
            refine tt_cq (hM.m_right hi.1 (by omega)) (tt_if (fun w5 => ?_) (fun w5 => ?_))
            · exact body _ (by rw [w5]; omega)
            · have b1 : bI (A 395 i = A 396 i) = 1 := bI_01.resolve_left w5
              exact tt_ok ⟨by omega, by omega⟩ (tt_bi (body _ (by rw [b1])))
          obtain ⟨z, ez, hz⟩ := hM.m_of hi.1 h2 t
          refine tt_cq ez ?_
          rcases hz with ⟨rfl, hz⟩ | ⟨rfl, hz⟩
          · refine tt_in (by decide) (tt_if (fun w5 => go ⟨hz, Or.inl w5⟩) (fun w5 => ?_))
            rw [hM.mt (a := 398) i (by omega)]
            refine tt_ok ⟨by omega, by omega⟩ (tt_if (fun w6 => ?_) (fun w6 => ?_))
            · refine tt_cq (hM.m_led hi.1 (by omega)) (tt_if (fun w7 => go ⟨hz, Or.inr ⟨w6, bI_0.mp w7⟩⟩) (fun w7 => tt_bi (skip ?_)))
              rintro ⟨-, z | ⟨-, z⟩⟩
              · exact w5 z
              · exact w7 (bI_0.mpr z)
            · refine tt_bi (skip ?_)
              rintro ⟨-, z | ⟨z, -⟩⟩
              · exact w5 z
              · exact w6 z
          · exact tt_ip rfl (tt_ok ⟨by omega, by omega⟩ (tt_bi (skip (fun z => hz z.1))))
      · show _ = ch0 j
        unfold ch0
        by_cases e : j = 0
        · subst e; rw [st_at, if_pos rfl]
        · rw [st_neI e, if_neg e]; exact h1 j h0 (by omega)
    · refine tt_ok ⟨by omega, by omega⟩ (tt_bm (tt_bi (K _ (x + 1) ⟨Fr.st f1 rfl, ⟨by omega, by omega⟩, fun j h0 h2 => ?_⟩ (by omega))))
      by_cases e : j = x
      · subst e; rw [st_at]
      · rw [st_neI e]; exact h1 j h0 (by omega)
  obtain ⟨r, M1, e, hr, h1⟩ := q0
  exact ⟨M1, by rw [e, hr], h1⟩
theorem J_chance (h : R Mx Mm) (a1 : Int) : Jt (f_X11_chance Mx a1) (f_X12_chance Mm a1) := by
  obtain ⟨A, B, h⟩ := h
  unfold f_X11_chance f_X12_chance
  rcases h.ta2 a1 with ⟨t, e1, e2⟩ | ⟨t, e1, e2, e3⟩
  · obtain ⟨M1, q1, h1⟩ := x_chance h a1 0
    obtain ⟨M2, q2, h2⟩ := m_chance h a1 0
    refine (h2.mixx h1).J (r := chV A a1 0) (by rw [e1, cl_some, if_neg (by decide), q1, cl_some]) ?_
    unfold j_X12_chance_19
    rcases e2 with e2 | ⟨w, e2⟩
    · rw [if_pos e2, q2, cl_some]
    · rw [if_neg w, e2, cl_some, if_neg (by decide), q2, cl_some]
  · exact h.J (r := -1) (by rw [e1, cl_some, if_pos rfl]) (by rw [if_neg e2, e3, cl_some, if_pos rfl])
theorem J_honest (h : R Mx Mm) (a1 : Int) : Jt (f_X11_honest Mx a1) (f_X12_honest Mm a1) := by
  obtain ⟨A, B, h⟩ := h
  unfold f_X11_honest f_X12_honest
  rcases h.ta2 a1 with ⟨t, e1, e2⟩ | ⟨t, e1, e2, e3⟩
  · obtain ⟨M1, q1, h1⟩ := x_chance h a1 1
    obtain ⟨M2, q2, h2⟩ := m_chance h a1 1
    refine (h2.mixx h1).J (r := chV A a1 1) (by rw [e1, cl_some, if_neg (by decide), q1, cl_some]) ?_
    unfold j_X12_honest_19
    rcases e2 with e2 | ⟨w, e2⟩
    · rw [if_pos e2, q2, cl_some]
    · rw [if_neg w, e2, cl_some, if_neg (by decide), q2, cl_some]
  · exact h.J (r := -1) (by rw [e1, cl_some, if_pos rfl]) (by rw [if_neg e2, e3, cl_some, if_pos rfl])
end QH
