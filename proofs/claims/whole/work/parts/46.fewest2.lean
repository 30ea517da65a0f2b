/-! the FEWEST: the reference's row -/
section QF
variable {A B Mx Mm : Mem}
theorem m_fewest (h : RR A B Mx Mm) {k : Int} (l : isLw A k) (m : Int) : ∃ Mm1, f_X12_fewest Mm k m = some (fwE A (2 + k) m, Mm1) ∧ RR A B Mx Mm1 := by
  obtain ⟨n1, n2, n3, n4⟩ := h.n79
  have hl3 := (h.law l).2.2.1.1
  have hkk := l.1
  have q : Tt (f_X12_fewest Mm k m) (fun r M => r = fwE A (2 + k) m ∧ RR A B Mx M) := by
    unfold f_X12_fewest
    rcases h.law2 k with ⟨-, -, m1, -⟩ | ⟨l', -⟩
    · refine tt_cq m1 (tt_in (by decide) ?_)
      refine tt_wl2 (fun M x i => RR A B Mx M ∧ (0 ≤ i ∧ i ≤ A 337 79) ∧ x = (fwV A (2 + k) i.toNat).1 ∧ ∀ j, 0 ≤ j → j < (fwV A (2 + k) i.toNat).1 → M 402 j = (fwV A (2 + k) i.toNat).2 j) (fun _ _ i => (41 - i).toNat) ?_ FU Mm 0 0 ⟨h, ⟨by omega, by omega⟩, rfl, fun j h0 h1 => by have : j < 0 := h1; omega⟩ (by unfold FU; omega)
      rintro w M x i ⟨hM, hi, rfl, hq⟩ K
      have hr := fwV_rng A (2 + k) i.toNat
      unfold b_X12_fewest_15
      rw [hM.n79.1]
      refine tt_if (fun w1 => ?_) (fun w1 => ?_)
      · have ei : i = A 337 79 := by omega
        subst ei
        have hw := ishl_1 (w := A 366 (2 + k)) hl3
        refine tt_wl3 (fun M1 x3 x4 s => M1 = M ∧ x3 = (fwV A (2 + k) (A 337 79).toNat).1 ∧ (0 ≤ s ∧ s ≤ ishl 1 (A 366 (2 + k))) ∧ x4 = bsV (fwV A (2 + k) (A 337 79).toNat).2 (fwV A (2 + k) (A 337 79).toNat).1.toNat s.toNat) (fun _ _ _ s => (33 - s).toNat) ?_ FU M _ (-1) 0 ⟨rfl, rfl, ⟨by omega, by omega⟩, rfl⟩ (by unfold FU; omega)
        rintro w2 M1 x3 x4 s ⟨rfl, rfl, hs, rfl⟩ K2
        have hb := bsV_rng (fwV A (2 + k) (A 337 79).toNat).2 (fwV A (2 + k) (A 337 79).toNat).1.toNat s.toNat
        unfold b_X12_fewest_119
        rw [hM.rm (a := 366) (i := 2 + k) (by unfold ScM; omega)]
        refine tt_ok ⟨by omega, by omega⟩ (tt_ok ⟨by omega, by omega⟩ (tt_if (fun w3 => ?_) (fun w3 => ?_)))
        · have es : s = ishl 1 (A 366 (2 + k)) := by omega
          subst es
          unfold fwE
          refine tt_if (fun w4 => ?_) (fun w4 => tt_if (fun w5 => ?_) (fun w5 => ?_))
          · refine tt_ret ⟨?_, hM⟩
            by_cases w5 : m = 0
            · rw [if_pos w5, if_pos w4, w4]
            · rw [if_neg w5]
          · rw [if_pos w5, if_neg w4]
            exact tt_cq (e_many _ ⟨by omega, by omega⟩) (tt_ret ⟨rfl, hM⟩)
          · rw [if_neg w5]; exact tt_ret ⟨rfl, hM⟩
        · have next : ∀ y, y = bsV (fwV A (2 + k) (A 337 79).toNat).2 (fwV A (2 + k) (A 337 79).toNat).1.toNat (s + 1).toNat → Tt (ok (in32 (s + 1)) (bi (s + 1) (fun z => w2 M1 (fwV A (2 + k) (A 337 79).toNat).1 y z))) (fun r M => r = fwE A (2 + k) m ∧ RR A B Mx M) := by
            intro y hy
            exact tt_ok ⟨by omega, by omega⟩ (tt_bi (K2 M1 _ _ (s + 1) ⟨rfl, rfl, ⟨by omega, by omega⟩, hy⟩ (by omega)))
          refine tt_cq (m_enou (by omega) hq) (tt_if (fun w4 => ?_) (fun w4 => tt_if (fun w5 => ?_) (fun w5 => ?_)))
          · exact next _ (by rw [bsV_s _ _ hs.1, bsF_e, if_neg (fun z => z.1 w4)])
          · exact next _ (by rw [bsV_s _ _ hs.1, bsF_e, if_pos ⟨w4, Or.inl w5⟩])
          · refine tt_cq (e_many _ ⟨hs.1, by omega⟩) (tt_cq (e_many _ ⟨by omega, by omega⟩) (tt_if (fun w6 => ?_) (fun w6 => ?_)))
            · exact next _ (by rw [bsV_s _ _ hs.1, bsF_e, if_neg (fun z => z.2.elim w5 (by omega))])
            · exact next _ (by rw [bsV_s _ _ hs.1, bsF_e, if_pos ⟨w4, Or.inr (by omega)⟩])
      · obtain ⟨h2, ha, hx⟩ := hM.tx hi.1 (show i < A 337 79 by omega)
        have skip : ¬ (A 395 i = A 396 i ∧ A 394 i ≠ 0) → Tt (w M (fwV A (2 + k) i.toNat).1 (i + 1)) (fun r M => r = fwE A (2 + k) m ∧ RR A B Mx M) := by
          intro hn
          have e : fwV A (2 + k) (i + 1).toNat = fwV A (2 + k) i.toNat := by rw [fwV_s _ _ _ hi.1, fwF_e, if_neg hn]
          exact K M _ (i + 1) ⟨hM, ⟨by omega, by omega⟩, by rw [e], by rw [e]; exact hq⟩ (by omega)
        refine tt_cq (hM.m_right hi.1 h2) (tt_if (fun w2 => tt_ok ⟨by omega, by omega⟩ (tt_bi (skip (fun z => bI_0.mp w2 z.1)))) (fun w2 => ?_))
        rw [hM.mt (a := 394) i (by omega)]
        refine tt_ok ⟨by omega, by omega⟩ (tt_if (fun w3 => tt_bi (skip (fun z => z.2 w3))) (fun w3 => ?_))
        have c : A 395 i = A 396 i ∧ A 394 i ≠ 0 := ⟨Classical.byContradiction fun z => w2 (bI_0.mpr z), w3⟩
        have ht := hM.nt (hM.th hi.1 (show i < A 337 79 by omega))
        obtain ⟨M1, p1, em, fe⟩ := m_shows hM.sg hM.mg (t := A 392 i) (s := A 393 i) (b := A 394 i) ha.2.1 ha.2.2.1
        have eo := env_ok hM.sg (t := A 392 i) (by omega) ha.2.1 ha.2.2.1
        have q1 : f_X12_showsTrial M i = some (0, M1) := by
          unfold f_X12_showsTrial
          rw [ok_t ⟨hi.1, h2⟩, hM.mt (a := 392) i (by omega), hM.mt (a := 393) i (by omega), hM.mt (a := 394) i (by omega), p1, cl_some]
        have h3' : RR A B Mx M1 := hM.nx (Fr.rf _ _) (fr_Me fe) hM.lc
        obtain ⟨-, -, l3, -, -, -⟩ := h3'.law l
        have e : fwV A (2 + k) (i + 1).toNat = ((fwV A (2 + k) i.toNat).1 + 1, fun j => if j = (fwV A (2 + k) i.toNat).1 then crs A (envT A i) (2 + k) (A 366 (2 + k)).toNat else (fwV A (2 + k) i.toNat).2 j) := by rw [fwV_s _ _ _ hi.1, fwF_e, if_pos c]
        refine tt_cq q1 (tt_ok ⟨by omega, by omega⟩ (tt_bm ?_))
        have h4 : RR A B Mx (st M1 402 (fwV A (2 + k) i.toNat).1 0) := f402 h3' (Fr.st (Fr.rf _ _) rfl)
        refine tt_wl3 (fun M2 x3 x4 j => RR A B Mx M2 ∧ EnvM M2 (envT A i) ∧ x3 = (fwV A (2 + k) i.toNat).1 ∧ x4 = i ∧ (0 ≤ j ∧ j ≤ A 366 (2 + k)) ∧ M2 402 (fwV A (2 + k) i.toNat).1 = crs A (envT A i) (2 + k) j.toNat ∧ ∀ u, 0 ≤ u → u < (fwV A (2 + k) i.toNat).1 → M2 402 u = M 402 u) (fun _ _ _ j => (6 - j).toNat) ?_ FU _ _ _ 0 ⟨h4, ?_, rfl, rfl, ⟨by omega, by omega⟩, st_at _ _ _ _, fun u h0 h1 => ?_⟩ (by unfold FU; omega)
        · rintro w5 M2 x3 x4 j ⟨h5, em5, rfl, rfl, hj, g1, g2⟩ K5
          unfold b_X12_fewest_62
          rw [h5.rm (a := 366) (i := 2 + k) (by unfold ScM; omega)]
          refine tt_ok ⟨by omega, by omega⟩ (tt_ok ⟨by omega, by omega⟩ (tt_if (fun w6 => ?_) (fun w6 => ?_)))
          · have ej : j = A 366 (2 + k) := by omega
            subst ej
            refine tt_ok ⟨by omega, by omega⟩ (tt_bi (tt_ok ⟨by omega, by omega⟩ (tt_bi (K M2 _ (x4 + 1) ⟨h5, ⟨by omega, by omega⟩, by rw [e], ?_⟩ (by omega)))))
            rw [e]
            intro u h0 h1
            have h1' : u < (fwV A (2 + k) x4.toNat).1 + 1 := h1
            show _ = (if u = (fwV A (2 + k) x4.toNat).1 then _ else _)
            by_cases eu : u = (fwV A (2 + k) x4.toNat).1
            · rw [if_pos eu, eu, g1]
            · rw [if_neg eu, g2 u h0 (by omega)]; exact hq u h0 (by omega)
          · obtain ⟨M3, q3, f3⟩ := m_way eo em5 h5.fm l.1 l3 (j := j) ⟨hj.1, by omega⟩
            have h6 : RR A B Mx M3 := h5.nr (Fr.rf _ _) f3
            have k3 : ∀ u, M3 402 u = M2 402 u := fun u => f3 402 u (by unfold ScT; omega)
            refine tt_cq q3 (tt_if (fun w7 => ?_) (fun w7 => ?_))
            · refine tt_ok ⟨by omega, by omega⟩ (tt_bi (K5 M3 _ _ (j + 1) ⟨h6, em5.fr f3, rfl, rfl, ⟨by omega, by omega⟩, ?_, fun u h0 h1 => by rw [k3]; exact g2 u h0 h1⟩ (by omega)))
              have w7' : wayV A (envT A x4) (2 + k) j ≤ 0 := w7
              rw [k3, g1, crs_succ _ _ _ hj.1, if_neg (by omega)]
            · have w7' : ¬ wayV A (envT A x4) (2 + k) j ≤ 0 := w7
              refine tt_ok ⟨by omega, by omega⟩ (tt_bm (tt_ok ⟨by omega, by omega⟩ (tt_bi (K5 _ _ _ (j + 1) ⟨f402 h6 (Fr.st (Fr.rf _ _) rfl), ?_, rfl, rfl, ⟨by omega, by omega⟩, ?_, fun u h0 h1 => by rw [st_neI (by omega), k3]; exact g2 u h0 h1⟩ (by omega)))))
              · have := em5.fr f3
                unfold EnvM at this ⊢
                simpa [st] using this
              · rw [st_at, k3, g1, crs_succ _ _ _ hj.1, if_pos (by omega)]
        · have em' : EnvM M1 (envT A i) := em
          unfold EnvM at em' ⊢
          simpa [st] using em'
        · rw [st_neI (by omega)]
          exact fe 402 u (by unfold ScE; omega)
    · exact absurd l l'
  obtain ⟨r, M1, e, hr, h1⟩ := q
  exact ⟨M1, by rw [e, hr], h1⟩
theorem J_fewest (h : R Mx Mm) (a1 a2 : Int) : Jt (f_X11_fewest Mx a1 a2) (f_X12_fewest Mm a1 a2) := by
  obtain ⟨A, B, h⟩ := h
  rcases h.law2 a1 with ⟨l, x1, m1, z1, k1⟩ | ⟨l, x1, m1⟩
  · obtain ⟨M1, e1, h1⟩ := x_fewest h l a2
    obtain ⟨M2, e2, h2⟩ := m_fewest h l a2
    exact (h2.mixx h1).J e1 e2
  · unfold f_X11_fewest f_X12_fewest
    rw [x1, m1, cl_some, cl_some]; exact h.J (r := -1) (if_pos rfl) (if_pos rfl)
end QF
