/-! ON, alike -/
section ON3
variable {A B Mx Mm : Mem}
theorem okT_e {p : Int} : okT (st A 337 1 0) p ↔ okT A p := by
  unfold okT
  rw [show st A 337 1 0 338 = A 338 from funext fun i => st_neA (by decide), show st A 337 1 0 372 = A 372 from funext fun i => st_neA (by decide), show st A 337 1 0 374 = A 374 from funext fun i => st_neA (by decide)]
theorem RR.m_on (h : RR A B Mx Mm) : Tt (f_X12_on Mm) (fun r M1 => (r = 1 ∧ imgOk A (B 2 1) ∧ Fr S392 Mm M1 ∧ M1 337 1 = 0 ∧ M1 337 79 = A 338 0 ∧ ∀ i, 0 ≤ i → i < A 338 0 → CM (A 338) M1 i) ∨ (r = 0 ∧ ¬ imgOk A (B 2 1) ∧ M1 = st Mm 337 1 0)) := by
  obtain ⟨l1, l2, l3⟩ := h.tap
  have m1 : Mm 337 1 = B 2 1 := (h.rm (by unfold ScM; omega)).trans l1
  have h0 := h.empt
  have e338 : ∀ k, st Mm 337 1 0 338 k = A 338 k := fun k => (st_neA (by decide)).trans (h.rm (by unfold ScM; omega))
  have f0 : Fr S392 Mm (st Mm 337 1 0) := (Fr.rf _ _).st (Or.inr ⟨rfl, Or.inl rfl⟩)
  have e1 := st_at Mm 337 1 0
  unfold f_X12_on
  rw [m1]
  refine tt_bi (tt_bm ?_)
  generalize st Mm 337 1 0 = M0 at *
  refine tt_if (fun c1 => ?_) (fun c1 => ?_)
  · exact tt_ret (Or.inr ⟨rfl, fun q => by have := q.1; omega, rfl⟩)
  have t0 := h.tr (k := 0) (by decide) (by omega)
  rw [e338]
  refine tt_if (fun c2 => ?_) (fun c2 => ?_)
  · exact tt_ret (Or.inr ⟨rfl, fun q => by have := q.2.1; omega, rfl⟩)
  refine tt_ok ⟨by omega, by omega⟩ (tt_ok ⟨by omega, by omega⟩ (tt_if (fun c3 => ?_) (fun c3 => ?_)))
  · have l338 : ln 338 = 900 := by decide +kernel
    have ec : f_X12_checked M0 338 (B 2 1 - 1) = some (ck (A 338) (B 2 1 - 1).toNat, M0) := by
      rw [m_chk M0 ⟨by omega, by omega⟩ (by omega) (fun k k0 k1 => by rw [e338]; exact h.tr k0 (by omega))]
      rw [ck_cg (g := A 338) (fun i hi => e338 i)]
    refine tt_ok ⟨by omega, by omega⟩ (tt_ok ⟨by omega, by omega⟩ ?_)
    rw [ec, cl_some, e338]
    refine tt_if (fun c4 => ?_) (fun c4 => ?_)
    · refine tt_wl2 (fun M1 y x => M1 = M0 ∧ y = B 2 1 ∧ ∃ i, x = 1 + 8 * i ∧ 0 ≤ i ∧ i ≤ A 338 0 ∧ ∀ j, 0 ≤ j → j < i → okT A (1 + 8 * j)) (fun _ _ x => (B 2 1 - 1 - x).toNat) ?_ FU M0 _ 1 ⟨rfl, rfl, 0, rfl, by decide, t0.1, fun i _ _ => by omega⟩ (by have : FU = 1000000000 := rfl; omega)
      intro w M1 y x hI k
      obtain ⟨hM, hy, i, ex, i0, i1, j1⟩ := hI
      rw [hM, hy, ex]
      unfold b_X12_on_66
      refine tt_ok ⟨by omega, by omega⟩ (tt_if (fun c5 => ?_) (fun c5 => ?_))
      · rw [e338]
        refine tt_bm (tt_mono (m_take e338 ⟨t0.1, by omega⟩ (fun k k0 k1 => (h.tr k0 (by omega)).1)) (fun r M1 q => ?_))
        obtain ⟨q1, q2, q3, q4, q5⟩ := q
        exact Or.inl ⟨q1, ⟨by omega, by omega, c3, c4, fun j j0 j1' => j1 j j0 (by omega)⟩, f0.tr q2, by rw [q3, e1], q4, q5⟩
      · obtain ⟨q, e, hq⟩ := h0.m_told (T := A 338) e338 (p := 1 + 8 * i) (by omega) (by omega) (fun k k0 k1 => (h.tr (by omega) (by omega)).1)
        rw [e, cl_some]
        rcases hq with ⟨rfl, hq⟩ | ⟨rfl, hq⟩
        · refine tt_in (by decide) (tt_ok ⟨by omega, by omega⟩ (tt_bi (k _ _ _ ⟨rfl, rfl, i + 1, by omega, by omega, by omega, fun j j0 j1' => ?_⟩ (by omega))))
          by_cases ej : j = i
          · rw [ej]; exact okT_e.mp hq
          · exact j1 j j0 (by omega)
        · exact tt_ip rfl (tt_ret (Or.inr ⟨rfl, fun q => hq (okT_e.mpr (q.2.2.2.2 i i0 (by omega))), rfl⟩))
    · exact tt_ret (Or.inr ⟨rfl, fun q => c4 q.2.2.2.1, rfl⟩)
  · exact tt_ret (Or.inr ⟨rfl, fun q => c3 q.2.2.1, rfl⟩)
theorem J_on (h : R Mx Mm) : Jt (f_X11_on Mx) (f_X12_on Mm) := by
  obtain ⟨A, B, h⟩ := h
  obtain ⟨r2, Mm1, em, hm⟩ := h.m_on
  obtain ⟨q, e, hq⟩ := h.x_isImg
  unfold f_X11_on
  rw [e, cl_some]
  rcases hm with ⟨hr2, hi, fm, m1, m79, mc⟩ | ⟨hr2, hi, hM⟩
  · rcases hq with ⟨rfl, -⟩ | ⟨rfl, hq⟩
    · obtain ⟨g1, g2, g3, g4, g5⟩ := id hi
      have t0 := h.tr (k := 0) (by decide) (by omega)
      rw [if_neg (by decide), e_at h.tp (by decide) (by omega), cl_some]
      obtain ⟨r1, Mx1, ex, hr1, fx, x1, x21, xc⟩ := h.x_on hi
      refine ⟨1, Mx1, Mm1, by rw [ex, hr1], by rw [em, hr2], ?_⟩
      have nA : ∀ {a i : Int}, ¬ S392 a i → mxm S392 Mm1 A a i = A a i := fun q => mxm_out q
      have nB : ∀ {a i : Int}, ¬ S21 a i → mxm S21 Mx1 B a i = B a i := fun q => mxm_out q
      have a1 : mxm S392 Mm1 A 337 1 = 0 := by rw [mxm_in (Or.inr ⟨rfl, Or.inl rfl⟩), m1]
      have a79 : mxm S392 Mm1 A 337 79 = A 338 0 := by rw [mxm_in (Or.inr ⟨rfl, Or.inr rfl⟩), m79]
      have b1 : mxm S21 Mx1 B 2 1 = 0 := by rw [mxm_in (Or.inr (Or.inr ⟨rfl, rfl⟩)), x1]
      have b21 : mxm S21 Mx1 B 21 1 = A 338 0 := by rw [mxm_in (Or.inl rfl), x21]
      refine h.upd (A1 := mxm S392 Mm1 A) (B1 := mxm S21 Mx1 B) (mxm_sim (fun a i q => by unfold S392 at q; unfold SimA; omega)) (mxm_sim (fun a i q => by unfold S21 at q; unfold SimB; omega)) ?_ (h.flt.ext ?_ ?_ ?_ ?_) ?_ (h.chr.ext ?_ ?_ ?_) (h.oct.ext ?_ ?_ ?_ ?_) (mxm_fr fm h.fm) (mxm_fr fx h.fx) (lc_fr fx (fun i => by unfold S21; omega) h.lc)
      case refine_1 =>
        unfold TapR
        rw [a1, b1]
        exact ⟨rfl, ⟨by decide, by decide⟩, fun i i0 i1 => by omega⟩
      case refine_6 =>
        refine ⟨by rw [a79]; exact ⟨t0.1, g2⟩, by rw [a79, b21], fun i i0 i1 => ?_⟩
        rw [a79] at i1
        have hk := g5 i i0 i1
        obtain ⟨k0, k1, k2, k3, k4, k5, k6, k7⟩ := id hk
        have tr : ∀ j, 0 ≤ j → j ≤ 7 → 0 ≤ A 338 (1 + 8 * i + j) ∧ A 338 (1 + 8 * i + j) ≤ 255 := fun j j0 j1 => h.tr (by omega) (by omega)
        have r0 := tr 0 (by decide) (by decide)
        rw [Int.add_zero] at r0
        have r1' := tr 1 (by decide) (by decide)
        have r2' := tr 2 (by decide) (by decide)
        have r3 := tr 3 (by decide) (by decide)
        have r4 := tr 4 (by decide) (by decide)
        have r5 := tr 5 (by decide) (by decide)
        have r6 := tr 6 (by decide) (by decide)
        have r7 := tr 7 (by decide) (by decide)
        obtain ⟨c0, c1, c2, c3, c4, c5, c6, c7, c8⟩ := mc i i0 i1
        have inA : ∀ a, 392 ≤ a → a ≤ 400 → mxm S392 Mm1 A a i = Mm1 a i := fun a a0 a1 => mxm_in (Or.inl ⟨a0, a1⟩)
        have inB : ∀ j, mxm S21 Mx1 B (23 + i) j = Mx1 (23 + i) j := fun j => mxm_in (Or.inr (Or.inl ⟨by omega, by omega⟩))
        have v0 : tvl (A 338) (1 + 8 * i) 0 = A 338 (1 + 8 * i) := rfl
        have v1 : tvl (A 338) (1 + 8 * i) 1 = A 338 (1 + 8 * i + 1) := rfl
        have v2 : tvl (A 338) (1 + 8 * i) 2 = A 338 (1 + 8 * i + 2) := rfl
        have v3 : tvl (A 338) (1 + 8 * i) 3 = A 338 (1 + 8 * i + 3) := rfl
        have v4 : tvl (A 338) (1 + 8 * i) 4 = A 338 (1 + 8 * i + 4) := rfl
        have v5 : tvl (A 338) (1 + 8 * i) 5 = if A 338 (1 + 8 * i + 5) % 2 = 1 then 1 else 0 := rfl
        have v6 : tvl (A 338) (1 + 8 * i) 6 = A 338 (1 + 8 * i + 6) := rfl
        have v7 : tvl (A 338) (1 + 8 * i) 7 = if A 338 (1 + 8 * i + 5) ≤ 1 then 0 else 1 := rfl
        have v8 : tvl (A 338) (1 + 8 * i) 8 = if A 338 (1 + 8 * i + 7) = 255 then -1 else A 338 (1 + 8 * i + 7) := rfl
        constructor
        · unfold TrlA
          simp only [inA 392 (by decide) (by decide), inA 393 (by decide) (by decide), inA 394 (by decide) (by decide), inA 395 (by decide) (by decide), inA 396 (by decide) (by decide), inA 397 (by decide) (by decide), inA 398 (by decide) (by decide), inA 399 (by decide) (by decide), inA 400 (by decide) (by decide), nA (a := 372) (i := 1) (by unfold S392; omega)]
          rw [show mxm S392 Mm1 A 374 = A 374 from funext fun i => nA (by unfold S392; omega), c0, c1, c2, c3, c4, c5, c6, c7, c8, v0, v1, v2, v3, v4, v5, v6, v7, v8]
          refine ⟨⟨r0.1, k0⟩, ⟨r1'.1, k1⟩, ⟨r2'.1, k2⟩, ⟨r3.1, k3⟩, ⟨r4.1, k4⟩, ?_, ?_, ?_, ⟨r6.1, k6⟩⟩
          · split
            · exact Or.inr rfl
            · exact Or.inl rfl
          · split
            · exact Or.inl rfl
            · exact Or.inr rfl
          · rcases k7 with k7 | k7
            · rw [if_pos k7]; omega
            · split
              · omega
              · exact ⟨by omega, k7⟩
        · unfold TrlX
          simp only [inA 392 (by decide) (by decide), inA 393 (by decide) (by decide), inA 394 (by decide) (by decide), inA 395 (by decide) (by decide), inA 396 (by decide) (by decide), inA 397 (by decide) (by decide), inA 398 (by decide) (by decide), inA 399 (by decide) (by decide), inA 400 (by decide) (by decide), inB]
          rw [c0, c1, c2, c3, c4, c5, c6, c7, c8]
          exact ⟨xc i i0 i1 0 (by decide) (by decide), xc i i0 i1 1 (by decide) (by decide), xc i i0 i1 2 (by decide) (by decide), xc i i0 i1 3 (by decide) (by decide), xc i i0 i1 4 (by decide) (by decide), xc i i0 i1 5 (by decide) (by decide), xc i i0 i1 6 (by decide) (by decide), xc i i0 i1 7 (by decide) (by decide), xc i i0 i1 8 (by decide) (by decide)⟩
      all_goals first | exact nA (by unfold S392; omega) | exact nB (by unfold S21; omega) | exact fun i => nA (by unfold S392; omega) | exact fun i => nB (by unfold S21; omega) | exact funext fun i => nA (by unfold S392; omega)
    · exact absurd hi hq
  · rcases hq with ⟨rfl, hq⟩ | ⟨rfl, hq⟩
    · exact absurd hq hi
    · refine ⟨0, st Mx 2 1 0, st Mm 337 1 0, ?_, by rw [em, hr2, hM], _, _, h.empt⟩
      rw [if_pos rfl, bm_e, ok_t (Or.inl rfl)]
end ON3
