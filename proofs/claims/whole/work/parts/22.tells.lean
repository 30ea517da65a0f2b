/-! 'tells' of the reference: the value of code -/
theorem bin1 (a b : Int) : bin 1 a b = clp (a + b) (-1000000) 1000000 := (if_pos rfl)
theorem bin2 (a b : Int) : bin 2 a b = clp (a - b) (-1000000) 1000000 := ((if_neg (by decide)).trans (if_pos rfl))
theorem bin3 (a b : Int) : bin 3 a b = clp (a * b) (-1000000) 1000000 := ((if_neg (by decide)).trans ((if_neg (by decide)).trans (if_pos rfl)))
theorem bin4 (a b : Int) : bin 4 a b = (if b = 0 then 0 else a.fdiv b) := ((if_neg (by decide)).trans ((if_neg (by decide)).trans ((if_neg (by decide)).trans (if_pos rfl))))
theorem bin5 (a b : Int) : bin 5 a b = min a b := ((if_neg (by decide)).trans ((if_neg (by decide)).trans ((if_neg (by decide)).trans ((if_neg (by decide)).trans (if_pos rfl)))))
theorem bin6 (a b : Int) : bin 6 a b = max a b := ((if_neg (by decide)).trans ((if_neg (by decide)).trans ((if_neg (by decide)).trans ((if_neg (by decide)).trans ((if_neg (by decide)).trans (if_pos rfl))))))
theorem bin11 (a b : Int) : bin 11 a b = bI (a < b) := ((if_neg (by decide)).trans ((if_neg (by decide)).trans ((if_neg (by decide)).trans ((if_neg (by decide)).trans ((if_neg (by decide)).trans ((if_neg (by decide)).trans (if_pos rfl)))))))
theorem bin12 (a b : Int) : bin 12 a b = bI (b < a) := ((if_neg (by decide)).trans ((if_neg (by decide)).trans ((if_neg (by decide)).trans ((if_neg (by decide)).trans ((if_neg (by decide)).trans ((if_neg (by decide)).trans ((if_neg (by decide)).trans (if_pos rfl))))))))
theorem bin13 (a b : Int) : bin 13 a b = bI (a = b) := ((if_neg (by decide)).trans ((if_neg (by decide)).trans ((if_neg (by decide)).trans ((if_neg (by decide)).trans ((if_neg (by decide)).trans ((if_neg (by decide)).trans ((if_neg (by decide)).trans ((if_neg (by decide)).trans (if_pos rfl)))))))))
theorem bin14 (a b : Int) : bin 14 a b = a * b := ((if_neg (by decide)).trans ((if_neg (by decide)).trans ((if_neg (by decide)).trans ((if_neg (by decide)).trans ((if_neg (by decide)).trans ((if_neg (by decide)).trans ((if_neg (by decide)).trans ((if_neg (by decide)).trans ((if_neg (by decide)).trans (if_pos rfl))))))))))
theorem bin15 (a b : Int) : bin 15 a b = bI (0 < a + b) := ((if_neg (by decide)).trans ((if_neg (by decide)).trans ((if_neg (by decide)).trans ((if_neg (by decide)).trans ((if_neg (by decide)).trans ((if_neg (by decide)).trans ((if_neg (by decide)).trans ((if_neg (by decide)).trans ((if_neg (by decide)).trans (if_neg (by decide)))))))))))
def EnvM (M : Mem) (e : Int → Int) : Prop := M 337 68 = e 14 ∧ M 337 69 = e 15 ∧ M 337 70 = e 16 ∧ M 337 71 = e 0 ∧ M 337 72 = e 17 ∧ M 337 73 = e 18
def EnvX (M : Mem) (e : Int → Int) : Prop := M 11 14 = e 14 ∧ M 11 15 = e 15 ∧ M 11 16 = e 16 ∧ M 11 0 = e 0 ∧ M 11 17 = e 17 ∧ M 11 18 = e 18
def ScT (a i : Int) : Prop := a = 387 ∨ (a = 337 ∧ i = 67)
def ScR (a _i : Int) : Prop := a = 12
theorem e_puts {M : Mem} {s : List Int} (hp : M 337 67 = s.length) (hl : s.length < 1000) (hs : Stk M 387 s) (x : Int) : ∃ M1, f_X12_puts M x = some (0, M1) ∧ M1 337 67 = ((x :: s).length : Int) ∧ Stk M1 387 (x :: s) ∧ Fr ScT M M1 := by
  refine ⟨_, by
    unfold f_X12_puts
    rw [hp, ok_t ⟨by omega, by omega⟩]
    show ok (in32 (st M 387 s.length x 337 67 + 1)) _ = _
    rw [st_neA (by decide), hp, ok_t ⟨by omega, by omega⟩]
    rfl, ?_, ?_, ?_⟩
  · rw [st_at]; simp
  · refine ⟨?_, ?_⟩
    · rw [st_neA (by decide), st_at]
    · have : Stk (st M 387 (s.length : Int) x) 387 s := hs.st (Int.le_refl _)
      exact this.fr (fun i _ _ => st_neA (by decide))
  · exact Fr.st (Fr.st (Fr.rf _ _) (Or.inl rfl)) (Or.inr ⟨rfl, rfl⟩)
theorem Stk.at0 {M : Mem} {a x : Int} {r : List Int} (h : Stk M a (x :: r)) : M a ((x :: r).length - 1 : Int) = x := by
  rw [show ((x :: r).length : Int) - 1 = r.length by simp]; exact h.1
theorem Stk.at1 {M : Mem} {a x y : Int} {r : List Int} (h : Stk M a (x :: y :: r)) : M a ((x :: y :: r).length - 2 : Int) = y := by
  rw [show ((x :: y :: r).length : Int) - 2 = r.length by simp; omega]; exact h.2.1
theorem e_joins {M : Mem} {v a b : Int} {s : List Int} (hp : M 337 67 = ((b :: a :: s).length : Int)) (hl : s.length < 900) (hs : Stk M 387 (b :: a :: s)) (ha : -1000000 ≤ a ∧ a ≤ 1000000) (hb : -1000000 ≤ b ∧ b ≤ 1000000) (hv : (1 ≤ v ∧ v ≤ 6) ∨ (11 ≤ v ∧ v ≤ 15)) : ∃ M1, f_X12_joins M v = some (0, M1) ∧ M1 337 67 = ((bin v a b :: s).length : Int) ∧ Stk M1 387 (bin v a b :: s) ∧ Fr ScT M M1 := by
  have hL : ((b :: a :: s).length : Int) = s.length + 2 := by simp; omega
  have h0 := hs.at0
  have h1 := hs.at1
  rw [hL] at h0 h1 hp
  have hM : ∃ M7 : Mem, M7 = st M 337 67 ((s.length : Int) + 2 - 2) := ⟨_, rfl⟩
  obtain ⟨M7, e7⟩ := hM
  have p7 : M7 337 67 = s.length := by rw [e7, st_at]; omega
  have s7 : Stk M7 387 s := by
    rw [e7]; exact hs.2.2.fr (fun i _ _ => st_neA (by decide))
  have f7 : Fr ScT M M7 := by rw [e7]; exact Fr.st (Fr.rf _ _) (Or.inr ⟨rfl, rfl⟩)
  have go : ∀ x, ∃ M1, f_X12_puts M7 x = some (0, M1) ∧ M1 337 67 = ((x :: s).length : Int) ∧ Stk M1 387 (x :: s) ∧ Fr ScT M M1 := by
    intro x
    obtain ⟨M1, q1, q2, q3, q4⟩ := e_puts p7 (by omega) s7 x
    exact ⟨M1, q1, q2, q3, f7.tr q4⟩
  have hab : -1000000000000 ≤ a * b ∧ a * b ≤ 1000000000000 := by
    have := Int.natAbs_mul a b
    have : a.natAbs * b.natAbs ≤ 1000000 * 1000000 := Nat.mul_le_mul (by omega) (by omega)
    omega
  have goK : ∀ {x y : Int} , x = y → ∃ M1, cl (f_X12_puts M7 x) (fun _ M2 => some (0, M2)) = some (0, M1) ∧ M1 337 67 = ((y :: s).length : Int) ∧ Stk M1 387 (y :: s) ∧ Fr ScT M M1 := by
    rintro x y rfl
    obtain ⟨M1, q1, q2, q3, q4⟩ := go x
    exact ⟨M1, by rw [q1]; rfl, q2, q3, q4⟩
  unfold f_X12_joins
  rw [hp, ok_t (show in32 ((s.length : Int) + 2 - 1) from ⟨by omega, by omega⟩), ok_t (show 0 ≤ (s.length : Int) + 2 - 1 ∧ (s.length : Int) + 2 - 1 < 1000 from ⟨by omega, by omega⟩), h0]
  show ∃ M1, ok (in32 ((s.length : Int) + 2 - 2)) _ = _ ∧ _
  rw [ok_t (show in32 ((s.length : Int) + 2 - 2) from ⟨by omega, by omega⟩), ok_t (show 0 ≤ (s.length : Int) + 2 - 2 ∧ (s.length : Int) + 2 - 2 < 1000 from ⟨by omega, by omega⟩), h1, ← e7]
  show ∃ M1, (if v = 1 then _ else _) = _ ∧ _
  have hj : j_X12_joins_271 M7 b a = cl (f_X12_puts M7 (bI (0 < a + b))) (fun _ M2 => some (0, M2)) := by
    unfold j_X12_joins_271
    rw [ok_t (show in64 (a + b) from ⟨by omega, by omega⟩)]
    by_cases h : a + b ≤ 0
    · rw [if_pos h, bI_f (by omega)]
    · rw [if_neg h, bI_t (by omega)]
  rcases hv with hv | hv
  · have hc : v = 1 ∨ v = 2 ∨ v = 3 ∨ v = 4 ∨ v = 5 ∨ v = 6 := by omega
    rcases hc with rfl | rfl | rfl | rfl | rfl | rfl
    · rw [if_pos rfl, ok_t (show in64 (a + b) from ⟨by omega, by omega⟩), e_clip, cl_some]
      exact goK (bin1 a b).symm
    · rw [if_neg (by decide), if_pos rfl, ok_t (show in64 (a - b) from ⟨by omega, by omega⟩), e_clip, cl_some]
      exact goK (bin2 a b).symm
    · rw [if_neg (by decide), if_neg (by decide), if_pos rfl, ok_t (show in64 (a * b) from ⟨by omega, by omega⟩), e_clip, cl_some]
      exact goK (bin3 a b).symm
    · rw [if_neg (by decide), if_neg (by decide), if_neg (by decide), if_pos rfl, e_floor _ ha hb, cl_some]
      exact goK (bin4 a b).symm
    · rw [if_neg (by decide), if_neg (by decide), if_neg (by decide), if_neg (by decide), if_pos rfl]
      by_cases h : b ≤ a
      · rw [if_pos h]; exact goK (show b = bin 5 a b by rw [bin5]; omega)
      · rw [if_neg h]; exact goK (show a = bin 5 a b by rw [bin5]; omega)
    · rw [if_neg (by decide), if_neg (by decide), if_neg (by decide), if_neg (by decide), if_neg (by decide), if_pos rfl]
      by_cases h : a ≤ b
      · rw [if_pos h]; exact goK (show b = bin 6 a b by rw [bin6]; omega)
      · rw [if_neg h]; exact goK (show a = bin 6 a b by rw [bin6]; omega)
  · have hc : v = 11 ∨ v = 12 ∨ v = 13 ∨ v = 14 ∨ v = 15 := by omega
    rcases hc with rfl | rfl | rfl | rfl | rfl
    · simp only [show ¬ ((11 : Int) = 1) by decide, show ¬ ((11 : Int) = 2) by decide, show ¬ ((11 : Int) = 3) by decide, show ¬ ((11 : Int) = 4) by decide, show ¬ ((11 : Int) = 5) by decide, show ¬ ((11 : Int) = 6) by decide, show ¬ ((11 : Int) = 7) by decide, show ¬ ((11 : Int) = 8) by decide, show ¬ ((11 : Int) = 9) by decide, show ¬ ((11 : Int) = 10) by decide, if_false, if_true]
      by_cases h : b ≤ a
      · rw [if_pos h]; exact goK (show 0 = bin 11 a b from ((bin11 a b).trans (bI_f (by omega))).symm)
      · rw [if_neg h]; exact goK (show 1 = bin 11 a b from ((bin11 a b).trans (bI_t (by omega))).symm)
    · simp only [show ¬ ((12 : Int) = 1) by decide, show ¬ ((12 : Int) = 2) by decide, show ¬ ((12 : Int) = 3) by decide, show ¬ ((12 : Int) = 4) by decide, show ¬ ((12 : Int) = 5) by decide, show ¬ ((12 : Int) = 6) by decide, show ¬ ((12 : Int) = 7) by decide, show ¬ ((12 : Int) = 8) by decide, show ¬ ((12 : Int) = 9) by decide, show ¬ ((12 : Int) = 10) by decide, show ¬ ((12 : Int) = 11) by decide, if_false, if_true]
      by_cases h : a ≤ b
      · rw [if_pos h]; exact goK (show 0 = bin 12 a b from ((bin12 a b).trans (bI_f (by omega))).symm)
      · rw [if_neg h]; exact goK (show 1 = bin 12 a b from ((bin12 a b).trans (bI_t (by omega))).symm)
    · simp only [show ¬ ((13 : Int) = 1) by decide, show ¬ ((13 : Int) = 2) by decide, show ¬ ((13 : Int) = 3) by decide, show ¬ ((13 : Int) = 4) by decide, show ¬ ((13 : Int) = 5) by decide, show ¬ ((13 : Int) = 6) by decide, show ¬ ((13 : Int) = 7) by decide, show ¬ ((13 : Int) = 8) by decide, show ¬ ((13 : Int) = 9) by decide, show ¬ ((13 : Int) = 10) by decide, show ¬ ((13 : Int) = 11) by decide, show ¬ ((13 : Int) = 12) by decide, if_false, if_true]
      by_cases h : a = b
      · rw [if_pos h]; exact goK (show 1 = bin 13 a b from ((bin13 a b).trans (bI_t h)).symm)
      · rw [if_neg h]; exact goK (show 0 = bin 13 a b from ((bin13 a b).trans (bI_f h)).symm)
    · simp only [show ¬ ((14 : Int) = 1) by decide, show ¬ ((14 : Int) = 2) by decide, show ¬ ((14 : Int) = 3) by decide, show ¬ ((14 : Int) = 4) by decide, show ¬ ((14 : Int) = 5) by decide, show ¬ ((14 : Int) = 6) by decide, show ¬ ((14 : Int) = 7) by decide, show ¬ ((14 : Int) = 8) by decide, show ¬ ((14 : Int) = 9) by decide, show ¬ ((14 : Int) = 10) by decide, show ¬ ((14 : Int) = 11) by decide, show ¬ ((14 : Int) = 12) by decide, show ¬ ((14 : Int) = 13) by decide, if_false, if_true]
      rw [ok_t (show in64 (a * b) from ⟨by omega, by omega⟩)]
      exact goK (bin14 a b).symm
    · simp only [show ¬ ((15 : Int) = 1) by decide, show ¬ ((15 : Int) = 2) by decide, show ¬ ((15 : Int) = 3) by decide, show ¬ ((15 : Int) = 4) by decide, show ¬ ((15 : Int) = 5) by decide, show ¬ ((15 : Int) = 6) by decide, show ¬ ((15 : Int) = 7) by decide, show ¬ ((15 : Int) = 8) by decide, show ¬ ((15 : Int) = 9) by decide, show ¬ ((15 : Int) = 10) by decide, show ¬ ((15 : Int) = 11) by decide, show ¬ ((15 : Int) = 12) by decide, show ¬ ((15 : Int) = 13) by decide, show ¬ ((15 : Int) = 14) by decide, if_false]
      rw [hj]
      exact goK (bin15 a b).symm
theorem EnvM.fr {M M1 : Mem} {e : Int → Int} (h : EnvM M e) (hf : Fr ScT M M1) : EnvM M1 e := by
  have g : ∀ i : Int, i ≠ 67 → M1 337 i = M 337 i := fun i hi => hf 337 i (by rintro (q | q); exact absurd q (by decide); exact hi q.2)
  obtain ⟨h1, h2, h3, h4, h5, h6⟩ := h
  exact ⟨(g _ (by decide)).trans h1, (g _ (by decide)).trans h2, (g _ (by decide)).trans h3, (g _ (by decide)).trans h4, (g _ (by decide)).trans h5, (g _ (by decide)).trans h6⟩
theorem vt_two {t1 t2 : Bool} {ts : List Bool} {b a : Int} {s : List Int} (h : vt (t1 :: t2 :: ts) (b :: a :: s)) : (-1000000 ≤ a ∧ a ≤ 1000000) ∧ (-1000000 ≤ b ∧ b ≤ 1000000) := by
  have q1 := h.1
  have q2 := h.2.1
  split at q1 <;> split at q2 <;> constructor <;> omega
theorem tst_bin {v : Int} {ts t2 : List Bool} (h : tst v ts = some t2) (h1 : ¬ tells0 v = true) (h2 : ¬ v = 17) (h3 : ¬ v = 16) : ((1 ≤ v ∧ v ≤ 6) ∨ (11 ≤ v ∧ v ≤ 15)) ∧ ∃ x y r z, ts = x :: y :: r ∧ t2 = z :: r := by
  unfold tst at h
  rw [if_neg h1, if_neg h2, if_neg h3] at h
  by_cases h4 : 1 ≤ v ∧ v ≤ 6
  · rw [if_pos h4] at h
    match ts, h with
    | false :: false :: r, h => cases h; exact ⟨Or.inl h4, _, _, _, _, rfl, rfl⟩
  · rw [if_neg h4] at h
    by_cases h5 : 11 ≤ v ∧ v ≤ 13
    · rw [if_pos h5] at h
      match ts, h with
      | false :: false :: r, h => cases h; exact ⟨Or.inr ⟨by omega, by omega⟩, _, _, _, _, rfl, rfl⟩
    · rw [if_neg h5] at h
      by_cases h6 : v = 14 ∨ v = 15
      · rw [if_pos h6] at h
        match ts, h with
        | true :: true :: r, h => cases h; exact ⟨Or.inr ⟨by omega, by omega⟩, _, _, _, _, rfl, rfl⟩
      · rw [if_neg h6] at h; cases h
theorem tells_step {e : Int → Int} {M : Mem} {v : Int} {ts t2 : List Bool} {s : List Int} (hE : EnvM M e) (h : tst v ts = some t2) (hv : vt ts s) (hl : ts.length ≤ 60) (hp : M 337 67 = s.length) (hs : Stk M 387 s) (Q : Int → Mem → Prop) (w : Mem → Int → Res) (x3 : Int) (hx : 0 ≤ x3 ∧ x3 < 5400) (hcode : M 360 x3 = v) (a2 : Int) (ha : x3 < a2) (k : ∀ M1 : Mem, M1 337 67 = (est e v s).length → Stk M1 387 (est e v s) → Fr ScT M M1 → Tt (w M1 (x3 + 1)) Q) : Tt (b_X12_tells_7 a2 w M x3) Q := by
  have hlen := vt_len hv
  have push : ∀ x, est e v s = x :: s → Tt (cl (f_X12_puts M x) (fun _ M2 => bi (x3 + 1) (fun y => w M2 y))) Q := by
    intro x hx2
    obtain ⟨M1, q1, q2, q3, q4⟩ := e_puts hp (by omega) hs x
    rw [q1, cl_some]
    refine tt_bi ?_
    exact k M1 (by rw [hx2]; exact q2) (by rw [hx2]; exact q3) q4
  obtain ⟨e1, e2, e3, e4, e5, e6⟩ := hE
  unfold b_X12_tells_7
  refine tt_in (by omega) (tt_ok hx ?_)
  rw [hcode]
  refine tt_bi ?_
  by_cases h1 : tells0 v = true
  · have hE1 : est e v s = tel e v :: s := by unfold est; rw [if_pos (Or.inl h1)]
    by_cases hb : v < 1000
    · refine tt_ip hb ?_
      have hc : v = 7 ∨ v = 8 ∨ v = 9 ∨ v = 10 ∨ v = 18 ∨ v = 30 := by
        unfold tells0 at h1; simp at h1; omega
      rcases hc with rfl | rfl | rfl | rfl | rfl | rfl
      · refine tt_ip rfl ?_; rw [e1]; exact push _ hE1
      · refine tt_in (by decide) (tt_ip rfl ?_); rw [e2]; exact push _ hE1
      · refine tt_in (by decide) (tt_in (by decide) (tt_ip rfl ?_)); rw [e3]; exact push _ hE1
      · refine tt_in (by decide) (tt_in (by decide) (tt_in (by decide) (tt_ip rfl ?_))); rw [e4]; exact push _ hE1
      · refine tt_in (by decide) (tt_in (by decide) (tt_in (by decide) (tt_in (by decide) (tt_ip rfl ?_)))); rw [e5]; exact push _ hE1
      · refine tt_in (by decide) (tt_in (by decide) (tt_in (by decide) (tt_in (by decide) (tt_in (by decide) (tt_ip rfl ?_))))); rw [e6]; exact push _ hE1
    · have hr : 1000 ≤ v ∧ v ≤ 10999 := by unfold tells0 at h1; simp at h1; omega
      refine tt_in hb (tt_ok ⟨by omega, by omega⟩ ?_)
      have : tel e v = v - 1000 := by unfold tel; rw [if_pos hr.1]
      rw [this] at hE1
      exact push _ hE1
  · by_cases h2 : v = 17
    · subst h2
      refine tt_ip (by decide) (tt_in (by decide) (tt_in (by decide) (tt_in (by decide) (tt_in (by decide) (tt_in (by decide) (tt_in (by decide) (tt_ip rfl ?_)))))))
      exact push _ rfl
    · by_cases h3 : v = 16
      · subst h3
        refine tt_ip (by decide) (tt_in (by decide) (tt_in (by decide) (tt_in (by decide) (tt_in (by decide) (tt_in (by decide) (tt_in (by decide) (tt_in (by decide) (tt_ip rfl ?_))))))))
        unfold tst at h
        rw [if_neg h1, if_neg h2, if_pos rfl] at h
        match ts, s, h, hv, hs, hp, hl, hlen, k with
        | true :: r, x :: s, h, hv, hs, hp, hl, hlen, k =>
          have hL : ((x :: s).length : Int) = s.length + 1 := by simp
          have h0 := hs.at0
          have hx01 : x = 0 ∨ x = 1 := by have := hv.1; simpa using this
          have hlt : s.length ≤ 60 := by simp at hlen hl; omega
          rw [hL] at h0 hp
          rw [hp]
          refine tt_ok ⟨by omega, by omega⟩ (tt_ok ⟨by omega, by omega⟩ ?_)
          rw [h0]
          refine tt_ok ⟨by omega, by omega⟩ (tt_bm (tt_bi ?_))
          have hE1 : est e 16 (x :: s) = (1 - x) :: s := rfl
          refine k _ ?_ ?_ ?_
          · rw [st_neA (by decide), hp, hE1]; simp
          · rw [hE1]
            rw [show (s.length : Int) + 1 - 1 = s.length by omega]
            exact ⟨st_at _ _ _ _, hs.2.st (Int.le_refl _)⟩
          · exact Fr.st (Fr.rf _ _) (Or.inl rfl)
      · obtain ⟨hr, x, y, r, z, rfl, rfl⟩ := tst_bin h h1 h2 h3
        match s, hv, hs, hp, hlen, k with
        | b :: a :: s, hv, hs, hp, hlen, k =>
          obtain ⟨ha1, hb1⟩ := vt_two hv
          have hlt : s.length < 900 := by simp at hlen hl; omega
          obtain ⟨M1, q1, q2, q3, q4⟩ := e_joins (v := v) hp hlt hs ha1 hb1 hr
          have hE1 : est e v (b :: a :: s) = bin v a b :: s := by unfold est; rw [if_neg (by rintro (q | q); exact h1 q; exact h2 q), if_neg h3]
          have hfin : Tt (cl (f_X12_joins M v) (fun _ M2 => bi (x3 + 1) (fun y => w M2 y))) Q := by
            rw [q1, cl_some]
            refine tt_bi ?_
            exact k M1 (by rw [hE1]; exact q2) (by rw [hE1]; exact q3) q4
          refine tt_ip (by omega) (tt_in (by omega) (tt_in (by omega) (tt_in (by omega) (tt_in (by omega) (tt_in (by omega) (tt_in (by omega) (tt_in (by omega) (tt_in (by omega) ?_))))))))
          exact hfin
theorem tells_run {e : Int → Int} (he : EnvOk e) (Q : Int → Mem → Prop) {to : Int} (hto : to ≤ 5400) : ∀ (c : List Int) (F : Nat) (M : Mem) (i : Int) (ts t3 : List Bool) (s : List Int), EnvM M e → trn c ts = some t3 → vt ts s → ts.length ≤ 60 → M 337 67 = s.length → Stk M 387 s → Seg M 360 i c → 0 ≤ i → i + c.length = to → c.length < F → (∀ M1, Stk M1 387 (ern e c s) → Fr ScT M M1 → Q (M1 387 0) M1) → Tt (wl1 (b_X12_tells_7 to) F M i) Q
  | _, 0, _, _, _, _, _, _, _, _, _, _, _, _, _, _, hF, _ => absurd hF (Nat.not_lt_zero _)
  | [], F + 1, M, i, ts, t3, s, hE, h, hv, hl, hp, hs, hc, hi, hto2, hF, k => by
    rw [wl1_s]
    unfold b_X12_tells_7
    simp at hto2
    exact tt_ip (by omega) (tt_ret (k M hs (Fr.rf _ _)))
  | v :: c, F + 1, M, i, ts, t3, s, hE, h, hv, hl, hp, hs, hc, hi, hto2, hF, k => by
    rw [wl1_s]
    obtain ⟨t2, h1, h2, h3⟩ := trn_cons h
    simp at hto2 hF
    refine tells_step hE h1 hv hl hp hs Q _ i ⟨hi, by omega⟩ hc.1 to (by omega) (fun M1 p1 s1 f1 => ?_)
    refine tells_run he Q hto c F M1 (i + 1) t2 t3 _ (hE.fr f1) h3 (est_ok he h1 hv) h2 p1 s1 (Seg.fr (fun j => f1 360 j (by rintro (q | q); exact absurd q (by decide); exact absurd q.1 (by decide))) hc.2) (by omega) (by omega) (by omega) (fun M2 s2 f2 => k M2 s2 (f1.tr f2))
/-- the value of code -/
def val (e : Int → Int) (c : List Int) : Int := (ern e c []).headD 0
theorem val_of {e : Int → Int} (he : EnvOk e) {c : List Int} {t : Bool} (h : trn c [] = some [t]) : ern e c [] = [val e c] ∧ (if t = true then val e c = 0 ∨ val e c = 1 else -1000000 ≤ val e c ∧ val e c ≤ 1000000) := by
  have hv := ern_ok he h (s := []) trivial
  unfold val
  match hq : ern e c [], hv with
  | [x], hv => exact ⟨rfl, hv.1⟩
theorem e_tells {e : Int → Int} (he : EnvOk e) {M : Mem} (hE : EnvM M e) {c : List Int} {t : Bool} (h : trn c [] = some [t]) {i j : Int} (hc : Seg M 360 i c) (hi : 0 ≤ i) (hj : i + c.length = j) (hj2 : j ≤ 5400) : ∃ M1, f_X12_tells M i j = some (val e c, M1) ∧ Fr ScT M M1 := by
  have q : Tt (f_X12_tells M i j) (fun r M1 => r = val e c ∧ Fr ScT M M1) := by
    unfold f_X12_tells
    refine tt_bm ?_
    have f0 : Fr ScT M (st M 337 67 0) := Fr.st (Fr.rf _ _) (Or.inr ⟨rfl, rfl⟩)
    refine tells_run he _ hj2 c FU _ i [] [t] [] (hE.fr f0) h trivial (by simp) (by rw [st_at]; rfl) trivial (Seg.fr (fun _ => st_neA (by decide)) hc) hi hj (by unfold FU; omega) (fun M1 s1 f1 => ?_)
    rw [(val_of he h).1] at s1
    exact ⟨s1.1, f0.tr f1⟩
  obtain ⟨r, M1, q1, rfl, q3⟩ := q
  exact ⟨M1, q1, q3⟩
