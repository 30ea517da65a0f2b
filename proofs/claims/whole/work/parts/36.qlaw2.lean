/-! ODDS, DRAWS, a WHOLE one beside him, the NEXT -/
theorem bi_e {x : Int} {K : Int → Res} : bi x K = K x := rfl
theorem bm_e {M : Mem} {K : Mem → Res} : bm M K = K M := rfl
/-- Euclid's steps: how many are enough -/
def gst (x y : Int) : Nat → Int × Int
  | 0 => (x, y)
  | n + 1 => if (gst x y n).2 = 0 then gst x y n else ((gst x y n).2, (gst x y n).1 % (gst x y n).2)
theorem gst_nn {x y : Int} (hx : 0 ≤ x) (hy : 0 ≤ y) : ∀ n, 0 ≤ (gst x y n).1 ∧ 0 ≤ (gst x y n).2
  | 0 => ⟨hx, hy⟩
  | n + 1 => by
    have h := gst_nn hx hy n
    show 0 ≤ (if (gst x y n).2 = 0 then gst x y n else ((gst x y n).2, (gst x y n).1 % (gst x y n).2)).1 ∧ 0 ≤ (if (gst x y n).2 = 0 then gst x y n else ((gst x y n).2, (gst x y n).1 % (gst x y n).2)).2
    split
    · exact h
    · exact ⟨h.2, Int.emod_nonneg _ (by assumption)⟩
theorem gst_half {x y : Int} (hx : 0 ≤ x) (hy : 0 ≤ y) (n : Nat) : (gst x y (n + 2)).2 = 0 ∨ 2 * (gst x y (n + 2)).2 < (gst x y n).2 := by
  have h := gst_nn hx hy n
  generalize ha : gst x y n = a at h
  obtain ⟨a1, a2⟩ := a
  simp only at h
  have e1 : gst x y (n + 1) = if a2 = 0 then (a1, a2) else (a2, a1 % a2) := by
    show (if (gst x y n).2 = 0 then gst x y n else ((gst x y n).2, (gst x y n).1 % (gst x y n).2)) = _
    rw [ha]
  have e2 : gst x y (n + 2) = if (gst x y (n + 1)).2 = 0 then gst x y (n + 1) else ((gst x y (n + 1)).2, (gst x y (n + 1)).1 % (gst x y (n + 1)).2) := rfl
  by_cases h0 : a2 = 0
  · rw [if_pos h0] at e1
    left
    rw [e2, e1, if_pos (show ((a1, a2) : Int × Int).2 = 0 from h0)]
    exact h0
  · rw [if_neg h0] at e1
    have m1 := Int.emod_nonneg a1 h0
    have m2 := Int.emod_lt_of_pos a1 (show 0 < a2 by omega)
    by_cases h1 : a1 % a2 = 0
    · left
      rw [e2, e1, if_pos (show ((a2, a1 % a2) : Int × Int).2 = 0 from h1)]
      exact h1
    · right
      rw [e2, e1, if_neg (show ¬ ((a2, a1 % a2) : Int × Int).2 = 0 from h1)]
      show 2 * (a2 % (a1 % a2)) < a2
      have m3 := Int.emod_nonneg a2 h1
      have m4 := Int.emod_lt_of_pos a2 (show 0 < a1 % a2 by omega)
      have m5 := Int.mul_ediv_add_emod a2 (a1 % a2)
      have m6 : 1 ≤ a2 / (a1 % a2) := by
        rw [Int.le_ediv_iff_mul_le (by omega)]; omega
      have m7 : a1 % a2 ≤ a1 % a2 * (a2 / (a1 % a2)) := by
        have := Int.mul_le_mul_of_nonneg_left m6 m1
        omega
      omega
theorem gst_stop {x y : Int} {n : Nat} (h : (gst x y n).2 = 0) : ∀ k, gst x y (n + k) = gst x y n
  | 0 => rfl
  | k + 1 => by
    have ih := gst_stop h k
    show (if (gst x y (n + k)).2 = 0 then gst x y (n + k) else _) = _
    rw [ih, if_pos h]
theorem gst_small {x y : Int} (hx : 0 ≤ x) (hy : 0 ≤ y) : ∀ (k n : Nat), (gst x y n).2 < 2 ^ k → (gst x y (n + 2 * k)).2 = 0
  | 0, n, h => by
    have := (gst_nn hx hy n).2
    have h' : (gst x y n).2 < 1 := h
    show (gst x y n).2 = 0
    omega
  | k + 1, n, h => by
    rw [show n + 2 * (k + 1) = (n + 2) + 2 * k by omega]
    have h' : (gst x y n).2 < 2 ^ k * 2 := by rw [← Int.pow_succ]; exact h
    rcases gst_half hx hy n with q | q
    · rw [gst_stop q]; exact q
    · exact gst_small hx hy k (n + 2) (by omega)
def gcdV (x y : Int) : Int := (gst x y 60).1
theorem gst_60 {x y : Int} (hx : 0 ≤ x) (hy : 0 ≤ y) (h : y < 1073741824) : (gst x y 60).2 = 0 := gst_small hx hy 30 0 (by show y < _; rw [show (2 : Int) ^ 30 = 1073741824 by decide]; exact h)
theorem gst_succ {x y : Int} {n : Nat} (h : (gst x y n).2 ≠ 0) : gst x y (n + 1) = ((gst x y n).2, (gst x y n).1 % (gst x y n).2) := by
  show (if (gst x y n).2 = 0 then _ else _) = _
  rw [if_neg h]
theorem gst_late {x y : Int} {n : Nat} (hn : n ≤ 60) (h : (gst x y n).2 = 0) : gst x y 60 = gst x y n := by
  have := gst_stop h (60 - n)
  rw [show n + (60 - n) = 60 by omega] at this
  exact this
theorem m_common (M : Mem) {x y : Int} (hx : 0 ≤ x) (hy : 0 ≤ y) (h : y < 1073741824) : f_X12_common M x y = some (gcdV x y, M) := by
  have main : ∀ (k n : Nat) (F : Nat), n + k = 60 → k < F → wl2 b_X12_common_6 F M (gst x y n).1 (gst x y n).2 = some (gcdV x y, M) := by
    intro k
    induction k with
    | zero =>
      intro n F hn hF
      obtain ⟨F, rfl⟩ : ∃ G, F = G + 1 := ⟨F - 1, by omega⟩
      have : n = 60 := by omega
      subst this
      rw [wl2_s]
      unfold b_X12_common_6
      rw [if_pos (gst_60 hx hy h)]; rfl
    | succ k ih =>
      intro n F hn hF
      obtain ⟨F, rfl⟩ : ∃ G, F = G + 1 := ⟨F - 1, by omega⟩
      rw [wl2_s]
      unfold b_X12_common_6
      by_cases q : (gst x y n).2 = 0
      · rw [if_pos q]
        unfold gcdV
        rw [gst_late (by omega) q]
      · have hn2 := gst_nn hx hy n
        rw [if_neg q, ok_t ⟨hn2.1, by omega⟩]
        have := ih (n + 1) F (by omega) (by omega)
        rw [gst_succ q] at this
        exact this
  exact main 60 0 FU (by omega) (by unfold FU; omega)
theorem x_common (M : Mem) {x y : Int} (hx : 0 ≤ x) (hy : 0 ≤ y) (h : y < 1073741824) : f_X11_divisorOf M x y = some (gcdV x y, M) := by
  have main : ∀ (k n : Nat) (F : Nat), n + k = 60 → k < F → wl3 b_X11_divisorOf_9 F M (gst x y n).1 (gst x y n).2 n = some (gcdV x y, M) := by
    intro k
    induction k with
    | zero =>
      intro n F hn hF
      obtain ⟨F, rfl⟩ : ∃ G, F = G + 1 := ⟨F - 1, by omega⟩
      have : n = 60 := by omega
      subst this
      rw [wl3_s]
      unfold b_X11_divisorOf_9
      rw [if_neg (by decide), if_pos (gst_60 hx hy h)]; rfl
    | succ k ih =>
      intro n F hn hF
      obtain ⟨F, rfl⟩ : ∃ G, F = G + 1 := ⟨F - 1, by omega⟩
      rw [wl3_s]
      unfold b_X11_divisorOf_9
      rw [if_neg (by omega)]
      by_cases q : (gst x y n).2 = 0
      · rw [if_pos q]
        unfold gcdV
        rw [gst_late (by omega) q]
      · have hn2 := gst_nn hx hy n
        rw [if_neg q, ok_t ⟨hn2.1, by omega⟩, bi_e, ok_t ⟨by omega, by omega⟩, bi_e]
        have := ih (n + 1) F (by omega) (by omega)
        rw [gst_succ q] at this
        exact this
  exact main 60 0 FU (by omega) (by unfold FU; omega)
theorem gst_le {x y : Int} (hx : 0 ≤ x) (hy : 0 ≤ y) : ∀ n, (gst x y n).1 ≤ max x y ∧ (gst x y n).2 ≤ max x y ∧ (0 < y → 0 < (gst x y n).1 + (gst x y n).2)
  | 0 => ⟨by show x ≤ _; omega, by show y ≤ _; omega, fun _ => by show 0 < x + y; omega⟩
  | n + 1 => by
    have h := gst_le hx hy n
    have h0 := gst_nn hx hy n
    by_cases q : (gst x y n).2 = 0
    · have e : gst x y (n + 1) = gst x y n := by show (if (gst x y n).2 = 0 then _ else _) = _; rw [if_pos q]
      rw [e]; exact h
    · rw [gst_succ q]
      have m1 := Int.emod_nonneg (gst x y n).1 q
      have m2 := Int.emod_lt_of_pos (gst x y n).1 (show 0 < (gst x y n).2 by omega)
      exact ⟨h.2.1, by show _ % _ ≤ _; omega, fun _ => by show 0 < _ + _ % _; omega⟩
theorem gcdV_rng {x y : Int} (hx : 0 ≤ x) (hy : 0 < y) (h : y < 1073741824) (hm : x ≤ 2000000000) : 1 ≤ gcdV x y ∧ gcdV x y ≤ 2000000000 := by
  have h1 := gst_le hx (by omega) 60 (y := y)
  have h2 := gst_60 hx (by omega) h
  have h3 := h1.2.2 hy
  unfold gcdV
  omega
/-- what stands above in the ODDS -/
def ovr (c s : Int) (r : Int) : Int := if r = 0 then 100 - c else 100 + c * (s - 1)
theorem ovr_rng {c s r : Int} (hc : 0 ≤ c ∧ c ≤ 100) (hs : 2 ≤ s ∧ s ≤ 6) : 0 ≤ ovr c s r ∧ ovr c s r ≤ 600 := by
  have := mul_rng (x := c) (X := 100) (y := s - 1) (Y := 5) (by omega) (by omega)
  unfold ovr; split <;> omega
theorem x_over (M : Mem) {c s r : Int} (hc : 0 ≤ c ∧ c ≤ 100) (hs : 2 ≤ s ∧ s ≤ 6) : f_X11_oddsOver M c s r = some (ovr c s r, M) := by
  have := mul_rng (x := c) (X := 100) (y := s - 1) (Y := 5) (by omega) (by omega)
  unfold f_X11_oddsOver ovr
  by_cases q : r = 0
  · rw [if_pos q, if_pos q, ok_t ⟨by omega, by omega⟩]
  · rw [if_neg q, if_neg q, ok_t ⟨by omega, by omega⟩, ok_t ⟨by omega, by omega⟩, ok_t ⟨by omega, by omega⟩]
theorem m_over (M : Mem) {c s r : Int} (hc : 0 ≤ c ∧ c ≤ 100) (hs : 2 ≤ s ∧ s ≤ 6) : f_X12_above M c s r = some (ovr c s r, M) := by
  have h1 := mul_rng (x := c) (X := 100) (y := s) (Y := 6) (by omega) (by omega)
  have h2 : c * (s - 1) = c * s - c := by rw [Int.mul_sub, Int.mul_one]
  unfold f_X12_above ovr
  by_cases q : r = 0
  · rw [if_pos q, if_pos q, ok_t ⟨by omega, by omega⟩]
  · rw [if_neg q, if_neg q, ok_t ⟨by omega, by omega⟩, ok_t ⟨by omega, by omega⟩, ok_t ⟨by omega, by omega⟩, h2]
    congr 2; omega
/-- the next of a DRAW's numbers -/
def nxs (x : Int) : Int := (1103515245 * x + 12345) % 2147483648
theorem nxs_rng (x : Int) : 0 ≤ nxs x ∧ nxs x < 2147483648 := by unfold nxs; omega
theorem m_goes (M : Mem) {x : Int} (h : 0 ≤ x ∧ x < 2147483648) : f_X12_goesOn_ M x = some (nxs x, M) := by
  unfold f_X12_goesOn_ nxs
  rw [ok_t ⟨by omega, by omega⟩, ok_t ⟨by omega, by omega⟩, ok_t (by omega)]
theorem x_roll (M : Mem) {x n : Int} (hM : M 67 0 = x) (h : 0 ≤ x ∧ x < 2147483648) (hn : 1 ≤ n ∧ n ≤ 1000) : f_X2_roll M n = some (nxs x / 256 % n, st M 67 0 (nxs x)) := by
  have h1 := nxs_rng x
  have h2 := Int.emod_nonneg (nxs x / 256) (show n ≠ 0 by omega)
  have h3 := Int.emod_lt_of_pos (nxs x / 256) (show 0 < n by omega)
  unfold f_X2_roll
  rw [hM, ok_t ⟨by omega, by omega⟩, ok_t ⟨by omega, by omega⟩, ok_t (by omega), show (1103515245 * x + 12345) % 2147483648 = nxs x from rfl, bm_e, st_at, ok_t h1.1, e_max, cl_some, Int.max_eq_right (by omega), ok_t ⟨by omega, by omega⟩, ok_t ⟨by omega, by omega⟩]
section QL
variable {A B Mx Mm : Mem}
theorem J_odds (h : R Mx Mm) (a1 a2 a3 a4 a5 a6 a7 : Int) : Jt (f_X11_odds Mx a1 a2 a3 a4 a5 a6 a7) (f_X12_odds Mm a1 a2 a3 a4 a5 a6 a7) := by
  obtain ⟨A, B, h⟩ := h
  unfold f_X11_odds f_X12_odds
  rcases h.law2 a1 with ⟨l, x1, m1, n1, k1⟩ | ⟨l, x1, m1⟩
  · rw [x1, m1, cl_some, cl_some]
    refine Jt.cg (if_neg n1) (if_neg (by decide)) ?_
    rcases h.shw2 a2 a3 a4 a5 with ⟨s, m2, Mx1, Mm1, x2, m3, h1, ex, em, eo, i1, i2⟩ | ⟨s, m2, x2⟩
    · obtain ⟨Mx2, Mm2, x4, m4, h2, -⟩ := h1.pcrd eo ex em l 0
      have hs := h.sr s.1
      have hn := h.nt s.1
      have hc := crd_rng A (env (A 388) a2 (12 * a4 + a3) a5) (2 + a1) 0
      have ho := ovr_rng (r := a6) hc hs
      have hg := gcdV_rng (x := ovr (crd A (env (A 388) a2 (12 * a4 + a3) a5) (2 + a1) 0) (A 374 (5 + a2)) a6) (y := 100 * A 374 (5 + a2)) (by omega) (by omega) (by omega) (by omega)
      rw [x2, m2, cl_some, cl_some]
      refine Jt.cg (if_neg (by decide)) (if_neg (by decide)) ?_
      refine h2.J (r := (if a7 = 0 then 100 * A 374 (5 + a2) else ovr (crd A (env (A 388) a2 (12 * a4 + a3) a5) (2 + a1) 0) (A 374 (5 + a2)) a6) / gcdV (ovr (crd A (env (A 388) a2 (12 * a4 + a3) a5) (2 + a1) 0) (A 374 (5 + a2)) a6) (100 * A 374 (5 + a2))) ?_ ?_
      · rw [h1.sorts s.1, cl_some, ok_t k1, x4, cl_some, x_over _ hc hs, cl_some, ok_t ⟨by omega, by omega⟩]
        show cl _ _ = _
        rw [x_common _ ho.1 (by omega) (by omega), cl_some, ok_t ⟨by omega, by omega⟩]
        unfold j_X11_odds_84
        by_cases q : a7 = 0
        · rw [if_pos q, if_pos q, e_max, cl_some, Int.max_eq_right (by omega), ok_t ⟨by omega, by omega⟩]
        · rw [if_neg q, if_neg q, e_max, cl_some, Int.max_eq_right (by omega), ok_t ⟨by omega, by omega⟩]
      · rw [ok_t i1, ok_t i2, m3, cl_some, ok_t ⟨by omega, by omega⟩, ok_t ⟨by omega, by omega⟩, h1.m374 s.1]
        show cl _ _ = _
        rw [m4, cl_some, m_over _ hc hs, cl_some, ok_t ⟨by omega, by omega⟩, m_common _ ho.1 (by omega) (by omega), cl_some, ok_t ⟨by omega, by omega⟩]
        by_cases q : a7 = 0
        · rw [if_pos q, if_pos q, ok_t ⟨by omega, by omega⟩, ok_t ⟨by omega, by omega⟩]
        · rw [if_neg q, if_neg q, ok_t ⟨by omega, by omega⟩]
    · rw [x2, m2, cl_some, cl_some, if_pos rfl, if_pos rfl]; exact h.J rfl rfl
  · rw [x1, m1, cl_some, cl_some, if_pos rfl, if_pos rfl]; exact h.J rfl rfl
theorem RR.x67 (h : RR A B Mx Mm) (v : Int) : RR A B (st Mx 67 0 v) Mm := h.nx (Fr.st (Fr.rf _ _) (by unfold ScX; omega)) (Fr.rf _ _) (fun s s0 s1 => by rw [st_neA (by decide), st_neA (by decide)]; exact h.lc s s0 s1)
theorem EnvX.x67 {e : Int → Int} {M : Mem} (h : EnvX M e) (v : Int) : EnvX (st M 67 0 v) e := by
  unfold EnvX at h ⊢
  simpa [st] using h
/-- a DRAW's guess, and what x is then -/
def drw (c so n x : Int) : Int × Int := if nxs x / 256 % 100 < c then (so, nxs x) else (nxs (nxs x) / 256 % n, nxs (nxs x))
theorem x_guess {M : Mem} {x c so n : Int} (hM : M 67 0 = x) (h : 0 ≤ x ∧ x < 2147483648) (hn : 1 ≤ n ∧ n ≤ 1000) : ∃ M1, f_X2_guess M c so n = some ((drw c so n x).1, M1) ∧ M1 67 0 = (drw c so n x).2 ∧ (∀ a i, a ≠ 67 → M1 a i = M a i) := by
  have h1 := nxs_rng x
  unfold f_X2_guess drw
  rw [x_roll M hM h (by omega), cl_some]
  by_cases q : nxs x / 256 % 100 < c
  · rw [if_neg (by omega), if_pos q]
    exact ⟨_, rfl, st_at _ _ _ _, fun a i ha => st_neA ha⟩
  · rw [if_pos (by omega), if_neg q, x_roll _ (st_at _ _ _ _) h1 hn, cl_some]
    exact ⟨_, rfl, st_at _ _ _ _, fun a i ha => by rw [st_neA ha, st_neA ha]⟩
theorem J_draw (h : R Mx Mm) (a1 a2 a3 a4 a5 a6 : Int) {a7 : Int} (h7 : in32 a7) : Jt (f_X11_draw Mx a1 a2 a3 a4 a5 a6 a7) (f_X12_draw Mm a1 a2 a3 a4 a5 a6 a7) := by
  obtain ⟨A, B, h⟩ := h
  unfold f_X11_draw f_X12_draw
  rcases h.law2 a1 with ⟨l, x1, m1, n1, k1⟩ | ⟨l, x1, m1⟩
  · rw [x1, m1, cl_some, cl_some]
    refine Jt.cg (if_neg n1) (if_neg (by decide)) ?_
    rcases h.shw2 a2 a3 a4 a5 with ⟨s, m2, Mx1, Mm1, x2, m3, h1, ex, em, eo, i1, i2⟩ | ⟨s, m2, x2⟩
    · have hs := h.sr s.1
      have hn := h.nt s.1
      rw [m2, cl_some]
      refine Jt.cg rfl (if_neg (by decide)) ?_
      by_cases q7 : a7 < 0
      · exact h.J (r := -1) (if_pos q7) (if_pos q7)
      · refine Jt.cg (if_neg q7) (if_neg q7) ?_
        rw [x2, cl_some]
        refine Jt.cg (if_neg (by decide)) ((ok_t ⟨by omega, by omega⟩).trans (ok_t ⟨by omega, by omega⟩)) ?_
        rw [h.m374 s.1]
        refine Jt.cg rfl (ok_t ⟨by omega, by omega⟩) ?_
        obtain ⟨q, e, hq⟩ := e_isIn Mm a6 0 (A 374 (5 + a2) - 1)
        have hx : f_X11_isSort Mx1 a2 a6 = some (q, Mx1) := by
          unfold f_X11_isSort
          rcases hq with ⟨rfl, hq⟩ | ⟨rfl, hq⟩
          · rw [if_neg (by omega), h1.sorts s.1, cl_some, if_neg (by omega)]
          · by_cases w : a6 < 0
            · rw [if_pos w]
            · rw [if_neg w, h1.sorts s.1, cl_some, if_pos (by omega)]
        rw [e, hx, cl_some, cl_some]
        rcases hq with ⟨rfl, hq⟩ | ⟨rfl, hq⟩
        · refine Jt.cg (if_neg (by decide)) ((if_neg (by decide)).trans ((ok_t i1).trans (ok_t i2))) ?_
          have h1' := h1.x67 a7
          have ex' := ex.x67 a7
          obtain ⟨Mx2, Mm2, x4, m4, h2, -⟩ := h1'.pcrd eo ex' em l 0
          have h67 : Mx2 67 0 = a7 := by
            obtain ⟨-, l2, l3, -, l5, -⟩ := h1'.law l
            obtain ⟨M9, q9, f9⟩ := x_crd eo ex' k1 l2 l3 l5 0
            rw [x4] at q9
            cases q9
            rw [f9 67 0 (by unfold ScR; omega), st_at]
          have hseed : 0 ≤ a7 ∧ a7 < 2147483648 := by have := h7.2; omega
          obtain ⟨Mx3, x5, x6, x7⟩ := x_guess (c := crd A (env (A 388) a2 (12 * a4 + a3) a5) (2 + a1) 0) (so := a6) (n := A 374 (5 + a2)) h67 hseed (by omega)
          have h3 : RR A B Mx3 Mm2 := h2.nx (fun a i hn => x7 a i (by unfold ScX at hn; omega)) (Fr.rf _ _) (fun s s0 s1 => by rw [x7 _ _ (by decide), x7 _ _ (by decide)]; exact h2.lc s s0 s1)
          have r1 := nxs_rng a7
          have r2 := nxs_rng (nxs a7)
          refine h3.J (r := (drw (crd A (env (A 388) a2 (12 * a4 + a3) a5) (2 + a1) 0) a6 (A 374 (5 + a2)) a7).1) ?_ ?_
          · show ok _ _ = _
            rw [ok_t k1, x4, cl_some, h2.sorts s.1, cl_some, x5, cl_some]
          · rw [m3, cl_some, m_goes _ hseed, cl_some, ok_t r1.1, ok_t (by omega), m4, cl_some]
            unfold drw
            by_cases w : nxs a7 / 256 % 100 < crd A (env (A 388) a2 (12 * a4 + a3) a5) (2 + a1) 0
            · rw [if_neg (by omega), if_pos w]
            · have d1 := Int.emod_nonneg (nxs (nxs a7) / 256) (show A 374 (5 + a2) ≠ 0 by omega)
              have d2 := Int.emod_lt_of_pos (nxs (nxs a7) / 256) (show 0 < A 374 (5 + a2) by omega)
              rw [if_pos (by omega), if_neg w, m_goes _ r1, cl_some, ok_t r2.1, h2.m374 s.1, ok_t ⟨by omega, by omega⟩, ok_t ⟨by omega, by omega⟩]
        · exact (h.mixx h1).J (r := -1) (if_pos rfl) (if_pos rfl)
    · rw [m2, cl_some]
      refine Jt.cg rfl (if_pos rfl) ?_
      by_cases q7 : a7 < 0
      · exact h.J (r := -1) (if_pos q7) rfl
      · refine h.J (r := -1) ?_ rfl
        rw [if_neg q7, x2, cl_some, if_pos rfl]
  · rw [x1, m1, cl_some, cl_some, if_pos rfl, if_pos rfl]; exact h.J rfl rfl
end QL
