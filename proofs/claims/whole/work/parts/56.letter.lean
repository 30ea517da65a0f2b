/-! the letters of names, alike -/
def dvn (x : Int) : Nat → Int
  | 0 => x
  | k + 1 => dvn (x / 27) k
theorem dvn_nn : ∀ (k : Nat) {x : Int}, 0 ≤ x → 0 ≤ dvn x k
  | 0, _, h => h
  | k + 1, _, h => dvn_nn k (Int.ediv_nonneg h (by decide))
theorem dvn_mul (x : Int) : ∀ j k : Nat, dvn (x * 27 ^ j) (j + k) = dvn x k
  | 0, k => by rw [Nat.zero_add]; show dvn (x * 1) k = _; rw [Int.mul_one]
  | j + 1, k => by
    rw [show j + 1 + k = (j + k) + 1 by omega]
    show dvn (x * 27 ^ (j + 1) / 27) (j + k) = _
    rw [Int.pow_succ, ← Int.mul_assoc, Int.mul_ediv_cancel _ (by decide)]
    exact dvn_mul x j k
theorem dvn_low (x : Int) : ∀ j k : Nat, k < j → dvn (x * 27 ^ j) k % 27 = 0
  | 0, _, h => absurd h (Nat.not_lt_zero _)
  | j + 1, 0, _ => by
    show x * 27 ^ (j + 1) % 27 = 0
    rw [Int.pow_succ, ← Int.mul_assoc]; exact Int.mul_emod_left _ _
  | j + 1, k + 1, h => by
    show dvn (x * 27 ^ (j + 1) / 27) k % 27 = 0
    rw [Int.pow_succ, ← Int.mul_assoc, Int.mul_ediv_cancel _ (by decide)]
    exact dvn_low x j k (by omega)
theorem e_letterOf (M : Mem) {c k : Int} (hc : 0 ≤ c) (hk : 0 ≤ k ∧ k ≤ 5) : f_X11_letterOf M c k = some (dvn c (5 - k).toNat % 27, M) := by
  have key : Tt (f_X11_letterOf M c k) (fun r M1 => r = dvn c (5 - k).toNat % 27 ∧ M1 = M) := by
    unfold f_X11_letterOf
    refine tt_wl2 (fun M1 x y => M1 = M ∧ 0 ≤ x ∧ 0 ≤ y ∧ y ≤ 5 ∧ dvn x (5 - y).toNat = dvn c (5 - k).toNat) (fun _ _ y => (5 - y).toNat) ?_ FU M c k ⟨rfl, hc, hk.1, hk.2, rfl⟩ (by have : FU = 1000000000 := rfl; omega)
    intro w M1 x y hI kk
    obtain ⟨hM, x0, y0, y1, ex⟩ := hI
    unfold b_X11_letterOf_4
    refine tt_if (fun c => ?_) (fun c => ?_)
    · rw [show (5 - y).toNat = 0 by omega] at ex
      refine tt_ok x0 (tt_ret ⟨?_, hM⟩)
      rw [← ex]; rfl
    · refine tt_ok x0 (tt_bi (tt_ok ⟨by omega, by omega⟩ (tt_bi (kk M1 _ _ ⟨hM, Int.ediv_nonneg x0 (by decide), by omega, by omega, ?_⟩ (by omega)))))
      rw [← ex, show (5 - y).toNat = (5 - (y + 1)).toNat + 1 by omega]; rfl
  obtain ⟨r, M1, e, hr, hM⟩ := key
  rw [e, hr, hM]
theorem e_let132 (M : Mem) {c k q : Int} (hc : 0 ≤ c) (hk : 0 ≤ k ∧ k ≤ q ∧ q ≤ 5) : wl2 (b_X12_letter_132 k) FU M c q = some (dvn c (q - k).toNat % 27, M) := by
  have key : Tt (wl2 (b_X12_letter_132 k) FU M c q) (fun r M1 => r = dvn c (q - k).toNat % 27 ∧ M1 = M) := by
    refine tt_wl2 (fun M1 x y => M1 = M ∧ 0 ≤ x ∧ k ≤ y ∧ y ≤ 5 ∧ dvn x (y - k).toNat = dvn c (q - k).toNat) (fun _ _ y => (y - k).toNat) ?_ FU M c q ⟨rfl, hc, hk.2.1, hk.2.2, rfl⟩ (by have : FU = 1000000000 := rfl; omega)
    intro w M1 x y hI kk
    obtain ⟨hM, x0, y0, y1, ex⟩ := hI
    unfold b_X12_letter_132
    refine tt_if (fun c => ?_) (fun c => ?_)
    · rw [show (y - k).toNat = 0 by omega] at ex
      have : 0 ≤ x % 27 ∧ x % 27 < 27 := ⟨Int.emod_nonneg _ (by decide), Int.emod_lt_of_pos _ (by decide)⟩
      refine tt_ok x0 (tt_ok ⟨by omega, by omega⟩ (tt_ret ⟨?_, hM⟩))
      rw [← ex]; rfl
    · refine tt_ok x0 (tt_bi (tt_ok ⟨by omega, by omega⟩ (tt_bi (kk M1 _ _ ⟨hM, Int.ediv_nonneg x0 (by decide), by omega, by omega, ?_⟩ (by omega)))))
      rw [← ex, show (y - k).toNat = (y + -1 - k).toNat + 1 by omega]; rfl
  obtain ⟨r, M1, e, hr, hM⟩ := key
  rw [e, hr, hM]
def ltV (m : Int) (n : Nat) (k : Int) : Int := if k < n then dvn m (n - 1 - k).toNat % 27 else 0
theorem e_let97 (M : Mem) {m k : Int} {n : Nat} (h1 : 1 ≤ n) (h6 : n ≤ 6) (hl : 27 ^ (n - 1) ≤ m) (hu : m < 27 ^ n) (hk : 0 ≤ k ∧ k ≤ 5) : wl3 (b_X12_letter_97 k) FU M m 0 m = some (ltV m n k, M) := by
  have pp : ∀ j : Nat, (0 : Int) < 27 ^ j := fun j => Int.pow_pos (by decide)
  have m0 : 0 < m := Int.lt_of_lt_of_le (pp _) hl
  have key : Tt (wl3 (b_X12_letter_97 k) FU M m 0 m) (fun r M1 => r = ltV m n k ∧ M1 = M) := by
    refine tt_wl3 (fun M1 x4 x6 x7 => M1 = M ∧ x4 = m ∧ 0 ≤ x6 ∧ x6 ≤ n ∧ 0 ≤ x7 ∧ x7 < 27 ^ (n - x6).toNat ∧ (x6 < n → 27 ^ (n - 1 - x6).toNat ≤ x7)) (fun _ _ x6 _ => (n - x6).toNat) ?_ FU M m 0 m ⟨rfl, rfl, by decide, by omega, by omega, ?_, ?_⟩ (by have : FU = 1000000000 := rfl; omega)
    · intro w M1 x4 x6 x7 hI kk
      obtain ⟨hM, e4, y0, y1, z0, z1, z2⟩ := hI
      unfold b_X12_letter_97
      refine tt_if (fun c => ?_) (fun c => ?_)
      · have e6 : x6 = n := by
          by_cases q : x6 < n
          · have := z2 q
            have := pp (n - 1 - x6).toNat
            omega
          · omega
        rw [e6, e4]
        unfold ltV
        refine tt_if (fun c2 => ?_) (fun c2 => ?_)
        · refine tt_ok ⟨by omega, by omega⟩ (tt_bi ?_)
          rw [e_let132 M1 (by omega) ⟨hk.1, by omega, by omega⟩, if_pos c2]
          exact tt_ret ⟨rfl, hM⟩
        · rw [if_neg c2]; exact tt_ret ⟨rfl, hM⟩
      · have l6 : x6 < n := by
          by_cases q : x6 < n
          · exact q
          · rw [show ((n : Int) - x6).toNat = 0 by omega, Int.pow_zero] at z1
            omega
        have zz := z2 l6
        have q1 : x7 / 27 < 27 ^ ((n : Int) - (x6 + 1)).toNat := by
          apply Int.ediv_lt_of_lt_mul (by decide)
          rw [← Int.pow_succ, show ((n : Int) - (x6 + 1)).toNat.succ = ((n : Int) - x6).toNat by omega]; exact z1
        refine tt_ok ⟨by omega, by omega⟩ (tt_bi (tt_ok z0 (tt_bi (kk M1 _ _ _ ⟨hM, e4, by omega, by omega, Int.ediv_nonneg z0 (by decide), q1, fun q => ?_⟩ (by omega)))))
        apply Int.le_ediv_of_mul_le (by decide)
        rw [← Int.pow_succ, show ((n : Int) - 1 - (x6 + 1)).toNat.succ = ((n : Int) - 1 - x6).toNat by omega]; exact zz
    · rw [show ((n : Int) - 0).toNat = n by omega]; exact hu
    · intro _
      rw [show ((n : Int) - 1 - 0).toNat = n - 1 by omega]; exact hl
  obtain ⟨r, M1, e, hr, hM⟩ := key
  rw [e, hr, hM]
/-- a name's letter, alike -/
theorem nr_let {m c k : Int} (h : NR m c) (hk : 0 ≤ k ∧ k ≤ 5) (Mx Mm : Mem) : ∃ r, f_X11_letterOf Mx c k = some (r, Mx) ∧ wl3 (b_X12_letter_97 k) FU Mm m 0 m = some (r, Mm) := by
  obtain ⟨n, h1, h6, hc, hl, hu, -⟩ := h
  have pp : ∀ j : Nat, (0 : Int) < 27 ^ j := fun j => Int.pow_pos (by decide)
  have m0 : 0 < m := Int.lt_of_lt_of_le (pp _) hl
  have c0 : 0 ≤ c := by rw [hc]; exact Int.mul_nonneg (by omega) (Int.le_of_lt (pp _))
  refine ⟨ltV m n k, ?_, e_let97 Mm h1 h6 hl hu hk⟩
  rw [e_letterOf Mx c0 hk, hc]
  unfold ltV
  by_cases w : k < n
  · rw [if_pos w, show (5 - k).toNat = (6 - n) + ((n : Int) - 1 - k).toNat by omega, dvn_mul]
  · rw [if_neg w, dvn_low _ _ _ (by omega)]
section LT
variable {A B Mx Mm : Mem}
theorem x_lett {a a2 a3 : Int} (hk : kd a = 17) (hs : SA B Mx a) : j_X11_letter_17 a2 a3 Mx a = (if (0 ≤ a3 ∧ a3 ≤ 5) ∧ 0 ≤ a2 ∧ a2 < B a 3 then ok (0 ≤ a2 ∧ a2 < 5) (ok (0 ≤ B (a + 2) a2 ∧ B (a + 2) a2 < 40) (ok (kd (a + 4 + B (a + 2) a2) = 18) (f_X11_letterOf Mx (B (a + 4 + B (a + 2) a2) 1) a3))) else some (-1, Mx)) := by
  have kk := kd17 _ hk
  unfold j_X11_letter_17 f_X7_namedAt
  rw [if_neg (by omega), hs a 3 (by omega) (by omega)]
  by_cases w1 : a3 < 0
  · rw [if_pos w1, if_neg (by omega)]
  · rw [if_neg w1]
    by_cases w2 : a3 < 6
    · rw [if_pos w2, ok_t hk]
      by_cases w3 : a2 < 0
      · rw [if_pos w3, cl_some, if_pos rfl, if_neg (by omega)]
      · rw [if_neg w3]
        by_cases w4 : B a 3 ≤ a2
        · rw [if_pos w4, cl_some, if_pos rfl, if_neg (by omega)]
        · rw [if_neg w4, if_pos (by omega)]
          by_cases w5 : 0 ≤ a2 ∧ a2 < 5
          · rw [ok_t w5, ok_t w5, hs (a + 2) a2 (by omega) (by omega)]
            by_cases w6 : 0 ≤ B (a + 2) a2 ∧ B (a + 2) a2 < 40
            · have k18 := kdSt _ hk _ w6
              rw [ok_t w6, ok_t w6, cl_some, if_neg (by omega), ok_t k18, ok_t k18, hs (a + 4 + B (a + 2) a2) 1 (by omega) (by omega)]
              cases f_X11_letterOf Mx (B (a + 4 + B (a + 2) a2) 1) a3 with
              | none => rfl
              | some v => rfl
            · unfold ok; rw [if_neg w6, if_neg w6]; rfl
          · unfold ok; rw [if_neg w5, if_neg w5]; rfl
    · rw [if_neg w2, if_neg (by omega)]
theorem J_letter (h : R Mx Mm) (a1 a2 a3 : Int) : Jt (f_X11_letter Mx a1 a2 a3) (f_X12_letter Mm a1 a2 a3) := by
  obtain ⟨A, B, h⟩ := h
  unfold f_X11_letter f_X12_letter
  obtain ⟨q3, e3, h3⟩ := e_isIn Mm a3 0 5
  rw [e3, cl_some]
  by_cases w1 : a1 = -1
  · have x8 : Mx 1 8 = B 1 8 := h.rx (by omega) (by omega)
    have hk := h.ptr.1.1
    obtain ⟨t0, t1, t2⟩ := h.thg
    rw [if_pos w1, x8, x_lett hk (SA.thg h.ptr h.fx), t1]
    rcases h3 with ⟨rfl, h3⟩ | ⟨rfl, h3⟩
    · refine Jt.cg rfl ((if_neg (by decide)).trans (if_pos w1)) ?_
      obtain ⟨q, e, hq⟩ := m_isTh h.fm h.thg a2
      rw [e, cl_some]
      rcases hq with ⟨rfl, hq⟩ | ⟨rfl, hq⟩
      · have hn := h.nt hq
        obtain ⟨-, u1, -, u2, -⟩ := t2 a2 hq.1 hq.2
        obtain ⟨r, z1, z2⟩ := nr_let u2 h3 Mx Mm
        refine h.J (r := r) ?_ ?_
        · rw [if_pos ⟨h3, hq⟩, ok_t hn, ok_t u1, ok_t (kdSt _ hk _ u1), z1]
        · unfold j_X12_letter_60
          rw [if_neg (by decide), if_pos w1, ok_t ⟨by omega, by omega⟩, ok_t ⟨by omega, by omega⟩, bi_e, h.rm (a := 373) (by unfold ScM; omega), z2]
      · exact h.J (r := -1) (if_neg (fun q => hq q.2)) (if_pos rfl)
    · exact h.J (r := -1) (if_neg (fun q => h3 q.1)) (if_pos rfl)
  · rw [if_neg w1]
    rcases h.law2 a1 with ⟨l, x1, m1, n1, k1⟩ | ⟨l, x1, m1⟩
    · obtain ⟨l1, l2, l3, l4, l5, l6⟩ := h.law l
      have la := l3.1
      rw [x1, cl_some, x_lett l1 l2, l5.1]
      rcases h3 with ⟨rfl, h3⟩ | ⟨rfl, h3⟩
      · have l0 := l.1
        refine Jt.cg rfl ((if_neg (by decide)).trans ((if_neg w1).trans (by rw [m1, cl_some, if_neg (by decide), ok_t ⟨by omega, by omega⟩, ok_t ⟨by omega, by omega⟩, h.rm (a := 366) (by unfold ScM; omega), ok_t ⟨by omega, by omega⟩]))) ?_
        obtain ⟨q, e, hq⟩ := e_isIn Mm a2 0 (A 366 (2 + a1) - 1)
        rw [e, cl_some]
        rcases hq with ⟨rfl, hq⟩ | ⟨rfl, hq⟩
        · obtain ⟨u1, -, u2, -⟩ := l5.2 a2 hq.1 (by omega)
          obtain ⟨r, z1, z2⟩ := nr_let u2 h3 Mx Mm
          refine h.J (r := r) ?_ ?_
          · rw [if_pos ⟨h3, hq.1, by omega⟩, ok_t ⟨hq.1, by omega⟩, ok_t u1, ok_t (kdSt _ l1 _ u1), z1]
          · unfold j_X12_letter_60
            rw [if_neg (by decide), if_neg w1, ok_t ⟨by omega, by omega⟩, ok_t ⟨by omega, by omega⟩, ok_t ⟨by omega, by omega⟩, ok_t ⟨by omega, by omega⟩, bi_e, h.rm (a := 367) (by unfold ScM; omega), z2]
        · exact h.J (r := -1) (if_neg (fun q => hq ⟨q.2.1, by omega⟩)) (if_pos rfl)
      · exact h.J (r := -1) (if_neg (fun q => h3 q.1)) (if_pos rfl)
    · refine h.J (r := -1) ?_ ?_
      · rw [x1, cl_some]; unfold j_X11_letter_17; rw [if_pos rfl]
      · rcases h3 with ⟨rfl, h3⟩ | ⟨rfl, h3⟩
        · rw [if_neg (by decide), if_neg w1, m1, cl_some, if_pos rfl]
        · rw [if_pos rfl]
end LT
