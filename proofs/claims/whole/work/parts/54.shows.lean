/-! THE PLAN's SHOWINGS, counted alike -/
def SD (D x s : Int) : Prop := (x = 385 ∨ x = 383) ∧ D ≤ s
def Pl (A M : Mem) : Prop := (∀ x s, 377 ≤ x → x ≤ 382 → 80 ≤ s → M x s = A x s) ∧ M 376 1 = A 376 1 ∧ M 337 60 = 1
theorem Pl.fr {A M M1 : Mem} {D : Int} (h : Pl A M) (f : Fr (SD D) M M1) : Pl A M1 :=
  ⟨fun x s h1 h2 h3 => (f x s (by unfold SD; omega)).trans (h.1 x s h1 h2 h3), (f _ _ (by unfold SD; omega)).trans h.2.1, (f _ _ (by unfold SD; omega)).trans h.2.2⟩
theorem e_cut (M : Mem) (v : Int) : f_X12_cut M v = some (min 1000000 v, M) := by
  unfold f_X12_cut
  by_cases w : v ≤ 1000000
  · rw [if_pos w, Int.min_eq_right w]
  · rw [if_neg w, Int.min_eq_left (by omega)]
theorem cut_mul {c x y s : Int} (hc : 1 ≤ c) (hx : 0 ≤ x) (hy : 0 ≤ y) (hs : 0 ≤ s) : min 1000000 (min 1000000 (s + c * min 1000000 (0 + x)) + y) = min 1000000 (s + (c * x + y)) := by
  by_cases w : x ≤ 1000000
  · rw [Int.min_eq_right (by omega : 0 + x ≤ 1000000), Int.zero_add]
    have : 0 ≤ c * x := Int.mul_nonneg (by omega) hx
    generalize c * x = p at *
    omega
  · rw [Int.min_eq_left (by omega : (1000000 : Int) ≤ 0 + x)]
    have h1 : 1 * 1000000 ≤ c * 1000000 := Int.mul_le_mul_of_nonneg_right hc (by decide)
    have h2 : 1 * x ≤ c * x := Int.mul_le_mul_of_nonneg_right hc hx
    generalize c * x = p at *
    omega
theorem len_fl {α : Type} (l : List α) : ∀ c : Nat, ((List.replicate c l).flatten.length : Int) = c * (l.length : Int)
  | 0 => by simp
  | c + 1 => by
    rw [List.replicate_succ, List.flatten_cons, List.length_append]
    have := len_fl l c
    rw [Int.natCast_add, this, Int.natCast_add, Int.add_mul]
    omega
theorem sh_a {A M : Mem} {D k : Int} (w : Mem → Int → Int → Res) (hP : Pl A M) (hT : A 376 1 ≤ 80) (k0 : 80 ≤ k) (k1 : k < 80 + A 376 1) (b4 : A 377 k = 0) (D0 : 0 ≤ D) (D1 : D ≤ 7) (v0 : 0 ≤ M 385 D) (v1 : M 385 D ≤ 1000000) : b_X12_showings_12 w M D k = w (st M 385 D (min 1000000 (M 385 D + 1))) D (k + 1) := by
  unfold b_X12_showings_12
  rw [hP.2.1, ok_t ⟨by omega, by omega⟩, if_neg (by omega), hP.2.2, if_neg (by decide), ok_t ⟨by omega, by omega⟩, hP.1 377 k (by omega) (by omega) (by omega), if_pos b4, ok_t ⟨by omega, by omega⟩, ok_t ⟨by omega, by omega⟩, e_cut, cl_some, bm_e, bi_e]
theorem sh_b {A M : Mem} {D k : Int} (w : Mem → Int → Int → Res) (hP : Pl A M) (hT : A 376 1 ≤ 80) (k0 : 80 ≤ k) (k1 : k < 80 + A 376 1) (b4 : A 377 k = 1) (D0 : 0 ≤ D) (D1 : D ≤ 6) : b_X12_showings_12 w M D k = w (st (st M 383 D k) 385 (D + 1) 0) (D + 1) (k + 1) := by
  unfold b_X12_showings_12
  rw [hP.2.1, ok_t ⟨by omega, by omega⟩, if_neg (by omega), hP.2.2, if_neg (by decide), ok_t ⟨by omega, by omega⟩, hP.1 377 k (by omega) (by omega) (by omega), b4, if_neg (by decide), if_pos rfl, ok_t ⟨by omega, by omega⟩, bm_e, bi_e, ok_t ⟨by omega, by omega⟩, bm_e, bi_e]
theorem sh_c {A M : Mem} {D ke k c v : Int} (w : Mem → Int → Int → Res) (hP : Pl A M) (hT : A 376 1 ≤ 80) (k0 : 80 ≤ ke) (k1 : ke < 80 + A 376 1) (c4 : A 377 ke = 2) (D0 : 0 ≤ D) (D1 : D ≤ 6) (t1 : M 383 D = k) (hk : 0 ≤ k ∧ k < 160) (t3 : M 382 k = c) (t2 : M 385 D = v) (hv : 0 ≤ v ∧ v ≤ 1000000) (g1 : 0 ≤ c * M 385 (D + 1)) (g2 : c * M 385 (D + 1) ≤ 9 * 1000000) : b_X12_showings_12 w M (D + 1) ke = w (st M 385 D (min 1000000 (v + c * M 385 (D + 1)))) D (ke + 1) := by
  unfold b_X12_showings_12
  rw [hP.2.1, ok_t ⟨by omega, by omega⟩, if_neg (by omega), hP.2.2, if_neg (by decide), ok_t ⟨by omega, by omega⟩, hP.1 377 ke (by omega) (by omega) (by omega), c4, if_neg (by decide), if_neg (by decide), ok_t ⟨by omega, by omega⟩, bi_e, show D + 1 + -1 = D by omega, ok_t ⟨by omega, by omega⟩, t1, ok_t hk, ok_t ⟨by omega, by omega⟩, t3, t2, ok_t ⟨by omega, by omega⟩, ok_t ⟨by omega, by omega⟩, e_cut, cl_some, bm_e, bi_e]
theorem sh_e {A M : Mem} {x : Int} (w : Mem → Int → Int → Res) (hP : M 376 1 = A 376 1) (hT : 0 ≤ A 376 1 ∧ A 376 1 ≤ 80) (hk : 80 + A 376 1 ≤ x ∨ M 337 60 = 0) (D : Int) (hr : in32 (M 385 0)) : b_X12_showings_12 w M D x = some (M 385 0, M) := by
  unfold b_X12_showings_12
  rw [hP, ok_t ⟨by omega, by omega⟩, ok_t hr]
  by_cases w : 80 + A 376 1 ≤ x
  · rw [if_pos w]
  · rw [if_neg w, if_pos (hk.resolve_left w)]
theorem seg_sh {A B : Mem} {a : Int} (hT : A 376 1 ≤ 80) : ∀ (n d : Nat) (i j k l D : Int) (M : Mem) (F : Nat), MR A B a n d i j k l → 80 ≤ k → l ≤ 80 + A 376 1 → Pl A M → 0 ≤ D → D + d ≤ 7 → 0 ≤ M 385 D → M 385 D ≤ 1000000 → k ≤ l ∧ ∃ M1, wl2 b_X12_showings_12 (F + (l - k).toNat) M D k = wl2 b_X12_showings_12 F M1 D l ∧ M1 385 D = min 1000000 (M 385 D + ((exL B a n i j).length : Int)) ∧ Fr (SD D) M M1
  | 0, _, _, _, _, _, _, _, _, h, _, _, _, _, _, _, _ => by cases h
  | n + 1, d, i, j, k, l, D, M, F, h, k0, l1, hP, D0, D1, v0, v1 => by
    rcases h with ⟨rfl, rfl⟩ | ⟨b1, b2, b3, b4, b5, b6⟩ | ⟨b1, b3, b4, b5, b6, b7, d1, ke, c1, c2, c3, c4, c5, c6⟩
    · refine ⟨Int.le_refl _, M, ?_, ?_, Fr.rf _ _⟩
      · rw [show (k - k).toNat = 0 by omega]; rfl
      · have e : exL B a (n + 1) i i = [] := by show (if i ≤ i then [] else _) = _; rw [if_pos (Int.le_refl i)]
        rw [e, List.length_nil]; omega
    · have e : exL B a (n + 1) i j = i :: exL B a n (i + 1) j := by
        show (if j ≤ i then [] else if B (a + 4 + i) 0 = 7 then i :: exL B a n (i + 1) j else _) = _
        rw [if_neg (by omega), if_pos b3]
      have f1 : Fr (SD D) M (st M 385 D (min 1000000 (M 385 D + 1))) := (Fr.rf _ _).st (by unfold SD; omega)
      have s1 := st_at M 385 D (min 1000000 (M 385 D + 1))
      obtain ⟨r1, M1, r2, r3, r4⟩ := seg_sh hT n d (i + 1) j (k + 1) l D _ F b6 (by omega) l1 (hP.fr f1) D0 D1 (by rw [s1]; omega) (by rw [s1]; omega)
      refine ⟨by omega, M1, ?_, ?_, f1.tr r4⟩
      · rw [← r2, show F + (l - k).toNat = (F + (l - (k + 1)).toNat) + 1 by omega, wl2_s]
        exact sh_a _ hP hT k0 (by omega) b4 D0 (by omega) v0 v1
      · rw [r3, s1, e, List.length_cons]; omega
    · have e : exL B a (n + 1) i j = (List.replicate (B (a + 4 + i) 2).toNat (exL B a n (i + 1) (B (a + 4 + i) 9))).flatten ++ exL B a n (B (a + 4 + i) 9) j := by
        show (if j ≤ i then [] else if B (a + 4 + i) 0 = 7 then i :: exL B a n (i + 1) j else _) = _
        rw [if_neg (by omega), if_neg (by omega)]
      have f1 : Fr (SD D) M (st (st M 383 D k) 385 (D + 1) 0) := ((Fr.rf _ _).st (by unfold SD; omega)).st (by unfold SD; omega)
      have s1 := st_at (st M 383 D k) 385 (D + 1) 0
      obtain ⟨r1, M1, r2, r3, r4⟩ := seg_sh hT n d1 (i + 1) (B (a + 4 + i) 9) (k + 1) ke (D + 1) _ (F + (l - (ke + 1)).toNat + 1) c5 (by omega) (by omega) (hP.fr f1) (by omega) (by omega) (by rw [s1]; omega) (by rw [s1]; omega)
      rw [s1] at r3
      have f2 : Fr (SD D) M M1 := f1.tr (r4.mono (fun x s q => by unfold SD at q ⊢; omega))
      have hP1 := hP.fr f2
      have t1 : M1 383 D = k := by rw [r4 383 D (by unfold SD; omega), st_neA (by decide), st_at]
      have t2 : M1 385 D = M 385 D := by rw [r4 385 D (by unfold SD; omega), st_neI (by omega), st_neA (by decide)]
      have t3 : M1 382 k = B (a + 4 + i) 2 := by rw [hP1.1 382 k (by omega) (by omega) (by omega), b5]
      have n0 : (0 : Int) ≤ ((exL B a n (i + 1) (B (a + 4 + i) 9)).length : Int) := Int.natCast_nonneg _
      have n1 : (0 : Int) ≤ ((exL B a n (B (a + 4 + i) 9) j).length : Int) := Int.natCast_nonneg _
      generalize ex : ((exL B a n (i + 1) (B (a + 4 + i) 9)).length : Int) = x at *
      have g0 : 0 ≤ M1 385 (D + 1) ∧ M1 385 (D + 1) ≤ 1000000 := by rw [r3]; omega
      have g1 : 0 ≤ B (a + 4 + i) 2 * M1 385 (D + 1) := Int.mul_nonneg (by omega) g0.1
      have g2 : B (a + 4 + i) 2 * M1 385 (D + 1) ≤ 9 * 1000000 := Int.mul_le_mul b6.2 g0.2 g0.1 (by decide)
      have f3 : Fr (SD D) M (st M1 385 D (min 1000000 (M 385 D + B (a + 4 + i) 2 * M1 385 (D + 1)))) := f2.st (by unfold SD; omega)
      have s3 := st_at M1 385 D (min 1000000 (M 385 D + B (a + 4 + i) 2 * M1 385 (D + 1)))
      obtain ⟨u1, M2, u2, u3, u4⟩ := seg_sh hT n d (B (a + 4 + i) 9) j (ke + 1) l D _ F c6 (by omega) l1 (hP.fr f3) D0 D1 (by rw [s3]; omega) (by rw [s3]; omega)
      refine ⟨by omega, M2, ?_, ?_, f3.tr u4⟩
      · rw [← u2, show F + (l - k).toNat = (F + (l - (ke + 1)).toNat + 1 + (ke - (k + 1)).toNat) + 1 by omega, wl2_s]
        refine (sh_b _ hP hT k0 (by omega) b4 D0 (by omega)).trans ?_
        rw [r2, wl2_s]
        exact sh_c _ hP1 hT (by omega) (by omega) c4 D0 (by omega) t1 ⟨by omega, by omega⟩ t3 t2 ⟨v0, v1⟩ g1 g2
      · rw [u3, s3, r3, e, List.length_append, Int.natCast_add, len_fl, ex, Int.toNat_of_nonneg (by omega)]
        exact cut_mul b6.1 n0 n1 v0
theorem RR.m_showings {A B Mx Mm : Mem} (h : RR A B Mx Mm) : ∃ Mm1, f_X12_showings Mm = some (if A 337 60 = 0 then 0 else B 1 13, Mm1) ∧ RR A B Mx Mm1 := by
  obtain ⟨p1, p2, p3, p4⟩ := h.pln
  have m60 : Mm 337 60 = A 337 60 := h.rm (by unfold ScM; omega)
  have m376 : Mm 376 1 = A 376 1 := h.rm (by unfold ScM; omega)
  have f0 : Fr ScM Mm (st Mm 385 0 0) := (Fr.rf _ _).st (by unfold ScM; omega)
  unfold f_X12_showings
  rw [bm_e]
  rcases p1 with p1 | p1
  · refine ⟨st Mm 385 0 0, ?_, h.nx (Fr.rf _ _) f0 h.lc⟩
    rw [if_pos p1, show FU = 999999999 + 1 from rfl, wl2_s]
    have s0 := st_at Mm 385 0 0
    refine (sh_e (A := A) _ (by rw [st_neA (by decide), m376]) p3 (Or.inr (by rw [st_neA (by decide), m60, p1])) 0 (by rw [s0]; decide)).trans ?_
    rw [s0]
  · obtain ⟨c1, n, c2, c3, c4, c5⟩ := p4 p1
    have hP : Pl A (st Mm 385 0 0) := ⟨fun x s x0 x1 s0 => by rw [st_neA (by omega)]; exact h.rm (by unfold ScM; omega), by rw [st_neA (by decide), m376], by rw [st_neA (by decide), m60, p1]⟩
    have s0 := st_at Mm 385 0 0
    obtain ⟨r1, M1, r2, r3, r4⟩ := seg_sh p3.2 n 6 0 (B (B 1 9) 1) 80 (80 + A 376 1) 0 _ (FU - (80 + A 376 1 - 80).toNat) c2 (by decide) (Int.le_refl _) hP (by decide) (by decide) (by rw [s0]; decide) (by rw [s0]; decide)
    have hP1 := hP.fr r4
    refine ⟨M1, ?_, h.nx (Fr.rf _ _) (f0.tr (r4.mono (fun x s q => by unfold SD at q; unfold ScM; omega))) h.lc⟩
    have hF : FU = (FU - (80 + A 376 1 - 80).toNat) + (80 + A 376 1 - 80).toNat := by
      have : FU = 1000000000 := rfl
      omega
    have hG : FU - (80 + A 376 1 - 80).toNat = (FU - (80 + A 376 1 - 80).toNat - 1) + 1 := by
      have : FU = 1000000000 := rfl
      omega
    rw [s0] at r3
    rw [if_neg (by omega), c5]
    have n0 : (0 : Int) ≤ ((exL B (B 1 9) n 0 (B (B 1 9) 1)).length : Int) := Int.natCast_nonneg _
    rw [hF, r2, hG, wl2_s]
    rw [Int.zero_add] at r3
    refine (sh_e (A := A) _ hP1.2.1 p3 (Or.inl (Int.le_refl _)) 0 (by rw [r3]; exact ⟨by omega, by omega⟩)).trans ?_
    rw [r3]
