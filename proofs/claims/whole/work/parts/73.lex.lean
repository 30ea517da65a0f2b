/-! the class's Lexer: the tape's TOKENS in its rows -/
theorem e_xL (M : Mem) (c : Int) : f_X11_isLetter M c = some (bI (isL c), M) := e_mL M c
theorem e_xD (M : Mem) (c : Int) : f_X11_isDigit M c = some (bI (isD c), M) := e_mD M c
theorem e_xB (M : Mem) (c : Int) : f_X11_isBlank M c = some (bI (isB c), M) := by
  unfold f_X11_isBlank
  by_cases h1 : c = 10
  · rw [if_pos h1, bI_t (show isB c from Or.inl h1)]
  · rw [if_neg h1]
    by_cases h2 : c = 32
    · rw [if_pos h2, bI_t (show isB c from Or.inr h2)]
    · rw [if_neg h2, bI_f (show ¬ isB c from fun q => q.elim h1 h2)]
def XB (b : Int → Int) (n : Int) (M : Mem) : Prop := M 2 1 = n ∧ (0 ≤ n ∧ n ≤ 900) ∧ ∀ i, 0 ≤ i → i < n → M 3 i = b i ∧ 0 ≤ b i ∧ b i ≤ 255
def ScK (a i : Int) : Prop := a = 7 ∨ a = 8 ∨ a = 9 ∨ (a = 5 ∧ i = 5)
theorem XB.fr {b : Int → Int} {n : Int} {M M1 : Mem} (h : XB b n M) (f : Fr ScK M M1) : XB b n M1 := by
  obtain ⟨a0, a1, a2⟩ := h
  refine ⟨(f 2 1 (by unfold ScK; omega)).trans a0, a1, fun i i0 i1 => ?_⟩
  rw [f 3 i (by unfold ScK; omega)]; exact a2 i i0 i1
/-- the rows hold these TOKENS -/
def Arr (M : Mem) (L : List Tok) : Prop := M 5 5 = (L.length : Int) ∧ ∀ (k : Nat) (t : Tok), L[k]? = some t → M 7 k = t.1 ∧ M 8 k = t.2.1 ∧ M 9 k = t.2.2
section LX
variable {b : Int → Int} {n : Int} {M : Mem} {L : List Tok}
theorem e_xat (h : XB b n M) {k : Int} (h0 : 0 ≤ k) (h1 : k < n) : f_X9_at M k = some (b k, M) := by
  obtain ⟨a0, a1, a2⟩ := h
  unfold f_X9_at
  rw [if_neg (by omega), a0, if_neg (by omega), ok_t ⟨by omega, by omega⟩, (a2 k h0 h1).1]
theorem e_glued (h : XB b n M) {q : Int} (h0 : 0 ≤ q) (h1 : q ≤ n) : f_X4_isGlued M q = some (bI (glu b q), M) := by
  have a1 := h.2.1
  unfold f_X4_isGlued
  rw [ok_t ⟨by omega, by omega⟩]
  by_cases e : q = 0
  · unfold f_X9_at
    rw [if_pos (by omega), cl_some, e_xL, cl_some, if_pos (bI_f (by intro z; have := z.1; omega)), e_xD, cl_some, if_pos (bI_f (by intro z; have := z.1; omega)), bI_f]
    rintro ⟨z, -⟩; omega
  · rw [e_xat h (by omega) (by omega), cl_some, e_xL, cl_some, bI_ite]
    by_cases c : isL (b (q - 1))
    · rw [if_pos c, bI_t ⟨by omega, Or.inl c⟩]
    · rw [if_neg c, e_xD, cl_some, bI_ite]
      by_cases c2 : isD (b (q - 1))
      · rw [if_pos c2, bI_t ⟨by omega, Or.inr c2⟩]
      · rw [if_neg c2, bI_f]
        rintro ⟨-, z | z⟩
        · exact c z
        · exact c2 z
theorem e_xadd (h : Arr M L) (hl : L.length ≤ 900) (k v p : Int) : ∃ M1, f_X4_add M k v p = some (0, M1) ∧ Arr M1 (L ++ [(k, v, p)]) ∧ Fr ScK M M1 := by
  obtain ⟨a0, a1⟩ := h
  unfold f_X4_add
  have g5 : ∀ (x : Mem) (a i w : Int), ¬ (a = 5 ∧ i = 5) → st x a i w 5 5 = x 5 5 := fun x a i w q => st_ne (by rintro ⟨rfl, rfl⟩; exact q ⟨rfl, rfl⟩)
  rw [if_neg (by omega), ok_t ⟨by omega, by omega⟩, bm_e, g5 _ _ _ _ (by omega), ok_t ⟨by omega, by omega⟩, bm_e, g5 _ _ _ _ (by omega), g5 _ _ _ _ (by omega), ok_t ⟨by omega, by omega⟩, bm_e, g5 _ _ _ _ (by omega), g5 _ _ _ _ (by omega), g5 _ _ _ _ (by omega), ok_t ⟨by omega, by omega⟩, bm_e]
  refine ⟨_, rfl, ⟨?_, ?_⟩, ?_⟩
  · rw [st_at, a0]; simp
  · intro j t hj
    by_cases e : j < L.length
    · rw [List.getElem?_append_left e] at hj
      obtain ⟨c1, c2, c3⟩ := a1 j t hj
      have ne : (j : Int) ≠ M 5 5 := by omega
      rw [st_neA (by decide), st_neA (by decide), st_neA (by decide), st_neI ne, st_neA (by decide), st_neA (by decide), st_neI ne, st_neA (by decide), st_neA (by decide), st_neI ne, st_neA (by decide), st_neA (by decide)]
      exact ⟨c1, c2, c3⟩
    · rw [List.getElem?_append_right (by omega)] at hj
      have hj2 : j - L.length = 0 := by
        rcases Nat.eq_zero_or_pos (j - L.length) with q | q
        · exact q
        · rw [List.getElem?_eq_none (by simp; omega)] at hj; cases hj
      rw [hj2] at hj
      cases hj
      have e2 : (j : Int) = M 5 5 := by omega
      rw [e2]
      rw [st_neA (by decide), st_neA (by decide), st_neA (by decide), st_at, st_neA (by decide), st_neA (by decide), st_at, st_neA (by decide), st_at]
      exact ⟨rfl, rfl, rfl⟩
  · exact Fr.st (Fr.st (Fr.st (Fr.st (Fr.rf _ _) (by unfold ScK; omega)) (by unfold ScK; omega)) (by unfold ScK; omega)) (by unfold ScK; omega)
theorem e_ownW (M : Mem) (v : Int) : ∃ w, f_X4_ownWordOf M v = some (w, M) ∧ ((w = -1 ∧ ∀ j, 0 ≤ j → j < 21 → fxv 6 j ≠ v) ∨ ((0 ≤ w ∧ w < 21) ∧ fxv 6 w = v)) := by
  have key : Tt (f_X4_ownWordOf M v) (fun w M1 => M1 = M ∧ ((w = -1 ∧ ∀ j, 0 ≤ j → j < 21 → fxv 6 j ≠ v) ∨ ((0 ≤ w ∧ w < 21) ∧ fxv 6 w = v))) := by
    unfold f_X4_ownWordOf
    refine tt_wl1 (fun M1 x => M = M1 ∧ 0 ≤ x ∧ x ≤ 21 ∧ ∀ j, 0 ≤ j → j < x → fxv 6 j ≠ v) (fun _ x => (21 - x).toNat) ?_ FU M 0 ⟨rfl, by decide, by decide, fun j _ _ => by omega⟩ (by have : FU = 1000000000 := rfl; omega)
    rintro w M1 x ⟨rfl, x0, x1, hx⟩ K
    unfold b_X4_ownWordOf_2
    refine tt_if (fun c => ?_) (fun c => ?_)
    · exact tt_ret ⟨rfl, Or.inl ⟨rfl, fun j j0 j1 => hx j j0 (by omega)⟩⟩
    · refine tt_ok ⟨by omega, by omega⟩ (tt_if (fun c2 => ?_) (fun c2 => ?_))
      · exact tt_ret ⟨rfl, Or.inr ⟨⟨x0, by omega⟩, c2⟩⟩
      · refine tt_bi (K _ _ ⟨rfl, by omega, by omega, fun j j0 j1 => ?_⟩ (by omega))
        by_cases e : j = x
        · rw [e]; exact c2
        · exact hx j j0 (by omega)
  obtain ⟨w, M1, e, rfl, q⟩ := key
  exact ⟨w, e, q⟩
def pw7 (k : Int) : Int := if k = 0 then 14348907 else if k = 1 then 531441 else if k = 2 then 19683 else if k = 3 then 729 else if k = 4 then 27 else 1
theorem e_wl (M : Mem) {x k l : Int} (hx : 0 ≤ x ∧ x ≤ 400000000) (hk : 0 ≤ k ∧ k ≤ 5) (hl : 1 ≤ l ∧ l ≤ 26) : f_X11_withLetter M x k l = some (x + l * pw7 k, M) := by
  have key : Tt (f_X11_withLetter M x k l) (fun r M1 => r = x + l * pw7 k ∧ M1 = M) := by
    unfold f_X11_withLetter
    refine tt_wl2 (fun M1 y j => M = M1 ∧ k ≤ j ∧ j ≤ 5 ∧ 1 ≤ y ∧ y * pw7 j = pw7 k) (fun _ _ j => (5 - j).toNat) ?_ FU M 1 k ⟨rfl, Int.le_refl _, hk.2, by decide, by rw [Int.one_mul]⟩ (by have : FU = 1000000000 := rfl; omega)
    rintro w M1 y j ⟨rfl, j0, j1, y1, hy⟩ K
    have e : j = 0 ∨ j = 1 ∨ j = 2 ∨ j = 3 ∨ j = 4 ∨ j = 5 := by omega
    have pk : 1 ≤ pw7 k ∧ pw7 k ≤ 14348907 := by
      unfold pw7
      repeat' split
      all_goals omega
    have cm : l * y = y * l := Int.mul_comm _ _
    unfold b_X11_withLetter_5
    refine tt_if (fun c => ?_) (fun c => ?_)
    · have : j = 5 := by omega
      subst this
      have e5 : pw7 5 = 1 := rfl
      rw [e5, Int.mul_one] at hy
      rw [hy]
      have hb : l * pw7 k ≤ 26 * 14348907 := Int.mul_le_mul hl.2 pk.2 (by omega) (by decide)
      have hc : 0 ≤ l * pw7 k := Int.mul_nonneg (by omega) (by omega)
      exact tt_ok ⟨by omega, by omega⟩ (tt_ok ⟨by omega, by omega⟩ (tt_ret ⟨rfl, rfl⟩))
    · have hp : pw7 j = 27 * pw7 (j + 1) ∧ 1 ≤ pw7 (j + 1) := by
        rcases e with rfl | rfl | rfl | rfl | rfl | rfl
        · decide
        · decide
        · decide
        · decide
        · decide
        · omega
      have h2 : y * 27 * pw7 (j + 1) = pw7 k := by rw [Int.mul_assoc, ← hp.1]; exact hy
      have h3 : y * 27 ≤ y * 27 * pw7 (j + 1) := by
        have := Int.mul_le_mul_of_nonneg_left hp.2 (show 0 ≤ y * 27 by omega)
        omega
      refine tt_ok ⟨by omega, by omega⟩ (tt_bi (tt_ok ⟨by omega, by omega⟩ (tt_bi (K _ _ _ ⟨rfl, by omega, by omega, by omega, h2⟩ (by omega)))))
  obtain ⟨r, M1, e, rfl, rfl⟩ := key
  exact e
theorem nam_s {b : Int → Int} {q l : Int} (hl : 0 ≤ l ∧ l ≤ 5) : nam b q (l + 1) = nam b q l + (b (q + l) - 97 + 1) * pw7 l := by
  have e : l = 0 ∨ l = 1 ∨ l = 2 ∨ l = 3 ∨ l = 4 ∨ l = 5 := by omega
  rcases e with rfl | rfl | rfl | rfl | rfl | rfl <;> simp [nam, dgt, pw7] <;> omega
theorem nam_6 {b : Int → Int} {q l : Int} (hl : 6 ≤ l) : nam b q (l + 1) = nam b q l := by
  unfold nam dgt
  simp only [if_pos (show (0 : Int) < l + 1 by omega), if_pos (show (1 : Int) < l + 1 by omega), if_pos (show (2 : Int) < l + 1 by omega), if_pos (show (3 : Int) < l + 1 by omega), if_pos (show (4 : Int) < l + 1 by omega), if_pos (show (5 : Int) < l + 1 by omega), if_pos (show (0 : Int) < l by omega), if_pos (show (1 : Int) < l by omega), if_pos (show (2 : Int) < l by omega), if_pos (show (3 : Int) < l by omega), if_pos (show (4 : Int) < l by omega), if_pos (show (5 : Int) < l by omega)]
theorem nam_b {b : Int → Int} {q l : Int} (hb : ∀ i, q ≤ i → i < q + l → isL (b i)) : 0 ≤ nam b q l ∧ nam b q l ≤ 387420488 := by
  have g := fun i (hi : 0 ≤ i) => dgt_rng hb i hi
  have g0 := g 0 (by decide)
  have g1 := g 1 (by decide)
  have g2 := g 2 (by decide)
  have g3 := g 3 (by decide)
  have g4 := g 4 (by decide)
  have g5 := g 5 (by decide)
  unfold nam
  omega
theorem e_addWord (h : XB b n M) (hA : Arr M L) {q : Int} (q0 : 0 ≤ q) (q1 : q < n) (hl : L.length ≤ 900) (hL : isL (b q)) : ∃ r t M1, f_X4_addWord M q = some (r, M1) ∧ tkR isL b n q r ∧ tkW b q r t ∧ t.2.2 = q ∧ Arr M1 (L ++ [t]) ∧ Fr ScK M M1 := by
  have hn := h.2.1
  have key : Tt (f_X4_addWord M q) (fun r M1 => ∃ t, tkR isL b n q r ∧ tkW b q r t ∧ t.2.2 = q ∧ Arr M1 (L ++ [t]) ∧ Fr ScK M M1) := by
    unfold f_X4_addWord
    refine tt_wl2 (fun M1 x2 x3 => M = M1 ∧ q ≤ x3 ∧ x3 ≤ n ∧ (∀ i, q ≤ i → i < x3 → isL (b i)) ∧ x2 = nam b q (x3 - q)) (fun _ _ x3 => (n - x3).toNat) ?_ FU M 0 q ⟨rfl, Int.le_refl _, by omega, fun i _ _ => by omega, by rw [Int.sub_self]; rfl⟩ (by have : FU = 1000000000 := rfl; omega)
    rintro w M1 x2 x3 ⟨rfl, i1, i2, i3, rfl⟩ K
    have nb := nam_b (b := b) (q := q) (l := x3 - q) (fun i a c => i3 i a (by omega))
    have ex : (x3 = n ∨ ¬ isL (b x3)) → Tt (j_X4_addWord_68 q M (nam b q (x3 - q)) x3) (fun r M1 => ∃ t, tkR isL b n q r ∧ tkW b q r t ∧ t.2.2 = q ∧ Arr M1 (L ++ [t]) ∧ Fr ScK M M1) := by
      intro hz
      have hlt : q < x3 := by
        by_cases e : x3 = q
        · rcases hz with z | z
          · omega
          · rw [e] at z; exact absurd hL z
        · omega
      have hR : tkR isL b n q x3 := ⟨hlt, i2, i3, hz⟩
      unfold j_X4_addWord_68
      refine tt_cq (e_glued h q0 (by omega)) ?_
      rw [bI_ite]
      refine tt_if (fun c => ?_) (fun c => ?_)
      · obtain ⟨M2, e, a1, a2⟩ := e_xadd hA hl 7 0 q
        exact tt_cq e (tt_ret ⟨_, hR, Or.inl ⟨c, rfl⟩, rfl, a1, a2⟩)
      · refine tt_ok ⟨by omega, by omega⟩ (tt_if (fun c2 => ?_) (fun c2 => ?_))
        · obtain ⟨w0, e0, hw⟩ := e_ownW M (nam b q (x3 - q))
          refine tt_cq e0 (tt_if (fun c3 => ?_) (fun c3 => ?_))
          · obtain ⟨M2, e, a1, a2⟩ := e_xadd hA hl 1 (nam b q (x3 - q)) q
            refine tt_cq e (tt_ret ⟨_, hR, Or.inr ⟨c, Or.inr ⟨c2, Or.inr ⟨rfl, rfl, ?_⟩⟩⟩, rfl, a1, a2⟩)
            rcases hw with ⟨-, hw⟩ | ⟨hw, -⟩
            · exact hw
            · omega
          · refine tt_cq e0 ?_
            obtain ⟨M2, e, a1, a2⟩ := e_xadd hA hl 2 w0 q
            refine tt_cq e (tt_ret ⟨_, hR, Or.inr ⟨c, Or.inr ⟨c2, Or.inl ⟨rfl, ?_⟩⟩⟩, rfl, a1, a2⟩)
            rcases hw with ⟨hw, -⟩ | hw
            · exact absurd hw c3
            · exact hw
        · obtain ⟨M2, e, a1, a2⟩ := e_xadd hA hl 5 0 q
          exact tt_cq e (tt_ret ⟨_, hR, Or.inr ⟨c, Or.inl ⟨by omega, rfl⟩⟩, rfl, a1, a2⟩)
    unfold b_X4_addWord_4
    rw [h.1]
    refine tt_if (fun c => ex (Or.inl (by omega))) (fun c => ?_)
    refine tt_cq (e_xat h (by omega) (by omega)) (tt_cq (e_xL _ _) ?_)
    rw [bI_ite]
    refine tt_if (fun c2 => ?_) (fun c2 => ex (Or.inr c2))
    have c21 := c2.1
    have c22 := c2.2
    have nx : ∀ i, q ≤ i → i < x3 + 1 → isL (b i) := by
      intro i a c
      by_cases e : i = x3
      · rw [e]; exact c2
      · exact i3 i a (by omega)
    refine tt_ok ⟨by omega, by omega⟩ (tt_if (fun c3 => ?_) (fun c3 => ?_))
    · refine tt_ok ⟨by omega, by omega⟩ (tt_bi (K _ _ _ ⟨rfl, by omega, by omega, nx, ?_⟩ (by omega)))
      rw [show x3 + 1 - q = x3 - q + 1 by omega, nam_6 c3]
    · refine tt_cq (e_xat h (by omega) (by omega)) (tt_ok ⟨by omega, by omega⟩ (tt_ok ⟨by omega, by omega⟩ (tt_cq (e_wl _ ⟨nb.1, by omega⟩ ⟨by omega, by omega⟩ ⟨by omega, by omega⟩) (tt_ok ⟨by omega, by omega⟩ (tt_bi (K _ _ _ ⟨rfl, by omega, by omega, nx, ?_⟩ (by omega)))))))
      rw [show x3 + 1 - q = x3 - q + 1 by omega, nam_s ⟨by omega, by omega⟩, show q + (x3 - q) = x3 by omega]
  obtain ⟨r, M1, e, t, q2⟩ := key
  exact ⟨r, t, M1, e, q2⟩
theorem e_addNumber (h : XB b n M) (hA : Arr M L) {q : Int} (q0 : 0 ≤ q) (q1 : q < n) (hl : L.length ≤ 900) (hD : isD (b q)) : ∃ r t M1, f_X4_addNumber M q = some (r, M1) ∧ tkR isD b n q r ∧ tkN b q r t ∧ t.2.2 = q ∧ Arr M1 (L ++ [t]) ∧ Fr ScK M M1 := by
  have hn := h.2.1
  have key : Tt (f_X4_addNumber M q) (fun r M1 => ∃ t, tkR isD b n q r ∧ tkN b q r t ∧ t.2.2 = q ∧ Arr M1 (L ++ [t]) ∧ Fr ScK M M1) := by
    unfold f_X4_addNumber
    refine tt_wl2 (fun M1 x2 x3 => M = M1 ∧ q ≤ x3 ∧ x3 ≤ n ∧ (∀ i, q ≤ i → i < x3 → isD (b i)) ∧ x2 = num b q (min (x3 - q) 4).toNat) (fun _ _ x3 => (n - x3).toNat) ?_ FU M 0 q ⟨rfl, Int.le_refl _, by omega, fun i _ _ => by omega, by rw [Int.sub_self]; rfl⟩ (by have : FU = 1000000000 := rfl; omega)
    rintro w M1 x2 x3 ⟨rfl, i1, i2, i3, rfl⟩ K
    have nb := num_b (b := b) (q := q) (k := (min (x3 - q) 4).toNat) (by omega) (fun i a c => i3 i a (by omega))
    have ex : (x3 = n ∨ ¬ isD (b x3)) → Tt (j_X4_addNumber_63 q M (num b q (min (x3 - q) 4).toNat) x3) (fun r M1 => ∃ t, tkR isD b n q r ∧ tkN b q r t ∧ t.2.2 = q ∧ Arr M1 (L ++ [t]) ∧ Fr ScK M M1) := by
      intro hz
      have hlt : q < x3 := by
        by_cases e : x3 = q
        · rcases hz with z | z
          · omega
          · rw [e] at z; exact absurd hD z
        · omega
      have hR : tkR isD b n q x3 := ⟨hlt, i2, i3, hz⟩
      unfold j_X4_addNumber_63
      refine tt_cq (e_glued h q0 (by omega)) ?_
      rw [bI_ite]
      refine tt_if (fun c => ?_) (fun c => ?_)
      · obtain ⟨M2, e, a1, a2⟩ := e_xadd hA hl 7 0 q
        exact tt_cq e (tt_ret ⟨_, hR, Or.inl ⟨c, rfl⟩, rfl, a1, a2⟩)
      · refine tt_ok ⟨by omega, by omega⟩ (tt_if (fun c2 => ?_) (fun c2 => ?_))
        · unfold j_X4_addNumber_96
          obtain ⟨M2, e, a1, a2⟩ := e_xadd hA hl 3 (num b q (min (x3 - q) 4).toNat) q
          refine tt_cq e (tt_ret ⟨_, hR, Or.inr ⟨c, Or.inr ⟨c2, rfl, ?_⟩⟩, rfl, a1, a2⟩)
          rw [Int.min_eq_left c2]
        · unfold j_X4_addNumber_96
          obtain ⟨M2, e, a1, a2⟩ := e_xadd hA hl 6 (num b q (min (x3 - q) 4).toNat) q
          exact tt_cq e (tt_ret ⟨_, hR, Or.inr ⟨c, Or.inl ⟨by omega, rfl⟩⟩, rfl, a1, a2⟩)
    unfold b_X4_addNumber_4
    rw [h.1]
    refine tt_if (fun c => ex (Or.inl (by omega))) (fun c => ?_)
    refine tt_cq (e_xat h (by omega) (by omega)) (tt_cq (e_xD _ _) ?_)
    rw [bI_ite]
    refine tt_if (fun c2 => ?_) (fun c2 => ex (Or.inr c2))
    have c21 := c2.1
    have c22 := c2.2
    have nx : ∀ i, q ≤ i → i < x3 + 1 → isD (b i) := by
      intro i a c
      by_cases e : i = x3
      · rw [e]; exact c2
      · exact i3 i a (by omega)
    refine tt_ok ⟨by omega, by omega⟩ (tt_if (fun c3 => ?_) (fun c3 => ?_))
    · refine tt_ok ⟨by omega, by omega⟩ (tt_bi (K _ _ _ ⟨rfl, by omega, by omega, nx, ?_⟩ (by omega)))
      rw [Int.min_eq_right (by omega), Int.min_eq_right (by omega)]
    · have l3 := nb.2.2.1 (by omega)
      refine tt_ok ⟨by omega, by omega⟩ (tt_cq (e_xat h (by omega) (by omega)) (tt_ok ⟨by omega, by omega⟩ (tt_ok ⟨by omega, by omega⟩ (tt_bi (tt_ok ⟨by omega, by omega⟩ (tt_bi (K _ _ _ ⟨rfl, by omega, by omega, nx, ?_⟩ (by omega))))))))
      rw [Int.min_eq_left (show x3 + 1 - q ≤ 4 by omega), Int.min_eq_left (show x3 - q ≤ 4 by omega), show (x3 + 1 - q).toNat = (x3 - q).toNat + 1 by omega]
      show _ = 10 * num b q (x3 - q).toNat + b (q + ((x3 - q).toNat : Nat)) - 48
      rw [show q + (((x3 - q).toNat : Nat) : Int) = x3 by omega]
  obtain ⟨r, M1, e, t, q2⟩ := key
  exact ⟨r, t, M1, e, q2⟩
theorem e_partTape (h : XB b n M) : ∃ T M1, f_X4_partTape M = some (0, M1) ∧ Lx b n 0 T ∧ Arr M1 T ∧ Fr ScK M M1 := by
  have hn := h.2.1
  have key : Tt (f_X4_partTape M) (fun r M1 => r = 0 ∧ ∃ T, Lx b n 0 T ∧ Arr M1 T ∧ Fr ScK M M1) := by
    unfold f_X4_partTape
    refine tt_bm ?_
    have f0 : Fr ScK M (st M 5 5 0) := Fr.st (Fr.rf _ _) (by unfold ScK; omega)
    refine tt_wl1 (fun M1 p => 0 ≤ p ∧ p ≤ n ∧ Fr ScK M M1 ∧ ∃ L, Arr M1 L ∧ (L.length : Int) ≤ p ∧ ∀ T, Lx b n p T → Lx b n 0 (L ++ T)) (fun _ p => (n - p).toNat) ?_ FU (st M 5 5 0) 0 ⟨by decide, hn.1, f0, [], ⟨st_at _ _ _ _, fun k t hk => by simp at hk⟩, by decide, fun T hT => hT⟩ (by have : FU = 1000000000 := rfl; omega)
    rintro w M1 p ⟨p0, p1, f, L, hA, hL, hT⟩ K
    have hX := h.fr f
    have jj : ∀ (M2 : Mem) (x3 r : Int) (L2 : List Tok), max (p + 1) x3 = r → r ≤ n → Fr ScK M M2 → Arr M2 L2 → (L2.length : Int) ≤ r → (∀ T, Lx b n r T → Lx b n 0 (L2 ++ T)) → Tt (j_X4_partTape_77 w M2 p x3) (fun r M1 => r = 0 ∧ ∃ T, Lx b n 0 T ∧ Arr M1 T ∧ Fr ScK M M1) := by
      intro M2 x3 r L2 er rn f2 a1 a2 a3
      unfold j_X4_partTape_77
      refine tt_ok ⟨by omega, by omega⟩ (tt_cq (e_max _ _ _) ?_)
      rw [er]
      exact K _ _ ⟨by omega, by omega, f2, L2, a1, a2, a3⟩ (by omega)
    unfold b_X4_partTape_7
    rw [hX.1]
    refine tt_if (fun c => ?_) (fun c => ?_)
    · obtain ⟨M2, e, a1, a2⟩ := e_xadd hA (by omega) 0 0 n
      refine tt_cq e (tt_ret ⟨rfl, _, ?_, a1, f.tr a2⟩)
      have en : p = n := by omega
      exact hT _ ⟨n, n, by omega, Int.le_refl _, fun i a d => by omega, rfl, Or.inl ⟨rfl, rfl, rfl⟩⟩
    · refine tt_cq (e_xat hX p0 (by omega)) (tt_ok ⟨by omega, by omega⟩ (tt_bi (tt_cq (e_xL _ _) ?_)))
      rw [bI_ite]
      refine tt_if (fun c2 => ?_) (fun c2 => ?_)
      · obtain ⟨r, t, M2, e, b1, b2, b3, b4, b5⟩ := e_addWord hX hA p0 (by omega) (by omega) c2
        have b6 := b1.1
        refine tt_cq e (jj M2 r r (L ++ [t]) (by omega) b1.2.1 (f.tr b5) b4 (by simp; omega) (fun T hT2 => ?_))
        rw [List.append_assoc]
        exact hT _ ⟨p, r, Int.le_refl _, by omega, fun i a d => by omega, b3, Or.inr ⟨by omega, Or.inl ⟨b1, b2⟩, hT2⟩⟩
      · refine tt_cq (e_xD _ _) ?_
        rw [bI_ite]
        refine tt_if (fun c3 => ?_) (fun c3 => ?_)
        · obtain ⟨r, t, M2, e, b1, b2, b3, b4, b5⟩ := e_addNumber hX hA p0 (by omega) (by omega) c3
          have b6 := b1.1
          refine tt_cq e (jj M2 r r (L ++ [t]) (by omega) b1.2.1 (f.tr b5) b4 (by simp; omega) (fun T hT2 => ?_))
          rw [List.append_assoc]
          exact hT _ ⟨p, r, Int.le_refl _, by omega, fun i a d => by omega, b3, Or.inr ⟨by omega, Or.inr (Or.inl ⟨b1, b2⟩), hT2⟩⟩
        · refine tt_cq (e_xB _ _) ?_
          rw [bI_ite]
          refine tt_if (fun c4 => ?_) (fun c4 => ?_)
          · exact jj M1 (p + 1) (p + 1) L (by omega) (by omega) f hA (by omega) (fun T hT2 => hT _ (hT2.bl c4))
          · obtain ⟨M2, e, a1, a2⟩ := e_xadd hA (by omega) 4 (b p) p
            refine tt_cq e (jj M2 (p + 1) (p + 1) _ (by omega) (by omega) (f.tr a2) a1 (by simp; omega) (fun T hT2 => ?_))
            rw [List.append_assoc]
            exact hT _ ⟨p, p + 1, Int.le_refl _, by omega, fun i a d => by omega, rfl, Or.inr ⟨by omega, Or.inr (Or.inr ⟨c2, c3, c4, rfl, rfl, rfl⟩), hT2⟩⟩
  obtain ⟨r, M1, e, rfl, T, q⟩ := key
  exact ⟨T, M1, e, q⟩
end LX
