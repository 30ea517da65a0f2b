/-! TOKENS: what both readers see of a tape; the reference's readers of words, signs, numbers and names -/
abbrev Tok : Type := Int × Int × Int
abbrev isL (c : Int) : Prop := 97 ≤ c ∧ c ≤ 122
abbrev isD (c : Int) : Prop := 48 ≤ c ∧ c ≤ 57
abbrev isB (c : Int) : Prop := c = 10 ∨ c = 32
theorem e_mL (M : Mem) (c : Int) : f_X12_isLetter M c = some (bI (isL c), M) := by
  unfold f_X12_isLetter
  by_cases h1 : c < 97
  · rw [if_pos h1, bI_f (show ¬ isL c from fun q => by have := q.1; omega)]
  · rw [if_neg h1]
    by_cases h2 : 122 < c
    · rw [if_pos h2, bI_f (show ¬ isL c from fun q => by have := q.2; omega)]
    · rw [if_neg h2, bI_t (show isL c from ⟨by omega, by omega⟩)]
theorem e_mD (M : Mem) (c : Int) : f_X12_isDigit M c = some (bI (isD c), M) := by
  unfold f_X12_isDigit
  by_cases h1 : c < 48
  · rw [if_pos h1, bI_f (show ¬ isD c from fun q => by have := q.1; omega)]
  · rw [if_neg h1]
    by_cases h2 : 57 < c
    · rw [if_pos h2, bI_f (show ¬ isD c from fun q => by have := q.2; omega)]
    · rw [if_neg h2, bI_t (show isD c from ⟨by omega, by omega⟩)]
def dgt (b : Int → Int) (q l i : Int) : Int := if i < l then b (q + i) - 96 else 0
/-- a word as a number: six letters of 27 -/
def nam (b : Int → Int) (q l : Int) : Int := dgt b q l 0 * 14348907 + dgt b q l 1 * 531441 + dgt b q l 2 * 19683 + dgt b q l 3 * 729 + dgt b q l 4 * 27 + dgt b q l 5
theorem r27 {x y t : Int} (hx : 0 ≤ x ∧ x ≤ 26) (hy : 0 ≤ y ∧ y ≤ 26) (h : x - y = 27 * t) : x = y := by omega
theorem six_inj {x0 x1 x2 x3 x4 x5 y0 y1 y2 y3 y4 y5 : Int} (a0 : 0 ≤ x0 ∧ x0 ≤ 26) (a1 : 0 ≤ x1 ∧ x1 ≤ 26) (a2 : 0 ≤ x2 ∧ x2 ≤ 26) (a3 : 0 ≤ x3 ∧ x3 ≤ 26) (a4 : 0 ≤ x4 ∧ x4 ≤ 26) (a5 : 0 ≤ x5 ∧ x5 ≤ 26) (b0 : 0 ≤ y0 ∧ y0 ≤ 26) (b1 : 0 ≤ y1 ∧ y1 ≤ 26) (b2 : 0 ≤ y2 ∧ y2 ≤ 26) (b3 : 0 ≤ y3 ∧ y3 ≤ 26) (b4 : 0 ≤ y4 ∧ y4 ≤ 26) (b5 : 0 ≤ y5 ∧ y5 ≤ 26)
    (h : x0 * 14348907 + x1 * 531441 + x2 * 19683 + x3 * 729 + x4 * 27 + x5 = y0 * 14348907 + y1 * 531441 + y2 * 19683 + y3 * 729 + y4 * 27 + y5) : x0 = y0 ∧ x1 = y1 ∧ x2 = y2 ∧ x3 = y3 ∧ x4 = y4 ∧ x5 = y5 := by
  have h5 : x5 = y5 := r27 a5 b5 (t := (y0 - x0) * 531441 + (y1 - x1) * 19683 + (y2 - x2) * 729 + (y3 - x3) * 27 + (y4 - x4)) (by omega)
  subst h5
  have h4 : x4 = y4 := r27 a4 b4 (t := (y0 - x0) * 19683 + (y1 - x1) * 729 + (y2 - x2) * 27 + (y3 - x3)) (by omega)
  subst h4
  have h3 : x3 = y3 := r27 a3 b3 (t := (y0 - x0) * 729 + (y1 - x1) * 27 + (y2 - x2)) (by omega)
  subst h3
  have h2 : x2 = y2 := r27 a2 b2 (t := (y0 - x0) * 27 + (y1 - x1)) (by omega)
  subst h2
  have h1 : x1 = y1 := r27 a1 b1 (t := (y0 - x0)) (by omega)
  subst h1
  exact ⟨by omega, rfl, rfl, rfl, rfl, rfl⟩
theorem dgt_rng {b : Int → Int} {q l : Int} (hb : ∀ i, q ≤ i → i < q + l → isL (b i)) (i : Int) (hi : 0 ≤ i) : 0 ≤ dgt b q l i ∧ dgt b q l i ≤ 26 := by
  unfold dgt
  split
  · have := hb (q + i) (by omega) (by omega)
    have h1 := this.1
    have h2 := this.2
    omega
  · omega
theorem dgt_0 {b : Int → Int} {q l i : Int} (hb : ∀ i, q ≤ i → i < q + l → isL (b i)) (hi : 0 ≤ i) (h : dgt b q l i = 0) : l ≤ i := by
  unfold dgt at h
  split at h
  · have h1 := (hb (q + i) (by omega) (by omega)).1
    omega
  · omega
theorem dgt_n {b : Int → Int} {q l i : Int} (h : l ≤ i) : dgt b q l i = 0 := if_neg (by omega)
theorem dgt_l {b : Int → Int} {q l i : Int} (h : i < l) : dgt b q l i = b (q + i) - 96 := if_pos h
theorem nam_inj {b b' : Int → Int} {q q' l l' : Int} (hl : 1 ≤ l ∧ l ≤ 6) (hl' : 1 ≤ l' ∧ l' ≤ 6) (hb : ∀ i, q ≤ i → i < q + l → isL (b i)) (hb' : ∀ i, q' ≤ i → i < q' + l' → isL (b' i)) (h : nam b q l = nam b' q' l') : l = l' ∧ ∀ i, 0 ≤ i → i < l → b (q + i) = b' (q' + i) := by
  have g := fun i (hi : 0 ≤ i) => dgt_rng hb i hi
  have g' := fun i (hi : 0 ≤ i) => dgt_rng hb' i hi
  unfold nam at h
  obtain ⟨e0, e1, e2, e3, e4, e5⟩ := six_inj (g 0 (by decide)) (g 1 (by decide)) (g 2 (by decide)) (g 3 (by decide)) (g 4 (by decide)) (g 5 (by decide)) (g' 0 (by decide)) (g' 1 (by decide)) (g' 2 (by decide)) (g' 3 (by decide)) (g' 4 (by decide)) (g' 5 (by decide)) h
  have ee : ∀ i, 0 ≤ i → i ≤ 5 → dgt b q l i = dgt b' q' l' i := by
    intro i h0 h5
    have : i = 0 ∨ i = 1 ∨ i = 2 ∨ i = 3 ∨ i = 4 ∨ i = 5 := by omega
    rcases this with rfl | rfl | rfl | rfl | rfl | rfl <;> assumption
  have hll : l = l' := by
    rcases Int.lt_trichotomy l l' with q1 | q1 | q1
    · have h1 := ee l (by omega) (by omega)
      rw [dgt_n (Int.le_refl l)] at h1
      have := dgt_0 hb' (by omega) h1.symm
      omega
    · exact q1
    · have h1 := ee l' (by omega) (by omega)
      rw [dgt_n (Int.le_refl l')] at h1
      have := dgt_0 hb (by omega) h1
      omega
  refine ⟨hll, fun i h0 h1 => ?_⟩
  have h2 := ee i h0 (by omega)
  rw [dgt_l h1, dgt_l (by omega)] at h2
  omega
def num (b : Int → Int) (q : Int) : Nat → Int
  | 0 => 0
  | k + 1 => 10 * num b q k + b (q + k) - 48
abbrev glu (b : Int → Int) (q : Int) : Prop := 1 ≤ q ∧ (isL (b (q - 1)) ∨ isD (b (q - 1)))
def tkR (P : Int → Prop) (b : Int → Int) (n q r : Int) : Prop := q < r ∧ r ≤ n ∧ (∀ i, q ≤ i → i < r → P (b i)) ∧ (r = n ∨ ¬ P (b r))
def tkW (b : Int → Int) (q r : Int) (t : Tok) : Prop := (glu b q ∧ t.1 = 7) ∨ (¬ glu b q ∧ ((6 < r - q ∧ t.1 = 5) ∨ (r - q ≤ 6 ∧ ((t.1 = 2 ∧ (0 ≤ t.2.1 ∧ t.2.1 < 21) ∧ fxv 6 t.2.1 = nam b q (r - q)) ∨ (t.1 = 1 ∧ t.2.1 = nam b q (r - q) ∧ ∀ w, 0 ≤ w → w < 21 → fxv 6 w ≠ t.2.1)))))
def tkN (b : Int → Int) (q r : Int) (t : Tok) : Prop := (glu b q ∧ t.1 = 7) ∨ (¬ glu b q ∧ ((4 < r - q ∧ t.1 = 6) ∨ (r - q ≤ 4 ∧ t.1 = 3 ∧ t.2.1 = num b q (r - q).toNat)))
def tkD (b : Int → Int) (n q : Int) (t : Tok) (r : Int) : Prop := (tkR isL b n q r ∧ tkW b q r t) ∨ (tkR isD b n q r ∧ tkN b q r t) ∨ (¬ isL (b q) ∧ ¬ isD (b q) ∧ ¬ isB (b q) ∧ r = q + 1 ∧ t.1 = 4 ∧ t.2.1 = b q)
def Lx (b : Int → Int) (n : Int) : Int → List Tok → Prop
  | _, [] => False
  | p, t :: T => ∃ q r, p ≤ q ∧ q ≤ n ∧ (∀ i, p ≤ i → i < q → isB (b i)) ∧ t.2.2 = q ∧ ((q = n ∧ t.1 = 0 ∧ T = []) ∨ (q < n ∧ tkD b n q t r ∧ Lx b n r T))
theorem tkD.nb {b : Int → Int} {n q r : Int} {t : Tok} (h : tkD b n q t r) : ¬ isB (b q) := by
  intro hB
  rcases h with ⟨⟨h1, h2, h3, -⟩, -⟩ | ⟨⟨h1, h2, h3, -⟩, -⟩ | ⟨-, -, h, -⟩
  · have g := h3 q (Int.le_refl q) h1
    have g1 := g.1
    have g2 := g.2
    rcases hB with h | h <;> omega
  · have g := h3 q (Int.le_refl q) h1
    have g1 := g.1
    have g2 := g.2
    rcases hB with h | h <;> omega
  · exact h hB
theorem tkD.lt {b : Int → Int} {n q r : Int} {t : Tok} (hq : q < n) (h : tkD b n q t r) : q < r ∧ r ≤ n := by
  rcases h with ⟨⟨h1, h2, h3, -⟩, -⟩ | ⟨⟨h1, h2, h3, -⟩, -⟩ | ⟨-, -, -, h, -⟩
  · exact ⟨h1, h2⟩
  · exact ⟨h1, h2⟩
  · omega
theorem tkD.nz {b : Int → Int} {n q r : Int} {t : Tok} (h : tkD b n q t r) : t.1 ≠ 0 := by
  rcases h with ⟨-, h⟩ | ⟨-, h⟩ | ⟨-, -, -, -, h, -⟩
  · rcases h with ⟨-, h⟩ | ⟨-, ⟨-, h⟩ | ⟨-, ⟨h, -⟩ | ⟨h, -⟩⟩⟩ <;> omega
  · rcases h with ⟨-, h⟩ | ⟨-, ⟨-, h⟩ | ⟨-, h, -⟩⟩ <;> omega
  · omega
/-- blanks ahead don't matter -/
theorem Lx.bl {b : Int → Int} {n p : Int} (hb : isB (b p)) : ∀ {T : List Tok}, Lx b n (p + 1) T → Lx b n p T
  | [], h => h
  | t :: T, h => by
    obtain ⟨q, r, h1, h2, h3, h4⟩ := h
    refine ⟨q, r, by omega, h2, fun i i0 i1 => ?_, h4⟩
    by_cases e : i = p
    · rw [e]; exact hb
    · exact h3 i (by omega) i1
def hk (T : List Tok) : Int := (T.headD (0, 0, 0)).1
def hv (T : List Tok) : Int := (T.headD (0, 0, 0)).2.1
def hq (T : List Tok) : Int := (T.headD (0, 0, 0)).2.2
abbrev isS (T : List Tok) (c : Int) : Prop := hk T = 4 ∧ hv T = c
abbrev isW (T : List Tok) (w : Int) : Prop := hk T = 2 ∧ hv T = w
def lkv (b : Int → Int) (T : List Tok) : Int := if hk T = 0 then -1 else b (hq T)
/-- what the head tells -/
theorem Lx.hd {b : Int → Int} {n p : Int} {T : List Tok} (h : Lx b n p T) : p ≤ hq T ∧ hq T ≤ n ∧ (∀ i, p ≤ i → i < hq T → isB (b i)) ∧ ((hq T = n ∧ hk T = 0) ∨ (hq T < n ∧ ∃ t r, hk T = t.1 ∧ hv T = t.2.1 ∧ tkD b n (hq T) t r ∧ Lx b n r T.tail)) := by
  cases T with
  | nil => exact h.elim
  | cons t T =>
    obtain ⟨q, r, h1, h2, h3, h4, h5⟩ := h
    subst h4
    refine ⟨h1, h2, h3, ?_⟩
    rcases h5 with ⟨a, b', c⟩ | ⟨a, b', c⟩
    · exact Or.inl ⟨a, b'⟩
    · exact Or.inr ⟨a, t, r, rfl, rfl, b', c⟩
theorem Lx.len {b : Int → Int} {n : Int} : ∀ {T : List Tok} {p : Int}, Lx b n p T → (T.length : Int) ≤ n - p + 1
  | [], _, h => h.elim
  | t :: T, p, h => by
    obtain ⟨q, r, h1, h2, h3, h4, h5⟩ := h
    rcases h5 with ⟨a, b', c⟩ | ⟨a, b', c⟩
    · subst c; simp; omega
    · have := Lx.len c
      have := b'.lt a
      simp only [List.length_cons]; omega
theorem lkv_s {b : Int → Int} {n p c : Int} {T : List Tok} (h : Lx b n p T) (hc : 0 ≤ c) (h1 : ¬ isL c) (h2 : ¬ isD c) : lkv b T = c ↔ isS T c := by
  obtain ⟨-, -, -, h⟩ := h.hd
  unfold lkv isS
  rcases h with ⟨-, h⟩ | ⟨hn, t, r, e1, e2, h, -⟩
  · rw [if_pos h, h]; constructor
    · intro q; omega
    · rintro ⟨q, -⟩; omega
  · rw [if_neg (by rw [e1]; exact h.nz), e1, e2]
    rcases h with ⟨⟨a1, -, a2, -⟩, k⟩ | ⟨⟨a1, -, a2, -⟩, k⟩ | ⟨-, -, -, -, k1, k2⟩
    · have g := a2 _ (Int.le_refl _) a1
      constructor
      · intro q; rw [q] at g; exact absurd g h1
      · rintro ⟨q, -⟩
        rcases k with ⟨-, k⟩ | ⟨-, ⟨-, k⟩ | ⟨-, ⟨k, -⟩ | ⟨k, -⟩⟩⟩ <;> omega
    · have g := a2 _ (Int.le_refl _) a1
      constructor
      · intro q; rw [q] at g; exact absurd g h2
      · rintro ⟨q, -⟩
        rcases k with ⟨-, k⟩ | ⟨-, ⟨-, k⟩ | ⟨-, k, -⟩⟩ <;> omega
    · rw [k1, k2]; exact ⟨fun q => ⟨rfl, q⟩, fun q => q.2⟩
def ScP (a i : Int) : Prop := a = 337 ∧ (i = 2 ∨ i = 4 ∨ i = 5 ∨ i = 6 ∨ i = 30)
/-- the reference reads: T lies ahead, no FAULT yet -/
def MP (b : Int → Int) (n : Int) (M : Mem) (T : List Tok) : Prop := M 337 5 = 0 ∧ M 337 3 = n ∧ (0 ≤ n ∧ n ≤ 900) ∧ (∀ i, 0 ≤ i → i < n → M 338 i = b i ∧ 0 ≤ b i ∧ b i ≤ 255) ∧ 0 ≤ M 337 2 ∧ Lx b n (M 337 2) T ∧ M 337 4 ≤ M 337 2 ∧ (M 337 4 = M 337 2 ↔ glu b (M 337 2)) ∧ M 337 6 = -1
/-- behind look() -/
def lk (M : Mem) (T : List Tok) : Mem := st M 337 2 (hq T)
theorem MP.go {b : Int → Int} {n : Int} {M M1 : Mem} {T T1 : List Tok} (h : MP b n M T) (f : Fr ScP M M1) (h5 : M1 337 5 = 0) (h0 : 0 ≤ M1 337 2) (hl : Lx b n (M1 337 2) T1) (he : M1 337 4 ≤ M1 337 2 ∧ (M1 337 4 = M1 337 2 ↔ glu b (M1 337 2))) (h6 : M1 337 6 = M 337 6 := by simp [st, lk]) : MP b n M1 T1 := by
  have h8 := h.2.2.2.2.2.2.2.2
  obtain ⟨a0, a1, a2, a3, -⟩ := h
  refine ⟨h5, (f 337 3 (by unfold ScP; omega)).trans a1, a2, fun i i0 i1 => ?_, h0, hl, he.1, he.2, h6.trans h8⟩
  rw [f 338 i (by unfold ScP; omega)]; exact a3 i i0 i1
theorem MP.fr {b : Int → Int} {n : Int} {M M1 : Mem} {T : List Tok} (h : MP b n M T) (h338 : ∀ i, M1 338 i = M 338 i) (h2 : M1 337 2 = M 337 2) (h3 : M1 337 3 = M 337 3) (h4 : M1 337 4 = M 337 4) (h5 : M1 337 5 = M 337 5) (h6 : M1 337 6 = M 337 6 := by simp [st, lk]) : MP b n M1 T := by
  unfold MP at h ⊢
  simp only [h338, h2, h3, h4, h5, h6]; exact h
theorem st_self (M : Mem) (a i : Int) : st M a i (M a i) = M := by
  funext a' i'
  show (if a' = a ∧ i' = i then M a i else M a' i') = _
  split
  · rename_i h; rw [h.1, h.2]
  · rfl
theorem st_st (M : Mem) (a i v w : Int) : st (st M a i v) a i w = st M a i w := by
  funext a' i'
  show (if a' = a ∧ i' = i then w else if a' = a ∧ i' = i then v else M a' i') = (if a' = a ∧ i' = i then w else M a' i')
  split <;> rfl
section MT
variable {b : Int → Int} {n : Int} {M : Mem} {T : List Tok}
theorem MP.bl (h : MP b n M T) {p : Int} (h1 : M 337 2 < p) (h2 : p ≤ hq T) : MP b n (st M 337 2 p) T := by
  obtain ⟨a0, a1, a2, a3, a4, a5, a6, a7, a8⟩ := id h
  obtain ⟨l1, l2, l3, l4⟩ := a5.hd
  refine h.go (Fr.st (Fr.rf _ _) (by unfold ScP; omega)) (by rw [st_neI (by decide)]; exact a0) (by rw [st_at]; omega) ?_ ?_
  · rw [st_at]
    cases T with
    | nil => exact a5.elim
    | cons t T =>
      obtain ⟨q, r, c1, c2, c3, c4, c5⟩ := a5
      exact ⟨q, r, by subst c4; exact h2, c2, fun i i0 i1 => c3 i (by omega) i1, c4, c5⟩
  · rw [st_at, st_neI (by decide)]
    refine ⟨by omega, ⟨fun q => by omega, fun q => ?_⟩⟩
    have g := l3 (p - 1) (by omega) (by omega)
    obtain ⟨-, q⟩ := q
    exfalso
    rcases g with g | g <;> rcases q with q | q <;> (have q1 := q.1; have q2 := q.2; omega)
theorem MP.lo (h : MP b n M T) : MP b n (lk M T) T := by
  unfold lk
  by_cases e : M 337 2 = hq T
  · rw [← e, st_self]; exact h
  · have := h.2.2.2.2.2.1.hd.1
    exact h.bl (by omega) (Int.le_refl _)
theorem lk_at (M : Mem) (T : List Tok) : lk M T 337 2 = hq T := st_at _ _ _ _
theorem lk_lk (M : Mem) (T : List Tok) : lk (lk M T) T = lk M T := st_st _ _ _ _ _
theorem lk_fr (M : Mem) (T : List Tok) : Fr ScP M (lk M T) := Fr.st (Fr.rf _ _) (by unfold ScP; omega)
theorem m_look (h : MP b n M T) : f_X12_look M = some (lkv b T, lk M T) := by
  have key : Tt (f_X12_look M) (fun r M1 => r = lkv b T ∧ M1 = lk M T) := by
    unfold f_X12_look
    refine tt_wl0 (fun M1 => MP b n M1 T ∧ M1 = st M 337 2 (M1 337 2)) (fun M1 => (n - M1 337 2).toNat) ?_ FU M ⟨h, (st_self _ _ _).symm⟩ ?_
    · rintro w M1 ⟨hI, hM⟩ K
      obtain ⟨a0, a1, a2, a3, a4, a5, a6, a7, a8⟩ := id hI
      obtain ⟨l1, l2, l3, l4⟩ := a5.hd
      have jj : n ≤ M1 337 2 ∨ ¬ isB (b (M1 337 2)) → Tt (j_X12_look_52 M1) (fun r M1 => r = lkv b T ∧ M1 = lk M T) := by
        intro hz
        have e : M1 337 2 = hq T := by
          by_cases e : M1 337 2 = hq T
          · exact e
          · exfalso
            have := l3 (M1 337 2) (Int.le_refl _) (by omega)
            rcases hz with hz | hz
            · omega
            · exact hz this
        have e2 : M1 = lk M T := by rw [hM, e]; rfl
        unfold j_X12_look_52 lkv
        rcases l4 with ⟨l4, l5⟩ | ⟨l4, t, r, l5, l6, l7, l8⟩
        · refine tt_ip (by omega) (tt_ret ⟨?_, e2⟩)
          rw [if_pos l5]
        · refine tt_in (by omega) (tt_ok ⟨by omega, by omega⟩ (tt_ret ⟨?_, e2⟩))
          rw [if_neg (by rw [l5]; exact l7.nz), (a3 _ (by omega) (by omega)).1, e]
      have nx : isB (b (M1 337 2)) → M1 337 2 < n → Tt (w (st M1 337 2 (M1 337 2 + 1))) (fun r M1 => r = lkv b T ∧ M1 = lk M T) := by
        intro hz hn
        have e : M1 337 2 < hq T := by
          by_cases e : M1 337 2 = hq T
          · exfalso
            rcases l4 with ⟨l4, l5⟩ | ⟨l4, t, r, l5, l6, l7, l8⟩
            · omega
            · rw [e] at hz; exact l7.nb hz
          · omega
        refine K _ ⟨hI.bl (by omega) (by omega), ?_⟩ (by rw [st_at]; omega)
        rw [st_at]
        have hv : ∀ v, st M1 337 2 v = st M 337 2 v := fun v => by rw [hM]; exact st_st _ _ _ _ _
        exact hv _
      unfold b_X12_look_0
      rw [a1]
      refine tt_if (fun c => jj (Or.inl c)) (fun c => ?_)
      refine tt_ok ⟨by omega, by omega⟩ ?_
      rw [(a3 _ a4 (by omega)).1]
      refine tt_if (fun c2 => tt_bm (nx (Or.inl c2) (by omega))) (fun c2 => ?_)
      refine tt_if (fun c3 => tt_bm (nx (Or.inr c3) (by omega))) (fun c3 => jj (Or.inr ?_))
      rintro (q | q)
      · exact c2 q
      · exact c3 q
    · obtain ⟨a0, a1, a2, a3, a4, a5, a6, a7, a8⟩ := h
      have : FU = 1000000000 := rfl
      omega
  obtain ⟨r, M1, e, rfl, rfl⟩ := key
  exact e
end MT
