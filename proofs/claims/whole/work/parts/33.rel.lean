/-! THE RELATION of the two objects' cells -/
def PtrB (B : Mem) : Prop := (kd (B 1 8) = 17 ∧ kd (B 1 9) = 17 ∧ kd (B 1 10) = 17 ∧ kd (B 68 0) = 17 ∧ kd (B 68 1) = 17 ∧ kd (B 68 2) = 17) ∧ (B 1 8 ≠ B 1 9 ∧ B 1 8 ≠ B 1 10 ∧ B 1 9 ≠ B 1 10) ∧ (B 68 0 ≠ B 68 1 ∧ B 68 0 ≠ B 68 2 ∧ B 68 1 ≠ B 68 2) ∧ ∀ k, 0 ≤ k → k < 3 → B 68 k ≠ B 1 8 ∧ B 68 k ≠ B 1 9 ∧ B 68 k ≠ B 1 10
theorem PtrB.law {B : Mem} (h : PtrB B) {k : Int} (h0 : 0 ≤ k) (h3 : k < 3) : kd (B 68 k) = 17 := by
  obtain ⟨⟨-, -, -, a, b, c⟩, -⟩ := h
  have : k = 0 ∨ k = 1 ∨ k = 2 := by omega
  rcases this with rfl | rfl | rfl
  · exact a
  · exact b
  · exact c
def TapR (A B : Mem) : Prop := A 337 1 = B 2 1 ∧ (0 ≤ B 2 1 ∧ B 2 1 ≤ 900) ∧ ∀ i, 0 ≤ i → i < B 2 1 → A 338 i = B 3 i ∧ 0 ≤ B 3 i ∧ B 3 i ≤ 255
def FltR (A B : Mem) : Prop := A 337 7 = B 4 4 ∧ A 337 8 = B 4 5
def ThgR (A B : Mem) (a : Int) : Prop := (0 ≤ A 372 1 ∧ A 372 1 ≤ 5) ∧ B a 3 = A 372 1 ∧ ∀ t, 0 ≤ t → t < A 372 1 → (2 ≤ A 374 (5 + t) ∧ A 374 (5 + t) ≤ 6) ∧ (0 ≤ B (a + 2) t ∧ B (a + 2) t < 40) ∧ B (a + 4 + B (a + 2) t) 2 = A 374 (5 + t) ∧ NR (A 373 (5 + t)) (B (a + 4 + B (a + 2) t) 1) ∧ ∀ u, 0 ≤ u → u < t → A 373 (5 + u) ≠ A 373 (5 + t)
def cnt (f : Int → Int) : Nat → Int
  | 0 => 0
  | n + 1 => cnt f n + (if 0 < f n then 1 else 0)
theorem cnt_rng (f : Int → Int) : ∀ n : Nat, 0 ≤ cnt f n ∧ cnt f n ≤ n
  | 0 => ⟨Int.le_refl 0, Int.le_refl 0⟩
  | n + 1 => by
    have := cnt_rng f n
    show 0 ≤ cnt f n + _ ∧ cnt f n + _ ≤ ((n + 1 : Nat) : Int)
    split <;> omega
/-- the greatest of the first n + 1 PIECES, the first of like ones -/
def ssd (f : Int → Int) : Nat → Int
  | 0 => 0
  | n + 1 => if f (ssd f n) < f (n + 1 : Nat) then ((n + 1 : Nat) : Int) else ssd f n
def FldR (A B : Mem) : Prop := SgOk (A 388) ∧ (0 ≤ A 375 1 ∧ A 375 1 < 96) ∧ A 388 (A 375 1) = 0 ∧ (∀ s, 0 ≤ s → s < 96 → B 14 s = A 388 s ∧ (A 388 s = 0 → B 15 s = -1) ∧ (A 388 s ≠ 0 → B 15 s = A 389 s ∧ 0 ≤ A 389 s ∧ A 389 s < A 337 78)) ∧ B 13 11 = A 375 1 ∧ B 13 10 = cnt (A 388) 96 ∧ B 13 8 = A 337 78 ∧ (0 ≤ A 337 78 ∧ A 337 78 ≤ 96) ∧ (∀ k, 0 ≤ k → k < A 337 78 → B 16 k = A 390 k ∧ B 17 k = A 391 k) ∧ B 13 9 = (if A 337 78 = 0 then -1 else ssd (A 390) (A 337 78 - 1).toNat)
def TrlA (A : Mem) (i : Int) : Prop := (0 ≤ A 392 i ∧ A 392 i < A 372 1) ∧ (0 ≤ A 393 i ∧ A 393 i < 96) ∧ (0 ≤ A 394 i ∧ A 394 i ≤ 99) ∧ (0 ≤ A 395 i ∧ A 395 i < A 374 (5 + A 392 i)) ∧ (0 ≤ A 396 i ∧ A 396 i < A 374 (5 + A 392 i)) ∧ (A 397 i = 0 ∨ A 397 i = 1) ∧ (A 398 i = 0 ∨ A 398 i = 1) ∧ (-1 ≤ A 399 i ∧ A 399 i < A 374 (5 + A 392 i)) ∧ (0 ≤ A 400 i ∧ A 400 i ≤ 9)
def TrlX (A B : Mem) (i : Int) : Prop := B (23 + i) 0 = A 392 i ∧ B (23 + i) 1 = A 393 i ∧ B (23 + i) 2 = A 394 i ∧ B (23 + i) 3 = A 395 i ∧ B (23 + i) 4 = A 396 i ∧ B (23 + i) 5 = A 397 i ∧ B (23 + i) 6 = A 400 i ∧ B (23 + i) 7 = A 398 i ∧ B (23 + i) 8 = A 399 i
def TrsR (A B : Mem) : Prop := (0 ≤ A 337 79 ∧ A 337 79 ≤ 40) ∧ B 21 1 = A 337 79 ∧ ∀ i, 0 ≤ i → i < A 337 79 → TrlA A i ∧ TrlX A B i
def LwsR (A B : Mem) : Prop := ∀ k, 0 ≤ k → k < 3 → (A 386 k = 0 ∨ A 386 k = 1) ∧ B (B 68 k) 6 = A 386 k ∧ (A 386 k = 1 → LawA A (2 + k) ∧ RulA A (2 + k) ∧ LawX A B (B 68 k) (2 + k) ∧ RulX A B (B 68 k) (2 + k) 6)
def ChrR (A B : Mem) : Prop := (∀ s, 0 ≤ s → s < 96 → B 64 s = A 403 s ∧ (A 403 s = 0 ∨ A 403 s = 1)) ∧ B 63 3 = cnt (A 403) 96
def OctR (A B : Mem) : Prop := A 337 95 = B 1 15 ∧ (0 ≤ B 1 15 ∧ B 1 15 ≤ 322) ∧ ∀ k, 0 ≤ k → k < B 1 15 → A 406 k = B 202 k
theorem nsc {sp a i : Int} (hs : kd sp = 17) (ha : a < 69 ∨ (200 < a ∧ a < 205)) (h : ¬ ((7 ≤ a ∧ a ≤ 9) ∨ a = 11 ∨ a = 12 ∨ (18 ≤ a ∧ a ≤ 20) ∨ (65 ≤ a ∧ a ≤ 67) ∨ a = 203 ∨ a = 204 ∨ (a = 5 ∧ i = 5) ∨ (a = 4 ∧ (i = 1 ∨ i = 2 ∨ i = 3 ∨ (6 ≤ i ∧ i ≤ 10))) ∨ (a = 13 ∧ i = 7))) : ¬ ScX sp a i := by
  have := kd17 sp hs
  unfold ScX
  omega
/-- what lies of the class apart from scratch and the spare SCRIPT -/
theorem rdB {B M : Mem} (hp : PtrB B) (hX : Fr (ScX (B 1 10)) B M) {a i : Int} (ha : a < 69 ∨ (200 < a ∧ a < 205)) (h : ¬ ((7 ≤ a ∧ a ≤ 9) ∨ a = 11 ∨ a = 12 ∨ (18 ≤ a ∧ a ≤ 20) ∨ (65 ≤ a ∧ a ≤ 67) ∨ a = 203 ∨ a = 204 ∨ (a = 5 ∧ i = 5) ∨ (a = 4 ∧ (i = 1 ∨ i = 2 ∨ i = 3 ∨ (6 ≤ i ∧ i ≤ 10))) ∨ (a = 13 ∧ i = 7))) : M a i = B a i := hX a i (nsc hp.1.2.2.1 ha h)
/-- the model's cells apart from scratch -/
theorem rdA {A M : Mem} (hM : Fr ScM A M) {a i : Int} (h : ¬ ScM a i) : M a i = A a i := hM a i h
def isLw (A : Mem) (k : Int) : Prop := (0 ≤ k ∧ k < 3) ∧ A 386 k = 1
def isSq (c r : Int) : Prop := (0 ≤ c ∧ c < 12) ∧ 0 ≤ r ∧ r < 8
def isBr (b : Int) : Prop := 0 ≤ b ∧ b ≤ 99
def isTh (A : Mem) (t : Int) : Prop := 0 ≤ t ∧ t < A 372 1
theorem e_isIn (M : Mem) (v l h : Int) : ∃ r, f_X12_isIn M v l h = some (r, M) ∧ ((r = 1 ∧ l ≤ v ∧ v ≤ h) ∨ (r = 0 ∧ ¬ (l ≤ v ∧ v ≤ h))) := by
  unfold f_X12_isIn
  by_cases h1 : v < l
  · rw [if_pos h1]; exact ⟨0, rfl, Or.inr ⟨rfl, by omega⟩⟩
  · rw [if_neg h1]
    by_cases h2 : h < v
    · rw [if_pos h2]; exact ⟨0, rfl, Or.inr ⟨rfl, by omega⟩⟩
    · rw [if_neg h2]; exact ⟨1, rfl, Or.inl ⟨rfl, by omega, by omega⟩⟩
theorem mx_isSq (M : Mem) (c r : Int) : ∃ q, f_X12_isSquare M c r = some (q, M) ∧ ((q = 1 ∧ isSq c r) ∨ (q = 0 ∧ ¬ isSq c r)) := by
  unfold f_X12_isSquare isSq
  obtain ⟨q1, e1, h1⟩ := e_isIn M c 0 11
  obtain ⟨q2, e2, h2⟩ := e_isIn M r 0 7
  rw [e1, cl_some]
  rcases h1 with ⟨rfl, h1⟩ | ⟨rfl, h1⟩
  · rw [if_neg (by decide), e2, cl_some]
    rcases h2 with ⟨rfl, h2⟩ | ⟨rfl, h2⟩
    · rw [if_neg (by decide)]; exact ⟨1, rfl, Or.inl ⟨rfl, by omega⟩⟩
    · rw [if_pos rfl]; exact ⟨0, rfl, Or.inr ⟨rfl, by omega⟩⟩
  · rw [if_pos rfl]; exact ⟨0, rfl, Or.inr ⟨rfl, by omega⟩⟩
theorem xx_isSq (M : Mem) (c r : Int) : ∃ q, f_X11_isSquare M c r = some (q, M) ∧ ((q = 1 ∧ isSq c r) ∨ (q = 0 ∧ ¬ isSq c r)) := by
  unfold f_X11_isSquare isSq
  by_cases h1 : c < 0
  · rw [if_pos h1]; exact ⟨0, rfl, Or.inr ⟨rfl, by omega⟩⟩
  · rw [if_neg h1]
    by_cases h2 : 12 ≤ c
    · rw [if_pos h2]; exact ⟨0, rfl, Or.inr ⟨rfl, by omega⟩⟩
    · rw [if_neg h2]
      by_cases h3 : r < 0
      · rw [if_pos h3]; exact ⟨0, rfl, Or.inr ⟨rfl, by omega⟩⟩
      · rw [if_neg h3]
        by_cases h4 : 8 ≤ r
        · rw [if_pos h4]; exact ⟨0, rfl, Or.inr ⟨rfl, by omega⟩⟩
        · rw [if_neg h4]; exact ⟨1, rfl, Or.inl ⟨rfl, by omega⟩⟩
theorem xx_isBr (M : Mem) (b : Int) : ∃ q, f_X11_isBright M b = some (q, M) ∧ ((q = 1 ∧ isBr b) ∨ (q = 0 ∧ ¬ isBr b)) := by
  unfold f_X11_isBright isBr
  by_cases h1 : b < 0
  · rw [if_pos h1]; exact ⟨0, rfl, Or.inr ⟨rfl, by omega⟩⟩
  · rw [if_neg h1]
    by_cases h2 : 99 < b
    · rw [if_pos h2]; exact ⟨0, rfl, Or.inr ⟨rfl, by omega⟩⟩
    · rw [if_neg h2]; exact ⟨1, rfl, Or.inl ⟨rfl, by omega⟩⟩
theorem xx_sqAt (M : Mem) {c r : Int} (h : isSq c r) : f_X11_squareAt M c r = some (12 * r + c, M) := by
  obtain ⟨h1, h2⟩ := h
  unfold f_X11_squareAt
  rw [ok_t ⟨by omega, by omega⟩, ok_t ⟨by omega, by omega⟩]
section RL
variable {A B Mx Mm : Mem}
theorem m_isLaw (hM : Fr ScM A Mm) (hL : LwsR A B) (k : Int) : ∃ q, f_X12_isLaw Mm k = some (q, Mm) ∧ ((q = 1 ∧ isLw A k) ∨ (q = 0 ∧ ¬ isLw A k)) := by
  unfold f_X12_isLaw isLw
  obtain ⟨q1, e1, h1⟩ := e_isIn Mm k 0 2
  rw [e1, cl_some]
  rcases h1 with ⟨rfl, h1⟩ | ⟨rfl, h1⟩
  · rw [if_neg (by decide), ok_t ⟨by omega, by omega⟩, hM 386 k (by unfold ScM; omega)]
    have := (hL k h1.1 (by omega)).1
    by_cases h2 : A 386 k = 0
    · rw [if_pos h2]; exact ⟨0, rfl, Or.inr ⟨rfl, by omega⟩⟩
    · rw [if_neg h2]; exact ⟨1, rfl, Or.inl ⟨rfl, by omega⟩⟩
  · rw [if_pos rfl]; exact ⟨0, rfl, Or.inr ⟨rfl, by omega⟩⟩
theorem x_lawAt (hp : PtrB B) (hX : Fr (ScX (B 1 10)) B Mx) (hL : LwsR A B) (k : Int) : ∃ q, f_X11_lawAt Mx k = some (q, Mx) ∧ ((q = B 68 k ∧ isLw A k) ∨ (q = 0 ∧ ¬ isLw A k)) := by
  unfold f_X11_lawAt isLw
  by_cases h1 : k < 0
  · rw [if_pos h1]; exact ⟨0, rfl, Or.inr ⟨rfl, by omega⟩⟩
  · rw [if_neg h1]
    by_cases h2 : 3 ≤ k
    · rw [if_pos h2]; exact ⟨0, rfl, Or.inr ⟨rfl, by omega⟩⟩
    · rw [if_neg h2, rdB hp hX (a := 68) (by omega) (by omega), ok_t (hp.law (by omega) (by omega))]
      have hs := SA.of hX (hp.law (k := k) (by omega) (by omega)) hp.1.2.2.1 (hp.2.2.2 k (by omega) (by omega)).2.2
      obtain ⟨l1, l2, -⟩ := hL k (by omega) (by omega)
      rw [hs (B 68 k) 6 (by omega) (by omega), l2]
      by_cases h3 : A 386 k = 0
      · rw [if_pos h3]; exact ⟨0, rfl, Or.inr ⟨rfl, by omega⟩⟩
      · rw [if_neg h3]; exact ⟨B 68 k, rfl, Or.inl ⟨rfl, by omega⟩⟩
theorem m_isTh (hM : Fr ScM A Mm) {a : Int} (hT : ThgR A B a) (t : Int) : ∃ q, f_X12_isThing Mm t = some (q, Mm) ∧ ((q = 1 ∧ isTh A t) ∨ (q = 0 ∧ ¬ isTh A t)) := by
  unfold f_X12_isThing isTh
  have := hT.1
  rw [hM 372 1 (by unfold ScM; omega), ok_t ⟨by omega, by omega⟩]
  obtain ⟨q1, e1, h1⟩ := e_isIn Mm t 0 (A 372 1 - 1)
  rw [e1, cl_some, ok_t (by omega)]
  refine ⟨q1, rfl, ?_⟩
  rcases h1 with ⟨rfl, h1⟩ | ⟨rfl, h1⟩
  · exact Or.inl ⟨rfl, by omega⟩
  · exact Or.inr ⟨rfl, by omega⟩
def isShw (A : Mem) (t c r b : Int) : Prop := isTh A t ∧ isSq c r ∧ isBr b
theorem m_isShw (hM : Fr ScM A Mm) {a : Int} (hT : ThgR A B a) (t c r b : Int) : ∃ q, f_X12_isShowing Mm t c r b = some (q, Mm) ∧ ((q = 1 ∧ isShw A t c r b) ∨ (q = 0 ∧ ¬ isShw A t c r b)) := by
  unfold f_X12_isShowing isShw
  obtain ⟨q1, e1, h1⟩ := m_isTh hM hT t
  obtain ⟨q2, e2, h2⟩ := mx_isSq Mm c r
  obtain ⟨q3, e3, h3⟩ := e_isIn Mm b 0 99
  rw [e1, cl_some]
  rcases h1 with ⟨rfl, h1⟩ | ⟨rfl, h1⟩
  · rw [if_neg (by decide), e2, cl_some]
    rcases h2 with ⟨rfl, h2⟩ | ⟨rfl, h2⟩
    · rw [if_neg (by decide), e3, cl_some]
      rcases h3 with ⟨rfl, h3⟩ | ⟨rfl, h3⟩
      · rw [if_neg (by decide)]; exact ⟨1, rfl, Or.inl ⟨rfl, h1, h2, h3⟩⟩
      · rw [if_pos rfl]; exact ⟨0, rfl, Or.inr ⟨rfl, fun q => h3 q.2.2⟩⟩
    · rw [if_pos rfl]; exact ⟨0, rfl, Or.inr ⟨rfl, fun q => h2 q.2.1⟩⟩
  · rw [if_pos rfl]; exact ⟨0, rfl, Or.inr ⟨rfl, fun q => h1 q.1⟩⟩
theorem SA.thg (hp : PtrB B) (hX : Fr (ScX (B 1 10)) B Mx) : SA B Mx (B 1 8) := SA.of hX hp.1.1 hp.1.2.2.1 hp.2.1.2.1
theorem x_canShw (hp : PtrB B) (hX : Fr (ScX (B 1 10)) B Mx) (hT : ThgR A B (B 1 8)) (t c r b : Int) : ∃ q, f_X11_canShow Mx t c r b = some (q, Mx) ∧ ((q = 1 ∧ isShw A t c r b) ∨ (q = 0 ∧ ¬ isShw A t c r b)) := by
  unfold f_X11_canShow isShw isTh
  obtain ⟨q2, e2, h2⟩ := xx_isSq Mx c r
  obtain ⟨q3, e3, h3⟩ := xx_isBr Mx b
  by_cases h0 : t < 0
  · rw [if_pos h0]; exact ⟨0, rfl, Or.inr ⟨rfl, fun q => by omega⟩⟩
  · rw [if_neg h0, rdB hp hX (a := 1) (by omega) (by omega), ok_t hp.1.1, (SA.thg hp hX) _ 3 (by omega) (by omega), hT.2.1]
    by_cases h1 : A 372 1 ≤ t
    · rw [if_pos h1]; exact ⟨0, rfl, Or.inr ⟨rfl, fun q => by omega⟩⟩
    · rw [if_neg h1, e2, cl_some]
      rcases h2 with ⟨rfl, h2⟩ | ⟨rfl, h2⟩
      · rw [if_neg (by decide), e3, cl_some]
        rcases h3 with ⟨rfl, h3⟩ | ⟨rfl, h3⟩
        · rw [if_neg (by decide)]; exact ⟨1, rfl, Or.inl ⟨rfl, ⟨by omega, by omega⟩, h2, h3⟩⟩
        · rw [if_pos rfl]; exact ⟨0, rfl, Or.inr ⟨rfl, fun q => h3 q.2.2⟩⟩
      · rw [if_pos rfl]; exact ⟨0, rfl, Or.inr ⟨rfl, fun q => h2 q.2.1⟩⟩
/-- the sorts of a THING -/
theorem x_sorts (hp : PtrB B) (hX : Fr (ScX (B 1 10)) B Mx) (hT : ThgR A B (B 1 8)) {t : Int} (ht : isTh A t) : f_X11_sortsOf Mx t = some (A 374 (5 + t), Mx) := by
  obtain ⟨t0, t1⟩ := ht
  obtain ⟨q1, q2, q3, -⟩ := hT.2.2 t t0 t1
  have hs := SA.thg hp hX
  have hk := kd17 _ hp.1.1
  have h5 := hT.1
  unfold f_X11_sortsOf f_X7_namedAt
  rw [rdB hp hX (a := 1) (by omega) (by omega), ok_t hp.1.1, if_neg (by omega), hs _ 3 (by omega) (by omega), hT.2.1, if_neg (by omega), hs (B 1 8 + 2) t (by omega) (by omega), ok_t ⟨by omega, by omega⟩, ok_t q2, cl_some, if_neg (by omega), ok_t (kdSt _ hp.1.1 _ q2), hs _ 2 (by omega) (by omega), q3, e_max, cl_some, Int.max_eq_right (by omega)]
theorem sh_sq {A : Mem} {t c r b : Int} (h : isShw A t c r b) : 0 ≤ 12 * r + c ∧ 12 * r + c < 96 := by
  obtain ⟨-, ⟨h1, h2⟩, -⟩ := h
  omega
/-- what a query leaves: the class's scratch -/
theorem fr_Xr {sp : Int} {M M1 : Mem} (h : Fr ScR M M1) : Fr (ScX sp) M M1 := h.mono (fun a i q => by unfold ScR at q; unfold ScX; omega)
theorem fr_Xf {sp : Int} {M M1 : Mem} (h : Fr ScF M M1) : Fr (ScX sp) M M1 := h.mono (fun a i q => by unfold ScF at q; unfold ScX; omega)
theorem fr_Mt {M M1 : Mem} (h : Fr ScT M M1) : Fr ScM M M1 := h.mono (fun _ _ => ScT_M)
theorem fr_Me {M M1 : Mem} (h : Fr ScE M M1) : Fr ScM M M1 := h.mono (fun a i q => by unfold ScE at q; unfold ScM; omega)
theorem Lcache.r {g : Int → Int} {M M1 : Mem} (h : Lcache g M) (f : Fr ScR M M1) : Lcache g M1 := by
  intro s s0 s1
  rw [f 20 s (by unfold ScR; omega), f 19 s (by unfold ScR; omega)]
  exact h s s0 s1
end RL
