/-! the relation's parts speak of their own cells alone -/
theorem cod_ext {A A1 : Mem} {i j : Int} (h : ∀ k, i ≤ k → k < j → A1 360 k = A 360 k) : cod A1 i j = cod A i j := by
  unfold cod
  apply List.map_congr_left
  intro n hn
  rw [List.mem_range] at hn
  exact h _ (by omega) (by omega)
theorem SegT.ext {A A1 : Mem} {p i j : Int} {t : Bool} (hA : ∀ k, 900 * p ≤ k → k < 900 * p + 900 → A1 360 k = A 360 k) (h : SegT A p i j t) : SegT A1 p i j t ∧ cod A1 i j = cod A i j := by
  have e : cod A1 i j = cod A i j := cod_ext (fun k h1 h2 => hA k (by have := h.1; omega) (by have := h.2.2.1; omega))
  exact ⟨⟨h.1, h.2.1, h.2.2.1, by rw [e]; exact h.2.2.2⟩, e⟩
theorem SegX.ext {A A1 B B1 : Mem} {ca x y i j : Int} (e : cod A1 i j = cod A i j) (hB : ∀ k, B1 ca k = B ca k) (h : SegX A B ca x y i j) : SegX A1 B1 ca x y i j := ⟨h.1, h.2.1, h.2.2.1, by rw [e]; exact Seg.fr hB h.2.2.2⟩
/-- the reference's cells of a LAW's place -/
def PlA (A A1 : Mem) (p : Int) : Prop := (∀ k, 900 * p ≤ k → k < 900 * p + 900 → A1 360 k = A 360 k) ∧ A1 362 p = A 362 p ∧ A1 366 p = A 366 p ∧ (∀ a k, 363 ≤ a → a ≤ 365 → 40 * p ≤ k → k < 40 * p + 40 → A1 a k = A a k) ∧ ∀ a k, 367 ≤ a → a ≤ 371 → 5 * p ≤ k → k < 5 * p + 5 → A1 a k = A a k
theorem LawA.ext {A A1 : Mem} {p : Int} (hA : PlA A A1 p) (h : LawA A p) : LawA A1 p := by
  obtain ⟨h1, h2⟩ := h
  obtain ⟨a1, a2, a3, a4, a5⟩ := hA
  refine ⟨by rw [a3]; exact h1, fun j j0 j1 => ?_⟩
  rw [a3] at j1
  obtain ⟨b1, b2, b3⟩ := h2 j j0 j1
  rw [a5 368 _ (by omega) (by omega) (by omega) (by omega), a5 369 _ (by omega) (by omega) (by omega) (by omega), a5 370 _ (by omega) (by omega) (by omega) (by omega), a5 371 _ (by omega) (by omega) (by omega) (by omega)]
  exact ⟨b1, (b2.ext a1).1, (b3.ext a1).1⟩
theorem RulA.ext {A A1 : Mem} {p : Int} (hA : PlA A A1 p) (h : RulA A p) : RulA A1 p := by
  obtain ⟨h1, h2⟩ := h
  obtain ⟨a1, a2, a3, a4, a5⟩ := hA
  refine ⟨by rw [a2]; exact h1, fun j j0 j1 => ?_⟩
  rw [a2] at j1
  obtain ⟨b1, b2⟩ := h2 j j0 j1
  rw [a4 363 _ (by omega) (by omega) (by omega) (by omega), a4 364 _ (by omega) (by omega) (by omega) (by omega), a4 365 _ (by omega) (by omega) (by omega) (by omega)]
  exact ⟨(b1.ext a1).1, (b2.ext a1).1⟩
theorem LawX.ext {A A1 B B1 : Mem} {a p : Int} (hk : kd a = 17) (hA : PlA A A1 p) (hB : SA B B1 a) (hL : LawA A p) (h : LawX A B a p) : LawX A1 B1 a p := by
  have hk := kd17 a hk
  obtain ⟨h1, h2⟩ := h
  obtain ⟨w0, w1⟩ := hL
  obtain ⟨a1, a2, a3, a4, a5⟩ := hA
  refine ⟨by rw [hB a 3 (by omega) (by omega), a3]; exact h1, fun j j0 j1 => ?_⟩
  rw [a3] at j1
  obtain ⟨b1, b2, b3, b4, b5⟩ := h2 j j0 j1
  obtain ⟨-, s1, s2⟩ := w1 j j0 j1
  unfold WayX
  rw [hB (a + 2) j (by omega) (by omega), hB _ 5 (by omega) (by omega), hB _ 1 (by omega) (by omega), hB _ 6 (by omega) (by omega), hB _ 7 (by omega) (by omega), hB _ 8 (by omega) (by omega), a5 367 _ (by omega) (by omega) (by omega) (by omega), a5 368 _ (by omega) (by omega) (by omega) (by omega), a5 369 _ (by omega) (by omega) (by omega) (by omega), a5 370 _ (by omega) (by omega) (by omega) (by omega), a5 371 _ (by omega) (by omega) (by omega) (by omega)]
  exact ⟨b1, b2, b3, b4.ext (s1.ext a1).2 (fun k => hB (a + 3) k (by omega) (by omega)), b5.ext (s2.ext a1).2 (fun k => hB (a + 3) k (by omega) (by omega))⟩
theorem LinX.ext {A A1 B B1 : Mem} {a p wd : Int} (hk : kd a = 17) (hA : PlA A A1 p) (hB : SA B B1 a) (hR : RulA A p) : ∀ (n : Nat) (i j : Int), 0 ≤ i → i + n ≤ 40 → 0 ≤ j → LinX A B a p wd n i j → LinX A1 B1 a p wd n i j
  | 0, i, j, _, _, _, h => by
    show j = A1 362 p
    rw [hA.2.1]; exact h
  | n + 1, i, j, i0, i1, j0, h => by
    have hk := kd17 a hk
    obtain ⟨w0, w1⟩ := hR
    obtain ⟨a1, a2, a3, a4, a5⟩ := id hA
    rcases h with ⟨b1, b2, b3, b4, b5⟩ | ⟨b1, b5⟩
    · left
      obtain ⟨s1, s2⟩ := w1 j j0 b2
      rw [hB _ 0 (by omega) (by omega), hB _ 6 (by omega) (by omega), hB _ 7 (by omega) (by omega), hB _ 8 (by omega) (by omega), a2, a4 363 _ (by omega) (by omega) (by omega) (by omega), a4 364 _ (by omega) (by omega) (by omega) (by omega), a4 365 _ (by omega) (by omega) (by omega) (by omega)]
      exact ⟨b1, b2, b3.ext (s1.ext a1).2 (fun k => hB (a + 3) k (by omega) (by omega)), b4.ext (s2.ext a1).2 (fun k => hB (a + 3) k (by omega) (by omega)), LinX.ext (by assumption) hA hB ⟨w0, w1⟩ n (i + 1) (j + 1) (by omega) (by omega) (by omega) b5⟩
    · right
      rw [hB _ 0 (by omega) (by omega)]
      exact ⟨b1, LinX.ext (by assumption) hA hB ⟨w0, w1⟩ n (i + 1) j (by omega) (by omega) j0 b5⟩
theorem RulX.ext {A A1 B B1 : Mem} {a p wd : Int} (hk : kd a = 17) (hA : PlA A A1 p) (hB : SA B B1 a) (hR : RulA A p) (h : RulX A B a p wd) : RulX A1 B1 a p wd := by
  have hk' := kd17 a hk
  unfold RulX
  rw [hB a 1 (by omega) (by omega)]
  exact ⟨h.1, LinX.ext hk hA hB hR _ 0 0 (by omega) (by have := h.1; omega) (by omega) h.2⟩
/-- a LAW, as LwsR has it -/
def LwR (A B : Mem) (k a : Int) : Prop := (A 386 k = 0 ∨ A 386 k = 1) ∧ B a 6 = A 386 k ∧ (A 386 k = 1 → LawA A (2 + k) ∧ RulA A (2 + k) ∧ LawX A B a (2 + k) ∧ RulX A B a (2 + k) 6)
theorem LwR.ext {A A1 B B1 : Mem} {k a : Int} (hk : kd a = 17) (h86 : A1 386 k = A 386 k) (hA : PlA A A1 (2 + k)) (hB : SA B B1 a) (h : LwR A B k a) : LwR A1 B1 k a := by
  have hk' := kd17 a hk
  unfold LwR
  rw [h86, hB a 6 (by omega) (by omega)]
  refine ⟨h.1, h.2.1, fun h1 => ?_⟩
  obtain ⟨a1, a2, a3, a4⟩ := h.2.2 h1
  exact ⟨a1.ext hA, a2.ext hA, a3.ext hk hA hB a1, a4.ext hk hA hB a2⟩
theorem ThgR.ext {A A1 B B1 : Mem} {a : Int} (hk : kd a = 17) (h1 : A1 372 1 = A 372 1) (h2 : ∀ t, 0 ≤ t → t < 5 → A1 374 (5 + t) = A 374 (5 + t) ∧ A1 373 (5 + t) = A 373 (5 + t)) (hB : SA B B1 a) (h : ThgR A B a) : ThgR A1 B1 a := by
  have hk := kd17 a hk
  obtain ⟨b1, b2, b3⟩ := h
  refine ⟨by rw [h1]; exact b1, by rw [h1, hB a 3 (by omega) (by omega)]; exact b2, fun t t0 t1 => ?_⟩
  rw [h1] at t1
  obtain ⟨c1, c2, c3, c4, c5⟩ := b3 t t0 t1
  obtain ⟨d1, d2⟩ := h2 t t0 (by omega)
  rw [d1, d2, hB (a + 2) t (by omega) (by omega), hB _ 2 (by omega) (by omega), hB _ 1 (by omega) (by omega)]
  exact ⟨c1, c2, c3, c4, fun u u0 u1 => by rw [(h2 u u0 (by omega)).2]; exact c5 u u0 u1⟩
/-- the reference's cells of THE PLAN -/
def PlP (A A1 : Mem) : Prop := (∀ k, 4500 ≤ k → k < 5400 → A1 360 k = A 360 k) ∧ A1 337 60 = A 337 60 ∧ A1 376 1 = A 376 1 ∧ A1 372 1 = A 372 1 ∧ ∀ a k, 377 ≤ a → a ≤ 382 → 80 ≤ k → k < 160 → A1 a k = A a k
theorem ShwR.ext {A A1 B B1 : Mem} {a i k : Int} (hk : kd a = 17) (hA : PlP A A1) (hB : SA B B1 a) (hi : 0 ≤ i ∧ i < 40) (hkk : 80 ≤ k ∧ k < 160) (h : ShwR A B a i k) : ShwR A1 B1 a i k := by
  have hk := kd17 a hk
  obtain ⟨a1, a2, a3, a4, a5⟩ := hA
  obtain ⟨b1, b2, b3, b4, b5, b6, b7⟩ := h
  unfold ShwR
  rw [a4, a5 378 k (by omega) (by omega) (by omega) (by omega), a5 379 k (by omega) (by omega) (by omega) (by omega), a5 380 k (by omega) (by omega) (by omega) (by omega), a5 381 k (by omega) (by omega) (by omega) (by omega), hB _ 2 (by omega) (by omega), hB _ 3 (by omega) (by omega), hB _ 4 (by omega) (by omega), hB _ 6 (by omega) (by omega), hB _ 7 (by omega) (by omega)]
  have e := SegT.ext (A1 := A1) (p := 5) (fun k h1 h2 => a1 k (by omega) (by omega)) b6
  exact ⟨b1, b2, b3, b4, b5, e.1, b7.ext e.2 (fun k => hB (a + 3) k (by omega) (by omega))⟩
theorem MR.ext {A A1 B B1 : Mem} {a : Int} (hk : kd a = 17) (hA : PlP A A1) (hB : SA B B1 a) : ∀ (n d : Nat) (i j k l : Int), 0 ≤ i → j ≤ 40 → 80 ≤ k → l ≤ 160 → MR A B a n d i j k l → MR A1 B1 a n d i j k l
  | 0, _, _, _, _, _, _, _, _, _, h => h
  | n + 1, d, i, j, k, l, i0, j1, k0, l1, h => by
    have hk' := kd17 a hk
    obtain ⟨a1, a2, a3, a4, a5⟩ := id hA
    rcases h with h | ⟨b1, b2, b3, b4, b5, b6⟩ | ⟨b1, b3, b4, b5, b6, b7, d1, ke, c1, c2, c3, c4, c5, c6⟩
    · exact Or.inl h
    · refine Or.inr (Or.inl ⟨b1, b2, ?_, ?_, b5.ext hk hA hB ⟨i0, by omega⟩ ⟨k0, by omega⟩, MR.ext hk hA hB n d (i + 1) j (k + 1) l (by omega) j1 (by omega) l1 b6⟩)
      · rw [hB _ 0 (by omega) (by omega)]; exact b3
      · rw [a5 377 k (by omega) (by omega) (by omega) (by omega)]; exact b4
    · refine Or.inr (Or.inr ?_)
      rw [hB _ 0 (by omega) (by omega), hB _ 2 (by omega) (by omega), hB _ 9 (by omega) (by omega), a5 377 k (by omega) (by omega) (by omega) (by omega), a5 382 k (by omega) (by omega) (by omega) (by omega)]
      refine ⟨b1, b3, b4, b5, b6, b7, d1, ke, c1, c2, c3, ?_, MR.ext hk hA hB n d1 _ _ _ _ (by omega) (by omega) (by omega) (by omega) c5, MR.ext hk hA hB n d _ _ _ _ (by omega) j1 (by omega) l1 c6⟩
      rw [a5 377 ke (by omega) (by omega) (by omega) (by omega)]; exact c4
theorem exL.ext {A B B1 : Mem} {a : Int} (hk : kd a = 17) (hB : SA B B1 a) : ∀ (n d : Nat) (i j k l : Int), 0 ≤ i → j ≤ 40 → MR A B a n d i j k l → ∀ m, exL B1 a m i j = exL B a m i j ∨ n < m
  | 0, _, _, _, _, _, _, _, h => by cases h
  | n + 1, d, i, j, k, l, i0, j1, h => by
    have hk' := kd17 a hk
    intro m
    cases m with
    | zero => exact Or.inl rfl
    | succ m =>
      by_cases hm : n + 1 < m + 1
      · exact Or.inr hm
      · left
        show (if j ≤ i then [] else if B1 (a + 4 + i) 0 = 7 then i :: exL B1 a m (i + 1) j else (List.replicate (B1 (a + 4 + i) 2).toNat (exL B1 a m (i + 1) (B1 (a + 4 + i) 9))).flatten ++ exL B1 a m (B1 (a + 4 + i) 9) j) = (if j ≤ i then [] else if B (a + 4 + i) 0 = 7 then i :: exL B a m (i + 1) j else (List.replicate (B (a + 4 + i) 2).toNat (exL B a m (i + 1) (B (a + 4 + i) 9))).flatten ++ exL B a m (B (a + 4 + i) 9) j)
        by_cases hij : j ≤ i
        · rw [if_pos hij, if_pos hij]
        · rw [if_neg hij, if_neg hij, hB _ 0 (by omega) (by omega), hB _ 2 (by omega) (by omega), hB _ 9 (by omega) (by omega)]
          rcases h with h | ⟨b1, b2, b3, b4, b5, b6⟩ | ⟨b1, b3, b4, b5, b6, b7, d1, ke, c1, c2, c3, c4, c5, c6⟩
          · omega
          · rw [if_pos b3, if_pos b3, (exL.ext hk hB n d _ _ _ _ (by omega) j1 b6 m).resolve_right (by omega)]
          · rw [if_neg (by omega), if_neg (by omega), (exL.ext hk hB n d1 _ _ _ _ (by omega) (by omega) c5 m).resolve_right (by omega), (exL.ext hk hB n d _ _ _ _ (by omega) j1 c6 m).resolve_right (by omega)]
theorem PlnQ.ext {A A1 B B1 : Mem} {a : Int} (hk : kd a = 17) (hA : PlP A A1) (hB : SA B B1 a) (h12 : B1 1 12 = B 1 12) (h13 : B1 1 13 = B 1 13) (h201 : ∀ i, B1 201 i = B 201 i) (h : PlnQ A B a) : PlnQ A1 B1 a := by
  have hk' := kd17 a hk
  obtain ⟨b1, b2, b3, b4⟩ := h
  unfold PlnQ
  rw [hA.2.1, hA.2.2.1, hB a 6 (by omega) (by omega), hB a 1 (by omega) (by omega), h12, h13]
  refine ⟨b1, b2, b3, fun hp => ?_⟩
  obtain ⟨c1, n, c2, c3, c4, c5⟩ := b4 hp
  have e := (exL.ext hk hB n 6 0 (B a 1) 80 (80 + A 376 1) (by omega) (by omega) c2 n).resolve_right (by omega)
  refine ⟨c1, n, MR.ext hk hA hB n 6 _ _ _ _ (by omega) (by omega) (by omega) (by omega) c2, ?_, ?_, ?_⟩
  · rw [e]; exact c3
  · rw [e]; intro q v hv; rw [h201]; exact c4 q v hv
  · rw [e]; exact c5
theorem PlnR.ext {A A1 B B1 : Mem} {a : Int} (hk : kd a = 17) (hA : PlP A A1) (hS : ∀ a j, 380 ≤ a → a ≤ 381 → 0 ≤ j → j < 80 → A1 a j = A a j) (hB : SA B B1 a) (h12 : B1 1 12 = B 1 12) (h13 : B1 1 13 = B 1 13) (h201 : ∀ i, B1 201 i = B 201 i) (h : PlnR A B a) : PlnR A1 B1 a := ⟨h.1.ext hk hA hB h12 h13 h201, fun a j a0 a1 j0 j1 => by rw [hS a j a0 a1 j0 j1]; exact h.2 a j a0 a1 j0 j1⟩
