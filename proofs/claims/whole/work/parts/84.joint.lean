/-! STATEMENTS of a FIELD or a LAW: both readers side by side -/
def RlY (A B : Mem) (a wd : Int) (C : List Int) (r : Int) : Nat → Int → Int → Prop
  | 0, _, j => j = r
  | k + 1, i, j => (B (a + 4 + i) 0 = wd ∧ j < r ∧ (B (a + 4 + i) 6 = A 363 j ∧ B (a + 4 + i) 7 = A 364 j ∧ B (a + 4 + i) 8 = A 365 j) ∧ Sg2 C (A 363 j) (A 364 j) false ∧ Sg2 C (A 364 j) (A 365 j) true ∧ RlY A B a wd C r k (i + 1) (j + 1)) ∨ (B (a + 4 + i) 0 ≠ wd ∧ RlY A B a wd C r k (i + 1) j)
def WyY (A B : Mem) (a : Int) (C : List Int) (k w : Int) : Prop := ∀ j, 0 ≤ j → j < w → (0 ≤ B (a + 2) j ∧ B (a + 2) j < k) ∧ B (a + 4 + B (a + 2) j) 5 = A 368 j ∧ (A 368 j = 0 ∨ A 368 j = 1) ∧ NR (A 367 j) (B (a + 4 + B (a + 2) j) 1) ∧ (B (a + 4 + B (a + 2) j) 6 = A 369 j ∧ B (a + 4 + B (a + 2) j) 7 = A 370 j ∧ B (a + 4 + B (a + 2) j) 8 = A 371 j) ∧ Sg2 C (A 369 j) (A 370 j) false ∧ Sg2 C (A 370 j) (A 371 j) true
def ThY (A B : Mem) (a k w : Int) : Prop := ∀ t, 0 ≤ t → t < w → (2 ≤ A 374 t ∧ A 374 t ≤ 6) ∧ (0 ≤ B (a + 2) t ∧ B (a + 2) t < k) ∧ B (a + 4 + B (a + 2) t) 2 = A 374 t ∧ NR (A 373 t) (B (a + 4 + B (a + 2) t) 1) ∧ ∀ u, 0 ≤ u → u < t → A 373 u ≠ A 373 t
def dscN (B : Mem) (a : Int) : Nat → Int
  | 0 => 95
  | k + 1 => if B (a + 4 + k) 0 = 1 then 12 * B (a + 4 + k) 4 + B (a + 4 + k) 3 else dscN B a k
def OldX (a k w : Int) (B B' : Mem) : Prop := (∀ i c, 0 ≤ i → i < k → B' (a + 4 + i) c = B (a + 4 + i) c) ∧ ∀ j, 0 ≤ j → j < w → B' (a + 2) j = B (a + 2) j
def OldM (r w : Int) (A A' : Mem) : Prop := (∀ c j, 363 ≤ c → c ≤ 365 → 0 ≤ j → j < r → A' c j = A c j) ∧ ∀ c j, 367 ≤ c → c ≤ 374 → c ≠ 372 → 0 ≤ j → j < w → A' c j = A c j
theorem RlY.old {A A' B B' : Mem} {a wd r w w' k0 : Int} {C : List Int} (c : List Int) (hA : OldM r w' A A') (hB : OldX a k0 w B B') : ∀ (k : Nat) (i j : Int), 0 ≤ i → i + k ≤ k0 → 0 ≤ j → RlY A B a wd C r k i j → RlY A' B' a wd (C ++ c) r k i j
  | 0, _, _, _, _, _, h => h
  | k + 1, i, j, i0, i1, j0, h => by
    rcases h with ⟨h1, h2, ⟨h3, h4, h5⟩, h6, h7, h8⟩ | ⟨h1, h2⟩
    · left
      rw [hB.1 i 0 i0 (by omega), hB.1 i 6 i0 (by omega), hB.1 i 7 i0 (by omega), hB.1 i 8 i0 (by omega), hA.1 363 j (by decide) (by decide) j0 h2, hA.1 364 j (by decide) (by decide) j0 h2, hA.1 365 j (by decide) (by decide) j0 h2]
      exact ⟨h1, h2, ⟨h3, h4, h5⟩, h6.app c, h7.app c, RlY.old c hA hB k (i + 1) (j + 1) (by omega) (by omega) (by omega) h8⟩
    · right
      rw [hB.1 i 0 i0 (by omega)]
      exact ⟨h1, RlY.old c hA hB k (i + 1) j (by omega) (by omega) j0 h2⟩
theorem RlY.add {A B : Mem} {a wd r : Int} {C : List Int} : ∀ (k : Nat) (i j : Int), RlY A B a wd C r k i j → B (a + 4 + (i + k)) 0 = wd → (B (a + 4 + (i + k)) 6 = A 363 r ∧ B (a + 4 + (i + k)) 7 = A 364 r ∧ B (a + 4 + (i + k)) 8 = A 365 r) → Sg2 C (A 363 r) (A 364 r) false → Sg2 C (A 364 r) (A 365 r) true → RlY A B a wd C (r + 1) (k + 1) i j
  | 0, i, j, h, h1, h2, h3, h4 => by
    have e : j = r := h
    subst e
    rw [show i + ((0 : Nat) : Int) = i by omega] at h1 h2
    exact Or.inl ⟨h1, by omega, h2, h3, h4, rfl⟩
  | k + 1, i, j, h, h1, h2, h3, h4 => by
    rw [show i + ((k + 1 : Nat) : Int) = i + 1 + k by omega] at h1 h2
    rcases h with ⟨g1, g2, g3, g6, g7, g8⟩ | ⟨g1, g2⟩
    · exact Or.inl ⟨g1, by omega, g3, g6, g7, RlY.add k (i + 1) (j + 1) g8 h1 h2 h3 h4⟩
    · exact Or.inr ⟨g1, RlY.add k (i + 1) j g2 h1 h2 h3 h4⟩
theorem RlY.skip {A B : Mem} {a wd r : Int} {C : List Int} : ∀ (k : Nat) (i j : Int), RlY A B a wd C r k i j → B (a + 4 + (i + k)) 0 ≠ wd → RlY A B a wd C r (k + 1) i j
  | 0, i, j, h, h1 => by
    rw [show i + ((0 : Nat) : Int) = i by omega] at h1
    exact Or.inr ⟨h1, h⟩
  | k + 1, i, j, h, h1 => by
    rw [show i + ((k + 1 : Nat) : Int) = i + 1 + k by omega] at h1
    rcases h with ⟨g1, g2, g3, g6, g7, g8⟩ | ⟨g1, g2⟩
    · exact Or.inl ⟨g1, g2, g3, g6, g7, RlY.skip k (i + 1) (j + 1) g8 h1⟩
    · exact Or.inr ⟨g1, RlY.skip k (i + 1) j g2 h1⟩
theorem WyY.old {A A' B B' : Mem} {a k w r : Int} {C : List Int} (c : List Int) (hA : OldM r w A A') (hB : OldX a k w B B') (h : WyY A B a C k w) : WyY A' B' a (C ++ c) (k + 1) w := by
  intro j j0 j1
  obtain ⟨h1, h2, h3, h4, ⟨h5, h6, h7⟩, h8, h9⟩ := h j j0 j1
  rw [hB.2 j j0 j1, hB.1 _ 5 h1.1 h1.2, hB.1 _ 1 h1.1 h1.2, hB.1 _ 6 h1.1 h1.2, hB.1 _ 7 h1.1 h1.2, hB.1 _ 8 h1.1 h1.2, hA.2 367 j (by decide) (by decide) (by decide) j0 j1, hA.2 368 j (by decide) (by decide) (by decide) j0 j1, hA.2 369 j (by decide) (by decide) (by decide) j0 j1, hA.2 370 j (by decide) (by decide) (by decide) j0 j1, hA.2 371 j (by decide) (by decide) (by decide) j0 j1]
  exact ⟨⟨h1.1, by omega⟩, h2, h3, h4, ⟨h5, h6, h7⟩, h8.app c, h9.app c⟩
theorem ThY.old {A A' B B' : Mem} {a k w r : Int} (hA : OldM r w A A') (hB : OldX a k w B B') (h : ThY A B a k w) : ThY A' B' a (k + 1) w := by
  intro j j0 j1
  obtain ⟨h1, h2, h3, h4, h5⟩ := h j j0 j1
  rw [hB.2 j j0 j1, hB.1 _ 2 h2.1 h2.2, hB.1 _ 1 h2.1 h2.2, hA.2 373 j (by decide) (by decide) (by decide) j0 j1, hA.2 374 j (by decide) (by decide) (by decide) j0 j1]
  exact ⟨h1, ⟨h2.1, by omega⟩, h3, h4, fun u u0 u1 => by rw [hA.2 373 u (by decide) (by decide) (by decide) u0 (by omega)]; exact h5 u u0 u1⟩
theorem dscN.old {B B' : Mem} {a k0 w : Int} (hB : OldX a k0 w B B') : ∀ k : Nat, (k : Int) ≤ k0 → dscN B' a k = dscN B a k
  | 0, _ => rfl
  | k + 1, h => by
    show (if B' (a + 4 + k) 0 = 1 then 12 * B' (a + 4 + k) 4 + B' (a + 4 + k) 3 else dscN B' a k) = (if B (a + 4 + k) 0 = 1 then 12 * B (a + 4 + k) 4 + B (a + 4 + k) 3 else dscN B a k)
    rw [hB.1 k 0 (by omega) (by omega), hB.1 k 3 (by omega) (by omega), hB.1 k 4 (by omega) (by omega), dscN.old hB k (by omega)]
/-- the DISCS told are squares -/
def dscR (B : Mem) (a k : Int) : Prop := ∀ i, 0 ≤ i → i < k → B (a + 4 + i) 0 = 1 → (0 ≤ B (a + 4 + i) 3 ∧ B (a + 4 + i) 3 ≤ 11) ∧ 0 ≤ B (a + 4 + i) 4 ∧ B (a + 4 + i) 4 ≤ 7
theorem dscR.add {B B' : Mem} {a k w : Int} (h : dscR B a k) (hB : OldX a k w B B') (hn : B' (a + 4 + k) 0 = 1 → (0 ≤ B' (a + 4 + k) 3 ∧ B' (a + 4 + k) 3 ≤ 11) ∧ 0 ≤ B' (a + 4 + k) 4 ∧ B' (a + 4 + k) 4 ≤ 7) : dscR B' a (k + 1) := by
  intro i i0 i1 hw
  by_cases e : i = k
  · rw [e] at hw ⊢; exact hn hw
  · rw [hB.1 i 0 i0 (by omega)] at hw
    rw [hB.1 i 3 i0 (by omega), hB.1 i 4 i0 (by omega)]
    exact h i i0 (by omega) hw
theorem dscR.mv {B B' : Mem} {a k w : Int} (h : dscR B a k) (hB : OldX a k w B B') : dscR B' a k := by
  intro i i0 i1 hw
  rw [hB.1 i 0 i0 i1] at hw
  rw [hB.1 i 3 i0 i1, hB.1 i 4 i0 i1]
  exact h i i0 i1 hw
def ScG (sp a i : Int) : Prop := (sp ≤ a ∧ a ≤ sp + 43) ∨ (a = 4 ∧ 4 ≤ i ∧ i ≤ 10)
theorem ScQ_G {sp : Int} {M M1 : Mem} (f : Fr (ScQ sp) M M1) : Fr (ScG sp) M M1 := f.mono (fun a i h => by unfold ScQ at h; unfold ScG; omega)
/-- k STATEMENTS have been read by both, T lies ahead -/
def JS (b : Int → Int) (n sp fl : Int) (A0 B0 Mx Mm : Mem) (T : List Tok) (C : List Int) (k : Nat) (km : Int) : Prop :=
  XT b n sp Mx T C ∧ MC b n Mm T C ∧ (Mm 337 52 = 0 ∧ Mx 4 3 = 1 - fl) ∧ (Mx sp 1 = k ∧ Mm 337 36 = km ∧ k ≤ 40) ∧ C.length + T.length ≤ 901 ∧
  (0 ≤ Mm 362 0 ∧ Mm 362 0 ≤ k ∧ RlY Mm Mx sp (6 - 6 * fl) C (Mm 362 0) k 0 0) ∧
  (fl = 0 → (0 ≤ Mm 366 0 ∧ Mm 366 0 ≤ 5) ∧ Mx sp 3 = Mm 366 0 ∧ WyY Mm Mx sp C k (Mm 366 0)) ∧
  (fl = 1 → (0 ≤ Mm 372 0 ∧ Mm 372 0 ≤ 5) ∧ Mx sp 3 = Mm 372 0 ∧ ThY Mm Mx sp k (Mm 372 0) ∧ Mm 375 0 = dscN Mx sp k ∧ (0 ≤ Mm 375 0 ∧ Mm 375 0 < 96) ∧ Mm 366 0 = 0 ∧ dscR Mx sp k) ∧
  Fr ScJ A0 Mm ∧ Fr (ScG sp) B0 Mx
/-- both refuse with one FAULT -/
def JE (sp : Int) (A0 B0 Mx Mm : Mem) (km e p : Int) : Prop := XE sp Mx e p ∧ ME Mm e p ∧ Mm 337 36 = km ∧ Fr ScJ A0 Mm ∧ Fr (ScG sp) B0 Mx
def JB (b : Int → Int) (n sp fl : Int) (A0 B0 : Mem) (N : Nat) (k : Nat) (km : Int) (Rx Rm : Res) : Prop :=
  (∃ e p Mx Mm r, Rx = some (0, Mx) ∧ Rm = some (r, Mm) ∧ JE sp A0 B0 Mx Mm km e p) ∨ (∃ Mx Mm r T C, Rx = some (1, Mx) ∧ Rm = some (r, Mm) ∧ JS b n sp fl A0 B0 Mx Mm T C k km ∧ T.length < N)
section JJ
variable {b : Int → Int} {n sp fl km : Int} {A0 B0 Mx Mm : Mem} {T : List Tok} {C : List Int} {k : Nat}
/-- a STATEMENT begins in the class -/
theorem x_beg (h : XT b n sp Mx T C) (hk1 : Mx sp 1 = k ∧ k < 40) {wd : Int} (hw : isW T wd) : ∃ M7 M9, f_X7_begun Mx sp wd = some (sp + 4 + k, M7) ∧ f_X5_step M7 = some (0, M9) ∧ XT b n sp M9 T.tail C ∧ (M9 (sp + 4 + k) 0 = wd ∧ M9 (sp + 4 + k) 9 = k + 1 ∧ M9 sp 1 = k + 1) ∧ (∀ a i, sp ≤ a → a ≤ sp + 43 → a ≠ sp + 3 → ¬ (a = sp ∧ (i = 1 ∨ i = 5)) → ¬ (a = sp + 4 + k ∧ (i = 0 ∨ i = 9)) → M9 a i = Mx a i) ∧ Fr (ScG sp) Mx M9 ∧ M9 4 3 = Mx 4 3 := by
  have ks := kd17 sp h.2.2.1.2
  have x1 : XT b n sp (st (st (st Mx sp 1 (k + 1)) (sp + 4 + k) 0 wd) (sp + 4 + k) 9 (k + 1)) T C := ((h.ot (by omega)).ot (by omega)).ot (by omega)
  obtain ⟨M9, e, x9, f9⟩ := x_step x1 (by omega)
  have nq : ∀ a i, sp ≤ a → a ≤ sp + 43 → a ≠ sp + 3 → ¬ (a = sp ∧ i = 5) → M9 a i = st (st (st Mx sp 1 (k + 1)) (sp + 4 + k) 0 wd) (sp + 4 + k) 9 (k + 1) a i := fun a i _ _ _ _ => f9 a i (by unfold ScQ; omega)
  refine ⟨_, M9, ?_, e, x9, ⟨?_, ?_, ?_⟩, ?_, ?_, ?_⟩
  · unfold f_X7_begun
    rw [hk1.1, e_min, cl_some, Int.min_eq_left (show (k : Int) ≤ 39 by omega), ok_t ⟨by omega, by omega⟩, hk1.1, ok_t ⟨by omega, by omega⟩, e_min, cl_some, Int.min_eq_left (show (k : Int) + 1 ≤ 40 by omega), bm_e, bm_e, st_neA (show sp ≠ sp + 4 + (k : Int) by omega), st_at, bm_e]
  · rw [nq _ _ (by omega) (by omega) (by omega) (by omega), st_neI (by decide), st_at]
  · rw [nq _ _ (by omega) (by omega) (by omega) (by omega), st_at]
  · rw [nq _ _ (by omega) (by omega) (by omega) (by omega), st_neA (by omega), st_neA (by omega), st_at]
  · intro a i h1 h2 h3 h4 h5
    rw [nq a i h1 h2 h3 (by omega), st_ne (by omega), st_ne (by omega), st_ne (by omega)]
  · exact (Fr.st (Fr.st (Fr.st (Fr.rf _ _) (by unfold ScG; omega)) (by unfold ScG; omega)) (by unfold ScG; omega)).tr (ScQ_G f9)
  · rw [f9 4 3 (by unfold ScQ; omega), st_neA (by omega), st_neA (by omega), st_neA (by omega)]
/-- sight or line -/
theorem j_rule {M9 M1 : Mem} (hfl : fl = 0 ∨ fl = 1) (h : JS b n sp fl A0 B0 Mx Mm T C k km) (hk40 : k < 40) (x9 : XT b n sp M9 T.tail C) (hz : hk T ≠ 0) (b1 : M9 (sp + 4 + k) 0 = 6 - 6 * fl ∧ M9 (sp + 4 + k) 9 = k + 1 ∧ M9 sp 1 = k + 1) (same : ∀ a i, sp ≤ a → a ≤ sp + 43 → a ≠ sp + 3 → ¬ (a = sp ∧ (i = 1 ∨ i = 5)) → ¬ (a = sp + 4 + k ∧ (i = 0 ∨ i = 9)) → M9 a i = Mx a i) (f9 : Fr (ScG sp) Mx M9) (e43 : M9 4 3 = Mx 4 3) (q1 : MP b n M1 T.tail) (q2 : Fr ScP Mm M1) : JB b n sp fl A0 B0 T.length (k + 1) km (f_X5_readRule M9 (sp + 4 + k)) (f_X12_ruleTold M1) := by
  obtain ⟨h1, h2, ⟨h3, h3b⟩, ⟨h4, h5, h6⟩, h7, ⟨h8, h9, h10⟩, h11, h12, h13, h14⟩ := h
  have ks := kd17 sp h1.2.2.1.2
  obtain ⟨t1, t2⟩ := h1.1.tl hz
  have sP : ∀ a i, ¬ ScP a i → M1 a i = Mm a i := fun a i q => q2 a i q
  have mc1 : MC b n M1 T.tail C := ⟨q1, (sP 337 32 (by unfold ScP; omega)).trans h2.2.1, Seg.fr (fun i => sP 360 i (by unfold ScP; omega)) h2.2.2⟩
  have e362 : M1 362 0 = Mm 362 0 := sP 362 0 (by unfold ScP; omega)
  have hx := x_rule x9 (by omega) (s := sp + 4 + k) (by omega)
  obtain ⟨M5, M8, e5, e8, hm⟩ := m_rd3 mc1 (by rw [sP 337 52 (by unfold ScP; omega)]; exact h3) (by omega) (aF := 363) (k := Mm 362 0) (Or.inl rfl)
  have hm : RuM b n 363 (Mm 362 0) M1 (st M8 365 (Mm 362 0) (M8 337 32)) C (pRule T.tail) := hm
  have hP := fun c1 c2 T2 (hy : pRule T.tail = .ok (c1, c2, T2)) => pRule_ok t1 hy
  have eM : ∀ v, st M8 365 (Mm 362 0) v 362 0 = Mm 362 0 → f_X12_ruleTold M1 = some (0, st (st M8 365 (Mm 362 0) (M8 337 32)) 362 0 (Mm 362 0 + 1)) := by
    intro v hv
    rw [st_neA (by decide)] at hv
    unfold f_X12_ruleTold
    rw [e362]
    show ok _ _ = _
    rw [ok_t ⟨by omega, by omega⟩, bm_e, e5, cl_some, bm_e]
    show cl (f_X12_readsTest (st M5 (363 + 1) (Mm 362 0) (M5 337 32))) _ = _
    rw [e8, cl_some, bm_e, st_neA (by decide), hv, ok_t ⟨by omega, by omega⟩, bm_e]
  cases hy : pRule T.tail with
  | error z =>
    obtain ⟨e, p⟩ := z
    rw [hy] at hx hm
    obtain ⟨M2, e2, x2, f2⟩ := hx
    obtain ⟨me, fm⟩ := hm
    have ev : st M8 365 (Mm 362 0) (M8 337 32) 362 0 = Mm 362 0 := by rw [fm 362 0 (by unfold ScV ScS; omega)]; exact e362
    left
    refine ⟨e, p, M2, _, 0, e2, eM _ ev, x2, ⟨?_, ?_, me.1.2.2⟩, ?_, ?_, ?_⟩
    · rw [st_neA (by decide)]; exact me.1.1
    · rw [st_neA (by decide)]; exact me.1.2.1
    · rw [st_neA (by decide)]
      show st M8 365 (Mm 362 0) (M8 337 32) 337 36 = km
      rw [fm 337 36 (by unfold ScV ScS; omega), sP 337 36 (by unfold ScP; omega)]; exact h5
    · refine Fr.st ((h13.tr (ScS_J (ScP_S q2))).tr (fm.mono (fun a i q => ?_))) (by unfold ScJ; omega)
      unfold ScV ScS at q; unfold ScJ ScS; omega
    · exact (h14.tr f9).tr (f2.mono (fun a i q => by unfold ScU ScQ at q; unfold ScG; omega))
  | ok z =>
    obtain ⟨c1, c2, T2⟩ := z
    rw [hy] at hx hm
    obtain ⟨M2, e2, x2, ⟨y1, y2, y3⟩, f2⟩ := hx
    obtain ⟨mc, ⟨y4, y5, y6⟩, fm⟩ := hm
    obtain ⟨g1, g2, g3, g4, g5⟩ := hP _ _ _ hy
    have ev : st M8 365 (Mm 362 0) (M8 337 32) 362 0 = Mm 362 0 := by rw [fm 362 0 (by unfold ScV ScS; omega)]; exact e362
    have fx : ∀ a i, sp ≤ a → a ≤ sp + 43 → a ≠ sp + 3 → ¬ (a = sp ∧ i = 5) → ¬ (a = sp + 4 + k ∧ 6 ≤ i ∧ i ≤ 8) → M2 a i = M9 a i := fun a i _ _ _ _ _ => f2 a i (by unfold ScU ScQ; omega)
    have gm : ∀ a i, ¬ ScV 363 (Mm 362 0) a i → ¬ ScP a i → ¬ (a = 362 ∧ i = 0) → st (st M8 365 (Mm 362 0) (M8 337 32)) 362 0 (Mm 362 0 + 1) a i = Mm a i := by
      intro a i n1 n2 n3
      rw [st_ne n3, fm a i n1]; exact sP a i n2
    have oX : OldX sp k (Mx sp 3) Mx M2 := by
      refine ⟨fun i c i0 i1 => ?_, fun j j0 j1 => ?_⟩
      · rw [fx _ _ (by omega) (by omega) (by omega) (by omega) (by omega)]; exact same _ _ (by omega) (by omega) (by omega) (by omega) (by omega)
      · rw [fx _ _ (by omega) (by omega) (by omega) (by omega) (by omega)]; exact same _ _ (by omega) (by omega) (by omega) (by omega) (by omega)
    have oM : ∀ w, OldM (Mm 362 0) w Mm (st (st M8 365 (Mm 362 0) (M8 337 32)) 362 0 (Mm 362 0 + 1)) := by
      intro w
      refine ⟨fun c j c0 c1 j0 j1 => ?_, fun c j c0 c1 c2 j0 j1 => ?_⟩
      · exact gm _ _ (by unfold ScV ScS; omega) (by unfold ScP; omega) (by omega)
      · exact gm _ _ (by unfold ScV ScS; omega) (by unfold ScP; omega) (by omega)
    have e3 : M2 sp 3 = Mx sp 3 := by rw [fx _ _ (by omega) (by omega) (by omega) (by omega) (by omega)]; exact same _ _ (by omega) (by omega) (by omega) (by omega) (by omega)
    have e0 : M2 (sp + 4 + k) 0 = 6 - 6 * fl := by rw [fx _ _ (by omega) (by omega) (by omega) (by omega) (by omega)]; exact b1.1
    have ea : C ++ c1 ++ c2 = C ++ (c1 ++ c2) := by simp
    right
    refine ⟨M2, _, 0, T2, C ++ c1 ++ c2, e2, eM _ ev, ⟨x2, mc.ot (by decide), ⟨?_, ?_⟩, ⟨?_, ?_, by omega⟩, by simp; omega, ⟨?_, ?_, ?_⟩, ?_, ?_, ?_, ?_⟩, by omega⟩
    · exact (gm _ _ (by unfold ScV ScS; omega) (by unfold ScP; omega) (by omega)).trans h3
    · rw [f2 4 3 (by unfold ScU ScQ; omega), e43]; exact h3b
    · rw [fx _ _ (by omega) (by omega) (by omega) (by omega) (by omega), b1.2.2]; omega
    · exact (gm _ _ (by unfold ScV ScS; omega) (by unfold ScP; omega) (by omega)).trans h5
    · rw [st_at]; omega
    · rw [st_at]; omega
    · rw [st_at]
      have r1 := RlY.old (c1 ++ c2) (oM 0) oX k 0 0 (by omega) (by omega) (by omega) h10
      rw [← ea] at r1
      have c363 : st (st M8 365 (Mm 362 0) (M8 337 32)) 362 0 (Mm 362 0 + 1) 363 (Mm 362 0) = C.length := by rw [st_neA (by decide)]; exact y4
      have c364 : st (st M8 365 (Mm 362 0) (M8 337 32)) 362 0 (Mm 362 0 + 1) 364 (Mm 362 0) = ((C ++ c1).length : Int) := by rw [st_neA (by decide)]; exact y5
      have c365 : st (st M8 365 (Mm 362 0) (M8 337 32)) 362 0 (Mm 362 0 + 1) 365 (Mm 362 0) = ((C ++ c1 ++ c2).length : Int) := by rw [st_neA (by decide)]; exact y6
      refine RlY.add k 0 0 r1 ?_ ⟨?_, ?_, ?_⟩ ?_ ?_
      · rw [show (0 : Int) + k = k by omega]; exact e0
      · rw [show (0 : Int) + k = k by omega, c363]; exact y1
      · rw [show (0 : Int) + k = k by omega, c364]; exact y2
      · rw [show (0 : Int) + k = k by omega, c365]; exact y3
      · rw [c363, c364]; exact (Sg2.new g4).app c2
      · rw [c364, c365]; exact Sg2.new g5
    · intro hf
      obtain ⟨w1, w2, w3⟩ := h11 hf
      have e366 : st (st M8 365 (Mm 362 0) (M8 337 32)) 362 0 (Mm 362 0 + 1) 366 0 = Mm 366 0 := gm _ _ (by unfold ScV ScS; omega) (by unfold ScP; omega) (by omega)
      rw [e366, e3, ea]
      rw [w2] at oX
      exact ⟨w1, w2, WyY.old (c1 ++ c2) (oM _) oX w3⟩
    · intro hf
      obtain ⟨w1, w2, w3, w4, w5⟩ := h12 hf
      have e372 : st (st M8 365 (Mm 362 0) (M8 337 32)) 362 0 (Mm 362 0 + 1) 372 0 = Mm 372 0 := gm _ _ (by unfold ScV ScS; omega) (by unfold ScP; omega) (by omega)
      have e375 : st (st M8 365 (Mm 362 0) (M8 337 32)) 362 0 (Mm 362 0 + 1) 375 0 = Mm 375 0 := gm _ _ (by unfold ScV ScS; omega) (by unfold ScP; omega) (by omega)
      have dd := dscN.old oX k (by omega)
      have e366 : st (st M8 365 (Mm 362 0) (M8 337 32)) 362 0 (Mm 362 0 + 1) 366 0 = Mm 366 0 := gm _ _ (by unfold ScV ScS; omega) (by unfold ScP; omega) (by omega)
      rw [e372, e375, e366, e3]
      rw [w2] at oX
      refine ⟨w1, w2, ThY.old (oM _) oX w3, ?_, w5.1, w5.2.1, w5.2.2.add oX (fun z => absurd z (by rw [e0]; omega))⟩
      show _ = (if M2 (sp + 4 + k) 0 = 1 then _ else dscN M2 sp k)
      rw [if_neg (by rw [e0]; omega), dd]; exact w4
    · refine Fr.st ((h13.tr (ScS_J (ScP_S q2))).tr (fm.mono (fun a i q => ?_))) (by unfold ScJ; omega)
      unfold ScV ScS at q; unfold ScJ ScS; omega
    · exact (h14.tr f9).tr (f2.mono (fun a i q => by unfold ScU ScQ at q; unfold ScG; omega))
end JJ
