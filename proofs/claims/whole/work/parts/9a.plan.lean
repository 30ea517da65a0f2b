/-! PLAN: what has been read of it -/
def ShwY (A B : Mem) (a w : Int) (C : List Int) (i k : Int) : Prop := B (a + 4 + i) 9 = i + 1 ∧ (0 ≤ A 378 k ∧ A 378 k < w) ∧ B (a + 4 + i) 2 = A 378 k ∧ (0 ≤ B (a + 4 + i) 3 ∧ B (a + 4 + i) 3 < 12) ∧ (0 ≤ B (a + 4 + i) 4 ∧ B (a + 4 + i) 4 < 8) ∧ A 379 k = 12 * B (a + 4 + i) 4 + B (a + 4 + i) 3 ∧ (B (a + 4 + i) 6 = A 380 k ∧ B (a + 4 + i) 7 = A 381 k) ∧ Sg2 C (A 380 k) (A 381 k) false
def MY (A B : Mem) (a w : Int) (C : List Int) : Nat → Nat → Int → Int → Int → Int → Prop
  | 0, _, _, _, _, _ => False
  | n + 1, d, i, j, k, l => (i = j ∧ k = l) ∨ (i < j ∧ k < l ∧ B (a + 4 + i) 0 = 7 ∧ A 377 k = 0 ∧ ShwY A B a w C i k ∧ MY A B a w C n d (i + 1) j (k + 1) l) ∨ (i < j ∧ B (a + 4 + i) 0 = 8 ∧ A 377 k = 1 ∧ A 382 k = B (a + 4 + i) 2 ∧ (1 ≤ B (a + 4 + i) 2 ∧ B (a + 4 + i) 2 ≤ 9) ∧ (i + 1 ≤ B (a + 4 + i) 9 ∧ B (a + 4 + i) 9 ≤ j) ∧ ∃ d1 ke, d = d1 + 1 ∧ k < ke ∧ ke < l ∧ A 377 ke = 2 ∧ MY A B a w C n d1 (i + 1) (B (a + 4 + i) 9) (k + 1) ke ∧ MY A B a w C n d (B (a + 4 + i) 9) j (ke + 1) l)
/-- the STATEMENTS i.. and the steps k.. are as they were -/
def OldP (a i j k l : Int) (A A' B B' : Mem) : Prop := (∀ s c, i ≤ s → s < j → B' (a + 4 + s) c = B (a + 4 + s) c) ∧ ∀ c s, 377 ≤ c → c ≤ 382 → k ≤ s → s < l → A' c s = A c s
theorem OldP.sub {a i j k l i' j' k' l' : Int} {A A' B B' : Mem} (h : OldP a i j k l A A' B B') (h1 : i ≤ i') (h2 : j' ≤ j) (h3 : k ≤ k') (h4 : l' ≤ l) : OldP a i' j' k' l' A A' B B' := ⟨fun s c s0 s1 => h.1 s c (by omega) (by omega), fun c s c0 c1 s0 s1 => h.2 c s c0 c1 (by omega) (by omega)⟩
theorem ShwY.mv {A A' B B' : Mem} {a w i k : Int} {C : List Int} (c : List Int) (hA : ∀ c, 377 ≤ c → c ≤ 382 → A' c k = A c k) (hB : ∀ c, B' (a + 4 + i) c = B (a + 4 + i) c) (h : ShwY A B a w C i k) : ShwY A' B' a w (C ++ c) i k := by
  unfold ShwY at h ⊢
  rw [hA 378 (by decide) (by decide), hA 379 (by decide) (by decide), hA 380 (by decide) (by decide), hA 381 (by decide) (by decide), hB, hB, hB, hB, hB, hB]
  obtain ⟨h0, h1, h2, h3, h4, h5, h6, h7⟩ := h
  exact ⟨h0, h1, h2, h3, h4, h5, h6, h7.app c⟩
theorem MY.mv {A A' B B' : Mem} {a w : Int} {C : List Int} (c : List Int) : ∀ (n d : Nat) (i j k l : Int), OldP a i j k l A A' B B' → MY A B a w C n d i j k l → MY A' B' a w (C ++ c) n d i j k l
  | 0, _, _, _, _, _, _, h => h.elim
  | n + 1, d, i, j, k, l, ho, h => by
    rcases h with h | ⟨h1, h2, h3, h4, h5, h6⟩ | ⟨h1, h2, h3, h4, h5, h6, d1, ke, h7, h8, h9, h10, h11, h12⟩
    · exact Or.inl h
    · refine Or.inr (Or.inl ⟨h1, h2, by rw [ho.1 i 0 (Int.le_refl _) h1]; exact h3, by rw [ho.2 377 k (by decide) (by decide) (Int.le_refl _) h2]; exact h4, h5.mv c (fun c c0 c1 => ho.2 c k c0 c1 (Int.le_refl _) h2) (fun c => ho.1 i c (Int.le_refl _) h1), MY.mv c n d (i + 1) j (k + 1) l (ho.sub (by omega) (by omega) (by omega) (by omega)) h6⟩)
    · right; right
      have kl : k < l := by omega
      rw [ho.1 i 0 (Int.le_refl _) h1, ho.1 i 2 (Int.le_refl _) h1, ho.1 i 9 (Int.le_refl _) h1, ho.2 377 k (by decide) (by decide) (Int.le_refl _) kl, ho.2 382 k (by decide) (by decide) (Int.le_refl _) kl]
      exact ⟨h1, h2, h3, h4, h5, h6, d1, ke, h7, h8, h9, by rw [ho.2 377 ke (by decide) (by decide) (by omega) h9]; exact h10, MY.mv c n d1 (i + 1) _ (k + 1) ke (ho.sub (by omega) (by omega) (by omega) (by omega)) h11, MY.mv c n d _ j (ke + 1) l (ho.sub (by omega) (by omega) (by omega) (by omega)) h12⟩
theorem MY.up {A B : Mem} {a w : Int} {C : List Int} : ∀ (n d : Nat) (i j k l : Int), MY A B a w C n d i j k l → MY A B a w C (n + 1) d i j k l
  | 0, _, _, _, _, _, h => h.elim
  | n + 1, d, i, j, k, l, h => by
    rcases h with h | ⟨h1, h2, h3, h4, h5, h6⟩ | ⟨h1, h2, h3, h4, h5, h6, d1, ke, h7, h8, h9, h10, h11, h12⟩
    · exact Or.inl h
    · exact Or.inr (Or.inl ⟨h1, h2, h3, h4, h5, MY.up n d (i + 1) j (k + 1) l h6⟩)
    · exact Or.inr (Or.inr ⟨h1, h2, h3, h4, h5, h6, d1, ke, h7, h8, h9, h10, MY.up n d1 (i + 1) _ (k + 1) ke h11, MY.up n d _ j (ke + 1) l h12⟩)
theorem MY.le {A B : Mem} {a w : Int} {C : List Int} {n d : Nat} {i j k l : Int} (h : MY A B a w C n d i j k l) : ∀ m : Nat, MY A B a w C (n + m) d i j k l
  | 0 => h
  | m + 1 => MY.up (n + m) d i j k l (MY.le h m)
/-- the name of a THING in the reference's PLAN -/
theorem m_which {M : Mem} {w : Int} (hw : M 372 1 = w ∧ 0 ≤ w ∧ w ≤ 5) (y m : Int) : ∀ (n F : Nat) (x4 x5 : Int), w - x5 = n → 0 ≤ x5 → n < F → ∃ r, ((r = x4 ∧ ∀ t, x5 ≤ t → t < w → M 373 (5 + t) ≠ m) ∨ ((x5 ≤ r ∧ r < w) ∧ M 373 (5 + r) = m)) ∧ wl4 b_X12_showTold_18 F M y m x4 x5 = (if M 337 5 = 0 then (if r = -1 then (cl (f_X12_fail M 3 (M 337 30)) (fun _ M11 => j_X12_showTold_75 M11 y r)) else j_X12_showTold_75 M y r) else j_X12_showTold_75 M y r) := by
  intro n
  induction n with
  | zero =>
    intro F x4 x5 hn x0 hF
    obtain ⟨G, rfl⟩ : ∃ G, F = G + 1 := ⟨F - 1, by omega⟩
    refine ⟨x4, Or.inl ⟨rfl, fun t t0 t1 => by omega⟩, ?_⟩
    show b_X12_showTold_18 _ M y m x4 x5 = _
    unfold b_X12_showTold_18
    rw [hw.1, if_pos (show w ≤ x5 by omega)]
  | succ n ih =>
    intro F x4 x5 hn x0 hF
    obtain ⟨G, rfl⟩ : ∃ G, F = G + 1 := ⟨F - 1, by omega⟩
    show ∃ r, _ ∧ b_X12_showTold_18 (wl4 b_X12_showTold_18 G) M y m x4 x5 = _
    have ih1 := ih G x5 (x5 + 1) (by omega) (by omega) (by omega)
    have ih2 := ih G x4 (x5 + 1) (by omega) (by omega) (by omega)
    generalize wl4 b_X12_showTold_18 G = w' at ih1 ih2 ⊢
    unfold b_X12_showTold_18
    rw [hw.1, if_neg (show ¬ w ≤ x5 by omega), ok_t ⟨by omega, by omega⟩, ok_t ⟨by omega, by omega⟩, ok_t ⟨by omega, by omega⟩]
    by_cases c : M 373 (5 + x5) = m
    · rw [if_pos c]
      obtain ⟨r, hr, e⟩ := ih1
      refine ⟨r, Or.inr ?_, e⟩
      rcases hr with ⟨rfl, -⟩ | ⟨h1, h2⟩
      · exact ⟨⟨by omega, by omega⟩, c⟩
      · exact ⟨⟨by omega, h1.2⟩, h2⟩
    · rw [if_neg c, ok_t ⟨by omega, by omega⟩]
      obtain ⟨r, hr, e⟩ := ih2
      refine ⟨r, ?_, e⟩
      rcases hr with ⟨h1, h2⟩ | ⟨h1, h2⟩
      · refine Or.inl ⟨h1, fun t t0 t1 => ?_⟩
        by_cases et : t = x5
        · rw [et]; exact c
        · exact h2 t (by omega) t1
      · exact Or.inr ⟨⟨by omega, h1.2⟩, h2⟩
/-- what a PLAN knows: the THINGS of the FIELD -/
def Kn (kn sp w : Int) (Mx0 Mm0 : Mem) : Prop := (kd kn = 17 ∧ kn ≠ sp) ∧ (Mx0 kn 3 = w ∧ Mm0 372 1 = w ∧ 0 ≤ w ∧ w ≤ 5) ∧ ∀ t, 0 ≤ t → t < w → (0 ≤ Mx0 (kn + 2) t ∧ Mx0 (kn + 2) t < 40) ∧ NR (Mm0 373 (5 + t)) (Mx0 (kn + 4 + Mx0 (kn + 2) t) 1) ∧ ∀ u, 0 ≤ u → u < t → Mm0 373 (5 + u) ≠ Mm0 373 (5 + t)
