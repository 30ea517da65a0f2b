/-! plan(): the reference's copies, and what they hold -/
theorem m_cp2 {M : Mem} {len : Int} (h32 : M 337 32 = len) (hl : 0 ≤ len ∧ len ≤ 900) : ∀ (n F : Nat) (M' : Mem) (x : Int), len - x = n → 0 ≤ x → (∀ j, 0 ≤ j → j < x → M' 360 (4500 + j) = M 360 j) → (∀ a i, ¬ (a = 360 ∧ 4500 ≤ i ∧ i < 5400) → M' a i = M a i) → n < F → ∃ M1, wl1 b_X12_plan_200 F M' x = some (M 337 36, M1) ∧ (∀ j, 0 ≤ j → j < len → M1 360 (4500 + j) = M 360 j) ∧ M1 337 60 = 1 ∧ ∀ a i, ¬ (a = 360 ∧ 4500 ≤ i ∧ i < 5400) → ¬ (a = 337 ∧ i = 60) → M1 a i = M a i := by
  intro n
  induction n with
  | zero =>
    intro F M' x hx x0 h1 h2 hF
    obtain ⟨G, rfl⟩ : ∃ G, F = G + 1 := ⟨F - 1, by omega⟩
    refine ⟨st M' 337 60 1, ?_, fun j j0 j1 => ?_, st_at _ _ _ _, fun a i z1 z2 => ?_⟩
    · rw [wl1_s]
      unfold b_X12_plan_200
      rw [h2 337 32 (by omega), h32, if_pos (by omega), bm_e, st_neI (by decide), h2 337 36 (by omega)]
    · rw [st_neA (by decide)]; exact h1 j j0 (by omega)
    · rw [st_ne z2]; exact h2 a i z1
  | succ n ih =>
    intro F M' x hx x0 h1 h2 hF
    obtain ⟨G, rfl⟩ : ∃ G, F = G + 1 := ⟨F - 1, by omega⟩
    rw [wl1_s]
    have ih' := ih G (st M' 360 (4500 + x) (M' 360 x)) (x + 1) (by omega) (by omega) (fun j j0 j1 => by
      by_cases e : j = x
      · rw [e, st_at]; exact h2 360 x (by omega)
      · rw [st_neI (by omega)]; exact h1 j j0 (by omega)) (fun a i hn => by rw [st_ne (by omega)]; exact h2 a i hn) (by omega)
    generalize wl1 b_X12_plan_200 G = w at ih' ⊢
    unfold b_X12_plan_200
    rw [h2 337 32 (by omega), h32, if_neg (by omega), ok_t ⟨by omega, by omega⟩, ok_t ⟨by omega, by omega⟩, ok_t ⟨by omega, by omega⟩, bm_e, bi_e]
    exact ih'
/-- the first x steps are copied -/
def CpP (M M' : Mem) (x : Int) : Prop := ∀ j, 0 ≤ j → j < x → (∀ c, (377 ≤ c ∧ c ≤ 379) ∨ c = 382 → M' c (80 + j) = M c j) ∧ ∀ c, 380 ≤ c → c ≤ 381 → M' c (80 + j) = M c j + 4500
theorem m_cp1 {M : Mem} {l : Int} (h376 : M 376 1 = l) (hl : 0 ≤ l ∧ l ≤ 80) (hb : StB M) : ∀ (n F : Nat) (M' : Mem) (x : Int), l - x = n → 0 ≤ x → CpP M M' x → (∀ a i, ¬ ((377 ≤ a ∧ a ≤ 382) ∧ 80 ≤ i ∧ i < 160) → M' a i = M a i) → n < F → ∃ M1, wl1 b_X12_plan_84 F M' x = wl1 b_X12_plan_200 FU M1 0 ∧ CpP M M1 l ∧ ∀ a i, ¬ ((377 ≤ a ∧ a ≤ 382) ∧ 80 ≤ i ∧ i < 160) → M1 a i = M a i := by
  intro n
  induction n with
  | zero =>
    intro F M' x hx x0 h1 h2 hF
    obtain ⟨G, rfl⟩ : ∃ G, F = G + 1 := ⟨F - 1, by omega⟩
    have e : x = l := by omega
    subst e
    refine ⟨M', ?_, h1, h2⟩
    rw [wl1_s]
    unfold b_X12_plan_84
    rw [h2 376 1 (by omega), h376, if_pos (by omega)]
  | succ n ih =>
    intro F M' x hx x0 h1 h2 hF
    obtain ⟨G, rfl⟩ : ∃ G, F = G + 1 := ⟨F - 1, by omega⟩
    rw [wl1_s]
    have g : ∀ c, M' c x = M c x := fun c => h2 c x (by omega)
    have b380 := hb 380 x (by decide) (by decide) x0 (by omega)
    have b381 := hb 381 x (by decide) (by decide) x0 (by omega)
    have ih' := ih G (st (st (st (st (st (st M' 377 (80 + x) (M 377 x)) 378 (80 + x) (M 378 x)) 379 (80 + x) (M 379 x)) 380 (80 + x) (M 380 x + 4500)) 381 (80 + x) (M 381 x + 4500)) 382 (80 + x) (M 382 x)) (x + 1) (by omega) (by omega) (by
      intro j j0 j1
      by_cases e : j = x
      · subst e
        refine ⟨fun c hc => ?_, fun c c0 c1 => ?_⟩
        · have : c = 377 ∨ c = 378 ∨ c = 379 ∨ c = 382 := by omega
          rcases this with rfl | rfl | rfl | rfl <;> simp [st]
        · have : c = 380 ∨ c = 381 := by omega
          rcases this with rfl | rfl <;> simp [st]
      · obtain ⟨y1, y2⟩ := h1 j j0 (by omega)
        refine ⟨fun c hc => ?_, fun c c0 c1 => ?_⟩
        · rw [st_neI (by omega), st_neI (by omega), st_neI (by omega), st_neI (by omega), st_neI (by omega), st_neI (by omega)]; exact y1 c hc
        · rw [st_neI (by omega), st_neI (by omega), st_neI (by omega), st_neI (by omega), st_neI (by omega), st_neI (by omega)]; exact y2 c c0 c1) (fun a i hn => by
      rw [st_ne (by omega), st_ne (by omega), st_ne (by omega), st_ne (by omega), st_ne (by omega), st_ne (by omega)]; exact h2 a i hn) (by omega)
    generalize wl1 b_X12_plan_84 G = w at ih' ⊢
    unfold b_X12_plan_84
    rw [h2 376 1 (by omega), h376, if_neg (by omega), ok_t ⟨by omega, by omega⟩, ok_t ⟨by omega, by omega⟩, ok_t ⟨by omega, by omega⟩, bm_e, st_neA (show (378 : Int) ≠ 377 by decide), bm_e, st_neA (show (379 : Int) ≠ 378 by decide), st_neA (show (379 : Int) ≠ 377 by decide), bm_e, st_neA (show (380 : Int) ≠ 379 by decide), st_neA (show (380 : Int) ≠ 378 by decide), st_neA (show (380 : Int) ≠ 377 by decide), g 377, g 378, g 379, g 380, ok_t ⟨by omega, by omega⟩, bm_e, st_neA (show (381 : Int) ≠ 380 by decide), st_neA (show (381 : Int) ≠ 379 by decide), st_neA (show (381 : Int) ≠ 378 by decide), st_neA (show (381 : Int) ≠ 377 by decide), g 381, ok_t ⟨by omega, by omega⟩, bm_e, st_neA (show (382 : Int) ≠ 381 by decide), st_neA (show (382 : Int) ≠ 380 by decide), st_neA (show (382 : Int) ≠ 379 by decide), st_neA (show (382 : Int) ≠ 378 by decide), st_neA (show (382 : Int) ≠ 377 by decide), g 382, bm_e, bi_e]
    exact ih'
/-- what was read is what the copies hold -/
theorem MY.mr {M Mx A B : Mem} {sp w L K : Int} {C : List Int} (hC : C.length ≤ 900) (h360 : Seg A 360 4500 C) (hX : Seg B (sp + 3) 0 (C.map mk)) (hw : A 372 1 = w) (hA : CpP M A L) (hB : ∀ i c, 0 ≤ i → i < K → B (sp + 4 + i) c = Mx (sp + 4 + i) c) : ∀ (n d : Nat) (i j k l : Int), 0 ≤ i → j ≤ K → 0 ≤ k → l ≤ L → MY M Mx sp w C n d i j k l → MR A B sp n d i j (80 + k) (80 + l)
  | 0, _, _, _, _, _, _, _, _, _, h => h.elim
  | n + 1, d, i, j, k, l, i0, jK, k0, lL, h => by
    rcases h with ⟨h1, h2⟩ | ⟨h1, h2, h3, h4, h5, h6⟩ | ⟨h1, h2, h3, h4, h5, h6, d1, ke, h7, h8, h9, h10, h11, h12⟩
    · exact Or.inl ⟨h1, by omega⟩
    · obtain ⟨a1, a2⟩ := hA k k0 (by omega)
      have b : ∀ c, B (sp + 4 + i) c = Mx (sp + 4 + i) c := fun c => hB i c i0 (by omega)
      obtain ⟨s0, s1, s2, s3, s4, s5, ⟨s6, s6'⟩, s7⟩ := h5
      have h360' : Seg A 360 (900 * 5) C := h360
      have t1 := (sg_T h360' hC s7).1
      have t2 := sg_X (B := B) (a := sp) h360' hC hX s7
      rw [show (900 : Int) * 5 = 4500 from rfl, ← a2 380 (by decide) (by decide), ← a2 381 (by decide) (by decide)] at t1 t2
      have r := MY.mr hC h360 hX hw hA hB n d (i + 1) j (k + 1) l (by omega) jK (by omega) lL h6
      rw [show 80 + (k + 1) = 80 + k + 1 by omega] at r
      refine Or.inr (Or.inl ⟨h1, by omega, by rw [b]; exact h3, by rw [a1 377 (by decide)]; exact h4, ⟨?_, ?_, ?_, ?_, ?_, t1, ?_⟩, r⟩)
      · rw [a1 378 (by decide), hw]; exact s1
      · rw [a1 378 (by decide), b]; exact s2
      · rw [b]; exact s3
      · rw [b]; exact s4
      · rw [a1 379 (by decide), b, b]; exact s5
      · rw [b, b, s6, s6']; exact t2
    · obtain ⟨a1, a2⟩ := hA k k0 (by omega)
      have b : ∀ c, B (sp + 4 + i) c = Mx (sp + 4 + i) c := fun c => hB i c i0 (by omega)
      have r1 := MY.mr hC h360 hX hw hA hB n d1 (i + 1) _ (k + 1) ke (by omega) (by omega) (by omega) (by omega) h11
      have r2 := MY.mr hC h360 hX hw hA hB n d _ j (ke + 1) l (by omega) jK (by omega) lL h12
      rw [show 80 + (k + 1) = 80 + k + 1 by omega] at r1
      rw [show 80 + (ke + 1) = 80 + ke + 1 by omega] at r2
      refine Or.inr (Or.inr ⟨h1, by rw [b]; exact h2, by rw [a1 377 (by decide)]; exact h3, by rw [a1 382 (by decide), b]; exact h4, by rw [b]; exact h5, by rw [b]; exact h6, d1, 80 + ke, h7, by omega, by omega, ?_, by rw [b]; exact r1, by rw [b]; exact r2⟩)
      rw [(hA ke (by omega) (by omega)).1 377 (by decide)]; exact h10
