/-! R holds at the start -/
theorem cnt_0 {f : Int → Int} : ∀ n : Nat, (∀ i : Nat, i < n → f i = 0) → cnt f n = 0
  | 0, _ => rfl
  | n + 1, h => by
    show cnt f n + (if 0 < f n then 1 else 0) = 0
    rw [cnt_0 n (fun i hi => h i (by omega)), h n (by omega), if_neg (by omega)]
    rfl
theorem parts0 {M : Mem} (h : ∀ t, 0 ≤ t → t < 96 → M 14 t = 0) : f_X3_partPieces M = some (0, st (st M 13 8 0) 13 9 (-1)) := by
  have key : ∀ (n F : Nat) (x : Int), 96 - x = n → 0 ≤ x → n < F → wl1 b_X3_partPieces_12 F (st (st M 13 8 0) 13 9 (-1)) x = some (0, st (st M 13 8 0) 13 9 (-1)) := by
    intro n
    induction n with
    | zero =>
      intro F x hx x0 hF
      obtain ⟨G, rfl⟩ : ∃ G, F = G + 1 := ⟨F - 1, by omega⟩
      rw [wl1_s]
      unfold b_X3_partPieces_12
      rw [if_pos (by omega)]
    | succ n ih =>
      intro F x hx x0 hF
      obtain ⟨G, rfl⟩ : ∃ G, F = G + 1 := ⟨F - 1, by omega⟩
      rw [wl1_s]
      have ih' := ih G (x + 1) (by omega) (by omega) (by omega)
      generalize wl1 b_X3_partPieces_12 G = w at ih' ⊢
      unfold b_X3_partPieces_12
      rw [if_neg (by omega), ok_t ⟨x0, by omega⟩, st_neA (show (14 : Int) ≠ 13 by decide), st_neA (show (14 : Int) ≠ 13 by decide), h x x0 (by omega), if_pos (Int.le_refl _), bi_e]
      exact ih'
  unfold f_X3_partPieces
  rw [bm_e, bm_e]
  exact key 96 FU 0 (by decide) (by decide) (by have : FU = 1000000000 := rfl; omega)
def zA : Mem := fun _ _ => 0
theorem sgv0 (s : Int) : sgv zA 95 s = 0 := by
  unfold sgv
  split
  · rfl
  · rfl
theorem build0 : ∃ M1, f_X3_build mBZ 69 = some (0, M1) ∧ (∀ t, 0 ≤ t → t < 96 → M1 14 t = 0 ∧ M1 15 t = -1 ∧ M1 20 t = 0) ∧ (M1 13 8 = 0 ∧ M1 13 9 = -1 ∧ M1 13 10 = 0 ∧ M1 13 11 = 95) ∧ Fr ScFx mBZ M1 := by
  have hL : RulA zA 1 := ⟨⟨by decide, by decide⟩, fun j j0 j1 => absurd j1 (show ¬ j < 0 by omega)⟩
  have h1 : mBZ 69 1 = ((0 : Nat) : Int) ∧ (0 : Nat) ≤ 40 := ⟨by decide +kernel, by decide⟩
  have hdr : dscR mBZ 69 ((0 : Nat) : Int) := fun i i0 i1 => by omega
  generalize mBZ = B0 at h1 hdr ⊢
  obtain ⟨X5, e5, z5, o5⟩ := x_noth (st B0 13 11 95)
  have sX : SGx zA 95 69 (st X5 13 10 0) (st X5 13 10 0) 0 := by
    refine ⟨fun t _ _ => by omega, by rw [st_at]; rfl, ?_, ⟨?_, ?_, ?_, ?_⟩, Fr.rf _ _⟩
    · rw [st_neI (by decide), o5 13 11 (by decide), st_at]
    · rw [st_neA (by decide)]; exact z5 16 (by decide) (by decide)
    · rw [st_neA (by decide)]; exact z5 0 (by decide) (by decide)
    · rw [st_neA (by decide)]; exact z5 17 (by decide) (by decide)
    · rw [st_neA (by decide)]; exact z5 18 (by decide) (by decide)
  have sc : ∀ c i, c ≠ 11 → c ≠ 13 → st X5 13 10 0 c i = B0 c i := fun c i c1 c2 => by rw [st_neA c2, o5 c i c1, st_neA c2]
  have hX' : RulX zA (st X5 13 10 0) 69 1 0 := by
    unfold RulX
    rw [sc 69 1 (by decide) (by decide), h1.1]
    exact ⟨⟨by decide, by decide⟩, rfl⟩
  obtain ⟨X6, e6, s6⟩ := x_sights kd_69 hL hX' sX
  obtain ⟨t1, t2, t3, -, t5⟩ := s6
  have z14 : ∀ t, 0 ≤ t → t < 96 → X6 14 t = 0 := fun t t0 t1' => by rw [(t1 t t0 t1').1]; exact sgv0 t
  have hd : dscN B0 69 0 = 95 := rfl
  refine ⟨st (st X6 13 8 0) 13 9 (-1), ?_, fun t t0 t1' => ?_, ⟨?_, ?_, ?_, ?_⟩, ?_⟩
  · unfold f_X3_build
    rw [x_discOf h1 hdr, cl_some, hd, bm_e, e5, cl_some, bm_e]
    refine e6.trans ?_
    rw [parts0 z14, cl_some]
  · obtain ⟨q1, q2, q3⟩ := t1 t t0 t1'
    rw [st_neA (by decide), st_neA (by decide), st_neA (by decide), st_neA (by decide), st_neA (by decide), st_neA (by decide)]
    exact ⟨q1.trans (sgv0 t), q2, q3⟩
  · rw [st_neI (by decide), st_at]
  · rw [st_at]
  · rw [st_neI (by decide), st_neI (by decide), t2]
    exact cnt_0 96 (fun i _ => sgv0 i)
  · rw [st_neI (by decide), st_neI (by decide)]; exact t3
  · intro a i hn
    unfold ScFx ScSx ScPx at hn
    rw [st_ne (by omega), st_ne (by omega), t5 a i (by unfold ScSx; omega), st_ne (by omega), o5 a i (by omega), st_ne (by omega)]
theorem lkL_no {a i : Int} : ∀ l : List (Int × Int × Int), (∀ t ∈ l, t.1 ≠ a) → lkL a i l = none
  | [], _ => rfl
  | t :: l, h => by
    show (match lkL a i l with | some v => some v | none => if t.1 = a ∧ t.2.1 = i then some t.2.2 else none) = none
    rw [lkL_no l (fun u hu => h u (List.mem_cons_of_mem _ hu))]
    show (if t.1 = a ∧ t.2.1 = i then some t.2.2 else none) = none
    rw [if_neg (fun q => h t List.mem_cons_self q.1)]
theorem mm_hi : mmL.all (fun t => decide (336 < t.1)) = true := by decide +kernel
def mm_un : List Int := [388, 403, 380, 381, 386]
theorem mm_unb : mmL.all (fun t => decide (t.1 ∉ mm_un)) = true := by decide +kernel
theorem z64 : ∀ k : Nat, k < 96 → mBZ 64 (k : Int) = 0 := by decide +kernel
def bzL : List (Int × Int × Int) := [(1, 8, 69), (1, 9, 113), (1, 10, 157), (68, 0, 205), (68, 1, 249), (68, 2, 293), (2, 1, 0), (4, 4, 0), (4, 5, -1), (69, 3, 0), (21, 1, 0), (205, 6, 0), (249, 6, 0), (293, 6, 0), (113, 6, 0), (63, 3, 0), (1, 15, 0)]
theorem bz_b : bzL.all (fun t => decide (mBZ t.1 t.2.1 = t.2.2)) = true := by decide +kernel
theorem R_start {M1 : Mem} (h14 : ∀ t, 0 ≤ t → t < 96 → M1 14 t = 0 ∧ M1 15 t = -1 ∧ M1 20 t = 0) (h13 : M1 13 8 = 0 ∧ M1 13 9 = -1 ∧ M1 13 10 = 0 ∧ M1 13 11 = 95) (hf : Fr ScFx mBZ M1) (hz : ∀ b j, 336 < b → mix true M1 mBZ b j = 0) : R (mmM (mix true M1 mBZ)) (mmM (mix true M1 mBZ)) := by
  have jx : ∀ a i, a ≤ 336 → mmM (mix true M1 mBZ) a i = M1 a i := by
    intro a i ha
    rw [mmM_e, stL_at, lkL_no _ (fun t ht => by have := of_decide_eq_true (List.all_eq_true.mp mm_hi t ht); omega)]
    show mix true M1 mBZ a i = M1 a i
    unfold mix
    rw [if_pos (by simpa using ha)]
  have jm : ∀ a i, 336 < a → mmM (mix true M1 mBZ) a i = (lkL a i mmL).getD 0 := by
    intro a i ha
    rw [mmM_e, stL_at, hz a i ha]
  have bv : ∀ t ∈ bzL, ¬ ScFx t.1 t.2.1 → t.1 ≤ 336 → mmM (mix true M1 mBZ) t.1 t.2.1 = t.2.2 := by
    intro t ht hn ha
    rw [jx _ _ ha, hf _ _ hn]
    exact of_decide_eq_true (List.all_eq_true.mp bz_b t ht)
  have h64 : ∀ s, 0 ≤ s → s < 96 → mmM (mix true M1 mBZ) 64 s = 0 := by
    intro s s0 s1
    rw [jx _ _ (by decide), hf 64 s (by unfold ScFx ScSx ScPx; omega)]
    have := z64 s.toNat (by omega)
    rw [show ((s.toNat : Nat) : Int) = s by omega] at this
    exact this
  have un : ∀ a i, a ∈ mm_un → 336 < a → mmM (mix true M1 mBZ) a i = 0 := by
    intro a i ha h3
    rw [jm a i h3, lkL_no _ (fun t ht q => by
      have := of_decide_eq_true (List.all_eq_true.mp mm_unb t ht)
      exact this (by rw [q]; exact ha))]
    rfl
  have j14 : ∀ t, 0 ≤ t → t < 96 → mmM (mix true M1 mBZ) 14 t = 0 := fun t t0 t1 => by rw [jx _ _ (by decide)]; exact (h14 t t0 t1).1
  have j15 : ∀ t, 0 ≤ t → t < 96 → mmM (mix true M1 mBZ) 15 t = -1 := fun t t0 t1 => by rw [jx _ _ (by decide)]; exact (h14 t t0 t1).2.1
  have j20 : ∀ t, 0 ≤ t → t < 96 → mmM (mix true M1 mBZ) 20 t = 0 := fun t t0 t1 => by rw [jx _ _ (by decide)]; exact (h14 t t0 t1).2.2
  have p13 : mmM (mix true M1 mBZ) 13 8 = 0 ∧ mmM (mix true M1 mBZ) 13 9 = -1 ∧ mmM (mix true M1 mBZ) 13 10 = 0 ∧ mmM (mix true M1 mBZ) 13 11 = 95 := by
    rw [jx _ _ (by decide), jx _ _ (by decide), jx _ _ (by decide), jx _ _ (by decide)]; exact h13
  have v375 : mmM (mix true M1 mBZ) 375 1 = 95 := by rw [jm _ _ (by decide), show lkL 375 1 mmL = some 95 by decide +kernel]; rfl
  have v8 : mmM (mix true M1 mBZ) 337 8 = -1 := by rw [jm _ _ (by decide), show lkL 337 8 mmL = some (-1) by decide +kernel]; rfl
  have v372 : mmM (mix true M1 mBZ) 372 1 = 0 := by rw [jm _ _ (by decide), show lkL 372 1 mmL = none by decide +kernel]; rfl
  have v376 : mmM (mix true M1 mBZ) 376 1 = 0 := by rw [jm _ _ (by decide), show lkL 376 1 mmL = none by decide +kernel]; rfl
  have v337 : ∀ k : Int, k = 1 ∨ k = 7 ∨ k = 60 ∨ k = 78 ∨ k = 79 ∨ k = 95 → mmM (mix true M1 mBZ) 337 k = 0 := by
    intro k hk
    rw [jm _ _ (by decide)]
    rcases hk with rfl | rfl | rfl | rfl | rfl | rfl
    · rw [show lkL 337 1 mmL = none by decide +kernel]; rfl
    · rw [show lkL 337 7 mmL = none by decide +kernel]; rfl
    · rw [show lkL 337 60 mmL = none by decide +kernel]; rfl
    · rw [show lkL 337 78 mmL = none by decide +kernel]; rfl
    · rw [show lkL 337 79 mmL = none by decide +kernel]; rfl
    · rw [show lkL 337 95 mmL = none by decide +kernel]; rfl
  have nf : ∀ a i : Int, a = 1 ∨ a = 2 ∨ a = 4 ∨ a = 21 ∨ a = 63 ∨ 68 ≤ a → ¬ ScFx a i := fun a i h => by unfold ScFx ScSx ScPx; omega
  have b18 := bv (1, 8, 69) (by decide) (nf _ _ (by decide)) (by decide)
  have b19 := bv (1, 9, 113) (by decide) (nf _ _ (by decide)) (by decide)
  have b110 := bv (1, 10, 157) (by decide) (nf _ _ (by decide)) (by decide)
  have b680 := bv (68, 0, 205) (by decide) (nf _ _ (by decide)) (by decide)
  have b681 := bv (68, 1, 249) (by decide) (nf _ _ (by decide)) (by decide)
  have b682 := bv (68, 2, 293) (by decide) (nf _ _ (by decide)) (by decide)
  have b21 := bv (2, 1, 0) (by decide) (nf _ _ (by decide)) (by decide)
  have b44 := bv (4, 4, 0) (by decide) (nf _ _ (by decide)) (by decide)
  have b45 := bv (4, 5, -1) (by decide) (nf _ _ (by decide)) (by decide)
  have b693 := bv (69, 3, 0) (by decide) (nf _ _ (by decide)) (by decide)
  have b211 := bv (21, 1, 0) (by decide) (nf _ _ (by decide)) (by decide)
  have b205 := bv (205, 6, 0) (by decide) (nf _ _ (by decide)) (by decide)
  have b249 := bv (249, 6, 0) (by decide) (nf _ _ (by decide)) (by decide)
  have b293 := bv (293, 6, 0) (by decide) (nf _ _ (by decide)) (by decide)
  have b113 := bv (113, 6, 0) (by decide) (nf _ _ (by decide)) (by decide)
  have b633 := bv (63, 3, 0) (by decide) (nf _ _ (by decide)) (by decide)
  have b115 := bv (1, 15, 0) (by decide) (nf _ _ (by decide)) (by decide)
  have u388 : ∀ s, mmM (mix true M1 mBZ) 388 s = 0 := fun s => un 388 s (by decide) (by decide)
  have u403 : ∀ s, mmM (mix true M1 mBZ) 403 s = 0 := fun s => un 403 s (by decide) (by decide)
  have u386 : ∀ s, mmM (mix true M1 mBZ) 386 s = 0 := fun s => un 386 s (by decide) (by decide)
  have u380 : ∀ a s, 380 ≤ a → a ≤ 381 → mmM (mix true M1 mBZ) a s = 0 := fun a s a0 a1 => by
    have : a = 380 ∨ a = 381 := by omega
    rcases this with rfl | rfl
    · exact un 380 s (by decide) (by decide)
    · exact un 381 s (by decide) (by decide)
  clear jx jm bv un hz hf h14 h13 nf
  generalize mmM (mix true M1 mBZ) = J at *
  have law3 : ∀ k, 0 ≤ k → k < 3 → (k = 0 ∧ J 68 k = 205) ∨ (k = 1 ∧ J 68 k = 249) ∨ (k = 2 ∧ J 68 k = 293) := fun k k0 k3 => by
    have : k = 0 ∨ k = 1 ∨ k = 2 := by omega
    rcases this with rfl | rfl | rfl
    · exact Or.inl ⟨rfl, b680⟩
    · exact Or.inr (Or.inl ⟨rfl, b681⟩)
    · exact Or.inr (Or.inr ⟨rfl, b682⟩)
  refine ⟨J, J, ⟨⟨⟨?_, ?_, ?_, ?_, ?_, ?_⟩, ⟨?_, ?_, ?_⟩, ⟨?_, ?_, ?_⟩, ?_⟩, ⟨?_, ?_, ?_⟩, ⟨?_, ?_⟩, ?_, ?_, ?_, ?_, ⟨?_, ?_⟩, ?_, ?_⟩, Fr.rf _ _, Fr.rf _ _, ?_⟩
  · rw [b18]; exact kd_69
  · rw [b19]; exact kd_113
  · rw [b110]; exact kd_157
  · rw [b680]; exact kd_205
  · rw [b681]; exact kd_249
  · rw [b682]; exact kd_293
  · rw [b18, b19]; decide
  · rw [b18, b110]; decide
  · rw [b19, b110]; decide
  · rw [b680, b681]; decide
  · rw [b680, b682]; decide
  · rw [b681, b682]; decide
  · intro k k0 k3
    rw [b18, b19, b110]
    rcases law3 k k0 k3 with ⟨-, e⟩ | ⟨-, e⟩ | ⟨-, e⟩ <;> (rw [e]; decide)
  · rw [v337 1 (by decide), b21]
  · rw [b21]; decide
  · intro i i0 i1; rw [b21] at i1; have h0 : i < 0 := i1; omega
  · rw [v337 7 (by decide), b44]
  · rw [v8, b45]
  · refine ⟨by rw [v372]; decide, by rw [b18, b693, v372], fun t t0 t1 => by rw [v372] at t1; omega⟩
  · refine ⟨fun s _ _ => by rw [u388]; decide, by rw [v375]; decide, u388 _, fun s s0 s1 => ⟨by rw [j14 s s0 s1, u388], fun _ => j15 s s0 s1, fun q => absurd (u388 s) q⟩, by rw [p13.2.2.2, v375], ?_, by rw [p13.1, v337 78 (by decide)], by rw [v337 78 (by decide)]; decide, fun k k0 k1 => by rw [v337 78 (by decide)] at k1; omega, ?_⟩
    · rw [p13.2.2.1]; exact (cnt_0 96 (fun i _ => u388 i)).symm
    · rw [v337 78 (by decide), if_pos rfl]; exact p13.2.1
  · exact ⟨by rw [v337 79 (by decide)]; decide, by rw [b211, v337 79 (by decide)], fun i i0 i1 => by rw [v337 79 (by decide)] at i1; omega⟩
  · intro k k0 k3
    refine ⟨Or.inl (u386 k), ?_, fun q => absurd ((u386 k).symm.trans q) (by decide)⟩
    rw [u386 k]
    rcases law3 k k0 k3 with ⟨-, e⟩ | ⟨-, e⟩ | ⟨-, e⟩
    · rw [e]; exact b205
    · rw [e]; exact b249
    · rw [e]; exact b293
  · exact ⟨Or.inl (v337 60 (by decide)), by rw [b19, b113, v337 60 (by decide)], by rw [v376]; decide, fun q => absurd ((v337 60 (by decide)).symm.trans q) (by decide)⟩
  · intro a j a0 a1 _ _
    rw [u380 a j a0 a1]; decide
  · exact ⟨fun s s0 s1 => ⟨by rw [h64 s s0 s1, u403], Or.inl (u403 s)⟩, by rw [b633]; exact (cnt_0 96 (fun i _ => u403 i)).symm⟩
  · exact ⟨by rw [v337 95 (by decide), b115], by rw [b115]; decide, fun k k0 k1 => by rw [b115] at k1; have h0 : k < 0 := k1; omega⟩
  · intro s s0 s1
    exact Or.inl (j20 s s0 s1)
