/-! WALKS through the room: row by row, and the class's own -/
def sm (f : Int → Int) : Nat → Int
  | 0 => 0
  | n + 1 => sm f n + f n
theorem sm_su (f : Int → Int) {y : Int} (h : 0 ≤ y) : sm f (y + 1).toNat = sm f y.toNat + f y := by
  obtain ⟨n, rfl⟩ : ∃ n : Nat, y = n := ⟨y.toNat, by omega⟩
  rfl
theorem sm_cg {f g : Int → Int} : ∀ {n : Nat}, (∀ i : Nat, i < n → f i = g i) → sm f n = sm g n
  | 0, _ => rfl
  | n + 1, h => by
    show sm f n + _ = sm g n + _
    rw [sm_cg (n := n) (fun i hi => h i (by omega)), h n (by omega)]
def cof (a2 : Int) (v : Int → Int) (r : Int) : Int := if 0 ≤ r ∧ r < 8 then (if a2 = 0 then v r else if r = 0 ∨ r = 7 then 3 * v r else 2 * v r) else 0
def stp (ch : Int → Int) (a2 col : Int) (v : Int → Int) (r : Int) : Int := if ch (12 * r + col) = 0 then cof a2 v (r - 1) + cof a2 v r + cof a2 v (r + 1) else 0
def vc (ch : Int → Int) (a1 a2 : Int) : Nat → Int → Int
  | 0, r => if r = a1 ∧ ch (12 * r) = 0 then 1 else 0
  | n + 1, r => stp ch a2 ((n + 1 : Nat) : Int) (vc ch a1 a2 n) r
def NN (v : Int → Int) : Prop := (∀ r, 0 ≤ r → r < 8 → 0 ≤ v r) ∧ sm v 8 ≤ 362797056
theorem sm8 (v : Int → Int) : sm v 8 = v 0 + v 1 + v 2 + v 3 + v 4 + v 5 + v 6 + v 7 := by
  show 0 + v 0 + v 1 + v 2 + v 3 + v 4 + v 5 + v 6 + v 7 = _
  rw [Int.zero_add]
theorem NN.le {v : Int → Int} (h : NN v) {r : Int} (r0 : 0 ≤ r) (r8 : r < 8) : 0 ≤ v r ∧ v r ≤ 362797056 := by
  obtain ⟨h1, h2⟩ := h
  rw [sm8] at h2
  have := h1 0 (by decide) (by decide)
  have := h1 1 (by decide) (by decide)
  have := h1 2 (by decide) (by decide)
  have := h1 3 (by decide) (by decide)
  have := h1 4 (by decide) (by decide)
  have := h1 5 (by decide) (by decide)
  have := h1 6 (by decide) (by decide)
  have := h1 7 (by decide) (by decide)
  have : r = 0 ∨ r = 1 ∨ r = 2 ∨ r = 3 ∨ r = 4 ∨ r = 5 ∨ r = 6 ∨ r = 7 := by omega
  rcases this with rfl | rfl | rfl | rfl | rfl | rfl | rfl | rfl <;> omega
theorem cof_rng {v : Int → Int} (h : NN v) (a2 r : Int) : 0 ≤ cof a2 v r ∧ cof a2 v r ≤ 3 * 362797056 := by
  unfold cof
  by_cases w : 0 ≤ r ∧ r < 8
  · have := h.le w.1 w.2
    rw [if_pos w]; split
    · omega
    · split <;> omega
  · rw [if_neg w]; omega
theorem stp_nn {ch v : Int → Int} (h : ∀ r, 0 ≤ r → r < 8 → 0 ≤ v r) (a2 col : Int) : (∀ r, 0 ≤ stp ch a2 col v r) ∧ sm (stp ch a2 col v) 8 ≤ 6 * sm v 8 := by
  have c0 : ∀ r, 0 ≤ cof a2 v r := by
    intro r
    unfold cof
    by_cases w : 0 ≤ r ∧ r < 8
    · have := h r w.1 w.2
      rw [if_pos w]; split
      · omega
      · split <;> omega
    · rw [if_neg w]; omega
  have s1 : ∀ r, 0 ≤ stp ch a2 col v r ∧ stp ch a2 col v r ≤ cof a2 v (r - 1) + cof a2 v r + cof a2 v (r + 1) := by
    intro r
    have := c0 (r - 1); have := c0 r; have := c0 (r + 1)
    unfold stp; split <;> omega
  refine ⟨fun r => (s1 r).1, ?_⟩
  have t0 := (s1 0).2; have t1 := (s1 1).2; have t2 := (s1 2).2; have t3 := (s1 3).2
  have t4 := (s1 4).2; have t5 := (s1 5).2; have t6 := (s1 6).2; have t7 := (s1 7).2
  have om : cof a2 v (-1) = 0 := by unfold cof; rw [if_neg (by decide)]
  have o8 : cof a2 v 8 = 0 := by unfold cof; rw [if_neg (by decide)]
  have oo : ∀ r, 1 ≤ r → r < 7 → cof a2 v r ≤ 2 * v r := by
    intro r r1 r7
    have := h r (by omega) (by omega)
    unfold cof
    rw [if_pos ⟨by omega, by omega⟩, if_neg (show ¬ (r = 0 ∨ r = 7) by omega)]; split <;> omega
  have oe : ∀ r, (r = 0 ∨ r = 7) → cof a2 v r ≤ 3 * v r := by
    intro r hr
    have := h r (by omega) (by omega)
    unfold cof
    rw [if_pos ⟨by omega, by omega⟩, if_pos hr]; split <;> omega
  have v0 := oe 0 (Or.inl rfl); have v7 := oe 7 (Or.inr rfl)
  have v1 := oo 1 (by decide) (by decide); have v2 := oo 2 (by decide) (by decide); have v3 := oo 3 (by decide) (by decide)
  have v4 := oo 4 (by decide) (by decide); have v5 := oo 5 (by decide) (by decide); have v6 := oo 6 (by decide) (by decide)
  rw [sm8, sm8]
  simp only [Int.reduceSub, Int.reduceAdd, Int.reduceNeg] at t0 t1 t2 t3 t4 t5 t6 t7
  rw [om] at t0
  rw [o8] at t7
  omega
theorem sm_one {v : Int → Int} {a1 : Int} (h : ∀ r, v r ≤ if r = a1 then 1 else 0) : ∀ n : Nat, sm v n ≤ if a1 < n then 1 else 0
  | 0 => by show (0 : Int) ≤ _; split <;> omega
  | n + 1 => by
    have := sm_one h n
    have := h n
    show sm v n + v n ≤ _
    split at * <;> split at * <;> split <;> omega
theorem vc_nn (ch : Int → Int) (a1 a2 : Int) : ∀ n : Nat, (∀ r, 0 ≤ r → r < 8 → 0 ≤ vc ch a1 a2 n r) ∧ sm (vc ch a1 a2 n) 8 ≤ 6 ^ n
  | 0 => by
    have e : ∀ r, vc ch a1 a2 0 r = if r = a1 ∧ ch (12 * r) = 0 then 1 else 0 := fun _ => rfl
    refine ⟨fun r _ _ => by rw [e]; split <;> omega, ?_⟩
    have := sm_one (v := vc ch a1 a2 0) (a1 := a1) (fun r => by
      rw [e]
      by_cases w : r = a1
      · rw [if_pos w]; split <;> omega
      · rw [if_neg w, if_neg (fun q => w q.1)]; exact Int.le_refl _) 8
    rw [Int.pow_zero]
    split at this <;> omega
  | n + 1 => by
    obtain ⟨h1, h2⟩ := vc_nn ch a1 a2 n
    obtain ⟨s1, s2⟩ := stp_nn (ch := ch) h1 a2 ((n + 1 : Nat) : Int)
    have e : vc ch a1 a2 (n + 1) = stp ch a2 ((n + 1 : Nat) : Int) (vc ch a1 a2 n) := rfl
    rw [e]
    refine ⟨fun r _ _ => s1 r, ?_⟩
    rw [Int.pow_succ]; omega
theorem vc_NN (ch : Int → Int) (a1 a2 : Int) {n : Nat} (h : n ≤ 11) : NN (vc ch a1 a2 n) := by
  obtain ⟨h1, h2⟩ := vc_nn ch a1 a2 n
  refine ⟨h1, ?_⟩
  have : (6 : Int) ^ n ≤ 6 ^ 11 := by
    have : n = 0 ∨ n = 1 ∨ n = 2 ∨ n = 3 ∨ n = 4 ∨ n = 5 ∨ n = 6 ∨ n = 7 ∨ n = 8 ∨ n = 9 ∨ n = 10 ∨ n = 11 := by omega
    rcases this with rfl | rfl | rfl | rfl | rfl | rfl | rfl | rfl | rfl | rfl | rfl | rfl <;> decide
  have e : (6 : Int) ^ 11 = 362797056 := by decide
  omega
/-! the class -/
def S65 (a _i : Int) : Prop := a = 65 ∨ a = 66
theorem e_cof {M : Mem} {v : Int → Int} (h : NN v) (hv : ∀ i, 0 ≤ i → i < 8 → M 65 i = v i) (r a2 : Int) : f_X1_cameFrom M r a2 = some (cof a2 v r, M) := by
  unfold f_X1_cameFrom cof
  by_cases w1 : r < 0
  · rw [if_pos w1, if_neg (by omega)]
  · rw [if_neg w1]
    by_cases w2 : r < 8
    · have := h.le (r := r) (by omega) w2
      rw [if_pos w2, if_pos (⟨by omega, w2⟩ : 0 ≤ r ∧ r < 8)]
      unfold j_X1_cameFrom_22 j_X1_cameFrom_27
      by_cases w3 : a2 = 0
      · rw [if_pos w3, if_pos w3, if_pos w3, hv r (by omega) w2, ok_t ⟨by omega, w2⟩]
        split
        · rfl
        · split <;> rfl
      · rw [if_neg w3, if_neg w3, if_neg w3, hv r (by omega) w2, ok_t ⟨by omega, w2⟩, ok_t ⟨by omega, by omega⟩, ok_t ⟨by omega, w2⟩, ok_t ⟨by omega, by omega⟩]
        by_cases w4 : r = 0
        · rw [if_pos w4, if_pos (Or.inl w4)]
        · rw [if_neg w4]
          by_cases w5 : r = 7
          · rw [if_pos w5, if_pos (Or.inr w5)]
          · rw [if_neg w5, if_neg (by omega)]
    · rw [if_neg w2, if_neg (by omega)]
theorem x_copy {M0 : Mem} {v : Int → Int} (hv : ∀ i, 0 ≤ i → i < 8 → M0 66 i = v i) : Tt (wl1 b_X1_stepTo_67 FU M0 0) (fun _ M1 => Fr S65 M0 M1 ∧ ∀ i, 0 ≤ i → i < 8 → M1 65 i = v i) := by
  refine tt_wl1 (fun M1 x => Fr S65 M0 M1 ∧ 0 ≤ x ∧ x ≤ 8 ∧ (∀ i, 0 ≤ i → i < x → M1 65 i = v i) ∧ ∀ i, 0 ≤ i → i < 8 → M1 66 i = v i) (fun _ x => (8 - x).toNat) ?_ FU M0 0 ⟨Fr.rf _ _, by decide, by decide, fun i _ _ => by omega, hv⟩ (by decide)
  intro w M1 x hI k
  obtain ⟨f, x0, x1, i1, i2⟩ := hI
  unfold b_X1_stepTo_67
  refine tt_if (fun c => ?_) (fun c => ?_)
  · exact tt_ret ⟨f, fun i h1 h2 => i1 i h1 (by omega)⟩
  · refine tt_ok ⟨x0, by omega⟩ (tt_bm (tt_bi (k _ _ ⟨f.st (Or.inl rfl), by omega, by omega, fun i h1 h2 => ?_, fun i h1 h2 => ?_⟩ (by omega))))
    · by_cases e : i = x
      · subst e; rw [st_at]; exact i2 i h1 (by omega)
      · rw [st_neI e]; exact i1 i h1 (by omega)
    · rw [st_neA (by decide)]; exact i2 i h1 h2
theorem x_stp {M0 : Mem} {v ch : Int → Int} (h : NN v) (hv : ∀ i, 0 ≤ i → i < 8 → M0 65 i = v i) (hc : ∀ s, 0 ≤ s → s < 96 → M0 64 s = ch s) {col : Int} (h0 : 0 ≤ col ∧ col < 12) (a2 : Int) : Tt (f_X1_stepTo M0 col a2) (fun _ M1 => Fr S65 M0 M1 ∧ ∀ i, 0 ≤ i → i < 8 → M1 65 i = stp ch a2 col v i) := by
  unfold f_X1_stepTo
  refine tt_wl1 (fun M1 x => Fr S65 M0 M1 ∧ 0 ≤ x ∧ x ≤ 8 ∧ (∀ i, 0 ≤ i → i < 8 → M1 65 i = v i) ∧ ∀ i, 0 ≤ i → i < x → M1 66 i = stp ch a2 col v i) (fun _ x => (8 - x).toNat) ?_ FU M0 0 ⟨Fr.rf _ _, by decide, by decide, hv, fun i _ _ => by omega⟩ (by decide)
  intro w M1 x hI k
  obtain ⟨f, x0, x1, i1, i2⟩ := hI
  unfold b_X1_stepTo_2
  refine tt_if (fun c => ?_) (fun c => ?_)
  · exact tt_mono (x_copy (fun i h1 h2 => i2 i h1 (by omega))) (fun _ M2 q => ⟨f.tr q.1, q.2⟩)
  · have c1 := cof_rng h a2 (x - 1)
    have c2 := cof_rng h a2 x
    have c3 := cof_rng h a2 (x + 1)
    refine tt_ok ⟨by omega, by omega⟩ ?_
    rw [e_cof h i1, cl_some, e_cof h i1, cl_some, e_cof h i1]
    refine tt_ok ⟨by omega, by omega⟩ (tt_ok ⟨by omega, by omega⟩ ?_)
    rw [cl_some]
    refine tt_ok ⟨by omega, by omega⟩ ?_
    rw [bi_e, xx_sqAt M1 ⟨h0, x0, by omega⟩, cl_some]
    refine tt_ok ⟨by omega, by omega⟩ ?_
    have e64 : M1 64 (12 * x + col) = ch (12 * x + col) := (f _ _ (by unfold S65; omega)).trans (hc _ (by omega) (by omega))
    rw [e64]
    refine tt_if (fun c4 => ?_) (fun c4 => ?_)
    · refine tt_ok ⟨x0, by omega⟩ (tt_bm (tt_bi (k _ _ ⟨f.st (Or.inr rfl), by omega, by omega, fun i h1 h2 => ?_, fun i h1 h2 => ?_⟩ (by omega))))
      · rw [st_neA (by decide)]; exact i1 i h1 h2
      · by_cases e : i = x
        · subst e; rw [st_at]; unfold stp; rw [if_pos c4]
        · rw [st_neI e]; exact i2 i h1 (by omega)
    · refine tt_ok ⟨x0, by omega⟩ (tt_bm (tt_bi (k _ _ ⟨f.st (Or.inr rfl), by omega, by omega, fun i h1 h2 => ?_, fun i h1 h2 => ?_⟩ (by omega))))
      · rw [st_neA (by decide)]; exact i1 i h1 h2
      · by_cases e : i = x
        · subst e; rw [st_at]; unfold stp; rw [if_neg c4]
        · rw [st_neI e]; exact i2 i h1 (by omega)
theorem sm_rng {v : Int → Int} (h : NN v) {x : Int} (x0 : 0 ≤ x) (x8 : x ≤ 8) : 0 ≤ sm v x.toNat ∧ sm v x.toNat ≤ x * 362797056 := by
  obtain ⟨n, rfl⟩ : ∃ n : Nat, x = n := ⟨x.toNat, by omega⟩
  show 0 ≤ sm v n ∧ sm v n ≤ _
  clear x0
  induction n with
  | zero => exact ⟨Int.le_refl _, Int.le_refl _⟩
  | succ n ih =>
    have := ih (by omega)
    have := h.le (r := (n : Int)) (by omega) (by omega)
    show 0 ≤ sm v n + v n ∧ sm v n + v n ≤ _
    omega
theorem x_sum {M0 : Mem} {v : Int → Int} (h : NN v) (hv : ∀ i, 0 ≤ i → i < 8 → M0 65 i = v i) : wl2 b_X1_passed_68 FU M0 0 0 = some (sm v 8, M0) := by
  have key : Tt (wl2 b_X1_passed_68 FU M0 0 0) (fun r M1 => r = sm v 8 ∧ M1 = M0) := by
    refine tt_wl2 (fun M1 s x => M1 = M0 ∧ 0 ≤ x ∧ x ≤ 8 ∧ s = sm v x.toNat) (fun _ _ x => (8 - x).toNat) ?_ FU M0 0 0 ⟨rfl, by decide, by decide, rfl⟩ (by decide)
    intro w M1 s x hI k
    obtain ⟨hM, x0, x1, i1⟩ := hI
    have hr := sm_rng h x0 x1
    unfold b_X1_passed_68
    refine tt_if (fun c => ?_) (fun c => ?_)
    · rw [i1, show x = 8 by omega]; exact tt_ret ⟨rfl, hM⟩
    · have := h.le x0 (by omega : x < 8)
      have e := sm_su v x0
      rw [hM, hv x x0 (by omega)]
      exact tt_ok ⟨x0, by omega⟩ (tt_ok ⟨by omega, by omega⟩ (tt_bi (tt_bi (k _ _ _ ⟨rfl, by omega, by omega, by omega⟩ (by omega)))))
  obtain ⟨r, M1, e, hr, hM⟩ := key
  rw [e, hr, hM]
theorem x_passed {M0 : Mem} {ch : Int → Int} (hc : ∀ s, 0 ≤ s → s < 96 → M0 64 s = ch s) {a1 : Int} (a2 : Int) : Tt (f_X1_passed M0 a1 a2) (fun r M1 => r = sm (vc ch a1 a2 11) 8 ∧ Fr S65 M0 M1) := by
  unfold f_X1_passed
  refine tt_wl1 (fun M1 x => Fr S65 M0 M1 ∧ 0 ≤ x ∧ x ≤ 8 ∧ ∀ i, 0 ≤ i → i < x → M1 65 i = vc ch a1 a2 0 i) (fun _ x => (8 - x).toNat) ?_ FU M0 0 ⟨Fr.rf _ _, by decide, by decide, fun i _ _ => by omega⟩ (by decide)
  intro w M1 x hI k
  obtain ⟨f, x0, x1, i1⟩ := hI
  have e0 : ∀ r, vc ch a1 a2 0 r = if r = a1 ∧ ch (12 * r) = 0 then 1 else 0 := fun _ => rfl
  unfold b_X1_passed_2
  refine tt_if (fun c => ?_) (fun c => ?_)
  · refine tt_wl1 (fun M2 y => Fr S65 M0 M2 ∧ 1 ≤ y ∧ y ≤ 12 ∧ ∀ i, 0 ≤ i → i < 8 → M2 65 i = vc ch a1 a2 (y - 1).toNat i) (fun _ y => (12 - y).toNat) ?_ FU M1 1 ⟨f, by decide, by decide, fun i h1 h2 => i1 i h1 (by omega)⟩ (by decide)
    intro w2 M2 y hI2 k2
    obtain ⟨f2, y0, y1, i2⟩ := hI2
    have hn := vc_NN ch a1 a2 (n := (y - 1).toNat) (by omega)
    unfold b_X1_passed_45
    refine tt_if (fun c2 => ?_) (fun c2 => ?_)
    · rw [x_sum hn i2, show (y - 1).toNat = 11 by omega]
      exact tt_ret ⟨rfl, f2⟩
    · refine tt_cb (x_stp hn i2 (fun s s0 s1 => (f2 64 s (by unfold S65; omega)).trans (hc s s0 s1)) ⟨by omega, by omega⟩ a2) (fun r M3 q => ?_)
      refine tt_ok ⟨by omega, by omega⟩ (tt_bi (k2 _ _ ⟨f2.tr q.1, by omega, by omega, fun i h1 h2 => ?_⟩ (by omega)))
      rw [q.2 i h1 h2, show (y + 1 - 1).toNat = (y - 1).toNat + 1 by omega]
      show _ = stp ch a2 (((y - 1).toNat + 1 : Nat) : Int) _ i
      rw [show (((y - 1).toNat + 1 : Nat) : Int) = y by omega]
  · have put : ∀ u : Int, vc ch a1 a2 0 x = u → Tt (w (st M1 65 x u) (x + 1)) (fun r M1 => r = sm (vc ch a1 a2 11) 8 ∧ Fr S65 M0 M1) := by
      intro u hu
      refine k _ _ ⟨f.st (Or.inl rfl), by omega, by omega, fun i h1 h2 => ?_⟩ (by omega)
      by_cases e : i = x
      · subst e; rw [st_at, hu]
      · rw [st_neI e]; exact i1 i h1 (by omega)
    refine tt_if (fun c1 => ?_) (fun c1 => ?_)
    · rw [xx_sqAt M1 ⟨⟨by decide, by decide⟩, x0, by omega⟩, cl_some]
      have e64 : M1 64 (12 * x + 0) = ch (12 * x) := by rw [Int.add_zero]; exact (f _ _ (by unfold S65; omega)).trans (hc _ (by omega) (by omega))
      rw [e64]
      refine tt_ok ⟨by omega, by omega⟩ (tt_if (fun c2 => ?_) (fun c2 => ?_))
      · exact tt_ok ⟨x0, by omega⟩ (tt_bm (tt_bi (put 1 (by rw [e0, if_pos ⟨c1, c2⟩]))))
      · exact tt_ok ⟨x0, by omega⟩ (tt_bm (tt_bi (put 0 (by rw [e0, if_neg (fun q => c2 q.2)]))))
    · exact tt_ok ⟨x0, by omega⟩ (tt_bm (tt_bi (put 0 (by rw [e0, if_neg (fun q => c1 q.1)]))))
