/-! 'reckon' of the class: the same value -/
theorem EnvX.fr {M M1 : Mem} {e : Int → Int} (h : EnvX M e) (hf : Fr ScR M M1) : EnvX M1 e := by
  have g : ∀ i : Int, M1 11 i = M 11 i := fun i => hf 11 i (show ¬ (11 : Int) = 12 by decide)
  obtain ⟨h1, h2, h3, h4, h5, h6⟩ := h
  exact ⟨(g _).trans h1, (g _).trans h2, (g _).trans h3, (g _).trans h4, (g _).trans h5, (g _).trans h6⟩
theorem mk_neg {v : Int} (h : v < 1000) (h2 : v ≠ 17) : mk v < 0 := by
  unfold mk
  rw [if_neg (by omega), if_neg h2]
  repeat (first | decide | (refine (show ∀ (p : Prop) [Decidable p] (x y : Int), x < 0 → y < 0 → (if p then x else y) < 0 from fun p _ x y hx hy => by by_cases hp : p <;> simp [hp, hx, hy]) _ _ _ (by decide) ?_))
theorem iand01 {a b : Int} (ha : a = 0 ∨ a = 1) (hb : b = 0 ∨ b = 1) : iand a b = a * b := by
  rcases ha with rfl | rfl <;> rcases hb with rfl | rfl <;> decide +kernel
theorem ior01 {a b : Int} (ha : a = 0 ∨ a = 1) (hb : b = 0 ∨ b = 1) : ior a b = bI (0 < a + b) := by
  rcases ha with rfl | rfl <;> rcases hb with rfl | rfl <;> decide +kernel
theorem e_product (M : Mem) {a b : Int} (ha : -1000000 ≤ a ∧ a ≤ 1000000) (hb : -1000000 ≤ b ∧ b ≤ 1000000) : f_X6_product M a b = some (clp (a * b) (-1000000) 1000000, M) := by
  have hab : -1000000000000 ≤ a * b ∧ a * b ≤ 1000000000000 := by
    have := Int.natAbs_mul a b
    have : a.natAbs * b.natAbs ≤ 1000000 * 1000000 := Nat.mul_le_mul (by omega) (by omega)
    omega
  unfold f_X6_product clp
  rw [ok_t ⟨by omega, by omega⟩]
  show (if a * b ≤ 1000000 then _ else _) = _
  by_cases h1 : a * b ≤ 1000000
  · by_cases h2 : -1000000 ≤ a * b
    · rw [if_pos h1, if_pos h2, ok_t ⟨by omega, by omega⟩, if_neg (by omega), if_neg (by omega)]
    · rw [if_pos h1, if_neg h2, if_pos (by omega)]
  · rw [if_neg h1, if_neg (by omega), if_pos (by omega)]
/-- what 'joined' answers for a code's word -/
def wd (v : Int) : Int := -1 - mk v
theorem e_joined (M : Mem) {v a b : Int} (ha : -1000000 ≤ a ∧ a ≤ 1000000) (hb : -1000000 ≤ b ∧ b ≤ 1000000) (hv : (1 ≤ v ∧ v ≤ 6) ∨ (11 ≤ v ∧ v ≤ 15)) (hao : v = 14 ∨ v = 15 → (a = 0 ∨ a = 1) ∧ (b = 0 ∨ b = 1)) : f_X6_joined M (wd v) a b = some (bin v a b, M) := by
  have hc : v = 1 ∨ v = 2 ∨ v = 3 ∨ v = 4 ∨ v = 5 ∨ v = 6 ∨ v = 11 ∨ v = 12 ∨ v = 13 ∨ v = 14 ∨ v = 15 := by omega
  unfold f_X6_joined
  rcases hc with rfl | rfl | rfl | rfl | rfl | rfl | rfl | rfl | rfl | rfl | rfl
  · rw [show wd 1 = 43 by decide]
    simp only [show ¬ ((43 : Int) = 10) by decide, show ¬ ((43 : Int) = 11) by decide, show ¬ ((43 : Int) = 19) by decide, show ¬ ((43 : Int) = 20) by decide, show ¬ ((43 : Int) = 42) by decide, if_false, if_true]
    rw [ok_t ⟨by omega, by omega⟩, e_clamped _ _ _ _ (by decide), cl_some, bin1]
  · rw [show wd 2 = 45 by decide]
    simp only [show ¬ ((45 : Int) = 10) by decide, show ¬ ((45 : Int) = 11) by decide, show ¬ ((45 : Int) = 19) by decide, show ¬ ((45 : Int) = 20) by decide, show ¬ ((45 : Int) = 42) by decide, show ¬ ((45 : Int) = 43) by decide, if_false, if_true]
    rw [ok_t ⟨by omega, by omega⟩, e_clamped _ _ _ _ (by decide), cl_some, bin2]
  · rw [show wd 3 = 42 by decide]
    simp only [show ¬ ((42 : Int) = 10) by decide, show ¬ ((42 : Int) = 11) by decide, show ¬ ((42 : Int) = 19) by decide, show ¬ ((42 : Int) = 20) by decide, if_false, if_true]
    rw [e_product _ ha hb, cl_some, bin3]
  · rw [show wd 4 = 47 by decide]
    simp only [show ¬ ((47 : Int) = 10) by decide, show ¬ ((47 : Int) = 11) by decide, show ¬ ((47 : Int) = 19) by decide, show ¬ ((47 : Int) = 20) by decide, show ¬ ((47 : Int) = 42) by decide, show ¬ ((47 : Int) = 43) by decide, show ¬ ((47 : Int) = 45) by decide, if_false, if_true]
    rw [bin4]
    by_cases h : b = 0
    · rw [if_pos h, if_pos h]
    · rw [if_neg h, e_floorDiv _ ha hb h, cl_some, if_neg h]
  · rw [show wd 5 = 19 by decide]
    simp only [show ¬ ((19 : Int) = 10) by decide, show ¬ ((19 : Int) = 11) by decide, if_false, if_true]
    rw [e_min, cl_some, bin5]
  · rw [show wd 6 = 20 by decide]
    simp only [show ¬ ((20 : Int) = 10) by decide, show ¬ ((20 : Int) = 11) by decide, show ¬ ((20 : Int) = 19) by decide, if_false, if_true]
    rw [e_max, cl_some, bin6]
  · rw [show wd 11 = 60 by decide]
    simp only [show ¬ ((60 : Int) = 10) by decide, show ¬ ((60 : Int) = 11) by decide, show ¬ ((60 : Int) = 19) by decide, show ¬ ((60 : Int) = 20) by decide, show ¬ ((60 : Int) = 42) by decide, show ¬ ((60 : Int) = 43) by decide, show ¬ ((60 : Int) = 45) by decide, show ¬ ((60 : Int) = 47) by decide, if_false, if_true]
    rw [bin11]
    by_cases h : b ≤ a
    · rw [if_pos h, bI_f (by omega)]
    · rw [if_neg h, bI_t (by omega)]
  · rw [show wd 12 = 62 by decide]
    simp only [show ¬ ((62 : Int) = 10) by decide, show ¬ ((62 : Int) = 11) by decide, show ¬ ((62 : Int) = 19) by decide, show ¬ ((62 : Int) = 20) by decide, show ¬ ((62 : Int) = 42) by decide, show ¬ ((62 : Int) = 43) by decide, show ¬ ((62 : Int) = 45) by decide, show ¬ ((62 : Int) = 47) by decide, show ¬ ((62 : Int) = 60) by decide, show ¬ ((62 : Int) = 61) by decide, if_false, if_true]
    rw [bin12]
    by_cases h : a ≤ b
    · rw [if_pos h, bI_f (by omega)]
    · rw [if_neg h, bI_t (by omega)]
  · rw [show wd 13 = 61 by decide]
    simp only [show ¬ ((61 : Int) = 10) by decide, show ¬ ((61 : Int) = 11) by decide, show ¬ ((61 : Int) = 19) by decide, show ¬ ((61 : Int) = 20) by decide, show ¬ ((61 : Int) = 42) by decide, show ¬ ((61 : Int) = 43) by decide, show ¬ ((61 : Int) = 45) by decide, show ¬ ((61 : Int) = 47) by decide, show ¬ ((61 : Int) = 60) by decide, if_false, if_true]
    rw [bin13]
    by_cases h : a = b
    · rw [if_pos h, bI_t h]
    · rw [if_neg h, bI_f h]
  · rw [show wd 14 = 11 by decide]
    simp only [show ¬ ((11 : Int) = 10) by decide, if_false, if_true]
    obtain ⟨h1, h2⟩ := hao (Or.inl rfl)
    rw [iand01 h1 h2, bin14]
  · rw [show wd 15 = 10 by decide]
    simp only [if_true]
    obtain ⟨h1, h2⟩ := hao (Or.inr rfl)
    rw [ior01 h1 h2, bin15]
theorem wd_ixor {v : Int} (h : (1 ≤ v ∧ v ≤ 18) ∨ v = 30) : ixor (mk v) (-1) = wd v := by
  have hc : v = 1 ∨ v = 2 ∨ v = 3 ∨ v = 4 ∨ v = 5 ∨ v = 6 ∨ v = 7 ∨ v = 8 ∨ v = 9 ∨ v = 10 ∨ v = 11 ∨ v = 12 ∨ v = 13 ∨ v = 14 ∨ v = 15 ∨ v = 16 ∨ v = 17 ∨ v = 18 ∨ v = 30 := by omega
  rcases hc with rfl | rfl | rfl | rfl | rfl | rfl | rfl | rfl | rfl | rfl | rfl | rfl | rfl | rfl | rfl | rfl | rfl | rfl | rfl <;> decide +kernel
theorem tst_ao {v : Int} {ts t2 : List Bool} {a b : Int} {s : List Int} (h : tst v ts = some t2) (hv : v = 14 ∨ v = 15) (hs : vt ts (b :: a :: s)) : (a = 0 ∨ a = 1) ∧ (b = 0 ∨ b = 1) := by
  unfold tst at h
  rw [if_neg (by rcases hv with rfl | rfl <;> decide), if_neg (by omega), if_neg (by omega), if_neg (by omega), if_neg (by omega), if_pos hv] at h
  match ts, h, hs with
  | true :: true :: r, h, hs =>
    have q1 := hs.1
    have q2 := hs.2.1
    simp at q1 q2
    exact ⟨q2, q1⟩
theorem reckon_step {e : Int → Int} {M : Mem} {v : Int} {ts t2 : List Bool} {s : List Int} (hE : EnvX M e) (h : tst v ts = some t2) (hv : vt ts s) (hl : ts.length ≤ 60) (hs : Stk M 12 s) (Q : Int → Mem → Prop) (w : Mem → Int → Int → Res) (ca x5 to : Int) (hx : 0 ≤ x5 ∧ x5 < 900) (hcode : M ca x5 = mk v) (ha : x5 < to) (k : ∀ M1, Stk M1 12 (est e v s) → Fr ScR M M1 → Tt (w M1 ((est e v s).length) (x5 + 1)) Q) : Tt (b_X6_reckon_10 ca to w M s.length x5) Q := by
  have hlen := vt_len hv
  have hlt : s.length ≤ 60 := by omega
  have push : ∀ x, est e v s = x :: s → Stk (st M 12 (s.length : Int) x) 12 (x :: s) ∧ Fr ScR M (st M 12 (s.length : Int) x) := by
    intro x hx2
    exact ⟨⟨st_at _ _ _ _, hs.st (Int.le_refl _)⟩, Fr.st (Fr.rf _ _) rfl⟩
  have fin : ∀ x, est e v s = x :: s → Tt (ok (0 ≤ (s.length : Int) ∧ (s.length : Int) < 64) (bm (st M 12 (s.length : Int) x) (fun M2 => bi ((s.length : Int) + 1) (fun y => ok (in32 (x5 + 1)) (bi (x5 + 1) (fun z => w M2 y z)))))) Q := by
    intro x hx2
    obtain ⟨p1, p2⟩ := push x hx2
    refine tt_ok ⟨by omega, by omega⟩ (tt_bm (tt_bi (tt_ok ⟨by omega, by omega⟩ (tt_bi ?_))))
    have := k _ (by rw [hx2]; exact p1) p2
    rw [hx2] at this
    rw [show ((x :: s).length : Int) = s.length + 1 by simp] at this
    exact this
  obtain ⟨e1, e2, e3, e4, e5, e6⟩ := hE
  unfold b_X6_reckon_10
  refine tt_in (by omega) (tt_in (by omega) (tt_ok ⟨by omega, by omega⟩ ?_))
  rw [hcode]
  refine tt_bi (tt_bi ?_)
  by_cases h0 : 1000 ≤ v ∧ tells0 v = true ∨ v = 17
  · -- a number
    have hm : 0 ≤ mk v := by
      unfold mk
      rcases h0 with h0 | h0
      · rw [if_pos h0.1]; omega
      · subst h0; decide
    have hE1 : est e v s = mk v :: s := by
      unfold est
      rcases h0 with h0 | h0
      · rw [if_pos (Or.inl h0.2)]; unfold tel mk; rw [if_pos h0.1, if_pos h0.1]
      · subst h0; rfl
    refine tt_ip hm ?_
    unfold j_X6_reckon_48 j_X6_reckon_53
    refine tt_in (by decide) (tt_in (by omega) (tt_in (by omega) ?_))
    exact fin _ hE1
  · by_cases h1 : tells0 v = true
    · have hc : v = 7 ∨ v = 8 ∨ v = 9 ∨ v = 10 ∨ v = 18 ∨ v = 30 := by
        have : ¬ 1000 ≤ v := fun q => h0 (Or.inl ⟨q, h1⟩)
        unfold tells0 at h1; simp at h1; omega
      have hE1 : est e v s = tel e v :: s := by unfold est; rw [if_pos (Or.inl h1)]
      have hneg : ¬ 0 ≤ mk v := by have := mk_neg (v := v) (by omega) (by omega); omega
      refine tt_in hneg ?_
      have part : ∀ z, wd v = z → (z = 0 ∨ (14 ≤ z ∧ z ≤ 18)) → M 11 z = tel e v → Tt (cl (f_X6_isPart M (ixor (mk v) (-1))) (fun r63 M64 => if r63 = 0 then j_X6_reckon_53 ca to w M64 s.length x5 (mk v) (ixor (mk v) (-1)) 0 else j_X6_reckon_48 ca to w M64 s.length x5 (mk v) (ixor (mk v) (-1)))) Q := by
        intro z hz hz2 hz3
        rw [wd_ixor (by omega), hz]
        have : f_X6_isPart M z = some (1, M) := by
          unfold f_X6_isPart
          rcases hz2 with rfl | q
          · rfl
          · rw [if_neg (by omega), if_neg (by omega), if_neg (by omega)]
        rw [this, cl_some]
        refine tt_in (by decide) ?_
        unfold j_X6_reckon_48 j_X6_reckon_53
        refine tt_in (by decide) (tt_in (by omega) (tt_ip (by omega) (tt_ok ⟨by omega, by omega⟩ ?_)))
        rw [hz3]
        exact fin _ hE1
      rcases hc with rfl | rfl | rfl | rfl | rfl | rfl
      · exact part 14 (by decide) (by omega) e1
      · exact part 15 (by decide) (by omega) e2
      · exact part 16 (by decide) (by omega) e3
      · exact part 0 (by decide) (by omega) e4
      · exact part 17 (by decide) (by omega) e5
      · exact part 18 (by decide) (by omega) e6
    · have h2 : ¬ v = 17 := fun q => h0 (Or.inr q)
      have hnp : ∀ z, (1 ≤ z ∧ z ≤ 13) ∨ 19 ≤ z → f_X6_isPart M z = some (0, M) := by
        intro z hz
        unfold f_X6_isPart
        rw [if_neg (by omega)]
        by_cases hz2 : z < 14
        · rw [if_pos hz2]
        · rw [if_neg hz2, if_pos (by omega)]
      by_cases h3 : v = 16
      · subst h3
        refine tt_in (by decide) ?_
        rw [show ixor (mk 16) (-1) = 12 by decide +kernel, hnp 12 (by omega), cl_some]
        refine tt_ip rfl ?_
        unfold j_X6_reckon_53 j_X6_reckon_97
        refine tt_ip rfl (tt_ip rfl ?_)
        unfold tst at h
        rw [if_neg h1, if_neg h2, if_pos rfl] at h
        match ts, s, h, hv, hs, hl, hlen, hlt, k with
        | true :: r, x :: s, h, hv, hs, hl, hlen, hlt, k =>
          have hL : ((x :: s).length : Int) = s.length + 1 := by simp
          have h5 := hs.at0
          have hx01 : x = 0 ∨ x = 1 := by have := hv.1; simpa using this
          have hlt2 : s.length ≤ 60 := by simp at hlen hl; omega
          rw [hL] at h5
          rw [hL]
          refine tt_in (by omega) (tt_ok ⟨by omega, by omega⟩ (tt_ok ⟨by omega, by omega⟩ ?_))
          rw [h5]
          refine tt_ok ⟨by omega, by omega⟩ (tt_bm (tt_ok ⟨by omega, by omega⟩ (tt_bi ?_)))
          have hE1 : est e 16 (x :: s) = (1 - x) :: s := rfl
          have := k (st M 12 ((s.length : Int) + 1 - 1) (1 - x)) (by
            rw [hE1, show (s.length : Int) + 1 - 1 = s.length by omega]
            exact ⟨st_at _ _ _ _, hs.2.st (Int.le_refl _)⟩) (Fr.st (Fr.rf _ _) rfl)
          rw [hE1, show (((1 - x) :: s).length : Int) = s.length + 1 by simp] at this
          exact this
      · obtain ⟨hr, x, y, r, z, hts, rfl⟩ := tst_bin h h1 h2 h3
        have hneg : ¬ 0 ≤ mk v := by have := mk_neg (v := v) (by omega) h2; omega
        refine tt_in hneg ?_
        rw [wd_ixor (by omega)]
        have hw : (1 ≤ wd v ∧ wd v ≤ 13) ∨ 19 ≤ wd v := by
          have hc : v = 1 ∨ v = 2 ∨ v = 3 ∨ v = 4 ∨ v = 5 ∨ v = 6 ∨ v = 11 ∨ v = 12 ∨ v = 13 ∨ v = 14 ∨ v = 15 := by omega
          rcases hc with rfl | rfl | rfl | rfl | rfl | rfl | rfl | rfl | rfl | rfl | rfl <;> decide
        have hw12 : ¬ wd v = 12 := by
          have hc : v = 1 ∨ v = 2 ∨ v = 3 ∨ v = 4 ∨ v = 5 ∨ v = 6 ∨ v = 11 ∨ v = 12 ∨ v = 13 ∨ v = 14 ∨ v = 15 := by omega
          rcases hc with rfl | rfl | rfl | rfl | rfl | rfl | rfl | rfl | rfl | rfl | rfl <;> decide
        rw [hnp _ hw, cl_some]
        refine tt_ip rfl ?_
        unfold j_X6_reckon_53 j_X6_reckon_97
        refine tt_ip rfl (tt_in hw12 ?_)
        subst hts
        match s, hv, hs, hlen, hlt, k with
        | b :: a :: s, hv, hs, hlen, hlt, k =>
          obtain ⟨ha1, hb1⟩ := vt_two hv
          have hlt2 : s.length ≤ 58 := by simp at hlt; omega
          have hL : ((b :: a :: s).length : Int) = s.length + 2 := by simp; omega
          have h5 := hs.at0
          have h6 := hs.at1
          rw [hL] at h5 h6
          rw [hL]
          unfold j_X6_reckon_132
          refine tt_in (by omega) (tt_ok ⟨by omega, by omega⟩ (tt_bi ?_))
          rw [show (s.length : Int) + 2 + -1 = s.length + 1 by omega]
          rw [show (s.length : Int) + 2 - 1 = s.length + 1 by omega] at h5
          rw [show (s.length : Int) + 2 - 2 = s.length by omega] at h6
          refine tt_ok ⟨by omega, by omega⟩ (tt_ok ⟨by omega, by omega⟩ (tt_ok ⟨by omega, by omega⟩ ?_))
          rw [show (s.length : Int) + 1 - 1 = s.length by omega, h5, h6]
          have hE1 : est e v (b :: a :: s) = bin v a b :: s := by unfold est; rw [if_neg (by rintro (q | q); exact h1 q; exact h2 q), if_neg h3]
          refine tt_cq (e_joined M ha1 hb1 hr (fun q => tst_ao h q hv)) ?_
          refine tt_bm (tt_ok ⟨by omega, by omega⟩ (tt_bi ?_))
          have := k (st M 12 (s.length : Int) (bin v a b)) (by
            rw [hE1]
            exact ⟨st_at _ _ _ _, hs.2.2.st (Int.le_refl _)⟩) (Fr.st (Fr.rf _ _) rfl)
          rw [hE1, show ((bin v a b :: s).length : Int) = s.length + 1 by simp] at this
          exact this
theorem reckon_run {e : Int → Int} (he : EnvOk e) (Q : Int → Mem → Prop) {ca to : Int} (hca : ca ≠ 12) (hto : to ≤ 900) : ∀ (c : List Int) (F : Nat) (M : Mem) (i : Int) (ts t3 : List Bool) (s : List Int), EnvX M e → trn c ts = some t3 → vt ts s → ts.length ≤ 60 → Stk M 12 s → Seg M ca i (c.map mk) → 0 ≤ i → i + c.length = to → c.length < F → (∀ M1, Stk M1 12 (ern e c s) → Fr ScR M M1 → Tt (j_X6_reckon_177 M1 (ern e c s).length) Q) → Tt (wl2 (b_X6_reckon_10 ca to) F M s.length i) Q
  | _, 0, _, _, _, _, _, _, _, _, _, _, _, _, _, hF, _ => absurd hF (Nat.not_lt_zero _)
  | [], F + 1, M, i, ts, t3, s, hE, h, hv, hl, hs, hc, hi, hto2, hF, k => by
    rw [wl2_s]
    unfold b_X6_reckon_10
    simp at hto2
    exact tt_ip (by omega) (k M hs (Fr.rf _ _))
  | v :: c, F + 1, M, i, ts, t3, s, hE, h, hv, hl, hs, hc, hi, hto2, hF, k => by
    rw [wl2_s]
    obtain ⟨t2, h1, h2, h3⟩ := trn_cons h
    simp at hto2 hF
    refine reckon_step hE h1 hv hl hs Q _ ca i to ⟨hi, by omega⟩ hc.1 (by omega) (fun M1 s1 f1 => ?_)
    refine reckon_run he Q hca hto c F M1 (i + 1) t2 t3 _ (hE.fr f1) h3 (est_ok he h1 hv) h2 s1 (Seg.fr (fun j => f1 ca j hca) hc.2) (by omega) (by omega) (by omega) (fun M2 s2 f2 => k M2 s2 (f1.tr f2))
theorem e_reckon {e : Int → Int} (he : EnvOk e) {M : Mem} (hE : EnvX M e) {c : List Int} {t : Bool} (h : trn c [] = some [t]) {ca i j : Int} (hca : ca ≠ 12) (hc : Seg M ca i (c.map mk)) (hi : 0 ≤ i) (hj : i + c.length = j) (hj2 : j ≤ 900) : ∃ M1, f_X6_reckon M ca i j = some (val e c, M1) ∧ Fr ScR M M1 := by
  have q : Tt (f_X6_reckon M ca i j) (fun r M1 => r = val e c ∧ Fr ScR M M1) := by
    unfold f_X6_reckon
    rw [e_max, cl_some, Int.max_eq_right hi]
    refine reckon_run he _ hca hj2 c FU M i [] [t] [] hE h trivial (by simp) trivial hc hi hj (by unfold FU; omega) (fun M1 s1 f1 => ?_)
    rw [(val_of he h).1] at s1 ⊢
    unfold j_X6_reckon_177
    refine tt_in (by simp) (tt_ok (by simp; decide) (tt_ok (by simp) (tt_ret ⟨?_, f1⟩)))
    exact s1.1
  obtain ⟨r, M1, q1, rfl, q3⟩ := q
  exact ⟨M1, q1, q3⟩
