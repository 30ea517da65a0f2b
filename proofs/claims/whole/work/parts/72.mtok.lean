/-! the reference's readers of words, signs, numbers and names -/
def wd_all : Bool := (List.range 21).all (fun k => decide (1 ≤ ln (339 + k) ∧ ln (339 + k) ≤ 6) && decide (nam (fxv (339 + k)) 0 (ln (339 + k)) = fxv 6 k) && (List.range 6).all (fun x => decide ((x : Int) < ln (339 + k) → 97 ≤ fxv (339 + k) x ∧ fxv (339 + k) x ≤ 122)))
theorem wd_ok : wd_all = true := by decide +kernel
theorem wd_at {a : Int} (ha : 339 ≤ a ∧ a ≤ 359) : (1 ≤ ln a ∧ ln a ≤ 6) ∧ nam (fxv a) 0 (ln a) = fxv 6 (a - 339) ∧ ∀ i, 0 ≤ i → i < ln a → isL (fxv a i) := by
  obtain ⟨k, hk, rfl⟩ : ∃ k : Nat, k < 21 ∧ a = 339 + k := ⟨(a - 339).toNat, by omega, by omega⟩
  have h := List.all_eq_true.mp wd_ok k (List.mem_range.mpr hk)
  simp only [Bool.and_eq_true, decide_eq_true_eq] at h
  obtain ⟨⟨h1, h2⟩, h3⟩ := h
  refine ⟨h1, by rw [show (339 + (k : Int) - 339) = k by omega]; exact h2, fun i i0 i1 => ?_⟩
  obtain ⟨x, rfl⟩ : ∃ x : Nat, i = x := ⟨i.toNat, by omega⟩
  have h4 := of_decide_eq_true (List.all_eq_true.mp h3 x (List.mem_range.mpr (by omega)))
  exact h4 i1
def own_inj : Bool := (List.range 21).all (fun k => (List.range 21).all (fun j => decide (fxv 6 k = fxv 6 j → k = j)))
theorem own_inj_ok : own_inj = true := by decide +kernel
theorem own_eq {v w : Int} (hv : 0 ≤ v ∧ v < 21) (hw : 0 ≤ w ∧ w < 21) (h : fxv 6 v = fxv 6 w) : v = w := by
  obtain ⟨k, hk, rfl⟩ : ∃ k : Nat, k < 21 ∧ v = k := ⟨v.toNat, by omega, by omega⟩
  obtain ⟨j, hj, rfl⟩ : ∃ j : Nat, j < 21 ∧ w = j := ⟨w.toNat, by omega, by omega⟩
  have h1 := List.all_eq_true.mp (List.all_eq_true.mp own_inj_ok k (List.mem_range.mpr hk)) j (List.mem_range.mpr hj)
  have := of_decide_eq_true h1 h
  omega
/-- what a head that is a word, or is none, is -/
theorem tkD.kd {b : Int → Int} {n q r : Int} {t : Tok} (h : tkD b n q t r) : (isL (b q) ∧ tkR isL b n q r ∧ tkW b q r t) ∨ (isD (b q) ∧ ¬ isL (b q) ∧ tkR isD b n q r ∧ tkN b q r t) ∨ (¬ isL (b q) ∧ ¬ isD (b q) ∧ r = q + 1 ∧ t.1 = 4 ∧ t.2.1 = b q) := by
  rcases h with ⟨h1, h2⟩ | ⟨h1, h2⟩ | ⟨h1, h2, h3, h4, h5, h6⟩
  · exact Or.inl ⟨h1.2.2.1 q (Int.le_refl _) h1.1, h1, h2⟩
  · have g := h1.2.2.1 q (Int.le_refl _) h1.1
    refine Or.inr (Or.inl ⟨g, fun g2 => ?_, h1, h2⟩)
    have a1 := g.2
    have a2 := g2.1
    omega
  · exact Or.inr (Or.inr ⟨h1, h2, h4, h5, h6⟩)
section MT
variable {b : Int → Int} {n : Int} {M : Mem} {T : List Tok}
theorem m_isHere0 (h : MP b n M T) (hl : M 337 2 = hq T) {a : Int} (ha : 339 ≤ a ∧ a ≤ 359) : f_X12_isHere M a = some (bI (isW T (a - 339)), M) := by
  have hlk : lk M T = M := by unfold lk; rw [← hl]; exact st_self _ _ _
  obtain ⟨a0, a1, a2, a3, a4, a5, a6, a7, a8⟩ := id h
  obtain ⟨l1, l2, l3, l4⟩ := a5.hd
  obtain ⟨w1, w2, w3⟩ := wd_at ha
  unfold f_X12_isHere
  rw [if_pos a0, m_look h, cl_some, hlk, e_mL, cl_some]
  have no : ¬ isW T (a - 339) → (some (0, M) : Res) = some (bI (isW T (a - 339)), M) := fun q => by rw [bI_f q]
  unfold lkv
  rcases l4 with ⟨l4, l5⟩ | ⟨l4, t, r, l5, l6, l7, l8⟩
  · rw [if_pos l5, if_pos (bI_f (by intro q; have := q.1; omega))]
    exact no (fun q => by have := q.1; omega)
  · rw [show (if hk T = 0 then -1 else b (hq T)) = b (hq T) from if_neg (by rw [l5]; exact l7.nz)]
    have hb := l7.kd
    by_cases hL : isL (b (hq T))
    · rw [if_neg (by rw [bI_t hL]; decide)]
      obtain ⟨c1, c2⟩ : tkR isL b n (hq T) r ∧ tkW b (hq T) r t := by
        rcases hb with ⟨-, q1, q2⟩ | ⟨-, q, -⟩ | ⟨q, -⟩
        · exact ⟨q1, q2⟩
        · exact absurd hL q
        · exact absurd hL q
      obtain ⟨d1, d2, d3, d4⟩ := c1
      by_cases hg : M 337 2 = M 337 4
      · rw [if_pos hg]
        have hg2 := a7.mp hg.symm
        rw [hl] at hg2
        refine no (fun q => ?_)
        have q1 := q.1
        rw [l5] at q1
        rcases c2 with ⟨-, c2⟩ | ⟨c2, -⟩
        · omega
        · exact c2 hg2
      · rw [if_neg hg]
        have hg2 : ¬ glu b (hq T) := by rw [← hl]; exact fun q => hg (a7.mpr q).symm
        rcases c2 with ⟨c2, -⟩ | ⟨-, c2⟩
        · exact absurd c2 hg2
        have inner : ∀ k : Int, (∀ i, 0 ≤ i → i < k → b (hq T + i) = fxv a i) → 0 ≤ k → k ≤ ln a → hq T + ln a ≤ n → Tt (wl1 (b_X12_isHere_76 a) FU M k) (fun r M1 => M1 = M ∧ ((r = 1 ∧ ∀ i, 0 ≤ i → i < ln a → b (hq T + i) = fxv a i) ∨ (r = 0 ∧ ¬ ∀ i, 0 ≤ i → i < ln a → b (hq T + i) = fxv a i))) := by
          intro k hk k0 k1 hn
          refine tt_wl1 (fun M1 x => M1 = M ∧ 0 ≤ x ∧ x ≤ ln a ∧ ∀ i, 0 ≤ i → i < x → b (hq T + i) = fxv a i) (fun _ x => (ln a - x).toNat) ?_ FU M k ⟨rfl, k0, k1, hk⟩ (by have : FU = 1000000000 := rfl; omega)
          rintro w M1 x ⟨rfl, x0, x1, hx⟩ K
          unfold b_X12_isHere_76
          refine tt_if (fun c => ?_) (fun c => ?_)
          · refine tt_ret ⟨rfl, Or.inl ⟨rfl, fun i i0 i1 => hx i i0 (by omega)⟩⟩
          · rw [hl]
            refine tt_ok ⟨by omega, by omega⟩ (tt_ok ⟨by omega, by omega⟩ (tt_ok ⟨by omega, by omega⟩ ?_))
            rw [(a3 _ (by omega) (by omega)).1]
            refine tt_if (fun c2 => ?_) (fun c2 => ?_)
            · refine tt_ok ⟨by omega, by omega⟩ (tt_bi (K _ _ ⟨rfl, by omega, by omega, fun i i0 i1 => ?_⟩ (by omega)))
              by_cases e : i = x
              · subst e; exact c2
              · exact hx i i0 (by omega)
            · exact tt_ret ⟨rfl, Or.inr ⟨rfl, fun q => c2 (q x x0 (by omega))⟩⟩
        have same : (r - hq T = ln a ∧ ∀ i, 0 ≤ i → i < ln a → b (hq T + i) = fxv a i) ↔ isW T (a - 339) := by
          have hbl : ∀ i, hq T ≤ i → i < hq T + (r - hq T) → isL (b i) := fun i i0 i1 => d3 i i0 (by omega)
          have hfl : ∀ i, 0 ≤ i → i < 0 + ln a → isL (fxv a i) := fun i i0 i1 => w3 i i0 (by omega)
          have nm : r - hq T = ln a → (∀ i, 0 ≤ i → i < ln a → b (hq T + i) = fxv a i) → nam b (hq T) (r - hq T) = nam (fxv a) 0 (ln a) := by
            intro e1 e2
            have e3 : ∀ i, 0 ≤ i → dgt b (hq T) (r - hq T) i = dgt (fxv a) 0 (ln a) i := by
              intro i i0
              unfold dgt
              rw [e1]
              by_cases c : i < ln a
              · rw [if_pos c, if_pos c, e2 i i0 c, Int.zero_add]
              · rw [if_neg c, if_neg c]
            unfold nam
            rw [e3 0 (by decide), e3 1 (by decide), e3 2 (by decide), e3 3 (by decide), e3 4 (by decide), e3 5 (by decide)]
          unfold isW
          rw [l5, l6]
          constructor
          · rintro ⟨e1, e2⟩
            have e4 := nm e1 e2
            rw [w2] at e4
            rcases c2 with ⟨c2, -⟩ | ⟨-, ⟨c3, c4, c5⟩ | ⟨c3, c4, c5⟩⟩
            · omega
            · exact ⟨c3, own_eq c4 (by omega) (by rw [c5, e4])⟩
            · exact absurd (by rw [c4, e4]) (c5 (a - 339) (by omega) (by omega))
          · rintro ⟨e1, e2⟩
            rcases c2 with ⟨-, c2⟩ | ⟨c3, ⟨-, c4, c5⟩ | ⟨c4, -⟩⟩
            · omega
            · rw [e2, ← w2] at c5
              obtain ⟨f1, f2⟩ := nam_inj w1 (by omega) hfl hbl c5
              refine ⟨f1.symm, fun i i0 i1 => ?_⟩
              have := f2 i i0 i1
              rw [Int.zero_add] at this
              exact this.symm
            · omega
        have key : Tt (wl1 (b_X12_isHere_35 a) FU M (hq T)) (fun r2 M1 => r2 = bI (isW T (a - 339)) ∧ M1 = M) := by
          refine tt_wl1 (fun M1 x => M = M1 ∧ hq T ≤ x ∧ x ≤ r) (fun _ x => (r - x).toNat) ?_ FU M (hq T) ⟨rfl, Int.le_refl _, by omega⟩ (by have : FU = 1000000000 := rfl; omega)
          rintro w M1 x ⟨rfl, x0, x1⟩ K
          have ex : x = r → Tt (j_X12_isHere_61 a M x) (fun r2 M1 => r2 = bI (isW T (a - 339)) ∧ M1 = M) := by
            rintro rfl
            unfold j_X12_isHere_61
            rw [hl]
            refine tt_ok ⟨by omega, by omega⟩ (tt_if (fun c => ?_) (fun c => ?_))
            · refine tt_mono (inner 0 (fun i i0 i1 => by omega) (by decide) (by omega) (by omega)) ?_
              rintro r2 M1 ⟨rfl, ⟨rfl, q⟩ | ⟨rfl, q⟩⟩
              · exact ⟨(bI_t (same.mp ⟨c, q⟩)).symm, rfl⟩
              · exact ⟨(bI_f (fun z => q (same.mpr z).2)).symm, rfl⟩
            · exact tt_ret ⟨(bI_f (fun z => c (same.mpr z).1)).symm, rfl⟩
          unfold b_X12_isHere_35
          rw [a1]
          refine tt_if (fun c => ex (by omega)) (fun c => ?_)
          refine tt_ok ⟨by omega, by omega⟩ ?_
          rw [(a3 x (by omega) (by omega)).1]
          refine tt_cq (e_mL _ _) ?_
          refine tt_if (fun c2 => ex ?_) (fun c2 => ?_)
          · have hn := bI_0.mp c2
            by_cases e : x = r
            · exact e
            · exact absurd (d3 x x0 (by omega)) hn
          · have hy : isL (b x) := by
              rcases (bI_01 : bI (isL (b x)) = 0 ∨ bI (isL (b x)) = 1) with q | q
              · exact absurd q c2
              · exact bI_1.mp q
            refine tt_bi (K _ _ ⟨rfl, by omega, ?_⟩ ?_)
            · by_cases e : x = r
              · rcases d4 with d4 | d4
                · omega
                · rw [← e] at d4; exact absurd hy d4
              · omega
            · by_cases e : x = r
              · rcases d4 with d4 | d4
                · omega
                · rw [← e] at d4; exact absurd hy d4
              · omega
        obtain ⟨r2, M1, e, e1, e2⟩ := key
        rw [e1, e2] at e
        show wl1 (b_X12_isHere_35 a) FU M (M 337 2) = _
        rw [hl]; exact e
    · rw [if_pos (bI_f hL)]
      refine no (fun q => ?_)
      have := q.1
      rw [l5] at this
      rcases hb with ⟨q1, -⟩ | ⟨-, -, -, q2⟩ | ⟨-, -, -, q2, -⟩
      · exact hL q1
      · rcases q2 with ⟨-, q2⟩ | ⟨-, ⟨-, q2⟩ | ⟨-, q2, -⟩⟩ <;> omega
      · omega
theorem m_isHere (h : MP b n M T) {a : Int} (ha : 339 ≤ a ∧ a ≤ 359) : f_X12_isHere M a = some (bI (isW T (a - 339)), lk M T) := by
  have h1 := m_isHere0 h.lo (lk_at M T) ha
  unfold f_X12_isHere at h1 ⊢
  rw [if_pos h.lo.1, m_look h.lo, cl_some, lk_lk] at h1
  rw [if_pos h.1, m_look h, cl_some]
  exact h1
theorem m_takes (h : MP b n M T) {a : Int} (ha : 339 ≤ a ∧ a ≤ 359) : (isW T (a - 339) ∧ ∃ M1, f_X12_takes M a = some (1, M1) ∧ MP b n M1 T.tail ∧ Fr ScP M M1) ∨ (¬ isW T (a - 339) ∧ f_X12_takes M a = some (0, lk M T)) := by
  unfold f_X12_takes
  rw [m_isHere h ha, cl_some]
  by_cases c : isW T (a - 339)
  · left
    refine ⟨c, ?_⟩
    rw [if_neg (by rw [bI_t c]; decide)]
    obtain ⟨a0, a1, a2, a3, a4, a5, a6, a7, a8⟩ := id h
    obtain ⟨l1, l2, l3, l4⟩ := a5.hd
    obtain ⟨w1, w2, w3⟩ := wd_at ha
    rcases l4 with ⟨l4, l5⟩ | ⟨l4, t, r, l5, l6, l7, l8⟩
    · have := c.1; omega
    have hr : r = hq T + ln a ∧ isL (b (r - 1)) ∧ hq T < r ∧ r ≤ n := by
      obtain ⟨c1, c2⟩ := c
      rw [l5] at c1
      rw [l6] at c2
      rcases l7.kd with ⟨-, ⟨d1, d2, d3, d4⟩, q2⟩ | ⟨-, -, -, q2⟩ | ⟨-, -, -, q2, -⟩
      · refine ⟨?_, d3 _ (by omega) (by omega), d1, d2⟩
        rcases q2 with ⟨-, q2⟩ | ⟨-, ⟨-, q2⟩ | ⟨g3, ⟨-, q3, q4⟩ | ⟨q3, -⟩⟩⟩
        · omega
        · omega
        · rw [c2, ← w2] at q4
          have := (nam_inj w1 (by omega) (fun i i0 i1 => w3 i i0 (by omega)) (fun i i0 i1 => d3 i i0 (by omega)) q4).1
          omega
        · omega
      · rcases q2 with ⟨-, q2⟩ | ⟨-, ⟨-, q2⟩ | ⟨-, q2, -⟩⟩ <;> omega
      · omega
    obtain ⟨r1, r2, r3, r4⟩ := hr
    rw [lk_at, ok_t ⟨by omega, by omega⟩, ← r1]
    refine ⟨_, rfl, ?_, ?_⟩
    · have f : Fr ScP M (st (st (lk M T) 337 2 r) 337 4 (st (lk M T) 337 2 r 337 2)) := Fr.st (Fr.st (lk_fr M T) (by unfold ScP; omega)) (by unfold ScP; omega)
      refine h.go f ?_ ?_ ?_ ?_
      · rw [st_neI (by decide), st_neI (by decide)]; exact h.lo.1
      · rw [st_neI (by decide), st_at]; omega
      · rw [st_neI (by decide), st_at]; exact l8
      · have e4 : st (st (lk M T) 337 2 r) 337 4 (st (lk M T) 337 2 r 337 2) 337 4 = r := by rw [st_at, st_at]
        have e2 : st (st (lk M T) 337 2 r) 337 4 (st (lk M T) 337 2 r 337 2) 337 2 = r := by rw [st_neI (by decide), st_at]
        rw [e4, e2]
        exact ⟨Int.le_refl _, fun _ => ⟨by omega, Or.inl r2⟩, fun _ => rfl⟩
    · exact Fr.st (Fr.st (lk_fr M T) (by unfold ScP; omega)) (by unfold ScP; omega)
  · right
    exact ⟨c, by rw [if_pos (bI_f c)]⟩
def ME (M : Mem) (k p : Int) : Prop := M 337 5 = k ∧ M 337 6 = p ∧ k ≠ 0
theorem m_fail (h : M 337 5 = 0) (k p : Int) : f_X12_fail M k p = some (0, st (st M 337 5 k) 337 6 p) := by
  unfold f_X12_fail
  rw [if_pos h]; rfl
theorem m_fail0 (h : M 337 5 ≠ 0) (k p : Int) : f_X12_fail M k p = some (0, M) := by
  unfold f_X12_fail
  rw [if_neg h]
theorem me_fail {k p : Int} (hk : k ≠ 0) : ME (st (st M 337 5 k) 337 6 p) k p := ⟨by rw [st_neI (by decide), st_at], by rw [st_at], hk⟩
theorem fr_fail {M0 : Mem} (f : Fr ScP M0 M) (k p : Int) : Fr ScP M0 (st (st M 337 5 k) 337 6 p) := Fr.st (Fr.st f (by unfold ScP; omega)) (by unfold ScP; omega)
theorem m_asks (h : MP b n M T) {a : Int} (ha : 339 ≤ a ∧ a ≤ 359) : (isW T (a - 339) ∧ ∃ M1, f_X12_asks M a = some (0, M1) ∧ MP b n M1 T.tail ∧ Fr ScP M M1) ∨ (¬ isW T (a - 339) ∧ ∃ M1, f_X12_asks M a = some (0, M1) ∧ ME M1 1 (hq T) ∧ Fr ScP M M1) := by
  unfold f_X12_asks
  rw [if_pos h.1]
  rcases m_takes h ha with ⟨c, M1, e, q1, q2⟩ | ⟨c, e⟩
  · left
    refine ⟨c, M1, ?_, q1, q2⟩
    rw [e, cl_some, if_neg (by decide)]
  · right
    refine ⟨c, _, ?_, me_fail (M := lk M T) (by decide), fr_fail (lk_fr M T) 1 _⟩
    rw [e, cl_some, if_pos rfl, m_fail h.lo.1, cl_some, lk_at]
theorem m_takesSign (h : MP b n M T) {c : Int} (c0 : 0 ≤ c) (c1 : ¬ isL c) (c2 : ¬ isD c) : (isS T c ∧ ∃ M1, f_X12_takesSign M c = some (1, M1) ∧ MP b n M1 T.tail ∧ Fr ScP M M1 ∧ M1 337 2 = hq T + 1 ∧ M1 = st M 337 2 (hq T + 1)) ∨ (¬ isS T c ∧ f_X12_takesSign M c = some (0, lk M T)) := by
  unfold f_X12_takesSign
  rw [if_pos h.1, m_look h, cl_some]
  have hs := lkv_s h.2.2.2.2.2.1 c0 c1 c2
  by_cases e : isS T c
  · left
    refine ⟨e, ?_⟩
    obtain ⟨a0, a1, a2, a3, a4, a5, a6, a7, a8⟩ := id h
    obtain ⟨l1, l2, l3, l4⟩ := a5.hd
    rcases l4 with ⟨l4, l5⟩ | ⟨l4, t, r, l5, l6, l7, l8⟩
    · have := e.1; omega
    have hr : r = hq T + 1 ∧ ¬ isL (b (hq T)) ∧ ¬ isD (b (hq T)) := by
      obtain ⟨g1, g2⟩ := e
      rw [l5] at g1
      rcases l7.kd with ⟨-, -, q2⟩ | ⟨-, -, -, q2⟩ | ⟨q1, q2, q3, -⟩
      · rcases q2 with ⟨-, q2⟩ | ⟨-, ⟨-, q2⟩ | ⟨-, ⟨q2, -⟩ | ⟨q2, -⟩⟩⟩ <;> omega
      · rcases q2 with ⟨-, q2⟩ | ⟨-, ⟨-, q2⟩ | ⟨-, q2, -⟩⟩ <;> omega
      · exact ⟨q3, q1, q2⟩
    obtain ⟨r1, r2, r3⟩ := hr
    rw [if_pos (hs.mpr e), lk_at, ok_t ⟨by omega, by omega⟩]
    have em : st (lk M T) 337 2 (hq T + 1) = st M 337 2 (hq T + 1) := st_st _ _ _ _ _
    have f : Fr ScP M (st (lk M T) 337 2 (hq T + 1)) := Fr.st (lk_fr M T) (by unfold ScP; omega)
    refine ⟨_, rfl, h.go f ?_ ?_ ?_ ?_, f, st_at _ _ _ _, em⟩
    · rw [st_neI (by decide)]; exact h.lo.1
    · rw [st_at]; omega
    · rw [st_at, ← r1]; exact l8
    · rw [st_at, st_neI (by decide)]
      have h4 : lk M T 337 4 = M 337 4 := st_neI (by decide)
      rw [h4]
      refine ⟨by omega, fun q => by omega, ?_⟩
      rintro ⟨-, q⟩
      exfalso
      rw [show hq T + 1 - 1 = hq T by omega] at q
      rcases q with q | q
      · exact r2 q
      · exact r3 q
  · right
    exact ⟨e, by rw [if_neg (fun q => e (hs.mp q))]⟩
theorem m_asksSign (h : MP b n M T) {c : Int} (c0 : 0 ≤ c) (c1 : ¬ isL c) (c2 : ¬ isD c) : (isS T c ∧ ∃ M1, f_X12_asksSign M c = some (0, M1) ∧ MP b n M1 T.tail ∧ Fr ScP M M1) ∨ (¬ isS T c ∧ ∃ M1, f_X12_asksSign M c = some (0, M1) ∧ ME M1 1 (hq T) ∧ Fr ScP M M1) := by
  unfold f_X12_asksSign
  rw [if_pos h.1]
  rcases m_takesSign h c0 c1 c2 with ⟨c, M1, e, q1, q2, -⟩ | ⟨c, e⟩
  · left
    refine ⟨c, M1, ?_, q1, q2⟩
    rw [e, cl_some, if_neg (by decide)]
  · right
    refine ⟨c, _, ?_, me_fail (M := lk M T) (by decide), fr_fail (lk_fr M T) 1 _⟩
    rw [e, cl_some, if_pos rfl, m_fail h.lo.1, cl_some, lk_at]
theorem bI_ite {α : Type} {p : Prop} [Decidable p] (x y : α) : (if bI p = 0 then x else y) = if p then y else x := by
  by_cases h : p
  · rw [if_neg (by rw [bI_t h]; decide), if_pos h]
  · rw [if_pos (bI_f h), if_neg h]
theorem m_isOwnHere (h : MP b n M T) : f_X12_isOwnHere (lk M T) = some (bI (hk T = 2), lk M T) := by
  have g : ∀ a : Int, 339 ≤ a ∧ a ≤ 359 → f_X12_isHere (lk M T) a = some (bI (isW T (a - 339)), lk M T) := fun a ha => by rw [m_isHere h.lo ha, lk_lk]
  have rng : hk T = 2 → 0 ≤ hv T ∧ hv T < 21 := by
    intro e
    obtain ⟨l1, l2, l3, l4⟩ := h.2.2.2.2.2.1.hd
    rcases l4 with ⟨l4, l5⟩ | ⟨l4, t, r, l5, l6, l7, l8⟩
    · omega
    · rw [l5] at e
      rw [l6]
      rcases l7.kd with ⟨-, -, q2⟩ | ⟨-, -, -, q2⟩ | ⟨-, -, -, q2, -⟩
      · rcases q2 with ⟨-, q2⟩ | ⟨-, ⟨-, q2⟩ | ⟨-, ⟨-, q2, -⟩ | ⟨q2, -⟩⟩⟩
        · omega
        · omega
        · exact q2
        · omega
      · rcases q2 with ⟨-, q2⟩ | ⟨-, ⟨-, q2⟩ | ⟨-, q2, -⟩⟩ <;> omega
      · omega
  have yes : ∀ w : Int, isW T w → (some (1, lk M T) : Res) = some (bI (hk T = 2), lk M T) := fun w q => by rw [bI_t q.1]
  have y147 : ∀ w : Int, isW T w → j_X12_isOwnHere_147 (lk M T) 1 = some (bI (hk T = 2), lk M T) := fun w q => by unfold j_X12_isOwnHere_147; rw [if_neg (by decide)]; exact yes w q
  have y142 : ∀ w : Int, isW T w → j_X12_isOwnHere_142 (lk M T) = some (bI (hk T = 2), lk M T) := fun w q => by unfold j_X12_isOwnHere_142; exact y147 w q
  have y115 : ∀ w : Int, isW T w → j_X12_isOwnHere_115 (lk M T) 1 = some (bI (hk T = 2), lk M T) := fun w q => by unfold j_X12_isOwnHere_115; rw [if_neg (by decide)]; exact y142 w q
  have y110 : ∀ w : Int, isW T w → j_X12_isOwnHere_110 (lk M T) = some (bI (hk T = 2), lk M T) := fun w q => by unfold j_X12_isOwnHere_110; exact y115 w q
  unfold f_X12_isOwnHere
  rw [g 339 (by decide), cl_some, bI_ite]
  by_cases w0 : isW T (339 - 339)
  · rw [if_pos w0]; exact y110 _ w0
  rw [if_neg w0]
  rw [g 340 (by decide), cl_some, bI_ite]
  by_cases w1 : isW T (340 - 339)
  · rw [if_pos w1]; exact y110 _ w1
  rw [if_neg w1]
  rw [g 341 (by decide), cl_some, bI_ite]
  by_cases w2 : isW T (341 - 339)
  · rw [if_pos w2]; exact y110 _ w2
  rw [if_neg w2]
  rw [g 342 (by decide), cl_some, bI_ite]
  by_cases w3 : isW T (342 - 339)
  · rw [if_pos w3]; exact y110 _ w3
  rw [if_neg w3]
  rw [g 343 (by decide), cl_some, bI_ite]
  by_cases w4 : isW T (343 - 339)
  · rw [if_pos w4]; exact y110 _ w4
  rw [if_neg w4]
  rw [g 344 (by decide), cl_some, bI_ite]
  by_cases w5 : isW T (344 - 339)
  · rw [if_pos w5]; exact y110 _ w5
  rw [if_neg w5]
  rw [g 345 (by decide), cl_some, bI_ite]
  by_cases w6 : isW T (345 - 339)
  · rw [if_pos w6]; exact y110 _ w6
  rw [if_neg w6]
  rw [g 348 (by decide), cl_some, bI_ite]
  by_cases w9 : isW T (348 - 339)
  · rw [if_pos w9]; exact y110 _ w9
  rw [if_neg w9]
  rw [g 349 (by decide), cl_some, bI_ite]
  by_cases w10 : isW T (349 - 339)
  · rw [if_pos w10]; exact y110 _ w10
  rw [if_neg w10]
  rw [g 350 (by decide), cl_some, bI_ite]
  by_cases w11 : isW T (350 - 339)
  · rw [if_pos w11]; exact y110 _ w11
  rw [if_neg w11]
  unfold j_X12_isOwnHere_115
  rw [if_pos rfl]
  rw [g 346 (by decide), cl_some, bI_ite]
  by_cases w7 : isW T (346 - 339)
  · rw [if_pos w7]; exact y142 _ w7
  rw [if_neg w7]
  rw [g 347 (by decide), cl_some, bI_ite]
  by_cases w8 : isW T (347 - 339)
  · rw [if_pos w8]; exact y142 _ w8
  rw [if_neg w8]
  unfold j_X12_isOwnHere_147
  rw [if_pos rfl]
  rw [g 351 (by decide), cl_some, bI_ite]
  by_cases w12 : isW T (351 - 339)
  · rw [if_pos w12]; exact yes _ w12
  rw [if_neg w12]
  rw [g 352 (by decide), cl_some, bI_ite]
  by_cases w13 : isW T (352 - 339)
  · rw [if_pos w13]; exact yes _ w13
  rw [if_neg w13]
  rw [g 353 (by decide), cl_some, bI_ite]
  by_cases w14 : isW T (353 - 339)
  · rw [if_pos w14]; exact yes _ w14
  rw [if_neg w14]
  rw [g 354 (by decide), cl_some, bI_ite]
  by_cases w15 : isW T (354 - 339)
  · rw [if_pos w15]; exact yes _ w15
  rw [if_neg w15]
  rw [g 355 (by decide), cl_some, bI_ite]
  by_cases w16 : isW T (355 - 339)
  · rw [if_pos w16]; exact yes _ w16
  rw [if_neg w16]
  rw [g 356 (by decide), cl_some, bI_ite]
  by_cases w17 : isW T (356 - 339)
  · rw [if_pos w17]; exact yes _ w17
  rw [if_neg w17]
  rw [g 357 (by decide), cl_some, bI_ite]
  by_cases w18 : isW T (357 - 339)
  · rw [if_pos w18]; exact yes _ w18
  rw [if_neg w18]
  rw [g 358 (by decide), cl_some, bI_ite]
  by_cases w19 : isW T (358 - 339)
  · rw [if_pos w19]; exact yes _ w19
  rw [if_neg w19]
  rw [g 359 (by decide), cl_some, bI_ite]
  by_cases w20 : isW T (359 - 339)
  · rw [if_pos w20]; exact yes _ w20
  rw [if_neg w20]
  rw [bI_f]
  intro e
  have r := rng e
  have n0 : hv T ≠ 0 := fun q => w0 ⟨e, q⟩
  have n1 : hv T ≠ 1 := fun q => w1 ⟨e, q⟩
  have n2 : hv T ≠ 2 := fun q => w2 ⟨e, q⟩
  have n3 : hv T ≠ 3 := fun q => w3 ⟨e, q⟩
  have n4 : hv T ≠ 4 := fun q => w4 ⟨e, q⟩
  have n5 : hv T ≠ 5 := fun q => w5 ⟨e, q⟩
  have n6 : hv T ≠ 6 := fun q => w6 ⟨e, q⟩
  have n9 : hv T ≠ 9 := fun q => w9 ⟨e, q⟩
  have n10 : hv T ≠ 10 := fun q => w10 ⟨e, q⟩
  have n11 : hv T ≠ 11 := fun q => w11 ⟨e, q⟩
  have n7 : hv T ≠ 7 := fun q => w7 ⟨e, q⟩
  have n8 : hv T ≠ 8 := fun q => w8 ⟨e, q⟩
  have n12 : hv T ≠ 12 := fun q => w12 ⟨e, q⟩
  have n13 : hv T ≠ 13 := fun q => w13 ⟨e, q⟩
  have n14 : hv T ≠ 14 := fun q => w14 ⟨e, q⟩
  have n15 : hv T ≠ 15 := fun q => w15 ⟨e, q⟩
  have n16 : hv T ≠ 16 := fun q => w16 ⟨e, q⟩
  have n17 : hv T ≠ 17 := fun q => w17 ⟨e, q⟩
  have n18 : hv T ≠ 18 := fun q => w18 ⟨e, q⟩
  have n19 : hv T ≠ 19 := fun q => w19 ⟨e, q⟩
  have n20 : hv T ≠ 20 := fun q => w20 ⟨e, q⟩
  omega
theorem num_b {b : Int → Int} {q : Int} : ∀ {k : Nat}, k ≤ 4 → (∀ i, q ≤ i → i < q + k → isD (b i)) → 0 ≤ num b q k ∧ num b q k ≤ 9999 ∧ (k ≤ 3 → num b q k ≤ 999) ∧ (k ≤ 2 → num b q k ≤ 99) ∧ (k ≤ 1 → num b q k ≤ 9)  ∧ (k = 0 → num b q k = 0)
  | 0, _, _ => ⟨Int.le_refl 0, show (0 : Int) ≤ 9999 by decide, fun _ => show (0 : Int) ≤ 999 by decide, fun _ => show (0 : Int) ≤ 99 by decide, fun _ => show (0 : Int) ≤ 9 by decide, fun _ => rfl⟩
  | k + 1, hk, hd => by
    obtain ⟨i0, i1, i2, i3, i4, i5⟩ := num_b (k := k) (by omega) (fun i a c => hd i a (by omega))
    have g := hd (q + k) (by omega) (by omega)
    have g1 := g.1
    have g2 := g.2
    have e : num b q (k + 1) = 10 * num b q k + b (q + k) - 48 := rfl
    rw [e]
    have j3 := i3
    refine ⟨by omega, ?_, fun h => ?_, fun h => ?_, fun h => ?_, fun h => by omega⟩
    · have := i2 (by omega); omega
    · have := i3 (by omega); omega
    · have := i4 (by omega); omega
    · have := i5 (by omega); omega
def pNum (lo hi : Int) (T : List Tok) : Except (Int × Int) (Int × List Tok) := if hk T = 6 then .error (1, hq T + 4) else if hk T = 3 then (if hv T < lo ∨ hi < hv T then .error (2, hq T) else .ok (hv T, T.tail)) else .error (1, hq T)
def NumR (b : Int → Int) (n : Int) (M : Mem) (o : Res) : Except (Int × Int) (Int × List Tok) → Prop
  | .ok (v, T1) => ∃ M1, o = some (v, M1) ∧ MP b n M1 T1 ∧ Fr ScP M M1
  | .error (k, p) => ∃ r M1, o = some (r, M1) ∧ (0 ≤ r ∧ r ≤ 9999) ∧ ME M1 k p ∧ Fr ScP M M1
theorem m_number (h : MP b n M T) (lo hi : Int) : NumR b n M (f_X12_number M lo hi) (pNum lo hi T) := by
  obtain ⟨a0, a1, a2, a3, a4, a5, a6, a7, a8⟩ := id h.lo
  obtain ⟨l1, l2, l3, l4⟩ := h.2.2.2.2.2.1.hd
  have no : hk T ≠ 6 → hk T ≠ 3 → j_X12_number_30 (lk M T) = f_X12_number M lo hi → NumR b n M (f_X12_number M lo hi) (pNum lo hi T) := by
    intro q1 q2 e
    unfold pNum
    rw [if_neg q1, if_neg q2, ← e]
    unfold j_X12_number_30
    rw [m_fail a0, cl_some, lk_at]
    exact ⟨0, _, rfl, by decide, me_fail (by decide), fr_fail (lk_fr M T) _ _⟩
  have start : f_X12_number M lo hi = if isD (lkv b T) then (if lk M T 337 2 = lk M T 337 4 then j_X12_number_30 (lk M T) else wl2 (b_X12_number_49 lo hi) FU (lk M T) (lk M T 337 2) 0) else j_X12_number_30 (lk M T) := by
    unfold f_X12_number
    rw [if_pos h.1, m_look h, cl_some, e_mD, cl_some, bI_ite]
    rfl
  by_cases hD : isD (lkv b T)
  · rw [if_pos hD] at start
    have hD' := hD
    unfold lkv at hD'
    rcases l4 with ⟨l4, l5⟩ | ⟨l4, t, r, l5, l6, l7, l8⟩
    · rw [if_pos l5] at hD'
      have := hD'.1
      omega
    rw [if_neg (by rw [l5]; exact l7.nz)] at hD'
    obtain ⟨⟨d1, d2, d3, d4⟩, c2⟩ : tkR isD b n (hq T) r ∧ tkN b (hq T) r t := by
      rcases l7.kd with ⟨q, -⟩ | ⟨-, -, q1, q2⟩ | ⟨-, q, -⟩
      · have q1 := q.1
        have q2 := hD'.2
        omega
      · exact ⟨q1, q2⟩
      · exact absurd hD' q
    by_cases hg : lk M T 337 2 = lk M T 337 4
    · rw [if_pos hg] at start
      have hg2 := a7.mp hg.symm
      rw [lk_at] at hg2
      rcases c2 with ⟨-, c2⟩ | ⟨c2, -⟩
      · exact no (by omega) (by omega) start.symm
      · exact absurd hg2 c2
    · rw [if_neg hg] at start
      have hg2 : ¬ glu b (hq T) := by rw [← lk_at M T]; exact fun q => hg (a7.mpr q).symm
      rcases c2 with ⟨c2, -⟩ | ⟨-, c2⟩
      · exact absurd c2 hg2
      have hcn := c2
      have hq0 : 0 ≤ hq T := by rw [← lk_at M T]; exact a4
      have key : ∃ v M1, wl2 (b_X12_number_49 lo hi) FU (lk M T) (lk M T 337 2) 0 = some (v, M1) ∧ NumR b n M (some (v, M1)) (pNum lo hi T) := by
        show Tt (wl2 (b_X12_number_49 lo hi) FU (lk M T) (lk M T 337 2) 0) (fun v M1 => NumR b n M (some (v, M1)) (pNum lo hi T))
        refine tt_wl2 (fun M1 x3 x4 => x3 = hq T ∧ hq T ≤ M1 337 2 ∧ M1 337 2 ≤ r ∧ M1 337 2 ≤ hq T + 4 ∧ M1 = st M 337 2 (M1 337 2) ∧ x4 = num b (hq T) (M1 337 2 - hq T).toNat) (fun M1 _ _ => (r - M1 337 2).toNat) ?_ FU (lk M T) (lk M T 337 2) 0 ?_ ?_
        · rintro w M1 x3 x4 ⟨rfl, i1, i2, i3, i4, rfl⟩ K
          have f1 : Fr ScP M M1 := by rw [i4]; exact Fr.st (Fr.rf _ _) (by unfold ScP; omega)
          have b5 : M1 337 5 = 0 := by rw [i4, st_neI (by decide)]; exact h.1
          have e338 : ∀ i, M1 338 i = lk M T 338 i := fun i => by rw [i4, st_neA (by decide)]; exact (st_neA (by decide)).symm
          have e3 : M1 337 3 = n := by rw [i4, st_neI (by decide)]; exact h.2.1
          have nb := num_b (b := b) (q := hq T) (k := (M1 337 2 - hq T).toNat) (by omega) (fun i x y => d3 i x (by omega))
          have ex : M1 337 2 = r → Tt (j_X12_number_129 lo hi M1 (hq T) (num b (hq T) (M1 337 2 - hq T).toNat)) (fun v M1 => NumR b n M (some (v, M1)) (pNum lo hi T)) := by
            intro er
            have hk3 : hk T = 3 ∧ hv T = num b (hq T) (r - hq T).toNat := by
              rcases c2 with ⟨c2, -⟩ | ⟨-, c3, c4⟩
              · omega
              · exact ⟨l5.trans c3, l6.trans c4⟩
            unfold j_X12_number_129
            rw [er] at nb ⊢
            refine tt_bm ?_
            obtain ⟨q, e, hq'⟩ := e_isIn (st M1 337 4 r) (num b (hq T) (r - hq T).toNat) lo hi
            refine tt_cq e ?_
            unfold pNum
            rw [if_neg (show ¬ hk T = 6 by omega), if_pos hk3.1, hk3.2]
            rcases hq' with ⟨rfl, q1, q2⟩ | ⟨rfl, q1⟩
            · refine tt_in (by decide) (tt_ret ?_)
              rw [if_neg (by omega)]
              refine ⟨_, rfl, h.go (Fr.st f1 (by unfold ScP; omega)) ?_ ?_ ?_ ?_ (by rw [st_neI (by decide), i4, st_neI (by decide)]), Fr.st f1 (by unfold ScP; omega)⟩
              · rw [st_neI (by decide)]; exact b5
              · rw [st_neI (by decide), er]; omega
              · rw [st_neI (by decide), er]; exact l8
              · rw [st_at, st_neI (by decide), er]
                exact ⟨Int.le_refl _, fun _ => ⟨by omega, Or.inr (d3 _ (by omega) (by omega))⟩, fun _ => rfl⟩
            · refine tt_ip rfl (tt_cq (m_fail (by rw [st_neI (by decide)]; exact b5) _ _) (tt_ret ?_))
              rw [if_pos (by omega)]
              exact ⟨_, _, rfl, ⟨nb.1, nb.2.1⟩, me_fail (by decide), fr_fail (Fr.st f1 (by unfold ScP; omega)) _ _⟩
          unfold b_X12_number_49
          rw [e3]
          refine tt_if (fun c => ex (by omega)) (fun c => ?_)
          refine tt_ok ⟨by omega, by omega⟩ ?_
          rw [e338, (a3 _ (by omega) (by omega)).1]
          refine tt_cq (e_mD _ _) ?_
          rw [bI_ite]
          refine tt_if (fun c2 => ?_) (fun c2 => ex ?_)
          · have hrr : M1 337 2 < r := by
              by_cases e : M1 337 2 = r
              · rcases d4 with d4 | d4
                · omega
                · rw [← e] at d4; exact absurd c2 d4
              · omega
            refine tt_ok ⟨by omega, by omega⟩ (tt_if (fun c3 => ?_) (fun c3 => ?_))
            · refine tt_cq (m_fail b5 _ _) (tt_ret ?_)
              have : hk T = 6 := by
                rw [l5]
                rcases hcn with ⟨-, c4⟩ | ⟨c4, -⟩
                · exact c4
                · omega
              unfold pNum
              rw [if_pos this]
              refine ⟨0, _, rfl, by decide, ?_, fr_fail f1 _ _⟩
              rw [show M1 337 2 = hq T + 4 by omega]
              exact me_fail (by decide)
            · have g := a3 (M1 337 2) (by omega) (by omega)
              refine tt_ok ⟨by omega, by omega⟩ (tt_ok ⟨by omega, by omega⟩ ?_)
              rw [e338, g.1]
              refine tt_ok ⟨by omega, by omega⟩ (tt_ok ⟨by omega, by omega⟩ (tt_bi (tt_bm (K _ _ _ ⟨rfl, ?_, ?_, ?_, ?_, ?_⟩ ?_))))
              · rw [st_at]; omega
              · rw [st_at]; omega
              · rw [st_at]; omega
              · rw [st_at]
                have hv : ∀ v, st M1 337 2 v = st M 337 2 v := fun v => by rw [i4]; exact st_st _ _ _ _ _
                exact hv _
              · rw [st_at, show (M1 337 2 + 1 - hq T).toNat = (M1 337 2 - hq T).toNat + 1 by omega]
                show _ = 10 * num b (hq T) (M1 337 2 - hq T).toNat + b (hq T + ((M1 337 2 - hq T).toNat : Nat)) - 48
                rw [show hq T + (((M1 337 2 - hq T).toNat : Nat) : Int) = M1 337 2 by omega]
              · rw [st_at]; omega
          · by_cases e : M1 337 2 = r
            · exact e
            · exact absurd (d3 _ i1 (by omega)) c2
        · rw [lk_at]
          exact ⟨rfl, Int.le_refl _, by omega, by omega, rfl, by rw [show (hq T - hq T).toNat = 0 by omega]; rfl⟩
        · have : FU = 1000000000 := rfl
          rw [lk_at]; omega
      obtain ⟨v, M1, e1, e2⟩ := key
      rw [start, e1]; exact e2
  · rw [if_neg hD] at start
    have hk' : hk T ≠ 6 ∧ hk T ≠ 3 := by
      unfold lkv at hD
      rcases l4 with ⟨l4, l5⟩ | ⟨l4, t, r, l5, l6, l7, l8⟩
      · omega
      rw [if_neg (by rw [l5]; exact l7.nz)] at hD
      rw [l5]
      rcases l7.kd with ⟨-, -, q2⟩ | ⟨q, -⟩ | ⟨-, -, -, q2, -⟩
      · rcases q2 with ⟨-, q2⟩ | ⟨-, ⟨-, q2⟩ | ⟨-, ⟨q2, -⟩ | ⟨q2, -⟩⟩⟩ <;> omega
      · exact absurd q hD
      · omega
    exact no hk'.1 hk'.2 start.symm
/-- a word as the reference has it -/
def nm7 (b : Int → Int) (q : Int) : Nat → Int
  | 0 => 0
  | k + 1 => 27 * nm7 b q k + b (q + k) - 97 + 1
theorem nm7_nr {b : Int → Int} {q : Int} {k : Nat} (h1 : 1 ≤ k) (h6 : k ≤ 6) (hb : ∀ i, q ≤ i → i < q + k → isL (b i)) : NR (nm7 b q k) (nam b q k) ∧ nm7 b q k ≤ 400000000 := by
  have g : ∀ j : Int, 0 ≤ j → j < k → 97 ≤ b (q + j) ∧ b (q + j) ≤ 122 := fun j j0 j1 => hb (q + j) (by omega) (by omega)
  have g0 := g 0 (by decide)
  have g1 := g 1 (by decide)
  have g2 := g 2 (by decide)
  have g3 := g 3 (by decide)
  have g4 := g 4 (by decide)
  have g5 := g 5 (by decide)
  unfold NR
  have hk : k = 1 ∨ k = 2 ∨ k = 3 ∨ k = 4 ∨ k = 5 ∨ k = 6 := by omega
  rcases hk with rfl | rfl | rfl | rfl | rfl | rfl
  · have z0 := g0 (by decide)
    simp only [nm7, nam, dgt] at z0 ⊢
    refine ⟨⟨1, by decide, by decide, ?_, ?_, ?_, ?_⟩, ?_⟩ <;> simp <;> simp at z0 <;> omega
  · have z0 := g0 (by decide)
    have z1 := g1 (by decide)
    simp only [nm7, nam, dgt] at z0 z1 ⊢
    refine ⟨⟨2, by decide, by decide, ?_, ?_, ?_, ?_⟩, ?_⟩ <;> simp <;> simp at z0 z1 <;> omega
  · have z0 := g0 (by decide)
    have z1 := g1 (by decide)
    have z2 := g2 (by decide)
    simp only [nm7, nam, dgt] at z0 z1 z2 ⊢
    refine ⟨⟨3, by decide, by decide, ?_, ?_, ?_, ?_⟩, ?_⟩ <;> simp <;> simp at z0 z1 z2 <;> omega
  · have z0 := g0 (by decide)
    have z1 := g1 (by decide)
    have z2 := g2 (by decide)
    have z3 := g3 (by decide)
    simp only [nm7, nam, dgt] at z0 z1 z2 z3 ⊢
    refine ⟨⟨4, by decide, by decide, ?_, ?_, ?_, ?_⟩, ?_⟩ <;> simp <;> simp at z0 z1 z2 z3 <;> omega
  · have z0 := g0 (by decide)
    have z1 := g1 (by decide)
    have z2 := g2 (by decide)
    have z3 := g3 (by decide)
    have z4 := g4 (by decide)
    simp only [nm7, nam, dgt] at z0 z1 z2 z3 z4 ⊢
    refine ⟨⟨5, by decide, by decide, ?_, ?_, ?_, ?_⟩, ?_⟩ <;> simp <;> simp at z0 z1 z2 z3 z4 <;> omega
  · have z0 := g0 (by decide)
    have z1 := g1 (by decide)
    have z2 := g2 (by decide)
    have z3 := g3 (by decide)
    have z4 := g4 (by decide)
    have z5 := g5 (by decide)
    simp only [nm7, nam, dgt] at z0 z1 z2 z3 z4 z5 ⊢
    refine ⟨⟨6, by decide, by decide, ?_, ?_, ?_, ?_⟩, ?_⟩ <;> simp <;> simp at z0 z1 z2 z3 z4 z5 <;> omega
theorem nm7_b {b : Int → Int} {q : Int} : ∀ {k : Nat}, k ≤ 6 → (∀ i, q ≤ i → i < q + k → isL (b i)) → 0 ≤ nm7 b q k ∧ nm7 b q k ≤ 400000000
  | 0, _, _ => ⟨Int.le_refl 0, show (0 : Int) ≤ 400000000 by decide⟩
  | k + 1, hk, hd => by
    have h0 := nm7_b (k := k) (by omega) (fun i a c => hd i a (by omega))
    have g := hd (q + k) (by omega) (by omega)
    have g1 := g.1
    have e : nm7 b q (k + 1) = 27 * nm7 b q k + b (q + k) - 97 + 1 := rfl
    refine ⟨by rw [e]; omega, (nm7_nr (by omega) hk hd).2⟩
theorem m_name (h : MP b n M T) : (hk T = 1 ∧ ∃ m M1, f_X12_name M = some (m, M1) ∧ NR m (hv T) ∧ MP b n M1 T.tail ∧ M1 337 30 = hq T ∧ Fr ScP M M1) ∨ (hk T ≠ 1 ∧ ∃ M1, f_X12_name M = some (0, M1) ∧ ME M1 1 (if hk T = 5 then hq T + 6 else hq T) ∧ Fr ScP M M1) := by
  obtain ⟨a0, a1, a2, a3, a4, a5, a6, a7, a8⟩ := id h.lo
  obtain ⟨l1, l2, l3, l4⟩ := h.2.2.2.2.2.1.hd
  have no : hk T ≠ 1 → hk T ≠ 5 → j_X12_name_37 (lk M T) = f_X12_name M → (hk T = 1 ∧ ∃ m M1, f_X12_name M = some (m, M1) ∧ NR m (hv T) ∧ MP b n M1 T.tail ∧ M1 337 30 = hq T ∧ Fr ScP M M1) ∨ (hk T ≠ 1 ∧ ∃ M1, f_X12_name M = some (0, M1) ∧ ME M1 1 (if hk T = 5 then hq T + 6 else hq T) ∧ Fr ScP M M1) := by
    intro q1 q2 e
    right
    rw [if_neg q2, ← e]
    unfold j_X12_name_37
    rw [m_fail a0, cl_some, lk_at]
    exact ⟨q1, _, rfl, me_fail (by decide), fr_fail (lk_fr M T) _ _⟩
  have start : f_X12_name M = if isL (lkv b T) then (if lk M T 337 2 = lk M T 337 4 then j_X12_name_37 (lk M T) else (if hk T = 2 then j_X12_name_37 (lk M T) else wl1 (b_X12_name_58) FU (st (lk M T) 337 30 (lk M T 337 2)) 0)) else j_X12_name_37 (lk M T) := by
    unfold f_X12_name
    rw [if_pos h.1, m_look h, cl_some, e_mL, cl_some, bI_ite, m_isOwnHere h, cl_some, bI_ite]
    rfl
  by_cases hL : isL (lkv b T)
  · rw [if_pos hL] at start
    have hL' := hL
    unfold lkv at hL'
    rcases l4 with ⟨l4, l5⟩ | ⟨l4, t, r, l5, l6, l7, l8⟩
    · rw [if_pos l5] at hL'
      have := hL'.1
      omega
    rw [if_neg (by rw [l5]; exact l7.nz)] at hL'
    obtain ⟨⟨d1, d2, d3, d4⟩, c2⟩ : tkR isL b n (hq T) r ∧ tkW b (hq T) r t := by
      rcases l7.kd with ⟨-, q1, q2⟩ | ⟨-, q, -⟩ | ⟨q, -⟩
      · exact ⟨q1, q2⟩
      · exact absurd hL' q
      · exact absurd hL' q
    by_cases hg : lk M T 337 2 = lk M T 337 4
    · rw [if_pos hg] at start
      have hg2 := a7.mp hg.symm
      rw [lk_at] at hg2
      rcases c2 with ⟨-, c2⟩ | ⟨c2, -⟩
      · exact no (by omega) (by omega) start.symm
      · exact absurd hg2 c2
    rw [if_neg hg] at start
    by_cases h2 : hk T = 2
    · rw [if_pos h2] at start
      exact no (by omega) (by omega) start.symm
    rw [if_neg h2] at start
    have hg2 : ¬ glu b (hq T) := by rw [← lk_at M T]; exact fun q => hg (a7.mpr q).symm
    have hc : (6 < r - hq T ∧ hk T = 5) ∨ (r - hq T ≤ 6 ∧ hk T = 1 ∧ hv T = nam b (hq T) (r - hq T)) := by
      rw [l5] at h2 ⊢
      rw [l6]
      rcases c2 with ⟨c2, -⟩ | ⟨-, c2 | ⟨c3, ⟨c4, -⟩ | ⟨c4, c5, -⟩⟩⟩
      · exact absurd c2 hg2
      · exact Or.inl c2
      · exact absurd c4 h2
      · exact Or.inr ⟨c3, c4, c5⟩
    rw [start]
    show (hk T = 1 ∧ Tt (wl1 (b_X12_name_58) FU (st (lk M T) 337 30 (lk M T 337 2)) 0) (fun m M1 => NR m (hv T) ∧ MP b n M1 T.tail ∧ M1 337 30 = hq T ∧ Fr ScP M M1)) ∨ _
    rw [lk_at]
    have hq0 : 0 ≤ hq T := by rw [← lk_at M T]; exact a4
    have hyp : Tt (wl1 (b_X12_name_58) FU (st (lk M T) 337 30 (hq T)) 0) (fun m M1 => (hk T = 1 ∧ NR m (hv T) ∧ MP b n M1 T.tail ∧ M1 337 30 = hq T ∧ Fr ScP M M1) ∨ (hk T ≠ 1 ∧ m = 0 ∧ ME M1 1 (if hk T = 5 then hq T + 6 else hq T) ∧ Fr ScP M M1)) := by
      refine tt_wl1 (fun M1 x1 => hq T ≤ M1 337 2 ∧ M1 337 2 ≤ r ∧ M1 337 2 ≤ hq T + 6 ∧ M1 = st (st M 337 30 (hq T)) 337 2 (M1 337 2) ∧ x1 = nm7 b (hq T) (M1 337 2 - hq T).toNat) (fun M1 _ => (r - M1 337 2).toNat) ?_ FU _ 0 ?_ ?_
      · rintro w M1 x1 ⟨i1, i2, i3, i4, rfl⟩ K
        have f1 : Fr ScP M M1 := by rw [i4]; exact Fr.st (Fr.st (Fr.rf _ _) (by unfold ScP; omega)) (by unfold ScP; omega)
        have b5 : M1 337 5 = 0 := by rw [i4, st_neI (by decide), st_neI (by decide)]; exact h.1
        have b30 : M1 337 30 = hq T := by rw [i4, st_neI (by decide), st_at]
        have e338 : ∀ i, M1 338 i = lk M T 338 i := fun i => by rw [i4, st_neA (by decide), st_neA (by decide)]; exact (st_neA (by decide)).symm
        have e3 : M1 337 3 = n := by rw [i4, st_neI (by decide), st_neI (by decide)]; exact h.2.1
        have nb := nm7_b (b := b) (q := hq T) (k := (M1 337 2 - hq T).toNat) (by omega) (fun i x y => d3 i x (by omega))
        have ex : M1 337 2 = r → Tt (some (nm7 b (hq T) (M1 337 2 - hq T).toNat, st M1 337 4 (M1 337 2))) (fun m M1 => (hk T = 1 ∧ NR m (hv T) ∧ MP b n M1 T.tail ∧ M1 337 30 = hq T ∧ Fr ScP M M1) ∨ (hk T ≠ 1 ∧ m = 0 ∧ ME M1 1 (if hk T = 5 then hq T + 6 else hq T) ∧ Fr ScP M M1)) := by
          intro er
          rw [er]
          refine tt_ret (Or.inl ?_)
          rcases hc with ⟨c1, -⟩ | ⟨c1, c3, c4⟩
          · omega
          refine ⟨c3, ?_, h.go (Fr.st f1 (by unfold ScP; omega)) ?_ ?_ ?_ ?_ (by rw [st_neI (by decide), i4, st_neI (by decide), st_neI (by decide)]), ?_, Fr.st f1 (by unfold ScP; omega)⟩
          · rw [c4]
            have := (nm7_nr (b := b) (q := hq T) (k := (r - hq T).toNat) (by omega) (by omega) (fun i x y => d3 i x (by omega))).1
            rw [show (((r - hq T).toNat : Nat) : Int) = r - hq T by omega] at this
            exact this
          · rw [st_neI (by decide)]; exact b5
          · rw [st_neI (by decide), er]; omega
          · rw [st_neI (by decide), er]; exact l8
          · rw [st_at, st_neI (by decide), er]
            exact ⟨Int.le_refl _, fun _ => ⟨by omega, Or.inl (d3 _ (by omega) (by omega))⟩, fun _ => rfl⟩
          · rw [st_neI (by decide)]; exact b30
        unfold b_X12_name_58
        rw [e3]
        refine tt_if (fun c => tt_bm (ex (by omega))) (fun c => ?_)
        refine tt_ok ⟨by omega, by omega⟩ ?_
        rw [e338, (a3 _ (by omega) (by omega)).1]
        refine tt_cq (e_mL _ _) ?_
        rw [bI_ite]
        refine tt_if (fun c2 => ?_) (fun c2 => tt_bm (ex ?_))
        · have hrr : M1 337 2 < r := by
            by_cases e : M1 337 2 = r
            · rcases d4 with d4 | d4
              · omega
              · rw [← e] at d4; exact absurd c2 d4
            · omega
          rw [b30]
          refine tt_ok ⟨by omega, by omega⟩ (tt_if (fun c3 => ?_) (fun c3 => ?_))
          · refine tt_cq (m_fail b5 _ _) (tt_ret (Or.inr ?_))
            have h5 : hk T = 5 := by
              rcases hc with ⟨-, c1⟩ | ⟨c1, -⟩
              · exact c1
              · omega
            rw [if_pos h5]
            refine ⟨by omega, rfl, ?_, fr_fail f1 _ _⟩
            rw [show M1 337 2 = hq T + 6 by omega]
            exact me_fail (by decide)
          · have g := a3 (M1 337 2) (by omega) (by omega)
            have c21 := c2.1
            have c22 := c2.2
            refine tt_ok ⟨by omega, by omega⟩ (tt_ok ⟨by omega, by omega⟩ ?_)
            rw [e338, g.1]
            refine tt_ok ⟨by omega, by omega⟩ (tt_ok ⟨by omega, by omega⟩ (tt_ok ⟨by omega, by omega⟩ (tt_bi (tt_bm (K _ _ ⟨?_, ?_, ?_, ?_, ?_⟩ ?_)))))
            · rw [st_at]; omega
            · rw [st_at]; omega
            · rw [st_at]; omega
            · rw [st_at]
              have hv : ∀ v, st M1 337 2 v = st (st M 337 30 (hq T)) 337 2 v := fun v => by rw [i4]; exact st_st _ _ _ _ _
              exact hv _
            · rw [st_at, show (M1 337 2 + 1 - hq T).toNat = (M1 337 2 - hq T).toNat + 1 by omega]
              show _ = 27 * nm7 b (hq T) (M1 337 2 - hq T).toNat + b (hq T + ((M1 337 2 - hq T).toNat : Nat)) - 97 + 1
              rw [show hq T + (((M1 337 2 - hq T).toNat : Nat) : Int) = M1 337 2 by omega]
            · rw [st_at]; omega
        · by_cases e : M1 337 2 = r
          · exact e
          · exact absurd (d3 _ i1 (by omega)) c2
      · rw [st_neI (by decide), lk_at]
        refine ⟨Int.le_refl _, by omega, by omega, ?_, by rw [show (hq T - hq T).toNat = 0 by omega]; rfl⟩
        funext x y
        unfold lk st
        by_cases e1 : x = 337 ∧ y = 30
        · simp [e1]
        · by_cases e2 : x = 337 ∧ y = 2
          · simp [e2]
          · simp [e1, e2]
      · have : FU = 1000000000 := rfl
        rw [st_neI (by decide), lk_at]; omega
    obtain ⟨m, M1, e, q⟩ := hyp
    rcases q with ⟨q1, q2⟩ | ⟨q1, rfl, q2⟩
    · exact Or.inl ⟨q1, m, M1, e, q2⟩
    · exact Or.inr ⟨q1, M1, e, q2⟩
  · rw [if_neg hL] at start
    have hk' : hk T ≠ 1 ∧ hk T ≠ 5 := by
      unfold lkv at hL
      rcases l4 with ⟨l4, l5⟩ | ⟨l4, t, r, l5, l6, l7, l8⟩
      · omega
      rw [if_neg (by rw [l5]; exact l7.nz)] at hL
      rw [l5]
      rcases l7.kd with ⟨q, -⟩ | ⟨-, -, -, q2⟩ | ⟨-, -, -, q2, -⟩
      · exact absurd q hL
      · rcases q2 with ⟨-, q2⟩ | ⟨-, ⟨-, q2⟩ | ⟨-, q2, -⟩⟩ <;> omega
      · omega
    exact no hk'.1 hk'.2 start.symm
end MT
