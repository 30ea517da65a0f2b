/-! SQUARES and LIGHT -/
theorem mul_rng {x y X Y : Int} (hx : 0 ≤ x ∧ x ≤ X) (hy : 0 ≤ y ∧ y ≤ Y) : 0 ≤ x * y ∧ x * y ≤ X * Y :=
  ⟨Int.mul_nonneg hx.1 hy.1, Int.mul_le_mul hx.2 hy.2 hy.1 (by omega)⟩
theorem sq_rng {x N : Int} (h : -N ≤ x ∧ x ≤ N) : 0 ≤ x * x ∧ x * x ≤ N * N := by
  rcases Int.le_total 0 x with q | q
  · exact mul_rng ⟨q, h.2⟩ ⟨q, h.2⟩
  · rw [show x * x = (-x) * (-x) by rw [Int.neg_mul_neg]]
    exact mul_rng ⟨by omega, by omega⟩ ⟨by omega, by omega⟩
def dist (s t : Int) : Int := 1 + (t % 12 - s % 12) * (t % 12 - s % 12) + (t / 12 - s / 12) * (t / 12 - s / 12)
theorem dist_rng {s t : Int} (hs : 0 ≤ s ∧ s < 96) (ht : 0 ≤ t ∧ t < 96) : 1 ≤ dist s t ∧ dist s t ≤ 171 ∧ (0 ≤ (t % 12 - s % 12) * (t % 12 - s % 12) ∧ (t % 12 - s % 12) * (t % 12 - s % 12) ≤ 121) ∧ (0 ≤ (t / 12 - s / 12) * (t / 12 - s / 12) ∧ (t / 12 - s / 12) * (t / 12 - s / 12) ≤ 49) := by
  have h1 := sq_rng (x := t % 12 - s % 12) (N := 11) (by omega)
  have h2 := sq_rng (x := t / 12 - s / 12) (N := 7) (by omega)
  unfold dist
  refine ⟨?_, ?_, ?_, ?_⟩ <;> omega
/-- SIGHT of each SQUARE -/
def SgOk (g : Int → Int) : Prop := ∀ s, 0 ≤ s → s < 96 → 0 ≤ g s ∧ g s ≤ 9
def lst (g : Int → Int) (s b t : Int) : Int := if t = s ∨ g t = 0 then 0 else b * g t / (9 * dist s t)
def lmx (g : Int → Int) (s b : Int) : Nat → Int
  | 0 => 0
  | n + 1 => max (lmx g s b n) (lst g s b n)
/-- LIGHT -/
def lit (g : Int → Int) (s b : Int) : Int := lmx g s b 96
theorem ediv_le_num {x y : Int} (hx : 0 ≤ x) (hy : 1 ≤ y) : 0 ≤ x / y ∧ x / y ≤ x := ed_nn hx (by omega)
theorem lst_rng {g : Int → Int} (hg : SgOk g) {s b t : Int} (hs : 0 ≤ s ∧ s < 96) (hb : 0 ≤ b ∧ b ≤ 99) (ht : 0 ≤ t ∧ t < 96) : 0 ≤ lst g s b t ∧ lst g s b t ≤ 99 := by
  unfold lst
  split
  · omega
  · have h1 := mul_rng hb (hg t ht.1 ht.2)
    have h2 := dist_rng hs ht
    refine ⟨Int.ediv_nonneg h1.1 (by omega), ?_⟩
    exact Int.ediv_le_of_le_mul (by omega) (by omega)
theorem lmx_rng {g : Int → Int} (hg : SgOk g) {s b : Int} (hs : 0 ≤ s ∧ s < 96) (hb : 0 ≤ b ∧ b ≤ 99) : ∀ n : Nat, n ≤ 96 → 0 ≤ lmx g s b n ∧ lmx g s b n ≤ 99
  | 0, _ => ⟨Int.le_refl 0, show (0 : Int) ≤ 99 by decide⟩
  | n + 1, h => by
    have h1 := lmx_rng hg hs hb n (by omega)
    have h2 := lst_rng hg hs hb (t := n) ⟨by omega, by omega⟩
    show 0 ≤ max _ _ ∧ max _ _ ≤ 99
    omega
theorem lit_rng {g : Int → Int} (hg : SgOk g) {s b : Int} (hs : 0 ≤ s ∧ s < 96) (hb : 0 ≤ b ∧ b ≤ 99) : 0 ≤ lit g s b ∧ lit g s b ≤ 99 := lmx_rng hg hs hb 96 (by omega)
theorem m_light {g : Int → Int} (hg : SgOk g) {M : Mem} (hM : ∀ s, 0 ≤ s → s < 96 → M 388 s = g s) {s b : Int} (hs : 0 ≤ s ∧ s < 96) (hb : 0 ≤ b ∧ b ≤ 99) : f_X12_lightAt M s b = some (lit g s b, M) := by
  have q : Tt (f_X12_lightAt M s b) (fun r M1 => r = lit g s b ∧ M1 = M) := by
    unfold f_X12_lightAt
    refine tt_wl2 (fun M1 x t => M1 = M ∧ 0 ≤ t ∧ t ≤ 96 ∧ x = lmx g s b t.toNat) (fun _ _ t => (96 - t).toNat) ?_ FU M 0 0 ⟨rfl, by omega, by omega, rfl⟩ (by unfold FU; omega)
    rintro w M1 x t ⟨rfl, h1, h2, rfl⟩ k
    unfold b_X12_lightAt_5
    refine tt_if (fun h => ?_) (fun h => ?_)
    · refine tt_ret ⟨?_, rfl⟩
      have : t = 96 := by omega
      subst this; rfl
    · have h3 : t < 96 := by omega
      have hn : (t + 1).toNat = t.toNat + 1 := by omega
      have ht : ((t.toNat : Nat) : Int) = t := by omega
      have hl := lmx_rng hg hs hb t.toNat (by omega)
      have next : ∀ y, y = max (lmx g s b t.toNat) (lst g s b t) → Tt (w M1 y (t + 1)) (fun r M2 => r = lit g s b ∧ M2 = M1) := by
        intro y hy
        refine k M1 y (t + 1) ⟨rfl, by omega, by omega, ?_⟩ (by omega)
        rw [hy, hn]
        show _ = max (lmx g s b t.toNat) (lst g s b (t.toNat : Int))
        rw [ht]
      refine tt_if (fun h4 => ?_) (fun h4 => ?_)
      · refine tt_ok ⟨by omega, by omega⟩ (tt_bi (next _ ?_))
        unfold lst; rw [if_pos (Or.inl h4)]; omega
      · refine tt_ok ⟨by omega, by omega⟩ (tt_if (fun h5 => ?_) (fun h5 => ?_))
        · rw [hM t h1 h3] at h5
          refine tt_bi (next _ ?_)
          unfold lst; rw [if_pos (Or.inr h5)]; omega
        · rw [hM t h1 h3] at h5 ⊢
          obtain ⟨d1, d2, d3, d4⟩ := dist_rng hs ⟨h1, h3⟩
          have hbs := mul_rng hb (hg t h1 h3)
          have hlv : lst g s b t = b * g t / (9 * dist s t) := by unfold lst; rw [if_neg (by rintro (q | q); exact h4 q; exact h5 q)]
          unfold dist at d1 d2 hlv
          refine tt_ok (by omega) (tt_ok ⟨by omega, by omega⟩ (tt_bi (tt_ok ⟨by omega, by omega⟩ (tt_bi ?_))))
          refine tt_ok ⟨by omega, by omega⟩ (tt_ok ⟨by omega, by omega⟩ (tt_ok ⟨by omega, by omega⟩ (tt_ok ⟨by omega, by omega⟩ (tt_ok ⟨by omega, by omega⟩ (tt_ok ⟨by omega, by omega⟩ (tt_ok ⟨by omega, by omega⟩ (tt_bi ?_)))))))
          refine tt_if (fun h6 => ?_) (fun h6 => ?_)
          · refine tt_bi (next _ ?_)
            rw [hlv]; omega
          · refine tt_bi (next _ ?_)
            rw [hlv]; omega
  obtain ⟨r, M1, q1, rfl, rfl⟩ := q
  exact q1
/-- the class keeps for each SQUARE the SIGHT and span by which it has most LIGHT -/
def BestL (g : Int → Int) (s S P : Int) (n : Nat) : Prop := (S = 0 ∧ P = 1 ∧ ∀ t : Int, 0 ≤ t → t < n → t = s ∨ g t = 0) ∨ ((∃ t : Int, 0 ≤ t ∧ t < n ∧ ¬ (t = s ∨ g t = 0) ∧ S = g t ∧ P = dist s t) ∧ ∀ t : Int, 0 ≤ t → t < n → ¬ (t = s ∨ g t = 0) → g t * P ≤ S * dist s t)
def Lcache (g : Int → Int) (M : Mem) : Prop := ∀ s, 0 ≤ s → s < 96 → M 20 s = 0 ∨ BestL g s (M 19 s) (M 20 s) 96
theorem best_lit {g : Int → Int} (hg : SgOk g) {s b S P : Int} (hs : 0 ≤ s ∧ s < 96) (hb : 0 ≤ b ∧ b ≤ 99) : ∀ n : Nat, n ≤ 96 → BestL g s S P n → lmx g s b n = b * S / (9 * P)
  | n, hn, h => by
    have key : ∀ (m : Nat) (V : Int), m ≤ 96 → 0 ≤ V → (∀ t : Int, 0 ≤ t → t < m → lst g s b t ≤ V) → lmx g s b m ≤ V := by
      intro m
      induction m with
      | zero => intro V _ hV _; exact hV
      | succ m ih =>
        intro V hm hV hall
        show max _ _ ≤ V
        have := ih V (by omega) hV (fun t h1 h2 => hall t h1 (by omega))
        have := hall m (by omega) (by omega)
        omega
    have low : ∀ (m : Nat), m ≤ 96 → ∀ t : Int, 0 ≤ t → t < m → lst g s b t ≤ lmx g s b m := by
      intro m
      induction m with
      | zero => intro _ t h1 h2; omega
      | succ m ih =>
        intro hm t h1 h2
        show _ ≤ max (lmx g s b m) (lst g s b (m : Int))
        by_cases e : t = (m : Int)
        · subst e; omega
        · have := ih (by omega) t h1 (by omega)
          omega
    have hl := lmx_rng hg hs hb n hn
    rcases h with ⟨rfl, rfl, hall⟩ | ⟨⟨t, t1, t2, t3, rfl, rfl⟩, hall⟩
    · rw [Int.mul_zero, Int.zero_ediv]
      have := key n 0 hn (Int.le_refl _) (fun t h1 h2 => by unfold lst; rw [if_pos (hall t h1 h2)]; exact Int.le_refl _)
      omega
    · have hd := dist_rng hs ⟨t1, (by omega : t < 96)⟩
      have hbs := mul_rng hb (hg t t1 (by omega))
      have e : lst g s b t = b * g t / (9 * dist s t) := by unfold lst; rw [if_neg t3]
      apply Int.le_antisymm
      · refine key n _ hn (Int.ediv_nonneg hbs.1 (by omega)) (fun u u1 u2 => ?_)
        unfold lst
        split
        · exact Int.ediv_nonneg hbs.1 (by omega)
        · rename_i hu
          have hdu := dist_rng hs ⟨u1, (by omega : u < 96)⟩
          have hx := hall u u1 u2 hu
          have hbu := mul_rng hb (hg u u1 (by omega))
          rw [Int.le_ediv_iff_mul_le (by omega)]
          have h1 : b * g u / (9 * dist s u) * (9 * dist s u) ≤ b * g u := Int.ediv_mul_le _ (by omega)
          have h0 : 0 ≤ b * g u / (9 * dist s u) := Int.ediv_nonneg hbu.1 (by omega)
          have h2 : b * g u / (9 * dist s u) * (9 * dist s t) * dist s u ≤ b * g t * dist s u := by
            have a1 : b * g u / (9 * dist s u) * (9 * dist s t) * dist s u = b * g u / (9 * dist s u) * (9 * dist s u) * dist s t := by
              ac_rfl
            have a2 : b * g u / (9 * dist s u) * (9 * dist s u) * dist s t ≤ b * g u * dist s t := Int.mul_le_mul_of_nonneg_right h1 (by omega)
            have a3 : b * g u * dist s t ≤ b * g t * dist s u := by
              rw [Int.mul_assoc, Int.mul_assoc]
              exact Int.mul_le_mul_of_nonneg_left hx hb.1
            omega
          exact Int.le_of_mul_le_mul_right h2 (by omega)
      · rw [← e]
        exact low n hn t t1 t2
theorem mul_pos_of {x y : Int} (hx : 0 < x) (hy : 0 < y) : 0 < x * y := Int.mul_pos hx hy
theorem x_look {g : Int → Int} (hg : SgOk g) {M : Mem} (hM : ∀ s, 0 ≤ s → s < 96 → M 14 s = g s) {s : Int} (hs : 0 ≤ s ∧ s < 96) : ∃ S P, f_X3_lookForLight M s = some (0, st (st M 19 s S) 20 s P) ∧ BestL g s S P 96 := by
  have q : Tt (f_X3_lookForLight M s) (fun r M1 => r = 0 ∧ ∃ S P, M1 = st (st M 19 s S) 20 s P ∧ BestL g s S P 96) := by
    unfold f_X3_lookForLight
    refine tt_wl3 (fun M1 S P t => M1 = M ∧ 0 ≤ t ∧ t ≤ 96 ∧ BestL g s S P t.toNat ∧ (0 ≤ S ∧ S ≤ 9) ∧ (1 ≤ P ∧ P ≤ 171)) (fun _ _ _ t => (96 - t).toNat) ?_ FU M 0 1 0 ⟨rfl, by omega, by omega, Or.inl ⟨rfl, rfl, fun t h1 h2 => by omega⟩, by omega, by omega⟩ (by unfold FU; omega)
    rintro w M1 S P t ⟨rfl, h1, h2, hB, hS, hP⟩ k
    unfold b_X3_lookForLight_7
    refine tt_if (fun h => ?_) (fun h => ?_)
    · have e : t = 96 := by omega
      subst e
      exact tt_ok hs (tt_bm (tt_bm (tt_ret ⟨rfl, S, P, rfl, hB⟩)))
    · have h3 : t < 96 := by omega
      have hn : (t + 1).toNat = t.toNat + 1 := by omega
      have ht : ((t.toNat : Nat) : Int) = t := by omega
      have skip : (t = s ∨ g t = 0) → BestL g s S P (t + 1).toNat := by
        intro h5
        rcases hB with ⟨e1, e2, e3⟩ | ⟨⟨u, u1, u2, u3, u4, u5⟩, e3⟩
        · refine Or.inl ⟨e1, e2, fun v v1 v2 => ?_⟩
          by_cases hv : v = t
          · subst hv; exact h5
          · exact e3 v v1 (by omega)
        · refine Or.inr ⟨⟨u, u1, by omega, u3, u4, u5⟩, fun v v1 v2 v3 => ?_⟩
          by_cases hv : v = t
          · subst hv; exact absurd h5 v3
          · exact e3 v v1 (by omega) v3
      refine tt_if (fun h4 => ?_) (fun h4 => ?_)
      · exact tt_ok ⟨by omega, by omega⟩ (tt_bi (k M1 S P (t + 1) ⟨rfl, by omega, by omega, skip (Or.inl h4), hS, hP⟩ (by omega)))
      · refine tt_ok ⟨by omega, by omega⟩ (tt_if (fun h5 => ?_) (fun h5 => ?_))
        · rw [hM t h1 h3] at h5
          have := hg t h1 h3
          exact tt_bi (k M1 S P (t + 1) ⟨rfl, by omega, by omega, skip (Or.inr (by omega)), hS, hP⟩ (by omega))
        · rw [hM t h1 h3] at h5 ⊢
          obtain ⟨d1, d2, d3, d4⟩ := dist_rng hs ⟨h1, h3⟩
          have hgt := hg t h1 h3
          have hd : dist s t = 1 + (t % 12 - s % 12) * (t % 12 - s % 12) + (t / 12 - s / 12) * (t / 12 - s / 12) := rfl
          have m1 := mul_rng hgt (show 0 ≤ P ∧ P ≤ 171 by omega)
          have m2 := mul_rng hS (show 0 ≤ dist s t ∧ dist s t ≤ 171 by omega)
          have hnt : ¬ (t = s ∨ g t = 0) := by rintro (q | q); exact h4 q; omega
          refine tt_ok (by omega) (tt_ok ⟨by omega, by omega⟩ (tt_bi (tt_ok ⟨by omega, by omega⟩ (tt_bi ?_))))
          refine tt_ok ⟨by omega, by omega⟩ (tt_ok ⟨by omega, by omega⟩ (tt_ok ⟨by omega, by omega⟩ (tt_ok ⟨by omega, by omega⟩ (tt_bi ?_))))
          rw [← hd]
          refine tt_ok ⟨by omega, by omega⟩ (tt_ok ⟨by omega, by omega⟩ (tt_if (fun h6 => ?_) (fun h6 => ?_)))
          · refine tt_bi (k M1 S P (t + 1) ⟨rfl, by omega, by omega, ?_, hS, hP⟩ (by omega))
            rcases hB with ⟨e1, e2, e3⟩ | ⟨⟨u, u1, u2, u3, u4, u5⟩, e3⟩
            · exfalso
              rw [e1, e2, Int.zero_mul, Int.mul_one] at h6
              omega
            · refine Or.inr ⟨⟨u, u1, by omega, u3, u4, u5⟩, fun v v1 v2 v3 => ?_⟩
              by_cases hv : v = t
              · subst hv; exact h6
              · exact e3 v v1 (by omega) v3
          · refine tt_bi (tt_bi (k M1 (g t) (dist s t) (t + 1) ⟨rfl, by omega, by omega, ?_, by omega, by omega⟩ (by omega)))
            refine Or.inr ⟨⟨t, h1, by omega, hnt, rfl, rfl⟩, fun v v1 v2 v3 => ?_⟩
            by_cases hv : v = t
            · subst hv; exact Int.le_refl _
            · rcases hB with ⟨e1, e2, e3⟩ | ⟨⟨u, u1, u2, u3, u4, u5⟩, e3⟩
              · exact absurd (e3 v v1 (by omega)) v3
              · have a1 := e3 v v1 (by omega) v3
                have hdv := dist_rng hs ⟨v1, (by omega : v < 96)⟩
                -- g v * P ≤ S * dv, S * dt < g t * P  ⊢  g v * dt ≤ g t * dv
                have b1 : g v * P * dist s t ≤ S * dist s v * dist s t := Int.mul_le_mul_of_nonneg_right a1 (by omega)
                have b2 : S * dist s t * dist s v ≤ g t * P * dist s v := Int.mul_le_mul_of_nonneg_right (by omega) (by omega)
                have b3 : S * dist s v * dist s t = S * dist s t * dist s v := by ac_rfl
                have b4 : g v * P * dist s t = g v * dist s t * P := by ac_rfl
                have b5 : g t * P * dist s v = g t * dist s v * P := by ac_rfl
                exact Int.le_of_mul_le_mul_right (show g v * dist s t * P ≤ g t * dist s v * P by omega) (by omega)
  obtain ⟨r, M1, q1, rfl, S, P, rfl, q2⟩ := q
  exact ⟨S, P, q1, q2⟩
def ScL (a _i : Int) : Prop := a = 19 ∨ a = 20
theorem x_light {g : Int → Int} (hg : SgOk g) {M : Mem} (hM : ∀ s, 0 ≤ s → s < 96 → M 14 s = g s) (hL : Lcache g M) {s b : Int} (hs : 0 ≤ s ∧ s < 96) (hb : 0 ≤ b ∧ b ≤ 99) : ∃ M1, f_X3_lightAt M s b = some (lit g s b, M1) ∧ Fr ScL M M1 ∧ Lcache g M1 := by
  have fin : ∀ M1 : Mem, BestL g s (M1 19 s) (M1 20 s) 96 → j_X3_lightAt_14 s b M1 = some (lit g s b, M1) := by
    intro M1 hB
    have hr : (0 ≤ M1 19 s ∧ M1 19 s ≤ 9) ∧ 1 ≤ M1 20 s ∧ M1 20 s ≤ 171 := by
      rcases hB with ⟨e1, e2, -⟩ | ⟨⟨t, t1, t2, t3, t4, t5⟩, -⟩
      · omega
      · have := hg t t1 (by omega)
        have := dist_rng hs ⟨t1, (by omega : t < 96)⟩
        omega
    have hm := mul_rng hb hr.1
    unfold j_X3_lightAt_14
    rw [ok_t hs, ok_t ⟨by omega, by omega⟩, e_max, cl_some, Int.max_eq_right (by omega), ok_t ⟨by omega, by omega⟩, ok_t ⟨by omega, by omega⟩]
    unfold lit
    rw [best_lit hg hs hb 96 (by omega) hB]
  unfold f_X3_lightAt
  rw [ok_t hs]
  by_cases h : M 20 s = 0
  · rw [if_pos h]
    obtain ⟨S, P, e, hB⟩ := x_look hg hM hs
    rw [e, cl_some]
    have e19 : st (st M 19 s S) 20 s P 19 s = S := by rw [st_neA (by decide), st_at]
    have e20 : st (st M 19 s S) 20 s P 20 s = P := st_at _ _ _ _
    refine ⟨_, fin _ (by rw [e19, e20]; exact hB), Fr.st (Fr.st (Fr.rf _ _) (Or.inl rfl)) (Or.inr rfl), ?_⟩
    intro t t1 t2
    by_cases ht : t = s
    · subst ht; right; rw [e19, e20]; exact hB
    · rw [st_neI ht, st_neA (by decide), st_neA (by decide), st_neI ht]
      exact hL t t1 t2
  · rw [if_neg h]
    exact ⟨M, fin M ((hL s hs.1 hs.2).resolve_left h), Fr.rf _ _, hL⟩
