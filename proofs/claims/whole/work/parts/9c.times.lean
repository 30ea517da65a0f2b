/-! times: both readers -/
/-- if it ends at all, then so -/
def Pc (R : Res) (P : Int → Mem → Prop) : Prop := ∀ r M, R = some (r, M) → P r M
theorem pc_rt {r : Int} {M : Mem} {P : Int → Mem → Prop} (h : P r M) : Pc (some (r, M)) P := by
  intro r' M' e
  cases e
  exact h
theorem pc_ok {c : Prop} [Decidable c] {o : Res} {P : Int → Mem → Prop} (h : c → Pc o P) : Pc (ok c o) P := by
  intro r M e
  by_cases q : c
  · rw [ok_t q] at e; exact h q r M e
  · rw [ok, if_neg q] at e; cases e
theorem pc_if {c : Prop} [Decidable c] {o o' : Res} {P : Int → Mem → Prop} (h : c → Pc o P) (h' : ¬ c → Pc o' P) : Pc (if c then o else o') P := by
  by_cases q : c
  · rw [if_pos q]; exact h q
  · rw [if_neg q]; exact h' q
theorem pc_bm {M : Mem} {K : Mem → Res} {P : Int → Mem → Prop} (h : Pc (K M) P) : Pc (bm M K) P := h
theorem pc_bi {x : Int} {K : Int → Res} {P : Int → Mem → Prop} (h : Pc (K x) P) : Pc (bi x K) P := h
theorem pc_cl {R : Res} {K : Int → Mem → Res} {P Q : Int → Mem → Prop} (hR : Pc R Q) (h : ∀ r M, Q r M → Pc (K r M) P) : Pc (cl R K) P := by
  intro r M e
  cases hr : R with
  | none => rw [hr] at e; cases e
  | some z =>
    obtain ⟨r1, M1⟩ := z
    rw [hr, cl_some] at e
    exact h r1 M1 (hR r1 M1 hr) r M e
theorem pc_any (R : Res) : Pc R (fun _ _ => True) := fun _ _ _ => trivial
theorem pc_wl2 {b : (Mem → Int → Int → Res) → Mem → Int → Int → Res} {P : Int → Mem → Prop} {I : Mem → Int → Int → Prop} (h : ∀ w M x y, I M x y → (∀ M x y, I M x y → Pc (w M x y) P) → Pc (b w M x y) P) : ∀ (F : Nat) (M : Mem) (x y : Int), I M x y → Pc (wl2 b F M x y) P
  | 0, _, _, _, _ => fun r M e => by cases e
  | F + 1, M, x, y, i => h _ M x y i (fun M x y i => pc_wl2 h F M x y i)
theorem pc_fail {p : Int} {M : Mem} (h : M 337 2 = p) (k q : Int) : Pc (f_X12_fail M k q) (fun _ M1 => M1 337 2 = p) := by
  unfold f_X12_fail
  refine pc_if (fun _ => pc_bm (pc_bm (pc_rt ?_))) (fun _ => pc_rt h)
  rw [st_neI (by decide), st_neI (by decide)]; exact h
theorem pc_isIn {M : Mem} (v l hh : Int) : Pc (f_X12_isIn M v l hh) (fun _ M1 => M1 = M) := by
  obtain ⟨q, e, -⟩ := e_isIn M v l hh
  intro r M1 e'
  rw [e] at e'
  cases e'
  rfl
theorem pc_isD {M : Mem} (c : Int) : Pc (f_X12_isDigit M c) (fun _ M1 => M1 = M) := by
  intro r M1 e'
  rw [e_mD] at e'
  cases e'
  rfl
theorem pc_numL {lo hi : Int} (F : Nat) (M : Mem) (x y : Int) (h : 0 ≤ M 337 2) : Pc (wl2 (b_X12_number_49 lo hi) F M x y) (fun _ M1 => 0 ≤ M1 337 2) := by
  have h129 : ∀ (M : Mem) (x y : Int), 0 ≤ M 337 2 → Pc (j_X12_number_129 lo hi M x y) (fun _ M1 => 0 ≤ M1 337 2) := by
    intro M x y h
    unfold j_X12_number_129
    refine pc_bm (pc_cl (pc_isIn _ _ _) (fun r M1 e => ?_))
    subst e
    have h4 : 0 ≤ st M 337 4 (M 337 2) 337 2 := by rw [st_neI (by decide)]; exact h
    exact pc_if (fun _ => pc_cl (pc_fail rfl _ _) (fun r M2 e2 => pc_rt (by rw [e2]; exact h4))) (fun _ => pc_rt h4)
  refine pc_wl2 (I := fun M _ _ => 0 ≤ M 337 2) (fun w M x y i K => ?_) F M x y h
  unfold b_X12_number_49
  refine pc_if (fun _ => h129 M x y i) (fun _ => pc_ok (fun _ => pc_cl (pc_isD _) (fun r M1 e => ?_)))
  subst e
  refine pc_if (fun _ => h129 M1 x y i) (fun _ => pc_ok (fun _ => pc_if (fun _ => pc_cl (pc_fail rfl _ _) (fun r M2 e2 => pc_rt (by rw [e2]; exact i))) (fun _ => ?_)))
  refine pc_ok (fun _ => pc_ok (fun _ => pc_ok (fun _ => pc_ok (fun _ => pc_bi (pc_bm (K _ _ _ ?_))))))
  rw [st_at]; omega
section TM
variable {b : Int → Int} {n sp : Int} {M Mm : Mem} {T : List Tok} {C : List Int}
theorem pc_num (h : MP b n M T) (lo hi : Int) : Pc (f_X12_number M lo hi) (fun _ M1 => 0 ≤ M1 337 2) := by
  have h0 : 0 ≤ lk M T 337 2 := h.lo.2.2.2.2.1
  have h30 : Pc (j_X12_number_30 (lk M T)) (fun _ M1 => 0 ≤ M1 337 2) := by
    unfold j_X12_number_30
    exact pc_cl (pc_fail rfl _ _) (fun r M2 e2 => pc_rt (by rw [e2]; exact h0))
  unfold f_X12_number
  rw [m_look h, cl_some]
  refine pc_if (fun _ => pc_cl (pc_isD _) (fun r M1 e => ?_)) (fun _ => pc_rt h.2.2.2.2.1)
  subst e
  exact pc_if (fun _ => h30) (fun _ => pc_if (fun _ => h30) (fun _ => pc_bi (pc_numL _ _ _ _ h0)))
/-- the look goes to its end on any tape -/
theorem m_lookA {n : Int} (hn : n ≤ 900) : ∀ (k F : Nat) (M : Mem), 0 ≤ M 337 2 → M 337 3 = n → n - M 337 2 ≤ k → k < F → ∃ v M1, wl0 b_X12_look_0 F M = some (v, M1) ∧ ∀ a i, ¬ (a = 337 ∧ i = 2) → M1 a i = M a i := by
  intro k
  induction k with
  | zero =>
    intro F M h2 h3 hk hF
    obtain ⟨G, rfl⟩ : ∃ G, F = G + 1 := ⟨F - 1, by omega⟩
    refine ⟨-1, M, ?_, fun _ _ _ => rfl⟩
    rw [wl0_s]
    unfold b_X12_look_0 j_X12_look_52
    rw [h3, if_pos (by omega), if_pos (by omega)]
  | succ k ih =>
    intro F M h2 h3 hk hF
    obtain ⟨G, rfl⟩ : ∃ G, F = G + 1 := ⟨F - 1, by omega⟩
    rw [wl0_s]
    by_cases c : n ≤ M 337 2
    · refine ⟨-1, M, ?_, fun _ _ _ => rfl⟩
      unfold b_X12_look_0 j_X12_look_52
      rw [h3, if_pos c, if_pos c]
    · have ih' := ih G (st M 337 2 (M 337 2 + 1)) (by rw [st_at]; omega) (by rw [st_neI (by decide)]; exact h3) (by rw [st_at]; omega) (by omega)
      generalize wl0 b_X12_look_0 G = w at ih' ⊢
      obtain ⟨v, M1, e1, f1⟩ := ih'
      have f2 : ∀ a i, ¬ (a = 337 ∧ i = 2) → M1 a i = M a i := fun a i z => (f1 a i z).trans (st_ne z)
      unfold b_X12_look_0
      rw [h3, if_neg c, ok_t ⟨by omega, by omega⟩]
      by_cases c1 : M 338 (M 337 2) = 10
      · rw [if_pos c1, bm_e]; exact ⟨v, M1, e1, f2⟩
      rw [if_neg c1]
      by_cases c2 : M 338 (M 337 2) = 32
      · rw [if_pos c2, bm_e]; exact ⟨v, M1, e1, f2⟩
      rw [if_neg c2]
      unfold j_X12_look_52
      rw [h3, if_neg c, ok_t ⟨by omega, by omega⟩]
      exact ⟨_, M, rfl, fun _ _ _ => rfl⟩
/-- the class behind the '[' of a times -/
def TmK (S : Mem → Int → Res) (s d : Int) (w2 : Mem → Int → Res) (x2 : Int) (R : Res) : Res := cl (cl R (fun r17 M18 => if r17 = 0 then (ok (kd (M18 4 1) = 17) (bm (st M18 s 9 (M18 (M18 4 1) 1)) (fun M22 => some (0, M22)))) else (cl (f_X5_readSign M18 93) (fun r23 M24 => if r23 = 0 then (ok (kd (M24 4 1) = 17) (bm (st M24 s 9 (M24 (M24 4 1) 1)) (fun M28 => some (0, M28)))) else (ok (kd (M24 4 1) = 17) (bm (st M24 s 9 (M24 (M24 4 1) 1)) (fun M30 => some (1, M30)))))))) (KX w2 x2)
def ScT8 (l a i : Int) : Prop := ScS a i ∨ (a = 376 ∧ i = 0) ∨ ((a = 377 ∨ a = 382) ∧ i = l) ∨ (a = 337 ∧ i = 52)
theorem ScP_8 {l : Int} {M M1 : Mem} (f : Fr ScP M M1) : Fr (ScT8 l) M M1 := f.mono (fun a i q => by unfold ScP at q; unfold ScT8 ScS; omega)
theorem ScT8_Y {l : Int} (hl : 0 ≤ l ∧ l < 80) {M M1 : Mem} (f : Fr (ScT8 l) M M1) : Fr ScY M M1 := f.mono (fun a i q => by unfold ScT8 ScS at q; unfold ScY ScS; omega)
theorem m_tm70 (h : M 337 5 ≠ 0) : j_X12_timesTold_45 M = some (0, M) := by
  unfold j_X12_timesTold_45 j_X12_timesTold_70
  rw [if_neg h, if_neg h]
theorem j_tmA (S : Mem → Int → Res) (w2 : Mem → Int → Res) (x2 : Int) {s l d : Int} (hs : sp + 4 ≤ s ∧ s ≤ sp + 43) (hl : 0 ≤ l ∧ l < 80) (hd : 0 ≤ d ∧ d ≤ 6) (x : XT b n sp M T C) (mc : MC b n Mm T C) (h52 : Mm 337 52 = d) (h376 : Mm 376 0 = l) : (∃ e p Mx1 Mm1, cl (f_X5_readTimes S M s d) (KX w2 x2) = some (0, Mx1) ∧ f_X12_timesTold Mm = some (0, Mm1) ∧ XE sp Mx1 e p ∧ ME Mm1 e p ∧ Fr (ScSt sp s) M Mx1 ∧ Fr (ScT8 l) Mm Mm1) ∨ (∃ Mx1 Mm1 T1, cl (f_X5_readTimes S M s d) (KX w2 x2) = TmK S s d w2 x2 (S Mx1 (d + 1)) ∧ f_X12_timesTold Mm = some (0, Mm1) ∧ d < 6 ∧ XT b n sp Mx1 T1 C ∧ MC b n Mm1 T1 C ∧ T1.length + 2 = T.length ∧ (Mm1 337 52 = d + 1 ∧ Mm1 376 0 = l + 1 ∧ Mm1 377 l = 1) ∧ (Mm1 382 l = Mx1 s 2 ∧ 1 ≤ Mx1 s 2 ∧ Mx1 s 2 ≤ 9) ∧ Fr (ScSt sp s) M Mx1 ∧ Fr (ScT8 l) Mm Mm1) := by
  have tk := x.1
  have hn := mc.1.2.2.1
  have hx := x_num x (lo := 1) (hi := 9) (by decide)
  have hm := m_number mc.1 1 9
  have hpc := pc_num mc.1 1 9
  unfold f_X5_readTimes f_X5_readNumber f_X12_timesTold
  cases hy : pNum 1 9 T with
  | error z =>
    obtain ⟨e, p⟩ := z
    rw [hy] at hx hm
    obtain ⟨M3, e3, x3, f3⟩ := hx
    obtain ⟨r, M4, e4, r0, m4, f4⟩ := hm
    left
    have h4 : 0 ≤ M4 337 2 := hpc r M4 e4
    have hF : FU = 1000000000 := rfl
    obtain ⟨v, M5, e5, f5⟩ := m_lookA (n := n) hn.2 901 FU (st M4 382 l r) (by rw [st_neA (by decide)]; exact h4) (by rw [st_neA (by decide), f4 337 3 (by unfold ScP; omega)]; exact mc.1.2.1) (by rw [st_neA (by decide)]; omega) (by omega)
    have e5' : f_X12_look (st M4 382 l r) = some (v, M5) := e5
    have k5 : ∀ i, i = 5 ∨ i = 6 → M5 337 i = M4 337 i := fun i hi => by rw [f5 _ _ (by omega), st_neA (by decide)]
    have hne : M5 337 5 ≠ 0 := by rw [k5 5 (Or.inl rfl), m4.1]; exact m4.2.2
    rw [e3, e4, cl_some, cl_some, bm_e, st_at, if_pos rfl, cl_some, if_pos rfl, cl_some, h376, ok_t ⟨by omega, by omega⟩, bm_e, e5', cl_some, if_neg hne, m_tm70 hne]
    unfold KX
    rw [if_pos rfl]
    refine ⟨e, p, _, M5, rfl, rfl, x3.ot (by omega), ⟨(k5 5 (Or.inl rfl)).trans m4.1, (k5 6 (Or.inr rfl)).trans m4.2.1, m4.2.2⟩, Fr.st (ScQ_St f3) (by unfold ScSt; omega), ?_⟩
    have f6 : Fr (ScT8 l) Mm (st M4 382 l r) := Fr.st (ScP_8 f4) (by unfold ScT8; omega)
    exact f6.tr (fun a i z => f5 a i (by unfold ScT8 ScS at z; omega))
  | ok z =>
    obtain ⟨v, T1⟩ := z
    rw [hy] at hx hm
    obtain ⟨M3, e3, v0, x3, f3⟩ := hx
    obtain ⟨M4, e4, m4, f4⟩ := hm
    obtain ⟨hv9, g1, g2⟩ := pNum_ok tk hy
    have x4 : XT b n sp (st M3 s 2 v) T1 C := x3.ot (by omega)
    have mc4 : MC b n M4 T1 C := ⟨m4, (f4 337 32 (by unfold ScP; omega)).trans mc.2.1, Seg.fr (fun i => f4 360 i (by unfold ScP; omega)) mc.2.2⟩
    have mc5 : MC b n (st M4 382 l v) T1 C := mc4.ot (by omega)
    have fx4 : Fr (ScSt sp s) M (st M3 s 2 v) := Fr.st (ScQ_St f3) (by unfold ScSt; omega)
    have fm5 : Fr (ScT8 l) Mm (st M4 382 l v) := Fr.st (ScP_8 f4) (by unfold ScT8; omega)
    have k3 := x4.2.2.2.2.2.1.2.2.1
    have b5 := mc5.1.lo.1
    have hsg := lkv_s (c := 91) m4.2.2.2.2.2.1 (by decide) (by decide) (by decide)
    rw [e3, e4, cl_some, cl_some, bm_e, st_at, if_neg (by omega), cl_some, if_neg (by decide), x_isSign x4 91, cl_some, bI_ite, h376, ok_t ⟨by omega, by omega⟩, bm_e, m_look mc5.1, cl_some, if_pos b5]
    by_cases c : isS T1 91
    · rw [if_pos c, if_pos (hsg.mpr c)]
      unfold j_X12_timesTold_45
      have e52 : lk (st M4 382 l v) T1 337 52 = d := by unfold lk; rw [st_neI (by decide), st_neA (by decide), f4 337 52 (by unfold ScP; omega)]; exact h52
      rw [if_pos b5, e52]
      by_cases c6 : d = 6
      · -- too deep
        left
        obtain ⟨M6, e6, x6, f6⟩ := x_ref x4 (k := 4) (by decide) (hq T1)
        rw [if_pos c6, if_neg (show ¬ d < 6 by omega), k3, e6, cl_some, ok_t (Or.inl rfl), m_fail b5, cl_some, lk_at, cl_some]
        have m6 : ME (st (st (lk (st M4 382 l v) T1) 337 5 4) 337 6 (hq T1)) 4 (hq T1) := me_fail (by decide)
        unfold KX j_X12_timesTold_70
        rw [if_pos rfl, if_neg (by rw [m6.1]; exact m6.2.2)]
        exact ⟨4, hq T1, M6, _, rfl, rfl, x6, m6, fx4.tr (ScQ_St f6), fm5.tr (ScP_8 (fr_fail (lk_fr _ _) _ _))⟩
      · right
        obtain ⟨M6, e6, x6, f6⟩ := x_step x4 (by omega)
        obtain ⟨t1, t2⟩ := g1.tl (by omega)
        rw [if_neg c6, if_pos (show d < 6 by omega), e6, cl_some, ok_t ⟨by omega, by omega⟩]
        unfold j_X12_timesTold_70
        have e2 : lk (st M4 382 l v) T1 337 2 = hq T1 := lk_at _ _
        have hh := g1.hd
        rcases m_takesSign mc5.1 (c := 91) (by decide) (by decide) (by decide) with ⟨-, M7, -, q1, q2, -, q4⟩ | ⟨q, -⟩
        · have e7 : st (lk (st M4 382 l v) T1) 337 2 (hq T1 + 1) = M7 := by rw [q4]; exact st_st _ _ _ _ _
          rw [if_pos b5, e2, ok_t ⟨by omega, by omega⟩, bm_e, e7]
          have g7 : ∀ a i, ¬ ScP a i → M7 a i = st M4 382 l v a i := fun a i z => q2 a i z
          have d7 : M7 337 52 = d := by rw [g7 _ _ (by unfold ScP; omega), st_neA (by decide), f4 337 52 (by unfold ScP; omega)]; exact h52
          have l7 : st M7 337 52 (d + 1) 376 0 = l := by rw [st_neA (by decide), g7 _ _ (by unfold ScP; omega), st_neA (by decide), f4 376 0 (by unfold ScP; omega)]; exact h376
          rw [d7, ok_t ⟨by omega, by omega⟩, bm_e, m_step l7 ⟨by omega, by omega⟩, cl_some]
          have mc7 : MC b n M7 T1.tail C := ⟨q1, (q2 337 32 (by unfold ScP; omega)).trans mc5.2.1, Seg.fr (fun i => q2 360 i (by unfold ScP; omega)) mc5.2.2⟩
          have s6 : M6 s 2 = v := by rw [f6 s 2 (by unfold ScQ; omega), st_at]
          refine ⟨M6, _, T1.tail, rfl, rfl, by omega, x6, ((mc7.ot (by omega)).ot (by omega)).ot (by omega), by omega, ⟨?_, st_at _ _ _ _, ?_⟩, ⟨?_, ?_, ?_⟩, fx4.tr (ScQ_St f6), ?_⟩
          · rw [st_neA (by decide), st_neA (by decide), st_at]
          · rw [st_neA (by decide), st_at]
          · rw [s6, st_neA (by decide), st_neA (by decide), st_neA (by decide), g7 _ _ (by unfold ScP; omega), st_at]
          · rw [s6]; exact hv9.1
          · rw [s6]; exact hv9.2
          · exact Fr.st (Fr.st (Fr.st (fm5.tr (ScP_8 q2)) (by unfold ScT8; omega)) (by unfold ScT8; omega)) (by unfold ScT8; omega)
        · exact absurd c q
    · left
      obtain ⟨M6, e6, x6, f6⟩ := x_ref x4 (k := 1) (by decide) (hq T1)
      have m6 : ME (st (st (lk (st M4 382 l v) T1) 337 5 1) 337 6 (hq T1)) 1 (hq T1) := me_fail (by decide)
      rw [if_neg c, if_neg (fun q => c (hsg.mp q)), k3, e6, cl_some, ok_t (Or.inl rfl), cl_some, m_fail b5, cl_some, lk_at, m_tm70 (by rw [m6.1]; exact m6.2.2)]
      unfold KX
      rw [if_pos rfl]
      exact ⟨1, hq T1, M6, _, rfl, rfl, x6, m6, fx4.tr (ScQ_St f6), fm5.tr (ScP_8 (fr_fail (lk_fr _ _) _ _))⟩
theorem MC.lo (h : MC b n M T C) : MC b n (lk M T) T C := ⟨h.1.lo, (st_neI (by decide)).trans h.2.1, Seg.fr (fun i => st_neA (by decide)) h.2.2⟩
theorem MC.go {M1 : Mem} {T1 : List Tok} (h : MC b n M T C) (q1 : MP b n M1 T1) (q2 : Fr ScP M M1) : MC b n M1 T1 C := ⟨q1, (q2 337 32 (by unfold ScP; omega)).trans h.2.1, Seg.fr (fun i => q2 360 i (by unfold ScP; omega)) h.2.2⟩
/-- the reference at one more STATEMENT of a PLAN -/
theorem m_it (h : MP b n M T) {d : Int} (h52 : M 337 52 = d) (hd : 0 ≤ d) (G : Nat) : wl0 b_X12_plan_11 (G + 1) M = if hk T = 0 ∧ d = 0 then j_X12_plan_40 (lk M T) else cl (f_X12_planned (lk M T)) (fun _ M41 => wl0 b_X12_plan_11 G M41) := by
  have el := lkv_end h.2.2.2.2.2.1 h.2.2.2.2.1 (fun i i0 i1 => (h.2.2.2.1 i i0 i1).2.1)
  have e52 : lk M T 337 52 = d := (st_neI (by decide)).trans h52
  rw [wl0_s]
  generalize wl0 b_X12_plan_11 G = w
  unfold b_X12_plan_11 j_X12_plan_33
  rw [if_pos h.1, m_look h, cl_some, e52]
  by_cases c : hk T = 0
  · rw [if_pos (el.mpr c)]
    by_cases c2 : d = 0
    · rw [if_pos (show d ≤ 0 by omega), if_pos ⟨c, c2⟩]
    · rw [if_neg (show ¬ d ≤ 0 by omega), if_neg (fun q => c2 q.2)]
  · rw [if_neg (fun q => c (el.mp q)), if_neg (fun q => c q.1)]
theorem m_pl (h : MP b n M T) {d : Int} (h52 : M 337 52 = d) (hd : 0 ≤ d) (hn : ¬ (0 < d ∧ isS T 93)) : f_X12_planned (lk M T) = j_X12_planned_50 (lk M T) (lkv b T) := by
  have e52 : lk M T 337 52 = d := (st_neI (by decide)).trans h52
  have hsg := lkv_s (c := 93) h.2.2.2.2.2.1 (by decide) (by decide) (by decide)
  unfold f_X12_planned
  rw [m_look h.lo, cl_some, lk_lk, e52]
  by_cases c : d ≤ 0
  · rw [if_pos c]
  · rw [if_neg c, if_neg (fun q => hn ⟨by omega, hsg.mp q⟩)]
/-- the sign ']' in the reference -/
theorem m_close (h : MC b n M T C) {d l : Int} (h52 : M 337 52 = d + 1) (hd : 0 ≤ d ∧ d ≤ 5) (h376 : M 376 0 = l) (hl : 0 ≤ l ∧ l < 80) (hs : isS T 93) (G : Nat) : ∃ M1, wl0 b_X12_plan_11 (G + 1) M = cl (f_X12_asksSign M1 59) (fun _ M34 => wl0 b_X12_plan_11 G M34) ∧ MC b n M1 T.tail C ∧ (M1 337 52 = d ∧ M1 376 0 = l + 1 ∧ M1 377 l = 2) ∧ Fr (ScT8 l) M M1 := by
  have mp := h.1
  have e52 : lk M T 337 52 = d + 1 := (st_neI (by decide)).trans h52
  have hsg := lkv_s (c := 93) mp.2.2.2.2.2.1 (by decide) (by decide) (by decide)
  have tk : Tk b n T := ⟨_, mp.2.2.2.2.1, mp.2.2.2.2.2.1⟩
  have hh := tk.hd
  have hn := mp.2.2.1
  rw [m_it mp h52 (by omega), if_neg (fun q => by have := q.2; omega)]
  unfold f_X12_planned
  rw [m_look mp.lo, cl_some, lk_lk, e52, if_neg (show ¬ d + 1 ≤ 0 by omega), if_pos (hsg.mpr hs), lk_at, ok_t ⟨by omega, by omega⟩, bm_e]
  rcases m_takesSign mp (c := 93) (by decide) (by decide) (by decide) with ⟨-, M7, -, q1, q2, -, q4⟩ | ⟨q, -⟩
  · have e7 : st (lk M T) 337 2 (hq T + 1) = M7 := by rw [q4]; exact st_st _ _ _ _ _
    have g7 : ∀ a i, ¬ ScP a i → M7 a i = M a i := fun a i z => q2 a i z
    have d7 : M7 337 52 = d + 1 := (g7 _ _ (by unfold ScP; omega)).trans h52
    have l7 : st M7 337 52 (d + 1 - 1) 376 0 = l := by rw [st_neA (by decide), g7 _ _ (by unfold ScP; omega)]; exact h376
    rw [e7, d7, ok_t ⟨by omega, by omega⟩, bm_e, m_step l7 ⟨by omega, by omega⟩, cl_some]
    refine ⟨st (st (st M7 337 52 (d + 1 - 1)) 377 l 2) 376 0 (l + 1), ?_, (((h.go q1 q2).ot (by omega)).ot (by omega)).ot (by omega), ⟨?_, st_at _ _ _ _, ?_⟩, ?_⟩
    · cases f_X12_asksSign (st (st (st M7 337 52 (d + 1 - 1)) 377 l 2) 376 0 (l + 1)) 59 with
      | none => rfl
      | some z => rfl
    · rw [st_neA (by decide), st_neA (by decide), st_at]; omega
    · rw [st_neA (by decide), st_at]
    · exact Fr.st (Fr.st (Fr.st (ScP_8 q2) (by unfold ScT8; omega)) (by unfold ScT8; omega)) (by unfold ScT8; omega)
  · exact absurd hs q
/-- a STATEMENT s of the class is closed -/
def ScS9 (sp s a i : Int) : Prop := ScQ sp a i ∨ (a = s ∧ i = 9)
theorem ScQ_9 {s : Int} {M M1 : Mem} (f : Fr (ScQ sp) M M1) : Fr (ScS9 sp s) M M1 := f.mono (fun a i q => Or.inl q)
theorem j_tmZ (S : Mem → Int → Res) {w2 : Mem → Int → Res} {x2 s d l k : Int} (hx2 : -100 ≤ x2 ∧ x2 ≤ 100) (hs : sp + 4 ≤ s ∧ s ≤ sp + 43) (hd : 0 ≤ d ∧ d ≤ 5) (hl : 0 ≤ l ∧ l < 80) (x : XT b n sp M T C) (mc : MC b n Mm T C) (h1 : M sp 1 = k) (h52 : Mm 337 52 = d + 1) (h376 : Mm 376 0 = l) (hsg : isS T 93) (G : Nat) : (∃ e p Mx1 Mm1, TmK S s d w2 x2 (some (1, M)) = some (0, Mx1) ∧ wl0 b_X12_plan_11 (G + 1) Mm = wl0 b_X12_plan_11 G Mm1 ∧ XE sp Mx1 e p ∧ ME Mm1 e p ∧ Fr (ScS9 sp s) M Mx1 ∧ Fr (ScT8 l) Mm Mm1) ∨ (∃ Mx1 Mm1 T1, TmK S s d w2 x2 (some (1, M)) = w2 Mx1 (x2 + 1) ∧ wl0 b_X12_plan_11 (G + 1) Mm = wl0 b_X12_plan_11 G Mm1 ∧ XT b n sp Mx1 T1 C ∧ MC b n Mm1 T1 C ∧ T1.length + 2 = T.length ∧ (Mm1 337 52 = d ∧ Mm1 376 0 = l + 1 ∧ Mm1 377 l = 2) ∧ Mx1 s 9 = k ∧ Fr (ScS9 sp s) M Mx1 ∧ Fr (ScT8 l) Mm Mm1) := by
  obtain ⟨M1, em, mc1, ⟨a52, a376, a377⟩, f1⟩ := m_close mc h52 hd h376 hl hsg G
  obtain ⟨t1, t2⟩ := x.1.tl (by omega)
  have rs := kd_rg x.2.2.1.2
  unfold TmK
  rw [cl_some, if_neg (by decide), em]
  rcases x_sign x 93 with ⟨-, M2, e2, x2', f2⟩ | ⟨q, -⟩
  · have k1 : M2 sp 1 = k := by rw [f2 sp 1 (by unfold ScQ; have := kd_rg x.2.2.1.2; omega)]; exact h1
    rw [e2, cl_some, if_neg (by decide), x2'.2.2.1.1, ok_t x2'.2.2.1.2, bm_e, cl_some, k1]
    unfold KX
    rw [if_neg (by decide)]
    have x3 : XT b n sp (st M2 s 9 k) T.tail C := x2'.ot (by omega)
    have f3 : Fr (ScS9 sp s) M (st M2 s 9 k) := Fr.st (ScQ_9 f2) (by unfold ScS9; omega)
    rcases m_asksSign mc1.1 (c := 59) (by decide) (by decide) (by decide) with ⟨cc, M4, e4, q1, q2⟩ | ⟨cc, M4, e4, q1, q2⟩
    · rcases x_sign x3 59 with ⟨-, M5, e5, x5, f5⟩ | ⟨q, -⟩
      · right
        obtain ⟨u1, u2⟩ := t1.tl (by omega)
        rw [e4, e5, cl_some, cl_some, if_neg (by decide), ok_t ⟨by omega, by omega⟩, bi_e]
        refine ⟨M5, M4, T.tail.tail, rfl, rfl, x5, mc1.go q1 q2, by omega, ⟨?_, ?_, ?_⟩, ?_, f3.tr (ScQ_9 f5), f1.tr (ScP_8 q2)⟩
        · rw [q2 _ _ (by unfold ScP; omega)]; exact a52
        · rw [q2 _ _ (by unfold ScP; omega)]; exact a376
        · rw [q2 _ _ (by unfold ScP; omega)]; exact a377
        · rw [f5 s 9 (by unfold ScQ; omega), st_at]
      · exact absurd cc q
    · rcases x_sign x3 59 with ⟨q, -⟩ | ⟨-, M5, e5, x5, f5⟩
      · exact absurd q cc
      · left
        rw [e4, e5, cl_some, cl_some, if_pos rfl]
        exact ⟨1, hq T.tail, M5, M4, rfl, rfl, x5, q1, f3.tr (ScQ_9 f5), f1.tr (ScP_8 q2)⟩
  · exact absurd hsg q
end TM
