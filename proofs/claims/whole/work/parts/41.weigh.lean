/-! NEEDED, WEIGHTS, LIES, SPANS, BOUND, LEFT: alike -/
def ndV (s c : Int) : Nat → Int → Int → Int
  | 0, _, _ => -1
  | k + 1, v, n => if c < v / s then ndV s c k (v / s) (n + 1) else n
section QW
variable {A B Mx Mm : Mem}
theorem J_needed (h : R Mx Mm) (a1 a2 : Int) : Jt (f_X11_needed Mx a1 a2) (f_X12_needed Mm a1 a2) := by
  obtain ⟨A, B, h⟩ := h
  have e3 : Mx (B 1 8) 3 = A 372 1 := by rw [(SA.thg h.ptr h.fx) _ 3 (by have := kd17 _ h.ptr.1.1; omega) (by have := kd17 _ h.ptr.1.1; omega), h.thg.2.1]
  obtain ⟨q, e, hq⟩ := m_isTh h.fm h.thg a1
  unfold f_X11_needed f_X12_needed
  rw [e, cl_some, h.rx (a := 1) (i := 8) (by omega) (by omega)]
  rcases hq with ⟨rfl, hq⟩ | ⟨rfl, hq⟩
  · have hs := h.sr hq
    have hn := h.nt hq
    have xl : ∀ (k F : Nat) (v n : Int), 0 ≤ v ∧ v ≤ 1000000000000 → 1 ≤ n → n + k = 61 → k < F → wl2 (b_X11_needed_25 a1 a2) F Mx v n = some (ndV (A 374 (5 + a1)) a2 k v n, Mx) := by
      intro k
      induction k with
      | zero =>
        intro F v n hv h1 hk hF
        obtain ⟨F, rfl⟩ : ∃ G, F = G + 1 := ⟨F - 1, by omega⟩
        rw [wl2_s]
        unfold b_X11_needed_25
        rw [if_pos (by omega)]; rfl
      | succ k ih =>
        intro F v n hv h1 hk hF
        obtain ⟨F, rfl⟩ : ∃ G, F = G + 1 := ⟨F - 1, by omega⟩
        have hd := ed_nn (x := v) (y := A 374 (5 + a1)) hv.1 (by omega)
        rw [wl2_s]
        unfold b_X11_needed_25
        rw [if_neg (by omega), h.sorts hq, cl_some, ok_t ⟨hv.1, by omega⟩, bi_e]
        show _ = some ((if a2 < v / A 374 (5 + a1) then ndV (A 374 (5 + a1)) a2 k (v / A 374 (5 + a1)) (n + 1) else n), Mx)
        by_cases w : a2 < v / A 374 (5 + a1)
        · rw [if_pos w, if_pos w, ok_t ⟨by omega, by omega⟩, bi_e]
          exact ih F _ (n + 1) (by omega) (by omega) (by omega) (by omega)
        · rw [if_neg w, if_neg w]
    have ml : ∀ (k F : Nat) (v n : Int), 0 ≤ v ∧ v ≤ 1000000000000 → 1 ≤ n → n + k = 61 → k < F → wl2 (b_X12_needed_18 a1 a2) F Mm v n = some (ndV (A 374 (5 + a1)) a2 k v n, Mm) := by
      intro k
      induction k with
      | zero =>
        intro F v n hv h1 hk hF
        obtain ⟨F, rfl⟩ : ∃ G, F = G + 1 := ⟨F - 1, by omega⟩
        rw [wl2_s]
        unfold b_X12_needed_18
        rw [if_pos (by omega)]; rfl
      | succ k ih =>
        intro F v n hv h1 hk hF
        obtain ⟨F, rfl⟩ : ∃ G, F = G + 1 := ⟨F - 1, by omega⟩
        have hd := ed_nn (x := v) (y := A 374 (5 + a1)) hv.1 (by omega)
        rw [wl2_s]
        unfold b_X12_needed_18
        rw [if_neg (by omega), ok_t ⟨by omega, by omega⟩, ok_t ⟨by omega, by omega⟩, h.m374 hq, ok_t ⟨hv.1, by omega⟩, bi_e]
        show _ = some ((if a2 < v / A 374 (5 + a1) then ndV (A 374 (5 + a1)) a2 k (v / A 374 (5 + a1)) (n + 1) else n), Mm)
        by_cases w : a2 < v / A 374 (5 + a1)
        · rw [if_pos w, if_pos w, ok_t ⟨by omega, by omega⟩, bi_e]
          exact ih F _ (n + 1) (by omega) (by omega) (by omega) (by omega)
        · rw [if_neg w, if_neg w]
    obtain ⟨t0, t1⟩ := id hq
    refine h.J (r := ndV (A 374 (5 + a1)) a2 60 1000000000000 1) ?_ ?_
    · rw [if_neg (by omega), ok_t h.ptr.1.1, e3, if_pos t1]
      exact xl 60 FU _ 1 (by omega) (by omega) (by omega) (by unfold FU; omega)
    · rw [if_neg (by decide)]
      exact ml 60 FU _ 1 (by omega) (by omega) (by omega) (by unfold FU; omega)
  · refine h.J (r := -1) ?_ (if_pos rfl)
    by_cases w : a1 < 0
    · rw [if_pos w]
    · rw [if_neg w, ok_t h.ptr.1.1, e3, if_neg (fun z => hq ⟨by omega, z⟩)]
/-- ODDS of what was guessed in TRIAL i -/
def ovT (A : Mem) (p i : Int) : Int := ovr (crd A (envT A i) p 0) (A 374 (5 + A 392 i)) (bI (A 395 i = A 396 i))
theorem RR.ovX (h : RR A B Mx Mm) {k i : Int} (l : isLw A k) (h0 : 0 ≤ i) (h1 : i < A 337 79) : ∃ Mx1, f_X11_oddsOfGuess Mx (B 68 k) (23 + i) = some (ovT A (2 + k) i, Mx1) ∧ RR A B Mx1 Mm := by
  obtain ⟨M1, _, q1, -, h3, ex, -, eo⟩ := h.showT h0 h1
  have h3' := h.mixx h3
  obtain ⟨k1, l2, l3, -, l5, -⟩ := h3'.law l
  obtain ⟨M2, q2, f2⟩ := x_crd eo ex k1 l2 l3 l5 0
  have h4 : RR A B M2 Mm := h3'.nr f2 (Fr.rf _ _)
  obtain ⟨h2, ha, hx⟩ := h4.tx h0 h1
  refine ⟨M2, ?_, h4⟩
  unfold f_X11_oddsOfGuess ovT
  rw [q1, cl_some, q2, cl_some, hx.1, h4.sorts (h4.th h0 h1), cl_some, x_right hx, cl_some, x_over _ (crd_rng _ _ _ _) (h4.sr (h4.th h0 h1)), cl_some]
theorem RR.ovM (h : RR A B Mx Mm) {k i : Int} (l : isLw A k) (h0 : 0 ≤ i) (h1 : i < A 337 79) : ∃ Mm1, f_X12_guessedAbove Mm k i = some (ovT A (2 + k) i, Mm1) ∧ RR A B Mx Mm1 := by
  obtain ⟨_, M1, -, q1, h3, -, em, eo⟩ := h.showT h0 h1
  have h3' := h.mixm h3
  obtain ⟨-, -, l3, -, -, -⟩ := h3'.law l
  obtain ⟨M2, q2, f2⟩ := m_crd eo em h3'.fm l.1 l3 0
  have h4 : RR A B Mx M2 := h3'.nr (Fr.rf _ _) f2
  obtain ⟨h2, ha, hx⟩ := h4.tx h0 h1
  have hn := h4.nt (h4.th h0 h1)
  refine ⟨M2, ?_, h4⟩
  unfold f_X12_guessedAbove ovT
  rw [q1, cl_some, q2, cl_some, ok_t ⟨h0, h2⟩, h4.mt (a := 392) i (by omega), ok_t ⟨by omega, by omega⟩, ok_t ⟨by omega, by omega⟩, h4.m_right h0 h2, cl_some, h4.m374 (h4.th h0 h1), m_over _ (crd_rng _ _ _ _) (h4.sr (h4.th h0 h1)), cl_some]
theorem RR.ovR (h : RR A B Mx Mm) (p : Int) {i : Int} (h0 : 0 ≤ i) (h1 : i < A 337 79) : 0 ≤ ovT A p i ∧ ovT A p i ≤ 600 ∧ ovT A p i ≤ 100 * A 374 (5 + A 392 i) := by
  have hs := h.sr (h.th h0 h1)
  have hc := crd_rng A (envT A i) p 0
  have := ovr_rng (r := bI (A 395 i = A 396 i)) hc hs
  refine ⟨this.1, this.2, ?_⟩
  unfold ovT ovr
  split
  · omega
  · have m : crd A (envT A i) p 0 * (A 374 (5 + A 392 i) - 1) ≤ 100 * (A 374 (5 + A 392 i) - 1) := Int.mul_le_mul_of_nonneg_right hc.2 (by omega)
    omega
def wgt (A : Mem) (p : Int) (i s : Int) : Int := s * ovT A p i / (100 * A 374 (5 + A 392 i))
def wgV (A : Mem) (p : Int) (n : Nat) : Int := fld (wgt A p) 1000000000000 n
theorem RR.wgR (h : RR A B Mx Mm) (p : Int) : ∀ n : Nat, (n : Int) ≤ A 337 79 → 0 ≤ wgV A p n ∧ wgV A p n ≤ 1000000000000
  | 0, _ => ⟨by show (0 : Int) ≤ 1000000000000; decide, Int.le_refl _⟩
  | n + 1, hn => by
    have ih := h.wgR p n (by omega)
    have ho := h.ovR p (i := n) (by omega) (by omega)
    have hs := h.sr (h.th (i := n) (by omega) (by omega))
    show 0 ≤ wgV A p n * ovT A p n / (100 * A 374 (5 + A 392 n)) ∧ wgV A p n * ovT A p n / (100 * A 374 (5 + A 392 n)) ≤ _
    have m := mul_rng ih (show 0 ≤ ovT A p n ∧ ovT A p n ≤ 600 by omega)
    have m2 : wgV A p n * ovT A p n ≤ wgV A p n * (100 * A 374 (5 + A 392 n)) := Int.mul_le_mul_of_nonneg_left ho.2.2 ih.1
    refine ⟨Int.ediv_nonneg m.1 (by omega), ?_⟩
    have : wgV A p n * ovT A p n / (100 * A 374 (5 + A 392 n)) ≤ wgV A p n := Int.ediv_le_of_le_mul (by omega) m2
    omega
theorem wg0 {A : Mem} {p : Int} {n : Nat} (h : wgV A p n = 0) : ∀ k, wgV A p (n + k) = 0
  | 0 => h
  | k + 1 => by
    show wgV A p (n + k) * ovT A p _ / _ = 0
    rw [wg0 h k, Int.zero_mul, Int.zero_ediv]
theorem RR.wX (h : RR A B Mx Mm) {k : Int} (l : isLw A k) : ∃ Mx1, f_X11_weightOf Mx (B 68 k) = some (wgV A (2 + k) (A 337 79).toNat, Mx1) ∧ RR A B Mx1 Mm := by
  obtain ⟨n1, n2, n3, n4⟩ := h.n79
  have q : Tt (f_X11_weightOf Mx (B 68 k)) (fun r M => r = wgV A (2 + k) (A 337 79).toNat ∧ RR A B M Mm) := by
    unfold f_X11_weightOf
    refine tt_wl2 (fun M x i => RR A B M Mm ∧ (0 ≤ i ∧ i ≤ A 337 79) ∧ x = wgV A (2 + k) i.toNat) (fun _ _ i => (41 - i).toNat) ?_ FU Mx _ 0 ⟨h, ⟨by omega, by omega⟩, rfl⟩ (by unfold FU; omega)
    rintro w M x i ⟨hM, hi, rfl⟩ K
    have hr := hM.wgR (2 + k) i.toNat (by omega)
    unfold b_X11_weightOf_7
    rw [hM.n79.2.1]
    refine tt_if (fun w1 => tt_ret ⟨by rw [show i = A 337 79 by omega], hM⟩) (fun w1 => tt_if (fun w2 => ?_) (fun w2 => ?_))
    · refine tt_ret ⟨?_, hM⟩
      have := wg0 (A := A) (p := 2 + k) (n := i.toNat) (by omega) ((A 337 79).toNat - i.toNat)
      rw [show i.toNat + ((A 337 79).toNat - i.toNat) = (A 337 79).toNat by omega] at this
      omega
    · have ho := hM.ovR (2 + k) hi.1 (show i < A 337 79 by omega)
      have hs := hM.sr (hM.th hi.1 (show i < A 337 79 by omega))
      have m := mul_rng hr (show 0 ≤ ovT A (2 + k) i ∧ ovT A (2 + k) i ≤ 600 by omega)
      obtain ⟨M1, e1, h1⟩ := hM.ovX l hi.1 (show i < A 337 79 by omega)
      obtain ⟨-, -, hx⟩ := h1.tx hi.1 (show i < A 337 79 by omega)
      refine tt_ok ⟨by omega, by omega⟩ (tt_cq e1 (tt_ok ⟨by omega, by omega⟩ ?_))
      rw [hx.1]
      refine tt_cq (h1.sorts (h1.th hi.1 (by omega))) (tt_ok ⟨by omega, by omega⟩ (tt_ok ⟨by omega, by omega⟩ (tt_bi (tt_bi (K M1 _ (i + 1) ⟨h1, ⟨by omega, by omega⟩, ?_⟩ (by omega))))))
      unfold wgV
      rw [fld_succ _ _ _ hi.1]; rfl
  obtain ⟨r, M1, e, rfl, h3⟩ := q
  exact ⟨M1, e, h3⟩
theorem RR.wM (h : RR A B Mx Mm) {k : Int} (l : isLw A k) : ∃ Mm1, f_X12_weightOf Mm k = some (wgV A (2 + k) (A 337 79).toNat, Mm1) ∧ RR A B Mx Mm1 := by
  obtain ⟨n1, n2, n3, n4⟩ := h.n79
  have q : Tt (f_X12_weightOf Mm k) (fun r M => r = wgV A (2 + k) (A 337 79).toNat ∧ RR A B Mx M) := by
    unfold f_X12_weightOf
    refine tt_wl2 (fun M x i => RR A B Mx M ∧ (0 ≤ i ∧ i ≤ A 337 79) ∧ x = wgV A (2 + k) i.toNat) (fun _ _ i => (41 - i).toNat) ?_ FU Mm _ 0 ⟨h, ⟨by omega, by omega⟩, rfl⟩ (by unfold FU; omega)
    rintro w M x i ⟨hM, hi, rfl⟩ K
    have hr := hM.wgR (2 + k) i.toNat (by omega)
    unfold b_X12_weightOf_7
    rw [hM.n79.1]
    refine tt_if (fun w1 => tt_ret ⟨by rw [show i = A 337 79 by omega], hM⟩) (fun w1 => ?_)
    have ho := hM.ovR (2 + k) hi.1 (show i < A 337 79 by omega)
    have hs := hM.sr (hM.th hi.1 (show i < A 337 79 by omega))
    have hn := hM.nt (hM.th hi.1 (show i < A 337 79 by omega))
    have m := mul_rng hr (show 0 ≤ ovT A (2 + k) i ∧ ovT A (2 + k) i ≤ 600 by omega)
    obtain ⟨M1, e1, h1⟩ := hM.ovM l hi.1 (show i < A 337 79 by omega)
    refine tt_cq e1 (tt_ok ⟨by omega, by omega⟩ (tt_ok ⟨by omega, by omega⟩ ?_))
    rw [h1.mt (a := 392) i (by omega)]
    refine tt_ok ⟨by omega, by omega⟩ (tt_ok ⟨by omega, by omega⟩ ?_)
    rw [h1.m374 (h1.th hi.1 (by omega))]
    refine tt_ok ⟨by omega, by omega⟩ (tt_ok ⟨by omega, by omega⟩ (tt_bi (tt_bi (K M1 _ (i + 1) ⟨h1, ⟨by omega, by omega⟩, ?_⟩ (by omega)))))
    unfold wgV
    rw [fld_succ _ _ _ hi.1]; rfl
  obtain ⟨r, M1, e, rfl, h3⟩ := q
  exact ⟨M1, e, h3⟩
theorem J_weight (h : R Mx Mm) (a1 : Int) : Jt (f_X11_weight Mx a1) (f_X12_weight Mm a1) := by
  obtain ⟨A, B, h⟩ := h
  unfold f_X11_weight f_X12_weight
  rcases h.law2 a1 with ⟨l, x1, m1, z1, k1⟩ | ⟨l, x1, m1⟩
  · rw [x1, m1, cl_some, cl_some]
    obtain ⟨M1, e1, h1⟩ := h.wX l
    obtain ⟨M2, e2, h2⟩ := h.wM l
    exact (h2.mixx h1).J (r := wgV A (2 + a1) (A 337 79).toNat) (by rw [if_neg z1, ok_t k1, e1, cl_some]) (by rw [if_neg (by decide), e2, cl_some])
  · rw [x1, m1, cl_some, cl_some]; exact h.J (r := -1) (if_pos rfl) (if_pos rfl)
def thV (A : Mem) (p : Int) : Nat → Int → Int
  | 0, _ => -1
  | n + 1, i => if ovT A p i = 0 then i else thV A p n (i + 1)
theorem J_thrown (h : R Mx Mm) (a1 : Int) : Jt (f_X11_thrown Mx a1) (f_X12_thrown Mm a1) := by
  obtain ⟨A, B, h⟩ := h
  obtain ⟨n1, n2, n3, n4⟩ := h.n79
  rcases h.law2 a1 with ⟨l, x1, m1, z1, k1⟩ | ⟨l, x1, m1⟩
  · have cx : ∀ (n F : Nat) (M : Mem) (i : Int), RR A B M Mm → 0 ≤ i → i + n = A 337 79 → n < F → Tt (wl2 b_X11_thrown_14 F M (B 68 a1) i) (fun r M => r = thV A (2 + a1) n i ∧ RR A B M Mm) := by
      intro n
      induction n with
      | zero =>
        intro F M i hM h0 hn hF
        obtain ⟨F, rfl⟩ : ∃ G, F = G + 1 := ⟨F - 1, by omega⟩
        rw [wl2_s]
        unfold b_X11_thrown_14
        rw [hM.n79.2.1]
        exact tt_ip (by omega) (tt_ret ⟨rfl, hM⟩)
      | succ n ih =>
        intro F M i hM h0 hn hF
        obtain ⟨F, rfl⟩ : ∃ G, F = G + 1 := ⟨F - 1, by omega⟩
        rw [wl2_s]
        unfold b_X11_thrown_14
        rw [hM.n79.2.1]
        obtain ⟨M1, e1, h1⟩ := hM.ovX l h0 (show i < A 337 79 by omega)
        refine tt_in (by omega) (tt_ok ⟨by omega, by omega⟩ (tt_ok k1 (tt_cq e1 ?_)))
        show Tt _ (fun r M => r = (if ovT A (2 + a1) i = 0 then i else thV A (2 + a1) n (i + 1)) ∧ RR A B M Mm)
        refine tt_if (fun w => ?_) (fun w => ?_)
        · rw [if_pos w]; exact tt_ret ⟨rfl, h1⟩
        · rw [if_neg w]; exact tt_bi (ih F M1 (i + 1) h1 (by omega) (by omega) (by omega))
    have cm : ∀ (n F : Nat) (M : Mem) (i : Int), RR A B Mx M → 0 ≤ i → i + n = A 337 79 → n < F → Tt (wl1 (b_X12_thrown_2 a1) F M i) (fun r M => r = thV A (2 + a1) n i ∧ RR A B Mx M) := by
      intro n
      induction n with
      | zero =>
        intro F M i hM h0 hn hF
        obtain ⟨F, rfl⟩ : ∃ G, F = G + 1 := ⟨F - 1, by omega⟩
        rw [wl1_s]
        unfold b_X12_thrown_2
        rw [hM.n79.1]
        exact tt_ip (by omega) (tt_ret ⟨rfl, hM⟩)
      | succ n ih =>
        intro F M i hM h0 hn hF
        obtain ⟨F, rfl⟩ : ∃ G, F = G + 1 := ⟨F - 1, by omega⟩
        rw [wl1_s]
        unfold b_X12_thrown_2
        rw [hM.n79.1]
        rcases hM.law2 a1 with ⟨-, -, m1', -⟩ | ⟨l', -⟩
        · obtain ⟨M1, e1, h1⟩ := hM.ovM l h0 (show i < A 337 79 by omega)
          refine tt_in (by omega) (tt_cq m1' (tt_in (by decide) (tt_cq e1 ?_)))
          show Tt _ (fun r M => r = (if ovT A (2 + a1) i = 0 then i else thV A (2 + a1) n (i + 1)) ∧ RR A B Mx M)
          refine tt_if (fun w => ?_) (fun w => ?_)
          · rw [if_pos w]; exact tt_ret ⟨rfl, h1⟩
          · rw [if_neg w]; exact tt_ok ⟨by omega, by omega⟩ (tt_bi (ih F M1 (i + 1) h1 (by omega) (by omega) (by omega)))
        · exact absurd l l'
    obtain ⟨r, M1, e1, rfl, h1⟩ := cx (A 337 79).toNat FU Mx 0 h (by omega) (by omega) (by unfold FU; omega)
    obtain ⟨r2, M2, e2, rfl, h2⟩ := cm (A 337 79).toNat FU Mm 0 h (by omega) (by omega) (by unfold FU; omega)
    refine (h2.mixx h1).J (r := thV A (2 + a1) (A 337 79).toNat 0) ?_ e2
    unfold f_X11_thrown
    rw [x1, cl_some, if_neg z1]; exact e1
  · refine h.J (r := -1) ?_ ?_
    · unfold f_X11_thrown
      rw [x1, cl_some, if_pos rfl]
    · unfold f_X12_thrown
      rw [show FU = (FU - 1) + 1 by unfold FU; omega, wl1_s]
      unfold b_X12_thrown_2
      by_cases w : Mm 337 79 ≤ 0
      · rw [if_pos w]
      · rw [if_neg w, m1, cl_some, if_pos rfl]
def lkS (A : Mem) (k : Int) (s : Int × Int) : Int × Int := if s.2 < (if A 386 k = 1 then wgV A (2 + k) (A 337 79).toNat else -1) then (k, if A 386 k = 1 then wgV A (2 + k) (A 337 79).toNat else -1) else s
theorem lkS_e (A : Mem) (k : Int) (s : Int × Int) : lkS A k s = if s.2 < (if A 386 k = 1 then wgV A (2 + k) (A 337 79).toNat else -1) then (k, if A 386 k = 1 then wgV A (2 + k) (A 337 79).toNat else -1) else s := rfl
theorem J_likely (h : R Mx Mm) : Jt (f_X11_likely Mx) (f_X12_likely Mm) := by
  obtain ⟨A, B, h⟩ := h
  obtain ⟨n1, n2, n3, n4⟩ := h.n79
  have cx : Tt (f_X11_likely Mx) (fun r M => r = (fld (lkS A) (-1, -1) 3).1 ∧ RR A B M Mm) := by
    unfold f_X11_likely
    refine tt_wl3 (fun M x1 x2 k => RR A B M Mm ∧ (0 ≤ k ∧ k ≤ 3) ∧ x1 = (fld (lkS A) (-1, -1) k.toNat).1 ∧ x2 = (fld (lkS A) (-1, -1) k.toNat).2) (fun _ _ _ k => (3 - k).toNat) ?_ FU Mx _ _ 0 ⟨h, ⟨by omega, by omega⟩, rfl, rfl⟩ (by unfold FU; omega)
    rintro w M x1 x2 k ⟨hM, hk, rfl, rfl⟩ K
    unfold b_X11_likely_9
    refine tt_if (fun w1 => tt_ret ⟨by rw [show k = 3 by omega]; rfl, hM⟩) (fun w1 => ?_)
    have kk := hM.ptr.law hk.1 (show k < 3 by omega)
    have hs := SA.of hM.fx kk hM.ptr.1.2.2.1 (hM.ptr.2.2.2 k hk.1 (by omega)).2.2
    obtain ⟨l1, l2, -⟩ := hM.lws k hk.1 (by omega)
    have go : ∀ (M1 : Mem) (s : Int), RR A B M1 Mm → s = (if A 386 k = 1 then wgV A (2 + k) (A 337 79).toNat else -1) → Tt (j_X11_likely_45 w M1 (fld (lkS A) (-1, -1) k.toNat).1 (fld (lkS A) (-1, -1) k.toNat).2 k s) (fun r M => r = (fld (lkS A) (-1, -1) 3).1 ∧ RR A B M Mm) := by
      intro M1 s h1 hs
      unfold j_X11_likely_45
      refine tt_if (fun w2 => ?_) (fun w2 => ?_)
      · refine tt_ok ⟨by omega, by omega⟩ (tt_bi (K M1 _ _ (k + 1) ⟨h1, ⟨by omega, by omega⟩, ?_, ?_⟩ (by omega)))
        · rw [fld_succ _ _ _ hk.1]; rw [lkS_e, ← hs, if_neg (by omega)]
        · rw [fld_succ _ _ _ hk.1]; rw [lkS_e, ← hs, if_neg (by omega)]
      · refine tt_ok ⟨by omega, by omega⟩ (tt_bi (K M1 _ _ (k + 1) ⟨h1, ⟨by omega, by omega⟩, ?_, ?_⟩ (by omega)))
        · rw [fld_succ _ _ _ hk.1]; rw [lkS_e, ← hs, if_pos (by omega)]
        · rw [fld_succ _ _ _ hk.1]; rw [lkS_e, ← hs, if_pos (by omega)]
    refine tt_ok ⟨by omega, by omega⟩ ?_
    rw [hM.rx (a := 68) (i := k) (by omega) (by omega)]
    refine tt_ok kk ?_
    rw [hs (B 68 k) 6 (by omega) (by omega), l2]
    refine tt_if (fun w2 => ?_) (fun w2 => ?_)
    · exact go M (-1) hM (by rw [if_neg (by omega)])
    · obtain ⟨M1, e1, h1⟩ := hM.wX (k := k) ⟨⟨hk.1, by omega⟩, by omega⟩
      exact tt_cq e1 (go M1 _ h1 (by rw [if_pos (by omega)]))
  have cm : Tt (f_X12_likely Mm) (fun r M => r = (fld (lkS A) (-1, -1) 3).1 ∧ RR A B Mx M) := by
    unfold f_X12_likely
    refine tt_wl3 (fun M x1 x2 k => RR A B Mx M ∧ (0 ≤ k ∧ k ≤ 3) ∧ x1 = (fld (lkS A) (-1, -1) k.toNat).1 ∧ x2 = (fld (lkS A) (-1, -1) k.toNat).2) (fun _ _ _ k => (3 - k).toNat) ?_ FU Mm _ _ 0 ⟨h, ⟨by omega, by omega⟩, rfl, rfl⟩ (by unfold FU; omega)
    rintro w M x1 x2 k ⟨hM, hk, rfl, rfl⟩ K
    unfold b_X12_likely_9
    refine tt_if (fun w1 => tt_ret ⟨by rw [show k = 3 by omega]; rfl, hM⟩) (fun w1 => ?_)
    obtain ⟨l1, l2, -⟩ := hM.lws k hk.1 (by omega)
    have go : ∀ (M1 : Mem) (s : Int), RR A B Mx M1 → s = (if A 386 k = 1 then wgV A (2 + k) (A 337 79).toNat else -1) → Tt (j_X12_likely_37 w M1 (fld (lkS A) (-1, -1) k.toNat).1 (fld (lkS A) (-1, -1) k.toNat).2 k s) (fun r M => r = (fld (lkS A) (-1, -1) 3).1 ∧ RR A B Mx M) := by
      intro M1 s h1 hs
      unfold j_X12_likely_37
      refine tt_if (fun w2 => ?_) (fun w2 => ?_)
      · refine tt_ok ⟨by omega, by omega⟩ (tt_bi (K M1 _ _ (k + 1) ⟨h1, ⟨by omega, by omega⟩, ?_, ?_⟩ (by omega)))
        · rw [fld_succ _ _ _ hk.1]; rw [lkS_e, ← hs, if_pos w2]
        · rw [fld_succ _ _ _ hk.1]; rw [lkS_e, ← hs, if_pos w2]
      · refine tt_ok ⟨by omega, by omega⟩ (tt_bi (K M1 _ _ (k + 1) ⟨h1, ⟨by omega, by omega⟩, ?_, ?_⟩ (by omega)))
        · rw [fld_succ _ _ _ hk.1]; rw [lkS_e, ← hs, if_neg w2]
        · rw [fld_succ _ _ _ hk.1]; rw [lkS_e, ← hs, if_neg w2]
    refine tt_ok ⟨by omega, by omega⟩ ?_
    rw [hM.rm (a := 386) (i := k) (by unfold ScM; omega)]
    refine tt_if (fun w2 => ?_) (fun w2 => ?_)
    · exact go M (-1) hM (by rw [if_neg (by omega)])
    · obtain ⟨M1, e1, h1⟩ := hM.wM (k := k) ⟨⟨hk.1, by omega⟩, by omega⟩
      exact tt_cq e1 (go M1 _ h1 (by rw [if_pos (by omega)]))
  obtain ⟨r, M1, e1, rfl, h1⟩ := cx
  obtain ⟨r2, M2, e2, rfl, h2⟩ := cm
  exact (h2.mixx h1).J e1 e2
def liS (A : Mem) (p : Int) (i s : Int) : Int := if say A (envT A i) p = A 397 i then s else s + 1
theorem liS_rng (A : Mem) (p : Int) (n : Nat) : 0 ≤ fld (liS A p) 0 n ∧ fld (liS A p) 0 n ≤ n := by
  refine fld_inv (fun n s => 0 ≤ s ∧ s ≤ (n : Int)) _ _ ⟨Int.le_refl 0, Int.le_refl 0⟩ (fun n s hs => ?_) n
  unfold liS; split <;> omega
theorem J_lies (h : R Mx Mm) (a1 : Int) : Jt (f_X11_lies Mx a1) (f_X12_lies Mm a1) := by
  obtain ⟨A, B, h⟩ := h
  obtain ⟨n1, n2, n3, n4⟩ := h.n79
  unfold f_X11_lies f_X12_lies
  rcases h.law2 a1 with ⟨l, x1, m1, z1, k1⟩ | ⟨l, x1, m1⟩
  · rw [x1, m1, cl_some, cl_some]
    refine Jt.cg (if_neg z1) (if_neg (by decide)) ?_
    have cx : Tt (wl3 b_X11_lies_17 FU Mx (B 68 a1) 0 0) (fun r M => r = fld (liS A (2 + a1)) 0 (A 337 79).toNat ∧ RR A B M Mm) := by
      refine tt_wl3 (fun M x2 x3 i => RR A B M Mm ∧ x2 = B 68 a1 ∧ (0 ≤ i ∧ i ≤ A 337 79) ∧ x3 = fld (liS A (2 + a1)) 0 i.toNat) (fun _ _ _ i => (41 - i).toNat) ?_ FU Mx _ 0 0 ⟨h, rfl, ⟨by omega, by omega⟩, rfl⟩ (by unfold FU; omega)
      rintro w M x2 x3 i ⟨hM, rfl, hi, rfl⟩ K
      have hr := liS_rng A (2 + a1) i.toNat
      unfold b_X11_lies_17
      rw [hM.n79.2.1]
      refine tt_if (fun w1 => tt_ret ⟨by rw [show i = A 337 79 by omega], hM⟩) (fun w1 => ?_)
      obtain ⟨M1, _, q1, -, h3, ex, -, eo⟩ := hM.showT hi.1 (show i < A 337 79 by omega)
      have h3' := hM.mixx h3
      obtain ⟨-, l2, l3, l4, l5, l6⟩ := h3'.law l
      obtain ⟨M2, q2, f2⟩ := x_says eo ex k1 l2 l3 l5 l4 l6
      have h4 : RR A B M2 Mm := h3'.nr f2 (Fr.rf _ _)
      obtain ⟨-, -, hx⟩ := h4.tx hi.1 (show i < A 337 79 by omega)
      refine tt_ok ⟨by omega, by omega⟩ (tt_cq q1 (tt_ok k1 (tt_cq q2 ?_)))
      rw [hx.2.2.2.2.2.1]
      refine tt_if (fun w2 => ?_) (fun w2 => ?_)
      · refine tt_ok ⟨by omega, by omega⟩ (tt_bi (tt_bi (K M2 _ _ (i + 1) ⟨h4, rfl, ⟨by omega, by omega⟩, ?_⟩ (by omega))))
        rw [fld_succ _ _ _ hi.1]; unfold liS; rw [if_pos w2]; omega
      · refine tt_ok ⟨by omega, by omega⟩ (tt_bi (tt_bi (K M2 _ _ (i + 1) ⟨h4, rfl, ⟨by omega, by omega⟩, ?_⟩ (by omega))))
        rw [fld_succ _ _ _ hi.1]; unfold liS; rw [if_neg w2]
    have cm : Tt (wl2 (b_X12_lies_14 a1) FU Mm 0 0) (fun r M => r = fld (liS A (2 + a1)) 0 (A 337 79).toNat ∧ RR A B Mx M) := by
      refine tt_wl2 (fun M x3 i => RR A B Mx M ∧ (0 ≤ i ∧ i ≤ A 337 79) ∧ x3 = fld (liS A (2 + a1)) 0 i.toNat) (fun _ _ i => (41 - i).toNat) ?_ FU Mm 0 0 ⟨h, ⟨by omega, by omega⟩, rfl⟩ (by unfold FU; omega)
      rintro w M x3 i ⟨hM, hi, rfl⟩ K
      have hr := liS_rng A (2 + a1) i.toNat
      unfold b_X12_lies_14
      rw [hM.n79.1]
      refine tt_if (fun w1 => tt_ret ⟨by rw [show i = A 337 79 by omega], hM⟩) (fun w1 => ?_)
      obtain ⟨_, M1, -, q1, h3, -, em, eo⟩ := hM.showT hi.1 (show i < A 337 79 by omega)
      have h3' := hM.mixm h3
      obtain ⟨-, -, l3, l4, -, -⟩ := h3'.law l
      obtain ⟨M2, q2, f2⟩ := m_says eo em h3'.fm l.1 l3 l4
      have h4 : RR A B Mx M2 := h3'.nr (Fr.rf _ _) f2
      refine tt_cq q1 (tt_cq q2 (tt_ok ⟨by omega, by omega⟩ ?_))
      rw [h4.mt (a := 397) i (by omega)]
      refine tt_if (fun w2 => ?_) (fun w2 => ?_)
      · refine tt_bi (K M2 _ (i + 1) ⟨h4, ⟨by omega, by omega⟩, ?_⟩ (by omega))
        rw [fld_succ _ _ _ hi.1]; unfold liS; rw [if_pos w2]
      · refine tt_ok ⟨by omega, by omega⟩ (tt_bi (tt_bi (K M2 _ (i + 1) ⟨h4, ⟨by omega, by omega⟩, ?_⟩ (by omega))))
        rw [fld_succ _ _ _ hi.1]; unfold liS; rw [if_neg w2]
    obtain ⟨r, M1, e1, rfl, h1⟩ := cx
    obtain ⟨r2, M2, e2, rfl, h2⟩ := cm
    exact (h2.mixx h1).J e1 e2
  · rw [x1, m1, cl_some, cl_some]; exact h.J (r := -1) (if_pos rfl) (if_pos rfl)
end QW
