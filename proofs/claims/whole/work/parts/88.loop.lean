/-! all of a text of a FIELD or a LAW: both readers side by side -/
section JL
variable {b : Int → Int} {n sp fl km : Int} {A0 B0 Mx Mm : Mem} {T T1 : List Tok} {C : List Int} {k : Nat}
theorem isW_ne {a c : Int} (h : isW T a) (hn : a ≠ c) : ¬ isW T c := fun q => hn (by have := h.2; have := q.2; omega)
theorem j_step (hfl : fl = 0 ∨ fl = 1) (S : Mem → Int → Res) (w2 : Mem → Int → Res) (x2 : Int) (hx2 : -100 ≤ x2 ∧ x2 ≤ 100) (h0 : JS b n sp fl A0 B0 Mx Mm T C k k) (hz : hk T ≠ 0) : JT b n sp fl A0 B0 T.length k w2 x2 (j_X5_readStatements_33 S 0 w2 Mx x2) (f_X12_statement (lk Mm T) fl) := by
  have hJ : JS b n sp fl A0 B0 Mx (lk Mm T) T C k k := h0.mv h0.1 h0.2.1.1.lo (Nat.le_refl _) (Fr.rf _ _) (lk_fr Mm T)
  obtain ⟨h1, h2, ⟨h3, h3b⟩, ⟨h4, h5, h6⟩, h7, ⟨h8, h9, h10⟩, h11, h12, h13, h14⟩ := id hJ
  have mp := h2.1
  have k3 := h1.2.2.2.2.2.1.2.2.1
  have k1 := h1.2.2.2.2.2.1.1
  unfold j_X5_readStatements_33 f_X12_statement
  show JT b n sp fl A0 B0 T.length k w2 x2 _ (if lk Mm T 337 36 = 40 then _ else _)
  rw [h1.2.2.1.1, ok_t h1.2.2.1.2, h4, h5, k1, k3, lk_at]
  by_cases c40 : (k : Int) = 40
  · -- a 41st
    rw [if_neg (by omega), if_neg hz, if_pos c40]
    obtain ⟨M1, e1, x1, f1⟩ := x_ref h1 (k := 5) (by decide) (hq T)
    rw [e1, cl_some, ok_t (Or.inl rfl), m_fail mp.1, cl_some]
    exact Or.inl ⟨5, hq T, M1, _, rfl, rfl, x1, me_fail (by decide), h13.tr (ScS_J (ScP_S (fr_fail (Fr.rf _ _) _ _))), h14.tr (ScQ_G f1)⟩
  rw [if_pos (show (k : Int) < 40 by omega), if_neg c40]
  have hk40 : k < 40 := by omega
  unfold j_X5_readStatements_62
  rw [x_stw h1 hfl h3b, cl_some, bI_ite, k3]
  have KXe : (fun r17 M18 => if r17 = 0 then (some (0, M18)) else (cl (f_X5_readSign M18 59) (fun r21 M22 => if r21 = 0 then (some (0, M22)) else (ok (in32 (x2 + 1)) (bi (x2 + 1) (fun y26 => w2 M22 y26)))))) = KX w2 x2 := rfl
  rw [KXe]
  -- no such word
  have no : ¬ ((fl = 1 ∧ (isW T 0 ∨ isW T 1 ∨ isW T 2)) ∨ (fl = 0 ∧ (isW T 3 ∨ isW T 6))) → ∀ M2, ME M2 1 (hq T) → Fr ScP (lk Mm T) M2 → JT b n sp fl A0 B0 T.length k w2 x2 (if ((fl = 1 ∧ (isW T 0 ∨ isW T 1 ∨ isW T 2)) ∨ (fl = 0 ∧ (isW T 3 ∨ isW T 6))) then cl (f_X5_readStatement S Mx 0) (KX w2 x2) else cl (f_X5_refused Mx 1 (hq T)) (fun r14 M15 => ok (r14 = 0 ∨ r14 = 1) (some (r14, M15)))) (j_X12_statement_123 M2) := by
    intro hn M2 m2 f2
    obtain ⟨M1, e1, x1, f1⟩ := x_ref h1 (k := 1) (by decide) (hq T)
    have hne : M2 337 5 ≠ 0 := by rw [m2.1]; exact m2.2.2
    unfold j_X12_statement_123
    rw [if_neg hn, e1, cl_some, ok_t (Or.inl rfl), m_asksSign0 hne, cl_some, f2 337 36 (by unfold ScP; omega), h5, ok_t ⟨by omega, by omega⟩, bm_e]
    refine Or.inl ⟨1, hq T, M1, _, rfl, rfl, x1, ⟨?_, ?_, by decide⟩, Fr.st (h13.tr (ScS_J (ScP_S f2))) (by unfold ScJ; omega), h14.tr (ScQ_G f1)⟩
    · rw [st_neI (by decide)]; exact m2.1
    · rw [st_neI (by decide)]; exact m2.2.1
  rcases hfl with rfl | rfl
  · -- a LAW
    rw [if_pos rfl]
    unfold j_X12_statement_36
    rw [if_pos rfl]
    rcases m_takes mp (a := 345) (by decide) with ⟨c6, M1, e1, q1, q2⟩ | ⟨c6, e1⟩
    · have c6 : isW T 6 := c6
      obtain ⟨M9, x9, b1, same, f9, e43, er⟩ := x_rst S 0 h1 ⟨h4, hk40⟩ c6 (by decide) (by omega)
      have hr := j_rule (fl := 0) (Or.inl rfl) hJ hk40 x9 hz b1 same f9 e43 q1 q2
      rw [if_pos (Or.inr ⟨rfl, Or.inr c6⟩), er, e1, cl_some, if_neg (by decide), if_neg (by decide), if_neg (by decide), if_neg (by decide), if_neg (by decide), if_neg (by decide), hr.r01]
      unfold j_X12_statement_51
      exact j_semi hx2 hk40 hr
    · have c6 : ¬ isW T 6 := c6
      rw [e1, cl_some, if_pos rfl, lk_lk]
      unfold j_X12_statement_58
      rw [if_pos rfl]
      rcases m_asks mp (a := 342) (by decide) with ⟨c3, M1, e1, q1, q2⟩ | ⟨c3, M1, e1, q1, q2⟩
      · have c3 : isW T 3 := c3
        rw [if_pos (Or.inr ⟨rfl, Or.inl c3⟩), e1, cl_some, if_pos q1.1]
        obtain ⟨w1, w2', w3⟩ := h11 rfl
        by_cases c5 : lk Mm T 366 0 < 5
        · obtain ⟨M9, x9, b1, same, f9, e43, er⟩ := x_rst S 0 h1 ⟨h4, hk40⟩ c3 (by decide) (by omega)
          have hr := j_way hJ hk40 x9 hz b1 same f9 e43 q1 q2 c5 (hq T)
          rw [er, if_neg (by decide), if_neg (by decide), if_pos rfl]
          exact j_semi hx2 hk40 hr
        · -- a 6th WAY
          have e366 : M1 366 0 = 5 := by rw [q2 366 0 (by unfold ScP; omega)]; omega
          obtain ⟨M3, e3, x3, f3⟩ := x_ref h1 (k := 5) (by decide) (hq T)
          have er : f_X5_readStatement S Mx 0 = some (0, M3) := by
            unfold f_X5_readStatement j_X5_readStatement_16 j_X5_readStatement_21
            have e10 : Mx 4 10 = 3 := (h1.ow (by decide)).mpr c3
            rw [e10, if_neg (by decide), if_pos rfl, if_neg (by decide), h1.2.2.1.1, ok_t h1.2.2.1.2, if_neg (by omega), k3, e3, cl_some, ok_t (Or.inl rfl)]
          have ew : f_X12_wayTold M1 (hq T) = some (0, st (st M1 337 5 5) 337 6 (hq T)) := by
            unfold f_X12_wayTold
            show (if M1 366 0 = 5 then _ else _) = _
            rw [if_pos e366, m_fail q1.1, cl_some]
          have hr : JB b n sp 0 A0 B0 T.length (k + 1) k (some (0, M3)) (some (0, st (st M1 337 5 5) 337 6 (hq T))) := by
            refine Or.inl ⟨5, hq T, M3, _, 0, rfl, rfl, x3, me_fail (by decide), ?_, h13.tr (ScS_J (ScP_S (fr_fail q2 _ _))), h14.tr (ScQ_G f3)⟩
            rw [st_neI (by decide), st_neI (by decide), q2 337 36 (by unfold ScP; omega)]; exact h5
          rw [er, ew]
          exact j_semi hx2 hk40 hr
      · have c3 : ¬ isW T 3 := c3
        rw [e1, cl_some, if_neg (show ¬ M1 337 5 = 0 by rw [q1.1]; decide)]
        refine no ?_ M1 q1 q2
        rintro (⟨q, -⟩ | ⟨-, q | q⟩)
        · exact absurd q (by decide)
        · exact c3 q
        · exact c6 q
  · -- a FIELD
    rw [if_neg (show ¬ (1 : Int) = 0 by decide)]
    rcases m_takes mp (a := 339) (by decide) with ⟨c0, M1, e1, q1, q2⟩ | ⟨c0, e1⟩
    · have c0 : isW T 0 := c0
      obtain ⟨M9, x9, b1, same, f9, e43, er⟩ := x_rst S 0 h1 ⟨h4, hk40⟩ c0 (by decide) (by omega)
      have hr := j_rule (fl := 1) (Or.inr rfl) hJ hk40 x9 hz b1 same f9 e43 q1 q2
      rw [if_pos (Or.inl ⟨rfl, Or.inl c0⟩), er, e1, cl_some, if_neg (by decide), if_neg (by decide), if_neg (by decide), if_neg (by decide), if_neg (by decide), if_neg (by decide), hr.r01]
      unfold j_X12_statement_51
      exact j_semi hx2 hk40 hr
    · have c0 : ¬ isW T 0 := c0
      rw [e1, cl_some, if_pos rfl, lk_lk]
      unfold j_X12_statement_36
      rw [if_neg (show ¬ (1 : Int) = 0 by decide)]
      unfold j_X12_statement_58
      rw [if_neg (show ¬ (1 : Int) = 0 by decide)]
      rcases m_takes mp (a := 340) (by decide) with ⟨c1, M1, e1, q1, q2⟩ | ⟨c1, e1⟩
      · have c1 : isW T 1 := c1
        obtain ⟨M9, x9, b1, same, f9, e43, er⟩ := x_rst S 0 h1 ⟨h4, hk40⟩ c1 (by decide) (by omega)
        have hr := j_disc hJ hk40 x9 hz b1 same f9 e43 q1 q2
        rw [if_pos (Or.inl ⟨rfl, Or.inr (Or.inl c1)⟩), er, if_pos rfl, e1, cl_some, if_neg (show ¬ (1 : Int) = 0 by decide), hr.r01]
        exact j_semi hx2 hk40 hr
      · have c1 : ¬ isW T 1 := c1
        rw [e1, cl_some, if_pos rfl, lk_lk]
        rcases m_asks mp (a := 341) (by decide) with ⟨c2, M1, e1, q1, q2⟩ | ⟨c2, M1, e1, q1, q2⟩
        · have c2 : isW T 2 := c2
          rw [if_pos (Or.inl ⟨rfl, Or.inr (Or.inr c2)⟩), e1, cl_some, if_pos q1.1]
          obtain ⟨w1, w2', w3, w4, w5⟩ := h12 rfl
          by_cases c5 : lk Mm T 372 0 < 5
          · obtain ⟨M9, x9, b1, same, f9, e43, er⟩ := x_rst S 0 h1 ⟨h4, hk40⟩ c2 (by decide) (by omega)
            have hr := j_thing (R := fun M => some (0, M)) hJ hk40 x9 hz b1 same f9 e43 q1 q2 c5 (hq T)
            rw [er, if_neg (by decide), if_pos rfl]
            exact j_semi hx2 hk40 hr
          · have e372 : M1 372 0 = 5 := by rw [q2 372 0 (by unfold ScP; omega)]; omega
            obtain ⟨M3, e3, x3, f3⟩ := x_ref h1 (k := 5) (by decide) (hq T)
            have er : f_X5_readStatement S Mx 0 = some (0, M3) := by
              unfold f_X5_readStatement j_X5_readStatement_16 j_X5_readStatement_21
              have e10 : Mx 4 10 = 2 := (h1.ow (by decide)).mpr c2
              rw [e10, if_pos rfl, if_neg (by decide), h1.2.2.1.1, ok_t h1.2.2.1.2, if_neg (by omega), k3, e3, cl_some, ok_t (Or.inl rfl)]
            have ew : f_X12_thingTold M1 (hq T) = some (0, st (st M1 337 5 5) 337 6 (hq T)) := by
              unfold f_X12_thingTold
              show (if M1 372 0 = 5 then _ else _) = _
              rw [if_pos e372, m_fail q1.1, cl_some]
            have hr : JB b n sp 1 A0 B0 T.length (k + 1) k (some (0, M3)) (some (0, st (st M1 337 5 5) 337 6 (hq T))) := by
              refine Or.inl ⟨5, hq T, M3, _, 0, rfl, rfl, x3, me_fail (by decide), ?_, h13.tr (ScS_J (ScP_S (fr_fail q2 _ _))), h14.tr (ScQ_G f3)⟩
              rw [st_neI (by decide), st_neI (by decide), q2 337 36 (by unfold ScP; omega)]; exact h5
            rw [er, ew]
            exact j_semi hx2 hk40 hr
        · have c2 : ¬ isW T 2 := c2
          rw [e1, cl_some, if_neg (show ¬ M1 337 5 = 0 by rw [q1.1]; decide)]
          refine no ?_ M1 q1 q2
          rintro (⟨-, q | q | q⟩ | ⟨q, -⟩)
          · exact c0 q
          · exact c1 q
          · exact c2 q
          · exact absurd q (by decide)
theorem lkv_end {p : Int} (h : Lx b n p T) (hp : 0 ≤ p) (hr : ∀ i, 0 ≤ i → i < n → 0 ≤ b i) : lkv b T = -1 ↔ hk T = 0 := by
  obtain ⟨l1, l2, l3, l4⟩ := h.hd
  unfold lkv
  rcases l4 with ⟨l4, l5⟩ | ⟨l4, t, r, l5, l6, l7, l8⟩
  · rw [if_pos l5]; exact ⟨fun _ => l5, fun _ => rfl⟩
  · have hz : hk T ≠ 0 := by rw [l5]; exact l7.nz
    rw [if_neg hz]
    have := hr (hq T) (by omega) l4
    exact ⟨fun q => by omega, fun q => absurd q hz⟩
/-- all of the text -/
theorem j_loop {pl : Int} (hfl : fl = 0 ∨ fl = 1) (hpl : pl = 1 ↔ fl = 1) (S : Mem → Int → Res) : ∀ (N : Nat) (F G : Nat) (Mx Mm : Mem) (T : List Tok) (C : List Int) (k : Nat), JS b n sp fl A0 B0 Mx Mm T C k k → T.length ≤ N → N < F → N < G → ∃ r Mx1 Mm1, wl1 (b_X5_readStatements_2 S 0) F Mx k = some (r, Mx1) ∧ wl0 (b_X12_reads_4 pl) G Mm = j_X12_reads_36 pl Mm1 ∧ ((r = 0 ∧ ∃ e p, XE sp Mx1 e p ∧ ME Mm1 e p ∧ Fr ScJ A0 Mm1 ∧ Fr (ScG sp) B0 Mx1) ∨ (r = 1 ∧ ∃ T1 C1 k1, JS b n sp fl A0 B0 Mx1 Mm1 T1 C1 k1 k1 ∧ hk T1 = 0))
  | 0, F, G, Mx, Mm, T, C, k, h, hl, hF, hG => by
    have := h.1.1.hd.2.1
    omega
  | N + 1, F, G, Mx, Mm, T, C, k, h, hl, hF, hG => by
    obtain ⟨F', rfl⟩ : ∃ F', F = F' + 1 := ⟨F - 1, by omega⟩
    obtain ⟨G', rfl⟩ : ∃ G', G = G' + 1 := ⟨G - 1, by omega⟩
    have k1 := h.1.2.2.2.2.2.1.1
    have hk41 := h.2.2.2.1.2.2
    have mp := h.2.1.1
    have el := lkv_end mp.2.2.2.2.2.1 mp.2.2.2.2.1 (fun i i0 i1 => (mp.2.2.2.1 i i0 i1).2.1)
    have eX : wl1 (b_X5_readStatements_2 S 0) (F' + 1) Mx k = if hk T = 0 then some (1, Mx) else j_X5_readStatements_33 S 0 (wl1 (b_X5_readStatements_2 S 0) F') Mx k := by
      rw [wl1_s]
      show b_X5_readStatements_2 S 0 (wl1 (b_X5_readStatements_2 S 0) F') Mx k = _
      generalize wl1 (b_X5_readStatements_2 S 0) F' = w
      unfold b_X5_readStatements_2
      rw [if_neg (by omega), if_pos rfl, k1]
    have eM : wl0 (b_X12_reads_4 pl) (G' + 1) Mm = if hk T = 0 then j_X12_reads_36 pl (lk Mm T) else cl (f_X12_statement (lk Mm T) fl) (fun _ M18 => wl0 (b_X12_reads_4 pl) G' M18) := by
      rw [wl0_s]
      show b_X12_reads_4 pl (wl0 (b_X12_reads_4 pl) G') Mm = _
      generalize wl0 (b_X12_reads_4 pl) G' = w
      unfold b_X12_reads_4
      rw [if_pos mp.1, m_look mp, cl_some]
      by_cases c : hk T = 0
      · rw [if_pos (el.mpr c), if_pos c]
      · rw [if_neg (fun q => c (el.mp q)), if_neg c]
        rcases hfl with rfl | rfl
        · rw [if_neg (fun q => absurd (hpl.mp q) (by decide))]
        · rw [if_pos (hpl.mpr rfl)]
    rw [eX, eM]
    by_cases c : hk T = 0
    · rw [if_pos c, if_pos c]
      exact ⟨1, Mx, lk Mm T, rfl, rfl, Or.inr ⟨rfl, T, C, k, h.mv h.1 mp.lo (Nat.le_refl _) (Fr.rf _ _) (lk_fr Mm T), c⟩⟩
    · rw [if_neg c, if_neg c]
      rcases j_step hfl S (wl1 (b_X5_readStatements_2 S 0) F') k ⟨by omega, by omega⟩ h c with ⟨e, p, M1, M2, e1, e2, h1, h2, h3, h4⟩ | ⟨M1, M2, T', C', e1, e2, hJ, hl2⟩
      · rw [e1, e2, cl_some]
        obtain ⟨G'', rfl⟩ : ∃ G'', G' = G'' + 1 := ⟨G' - 1, by omega⟩
        refine ⟨0, M1, M2, rfl, ?_, Or.inl ⟨rfl, e, p, h1, h2, h3, h4⟩⟩
        rw [wl0_s]
        unfold b_X12_reads_4
        rw [if_neg (by rw [h2.1]; exact h2.2.2)]
      · rw [e1, e2, cl_some]
        obtain ⟨r, M3, M4, e3, e4, q⟩ := j_loop hfl hpl S N F' G' M1 M2 T' C' (k + 1) hJ (by omega) (by omega) (by omega)
        refine ⟨r, M3, M4, ?_, e4, q⟩
        rw [← e3]
        congr 1
end JL
