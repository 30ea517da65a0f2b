/-! the NEXT, and a WHOLE one beside him -/
def nxV (A : Mem) (p q b : Int) : Nat → Int × Int
  | 0 => (0, -1)
  | k + 1 => if (nxV A p q b k).2 < prt A (env (A 388) ((k : Int) / 96) ((k : Int) % 96) b) p q (A 374 (5 + (k : Int) / 96)) then ((k : Int), prt A (env (A 388) ((k : Int) / 96) ((k : Int) % 96) b) p q (A 374 (5 + (k : Int) / 96))) else nxV A p q b k
theorem nxV_succ (A : Mem) (p q b : Int) (k : Nat) : nxV A p q b (k + 1) = if (nxV A p q b k).2 < prt A (env (A 388) ((k : Int) / 96) ((k : Int) % 96) b) p q (A 374 (5 + (k : Int) / 96)) then ((k : Int), prt A (env (A 388) ((k : Int) / 96) ((k : Int) % 96) b) p q (A 374 (5 + (k : Int) / 96))) else nxV A p q b k := rfl
theorem nxV_rng {A : Mem} {p q b : Int} (h : ∀ t, 0 ≤ t → t < A 372 1 → 2 ≤ A 374 (5 + t) ∧ A 374 (5 + t) ≤ 6) : ∀ k : Nat, (k : Int) ≤ A 372 1 * 96 → (0 ≤ (nxV A p q b k).1 ∧ ((nxV A p q b k).1 < k ∨ (nxV A p q b k).1 = 0)) ∧ -1 ≤ (nxV A p q b k).2 ∧ (nxV A p q b k).2 ≤ 5000000
  | 0, _ => ⟨⟨Int.le_refl 0, Or.inr rfl⟩, Int.le_refl _, show (-1 : Int) ≤ 5000000 by decide⟩
  | k + 1, hk => by
    have ih := nxV_rng (p := p) (q := q) (b := b) h k (by omega)
    have hp := prt_rng (A := A) (e := env (A 388) ((k : Int) / 96) ((k : Int) % 96) b) (p := p) (q := q) (h ((k : Int) / 96) (by omega) (by omega))
    rw [nxV_succ]
    split
    · refine ⟨⟨?_, Or.inl ?_⟩, ?_, ?_⟩ <;> simp only <;> omega
    · refine ⟨⟨ih.1.1, ?_⟩, ih.2.1, ih.2.2⟩
      rcases ih.1.2 with w | w
      · left; omega
      · right; exact w
section QL
variable {A B Mx Mm : Mem}
def nxA (A : Mem) (p q b w : Int) : Int := if w = 0 then (nxV A p q b (A 372 1 * 96).toNat).1 / 96 else if w = 1 then (nxV A p q b (A 372 1 * 96).toNat).1 % 12 else if w = 2 then (nxV A p q b (A 372 1 * 96).toNat).1 % 96 / 12 else (nxV A p q b (A 372 1 * 96).toNat).2
theorem J_next (h : R Mx Mm) (a1 a2 a3 a4 : Int) : Jt (f_X11_next Mx a1 a2 a3 a4) (f_X12_next Mm a1 a2 a3 a4) := by
  obtain ⟨A, B, h⟩ := h
  have hT := h.thg.1
  have hsr : ∀ t, 0 ≤ t → t < A 372 1 → 2 ≤ A 374 (5 + t) ∧ A 374 (5 + t) ≤ 6 := fun t t0 t1 => h.sr ⟨t0, t1⟩
  have h3723 : Mx (B 1 8) 3 = A 372 1 := by rw [(SA.thg h.ptr h.fx) _ 3 (by omega) (by omega), h.thg.2.1]
  by_cases hok : (isLw A a1 ∧ isLw A a2) ∧ isBr a3 ∧ (0 ≤ a4 ∧ a4 ≤ 3) ∧ A 372 1 ≠ 0
  · obtain ⟨⟨la, lb⟩, hb, hw, h0⟩ := hok
    have ka := (h.law la).1
    have kb := (h.law lb).1
    have na := kd17 _ ka
    have nb := kd17 _ kb
    have cx : Tt (f_X11_next Mx a1 a2 a3 a4) (fun r M => r = nxA A (2 + a1) (2 + a2) a3 a4 ∧ RR A B M Mm) := by
      unfold f_X11_next
      rcases h.law2 a1 with ⟨-, x1, -⟩ | ⟨l, -⟩
      · rcases h.law2 a2 with ⟨-, x2, -⟩ | ⟨l, -⟩
        · refine tt_cq x1 (tt_cq x2 (tt_in (by omega) (tt_in (by omega) ?_)))
          obtain ⟨q, e, hq⟩ := xx_isBr Mx a3
          rcases hq with ⟨rfl, -⟩ | ⟨rfl, hq⟩
          · refine tt_cq e (tt_in (by decide) ?_)
            unfold j_X11_next_37
            refine tt_in (by decide) (tt_in (by omega) (tt_in (by omega) ?_))
            rw [h.rx (a := 1) (i := 8) (by omega) (by omega)]
            refine tt_ok h.ptr.1.1 ?_
            rw [h3723]
            refine tt_in h0 ?_
            refine tt_wl5 (fun M x5 x6 x8 x9 k => RR A B M Mm ∧ x5 = B 68 a1 ∧ x6 = B 68 a2 ∧ (0 ≤ k ∧ k ≤ A 372 1 * 96) ∧ x8 = (nxV A (2 + a1) (2 + a2) a3 k.toNat).1 ∧ x9 = (nxV A (2 + a1) (2 + a2) a3 k.toNat).2) (fun _ _ _ _ _ k => (A 372 1 * 96 - k).toNat) ?_ FU Mx _ _ 0 (-1) 0 ⟨h, rfl, rfl, ⟨by omega, by omega⟩, rfl, rfl⟩ (by unfold FU; omega)
            rintro w M x5 x6 x8 x9 k ⟨hM, rfl, rfl, hk, rfl, rfl⟩ K
            have hv := nxV_rng (p := 2 + a1) (q := 2 + a2) (b := a3) hsr k.toNat (by omega)
            unfold b_X11_next_75
            rw [hM.rx (a := 1) (i := 8) (by omega) (by omega)]
            refine tt_ok h.ptr.1.1 ?_
            rw [(SA.thg hM.ptr hM.fx) _ 3 (by omega) (by omega), h.thg.2.1]
            refine tt_ok ⟨by omega, by omega⟩ (tt_if (fun h5 => ?_) (fun h5 => ?_))
            · have ek : k = A 372 1 * 96 := by omega
              subst ek
              unfold nxA
              refine tt_if (fun w0 => ?_) (fun w0 => tt_if (fun w1 => ?_) (fun w1 => tt_if (fun w2 => ?_) (fun w2 => ?_)))
              · rw [if_pos w0]; exact tt_ok hv.1.1 (tt_ret ⟨rfl, hM⟩)
              · rw [if_neg w0, if_pos w1]; exact tt_ok hv.1.1 (tt_ret ⟨rfl, hM⟩)
              · rw [if_neg w0, if_neg w1, if_pos w2]; exact tt_ok hv.1.1 (tt_ok (by omega) (tt_ret ⟨rfl, hM⟩))
              · rw [if_neg w0, if_neg w1, if_neg w2]; exact tt_ret ⟨rfl, hM⟩
            · have ht : isTh A (k / 96) := ⟨by omega, by omega⟩
              have hs := hM.sr ht
              have hn := hM.nt ht
              refine tt_ok hk.1 (tt_bi ?_)
              obtain ⟨M1, Mm1, q1, -, h1, ex, em, eo⟩ := hM.shows (t := k / 96) (s := k % 96) (b := a3) (by omega) (by omega) hb
              have h1' := hM.mixx h1
              refine tt_cq q1 (tt_cq (h1'.sorts ht) (tt_ok ka (tt_ok kb ?_)))
              obtain ⟨M2, q2, h2⟩ := h1'.xprt eo ex la lb hs
              have hj : ((k.toNat : Nat) : Int) = k := by omega
              have hk1 : (k + 1).toNat = k.toNat + 1 := by omega
              have hstep : nxV A (2 + a1) (2 + a2) a3 (k + 1).toNat = if (nxV A (2 + a1) (2 + a2) a3 k.toNat).2 < prt A (env (A 388) (k / 96) (k % 96) a3) (2 + a1) (2 + a2) (A 374 (5 + k / 96)) then (k, prt A (env (A 388) (k / 96) (k % 96) a3) (2 + a1) (2 + a2) (A 374 (5 + k / 96))) else nxV A (2 + a1) (2 + a2) a3 k.toNat := by
                rw [hk1, nxV_succ, hj]
              refine tt_cq q2 (tt_if (fun h6 => ?_) (fun h6 => ?_))
              · refine tt_ok ⟨by omega, by omega⟩ (tt_bi (K M2 _ _ _ _ (k + 1) ⟨h2, rfl, rfl, ⟨by omega, by omega⟩, ?_, ?_⟩ (by omega)))
                · rw [hstep, if_neg (by omega)]
                · rw [hstep, if_neg (by omega)]
              · refine tt_ok ⟨by omega, by omega⟩ (tt_bi (K M2 _ _ _ _ (k + 1) ⟨h2, rfl, rfl, ⟨by omega, by omega⟩, ?_, ?_⟩ (by omega)))
                · rw [hstep, if_pos (by omega)]
                · rw [hstep, if_pos (by omega)]
          · exact absurd hb hq
        · exact absurd lb l
      · exact absurd la l
    have cm : Tt (f_X12_next Mm a1 a2 a3 a4) (fun r M => r = nxA A (2 + a1) (2 + a2) a3 a4 ∧ RR A B Mx M) := by
      unfold f_X12_next
      rcases h.law2 a1 with ⟨-, -, x1, -⟩ | ⟨l, -⟩
      · rcases h.law2 a2 with ⟨-, -, x2, -⟩ | ⟨l, -⟩
        · refine tt_cq x1 (tt_in (by decide) (tt_cq x2 (tt_in (by decide) ?_)))
          obtain ⟨q, e, hq⟩ := e_isIn Mm a3 0 99
          rcases hq with ⟨rfl, -⟩ | ⟨rfl, hq⟩
          · refine tt_cq e (tt_in (by decide) ?_)
            obtain ⟨q', e', hq'⟩ := e_isIn Mm a4 0 3
            rcases hq' with ⟨rfl, -⟩ | ⟨rfl, hq'⟩
            · refine tt_cq e' (tt_in (by decide) ?_)
              rw [h.rm (a := 372) (i := 1) (by unfold ScM; omega)]
              refine tt_in h0 ?_
              refine tt_wl3 (fun M x5 x6 k => RR A B Mx M ∧ (0 ≤ k ∧ k ≤ A 372 1 * 96) ∧ x5 = (nxV A (2 + a1) (2 + a2) a3 k.toNat).1 ∧ x6 = (nxV A (2 + a1) (2 + a2) a3 k.toNat).2) (fun _ _ _ k => (A 372 1 * 96 - k).toNat) ?_ FU Mm 0 (-1) 0 ⟨h, ⟨by omega, by omega⟩, rfl, rfl⟩ (by unfold FU; omega)
              rintro w M x5 x6 k ⟨hM, hk, rfl, rfl⟩ K
              have hv := nxV_rng (p := 2 + a1) (q := 2 + a2) (b := a3) hsr k.toNat (by omega)
              unfold b_X12_next_61
              rw [hM.rm (a := 372) (i := 1) (by unfold ScM; omega)]
              refine tt_ok ⟨by omega, by omega⟩ (tt_if (fun h5 => ?_) (fun h5 => ?_))
              · have ek : k = A 372 1 * 96 := by omega
                subst ek
                unfold nxA
                refine tt_ok hv.1.1 (tt_bi (tt_if (fun w0 => ?_) (fun w0 => tt_if (fun w1 => ?_) (fun w1 => tt_if (fun w2 => ?_) (fun w2 => ?_)))))
                · rw [if_pos w0]; exact tt_ret ⟨rfl, hM⟩
                · rw [if_neg w0, if_pos w1]; exact tt_ok (by omega) (tt_ret ⟨by omega, hM⟩)
                · rw [if_neg w0, if_neg w1, if_pos w2]; exact tt_ok (by omega) (tt_ret ⟨rfl, hM⟩)
                · rw [if_neg w0, if_neg w1, if_neg w2]; exact tt_ret ⟨rfl, hM⟩
              · have ht : isTh A (k / 96) := ⟨by omega, by omega⟩
                refine tt_ok hk.1 ?_
                obtain ⟨M2, q2, h2⟩ := hM.mprt la lb ht (s := k % 96) (c := a3) (by omega) hb
                have hj : ((k.toNat : Nat) : Int) = k := by omega
                have hk1 : (k + 1).toNat = k.toNat + 1 := by omega
                have hstep : nxV A (2 + a1) (2 + a2) a3 (k + 1).toNat = if (nxV A (2 + a1) (2 + a2) a3 k.toNat).2 < prt A (env (A 388) (k / 96) (k % 96) a3) (2 + a1) (2 + a2) (A 374 (5 + k / 96)) then (k, prt A (env (A 388) (k / 96) (k % 96) a3) (2 + a1) (2 + a2) (A 374 (5 + k / 96))) else nxV A (2 + a1) (2 + a2) a3 k.toNat := by
                  rw [hk1, nxV_succ, hj]
                refine tt_cq q2 (tt_if (fun h6 => ?_) (fun h6 => ?_))
                · refine tt_ok ⟨by omega, by omega⟩ (tt_bi (K M2 _ _ (k + 1) ⟨h2, ⟨by omega, by omega⟩, ?_, ?_⟩ (by omega)))
                  · rw [hstep, if_pos h6]
                  · rw [hstep, if_pos h6]
                · refine tt_ok ⟨by omega, by omega⟩ (tt_bi (K M2 _ _ (k + 1) ⟨h2, ⟨by omega, by omega⟩, ?_, ?_⟩ (by omega)))
                  · rw [hstep, if_neg h6]
                  · rw [hstep, if_neg h6]
            · exact absurd hw hq'
          · exact absurd hb hq
        · exact absurd lb l
      · exact absurd la l
    obtain ⟨r, M1, e1, rfl, h1⟩ := cx
    obtain ⟨r2, M2, e2, rfl, h2⟩ := cm
    exact (h2.mixx h1).J e1 e2
  · have cx : f_X11_next Mx a1 a2 a3 a4 = some (-1, Mx) := by
      unfold f_X11_next
      have j0 : ∀ y z, j_X11_next_36 a3 a4 Mx y z = some (-1, Mx) := by
        intro y z; unfold j_X11_next_36 j_X11_next_37; rw [if_pos rfl]
      obtain ⟨y, ey, hy⟩ := x_lawAt h.ptr h.fx h.lws a1
      obtain ⟨z, ez, hz⟩ := x_lawAt h.ptr h.fx h.lws a2
      rw [ey, cl_some, ez, cl_some]
      by_cases w1 : a4 < 0
      · rw [if_pos w1, j0]
      · rw [if_neg w1]
        by_cases w2 : 3 < a4
        · rw [if_pos w2, j0]
        · rw [if_neg w2]
          obtain ⟨q, e, hq⟩ := xx_isBr Mx a3
          rw [e, cl_some]
          rcases hq with ⟨rfl, hq⟩ | ⟨rfl, hq⟩
          · rw [if_neg (by decide)]
            unfold j_X11_next_37
            rw [if_neg (by decide)]
            rcases hy with ⟨rfl, hy⟩ | ⟨rfl, hy⟩
            · have := kd17 _ (h.law hy).1
              rw [if_neg (by omega)]
              rcases hz with ⟨rfl, hz⟩ | ⟨rfl, hz⟩
              · have := kd17 _ (h.law hz).1
                rw [if_neg (by omega), h.rx (a := 1) (i := 8) (by omega) (by omega), ok_t h.ptr.1.1, h3723, if_pos]
                apply Classical.byContradiction
                intro hn
                exact hok ⟨⟨hy, hz⟩, hq, ⟨by omega, by omega⟩, hn⟩
              · rw [if_pos rfl]
            · rw [if_pos rfl]
          · rw [if_pos rfl, j0]
    have cm : f_X12_next Mm a1 a2 a3 a4 = some (-1, Mm) := by
      unfold f_X12_next
      obtain ⟨y, ey, hy⟩ := m_isLaw h.fm h.lws a1
      obtain ⟨z, ez, hz⟩ := m_isLaw h.fm h.lws a2
      rw [ey, cl_some]
      rcases hy with ⟨rfl, hy⟩ | ⟨rfl, hy⟩
      · rw [if_neg (by decide), ez, cl_some]
        rcases hz with ⟨rfl, hz⟩ | ⟨rfl, hz⟩
        · rw [if_neg (by decide)]
          obtain ⟨q, e, hq⟩ := e_isIn Mm a3 0 99
          rw [e, cl_some]
          rcases hq with ⟨rfl, hq⟩ | ⟨rfl, hq⟩
          · rw [if_neg (by decide)]
            obtain ⟨q', e', hq'⟩ := e_isIn Mm a4 0 3
            rw [e', cl_some]
            rcases hq' with ⟨rfl, hq'⟩ | ⟨rfl, hq'⟩
            · rw [if_neg (by decide), h.rm (a := 372) (i := 1) (by unfold ScM; omega), if_pos]
              apply Classical.byContradiction
              intro hn
              exact hok ⟨⟨hy, hz⟩, hq, hq', hn⟩
            · rw [if_pos rfl]
          · rw [if_pos rfl]
        · rw [if_pos rfl]
      · rw [if_pos rfl]
    exact h.J cx cm
/-- BRIGHT by which CARRIED is nearest -/
def nbR (f : Nat → Int) : Nat → Int × Int
  | 0 => (0, 1000)
  | n + 1 => if f (n + 1) < (nbR f n).2 then ((n : Int) + 1, f (n + 1)) else nbR f n
theorem nbR_succ (f : Nat → Int) (n : Nat) : nbR f (n + 1) = if f (n + 1) < (nbR f n).2 then ((n : Int) + 1, f (n + 1)) else nbR f n := rfl
theorem nbR_rng {f : Nat → Int} (h : ∀ n, 0 ≤ f n ∧ f n ≤ 100) : ∀ n : Nat, (0 ≤ (nbR f n).1 ∧ (nbR f n).1 ≤ n) ∧ 0 ≤ (nbR f n).2 ∧ (nbR f n).2 ≤ 1000 ∧ (1 ≤ n → 1 ≤ (nbR f n).1)
  | 0 => ⟨⟨Int.le_refl 0, Int.le_refl 0⟩, by show (0 : Int) ≤ 1000; decide, Int.le_refl _, fun h => by omega⟩
  | n + 1 => by
    have ih := nbR_rng h n
    have hf := h (n + 1)
    rw [nbR_succ]
    split
    · refine ⟨⟨?_, ?_⟩, ?_, ?_, fun _ => ?_⟩ <;> simp only <;> omega
    · rename_i q
      refine ⟨⟨by omega, by omega⟩, by omega, by omega, fun _ => ?_⟩
      by_cases h0 : n = 0
      · subst h0
        exfalso
        apply q
        show f 1 < 1000
        have := h 1
        omega
      · exact ih.2.2.2 (by omega)
theorem nbR_stop {f : Nat → Int} (h : ∀ n, 0 ≤ f n ∧ f n ≤ 100) {n : Nat} (h0 : (nbR f n).2 = 0) : ∀ k, nbR f (n + k) = nbR f n
  | 0 => rfl
  | k + 1 => by
    have ih := nbR_stop h h0 k
    have := h (n + k + 1)
    rw [show n + (k + 1) = (n + k) + 1 by omega, nbR_succ, ih, if_neg (by omega)]
def nbF (A : Mem) (p t s c : Int) (n : Nat) : Int := ((crd A (env (A 388) t s (n : Int)) p 0 - c).natAbs : Int)
theorem nbF_rng {A : Mem} {p t s c : Int} (hc : 0 ≤ c ∧ c ≤ 100) (n : Nat) : 0 ≤ nbF A p t s c n ∧ nbF A p t s c n ≤ 100 := by
  have := crd_rng A (env (A 388) t s (n : Int)) p 0
  unfold nbF; omega
theorem RR.xnear (h : RR A B Mx Mm) {k t s c : Int} (l : isLw A k) (ht : isTh A t) (hs : 0 ≤ s ∧ s < 96) (hc : 0 ≤ c ∧ c ≤ 100) : ∃ Mx1, f_X11_nearestBright Mx (B 68 k) t s c = some ((nbR (nbF A (2 + k) t s c) 99).1, Mx1) ∧ RR A B Mx1 Mm := by
  have hf := nbF_rng (A := A) (p := 2 + k) (t := t) (s := s) hc
  have hn := h.nt ht
  have q : Tt (f_X11_nearestBright Mx (B 68 k) t s c) (fun r M => r = (nbR (nbF A (2 + k) t s c) 99).1 ∧ RR A B M Mm) := by
    unfold f_X11_nearestBright
    refine tt_wl3 (fun M x5 x6 b => RR A B M Mm ∧ (1 ≤ b ∧ b ≤ 100) ∧ ((b = 1 ∧ x5 = 1 ∧ x6 = 1000000) ∨ (1 < b ∧ x5 = (nbR (nbF A (2 + k) t s c) (b - 1).toNat).1 ∧ x6 = (nbR (nbF A (2 + k) t s c) (b - 1).toNat).2))) (fun _ _ _ b => (100 - b).toNat) ?_ FU Mx 1 1000000 1 ⟨h, ⟨by omega, by omega⟩, Or.inl ⟨rfl, rfl, rfl⟩⟩ (by unfold FU; omega)
    rintro w M x5 x6 b ⟨hM, hb, hv⟩ K
    unfold b_X11_nearestBright_11
    refine tt_if (fun h5 => ?_) (fun h5 => tt_if (fun h6 => ?_) (fun h6 => ?_))
    · rcases hv with ⟨e1, -⟩ | ⟨-, e5, -⟩
      · omega
      · refine tt_ret ⟨?_, hM⟩
        rw [e5, show (b - 1).toNat = 99 by omega]
    · rcases hv with ⟨-, -, e6⟩ | ⟨-, e5, e6⟩
      · omega
      · refine tt_ret ⟨?_, hM⟩
        have hr := nbR_rng hf (b - 1).toNat
        have := nbR_stop hf (n := (b - 1).toNat) (by omega) (99 - (b - 1).toNat)
        rw [show (b - 1).toNat + (99 - (b - 1).toNat) = 99 by omega] at this
        rw [this, e5]
    · obtain ⟨M1, Mm1, q1, -, h1, ex, em, eo⟩ := hM.shows (t := t) (s := s) (b := b) (by omega) hs ⟨by omega, by omega⟩
      obtain ⟨a1, a2, a3, -, a5, -⟩ := h1.law l
      obtain ⟨M2, q2, f2⟩ := x_crd eo ex a1 a2 a3 a5 0
      have h2 : RR A B M2 Mm := (hM.mixx h1).nr f2 (Fr.rf _ _)
      have r1 := crd_rng A (env (A 388) t s b) (2 + k) 0
      have hbn : ((b.toNat : Nat) : Int) = b := by omega
      have eF : ((crd A (env (A 388) t s b) (2 + k) 0 - c).natAbs : Int) = nbF A (2 + k) t s c b.toNat := by unfold nbF; rw [hbn]
      refine tt_cq q1 (tt_cq q2 (tt_ok ⟨by omega, by omega⟩ (tt_cq (e_abs _ ⟨by omega, by omega⟩ ⟨by omega, by omega⟩) ?_)))
      rw [eF]
      have hF := hf b.toNat
      have hbt : b.toNat = (b - 1).toNat + 1 := by omega
      have hb1 : (b + 1 - 1).toNat = (b - 1).toNat + 1 := by omega
      have hstep : nbR (nbF A (2 + k) t s c) (b + 1 - 1).toNat = if nbF A (2 + k) t s c b.toNat < (nbR (nbF A (2 + k) t s c) (b - 1).toNat).2 then (b, nbF A (2 + k) t s c b.toNat) else nbR (nbF A (2 + k) t s c) (b - 1).toNat := by
        rw [hb1, nbR_succ, ← hbt, show (((b - 1).toNat : Nat) : Int) + 1 = b by omega]
      refine tt_if (fun h7 => ?_) (fun h7 => ?_)
      · refine tt_ok ⟨by omega, by omega⟩ (tt_bi (K M2 _ _ (b + 1) ⟨h2, ⟨by omega, by omega⟩, Or.inr ⟨by omega, ?_⟩⟩ (by omega)))
        rcases hv with ⟨-, -, e6⟩ | ⟨-, e5, e6⟩
        · omega
        · rw [hstep, if_neg (by omega)]; exact ⟨e5, e6⟩
      · refine tt_ok ⟨by omega, by omega⟩ (tt_bi (K M2 _ _ (b + 1) ⟨h2, ⟨by omega, by omega⟩, Or.inr ⟨by omega, ?_⟩⟩ (by omega)))
        rcases hv with ⟨e1, -, e6⟩ | ⟨-, e5, e6⟩
        · rw [hstep]
          have : (nbR (nbF A (2 + k) t s c) (b - 1).toNat).2 = 1000 := by rw [e1]; rfl
          rw [if_pos (by omega)]; exact ⟨rfl, rfl⟩
        · rw [hstep, if_pos (by omega)]; exact ⟨rfl, rfl⟩
  obtain ⟨r, M1, q1, hr, q2⟩ := q
  exact ⟨M1, by rw [q1, hr], q2⟩
end QL
