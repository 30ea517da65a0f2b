/-! SPANS, BOUND, LEFT: alike -/
section QS
variable {A B Mx Mm : Mem}
def spS (A : Mem) (p : Int) (i : Int) (s : Int × Int) : Int × Int := if A 397 i = 0 then (max s.1 (crd A (envT A i) p 1 + 1), s.2) else (s.1, min s.2 (crd A (envT A i) p 1))
theorem spS_e (A : Mem) (p i : Int) (s : Int × Int) : spS A p i s = if A 397 i = 0 then (max s.1 (crd A (envT A i) p 1 + 1), s.2) else (s.1, min s.2 (crd A (envT A i) p 1)) := rfl
theorem spS_rng (A : Mem) (p : Int) (n : Nat) : (0 ≤ (fld (spS A p) (0, 101) n).1 ∧ (fld (spS A p) (0, 101) n).1 ≤ 101) ∧ 0 ≤ (fld (spS A p) (0, 101) n).2 ∧ (fld (spS A p) (0, 101) n).2 ≤ 101 := by
  refine fld_inv (fun _ (s : Int × Int) => (0 ≤ s.1 ∧ s.1 ≤ 101) ∧ 0 ≤ s.2 ∧ s.2 ≤ 101) _ _ ⟨⟨by decide, by decide⟩, by decide, by decide⟩ (fun n s hs => ?_) n
  have hc := crd_rng A (envT A n) p 1
  unfold spS; split
  · refine ⟨⟨?_, ?_⟩, ?_, ?_⟩ <;> simp only <;> omega
  · refine ⟨⟨?_, ?_⟩, ?_, ?_⟩ <;> simp only <;> omega
def spE (s : Int × Int) (m : Int) : Int := if s.1 ≤ s.2 then (if m = 0 then s.1 else s.2) else -1
theorem J_span (h : R Mx Mm) (a1 a2 : Int) : Jt (f_X11_span Mx a1 a2) (f_X12_span Mm a1 a2) := by
  obtain ⟨A, B, h⟩ := h
  obtain ⟨n1, n2, n3, n4⟩ := h.n79
  unfold f_X11_span f_X12_span
  rcases h.law2 a1 with ⟨l, x1, m1, z1, k1⟩ | ⟨l, x1, m1⟩
  · rw [x1, m1, cl_some, cl_some]
    refine Jt.cg (if_neg z1) (if_neg (by decide)) ?_
    have cx : Tt (wl4 (b_X11_span_22 a2) FU Mx (B 68 a1) 0 101 0) (fun r M => r = spE (fld (spS A (2 + a1)) (0, 101) (A 337 79).toNat) a2 ∧ RR A B M Mm) := by
      refine tt_wl4 (fun M x3 x4 x5 i => RR A B M Mm ∧ x3 = B 68 a1 ∧ (0 ≤ i ∧ i ≤ A 337 79) ∧ x4 = (fld (spS A (2 + a1)) (0, 101) i.toNat).1 ∧ x5 = (fld (spS A (2 + a1)) (0, 101) i.toNat).2) (fun _ _ _ _ i => (41 - i).toNat) ?_ FU Mx _ 0 101 0 ⟨h, rfl, ⟨by omega, by omega⟩, rfl, rfl⟩ (by unfold FU; omega)
      rintro w M x3 x4 x5 i ⟨hM, rfl, hi, rfl, rfl⟩ K
      unfold b_X11_span_22
      rw [hM.n79.2.1]
      refine tt_if (fun w1 => ?_) (fun w1 => ?_)
      · have ei : i = A 337 79 := by omega
        subst ei
        unfold spE
        refine tt_if (fun w2 => ?_) (fun w2 => ?_)
        · rw [if_pos w2]
          refine tt_if (fun w3 => ?_) (fun w3 => ?_)
          · rw [if_pos w3]; exact tt_ret ⟨rfl, hM⟩
          · rw [if_neg w3]; exact tt_ret ⟨rfl, hM⟩
        · rw [if_neg w2]; exact tt_ret ⟨rfl, hM⟩
      · obtain ⟨M1, _, q1, -, h3, ex, -, eo⟩ := hM.showT hi.1 (show i < A 337 79 by omega)
        have h3' := hM.mixx h3
        obtain ⟨-, l2, l3, -, l5, -⟩ := h3'.law l
        obtain ⟨M2, q2, f2⟩ := x_crd eo ex k1 l2 l3 l5 1
        have h4 : RR A B M2 Mm := h3'.nr f2 (Fr.rf _ _)
        obtain ⟨-, -, hx⟩ := h4.tx hi.1 (show i < A 337 79 by omega)
        have hc := crd_rng A (envT A i) (2 + a1) 1
        refine tt_ok ⟨by omega, by omega⟩ (tt_cq q1 (tt_ok k1 (tt_cq q2 ?_)))
        rw [hx.2.2.2.2.2.1]
        refine tt_if (fun w2 => ?_) (fun w2 => ?_)
        · refine tt_ok ⟨by omega, by omega⟩ (tt_cq (e_max _ _ _) (tt_bi (K M2 _ _ _ (i + 1) ⟨h4, rfl, ⟨by omega, by omega⟩, ?_, ?_⟩ (by omega))))
          · rw [fld_succ _ _ _ hi.1]; rw [spS_e, if_pos w2]
          · rw [fld_succ _ _ _ hi.1]; rw [spS_e, if_pos w2]
        · refine tt_cq (e_min _ _ _) (tt_bi (K M2 _ _ _ (i + 1) ⟨h4, rfl, ⟨by omega, by omega⟩, ?_, ?_⟩ (by omega)))
          · rw [fld_succ _ _ _ hi.1]; rw [spS_e, if_neg w2]
          · rw [fld_succ _ _ _ hi.1]; rw [spS_e, if_neg w2]
    have cm : Tt (wl3 (b_X12_span_19 a1 a2) FU Mm 0 101 0) (fun r M => r = spE (fld (spS A (2 + a1)) (0, 101) (A 337 79).toNat) a2 ∧ RR A B Mx M) := by
      refine tt_wl3 (fun M x4 x5 i => RR A B Mx M ∧ (0 ≤ i ∧ i ≤ A 337 79) ∧ x4 = (fld (spS A (2 + a1)) (0, 101) i.toNat).1 ∧ x5 = (fld (spS A (2 + a1)) (0, 101) i.toNat).2) (fun _ _ _ i => (41 - i).toNat) ?_ FU Mm 0 101 0 ⟨h, ⟨by omega, by omega⟩, rfl, rfl⟩ (by unfold FU; omega)
      rintro w M x4 x5 i ⟨hM, hi, rfl, rfl⟩ K
      unfold b_X12_span_19
      rw [hM.n79.1]
      refine tt_if (fun w1 => ?_) (fun w1 => ?_)
      · have ei : i = A 337 79 := by omega
        subst ei
        unfold spE
        refine tt_if (fun w2 => ?_) (fun w2 => ?_)
        · rw [if_pos w2]
          refine tt_if (fun w3 => ?_) (fun w3 => ?_)
          · rw [if_pos w3]; exact tt_ret ⟨rfl, hM⟩
          · rw [if_neg w3]; exact tt_ret ⟨rfl, hM⟩
        · rw [if_neg w2]; exact tt_ret ⟨rfl, hM⟩
      · obtain ⟨_, M1, -, q1, h3, -, em, eo⟩ := hM.showT hi.1 (show i < A 337 79 by omega)
        have h3' := hM.mixm h3
        obtain ⟨-, -, l3, -, -, -⟩ := h3'.law l
        obtain ⟨M2, q2, f2⟩ := m_crd eo em h3'.fm l.1 l3 1
        have h4 : RR A B Mx M2 := h3'.nr (Fr.rf _ _) f2
        have hc := crd_rng A (envT A i) (2 + a1) 1
        have hr := spS_rng A (2 + a1) i.toNat
        have e397 := h4.mt (a := 397) i (by omega)
        refine tt_cq q1 (tt_cq q2 (tt_ok ⟨by omega, by omega⟩ ?_))
        rw [e397]
        refine tt_if (fun w2 => ?_) (fun w2 => ?_)
        · unfold j_X12_span_63
          rw [e397]
          refine tt_ok ⟨by omega, by omega⟩ (tt_ip w2 (tt_ok ⟨by omega, by omega⟩ (tt_if (fun w3 => ?_) (fun w3 => ?_))))
          · refine tt_bi (K M2 _ _ (i + 1) ⟨h4, ⟨by omega, by omega⟩, ?_, ?_⟩ (by omega))
            · rw [fld_succ _ _ _ hi.1]; rw [spS_e, if_pos w2]; show _ = max _ _; omega
            · rw [fld_succ _ _ _ hi.1]; rw [spS_e, if_pos w2]
          · refine tt_bi (tt_bi (K M2 _ _ (i + 1) ⟨h4, ⟨by omega, by omega⟩, ?_, ?_⟩ (by omega)))
            · rw [fld_succ _ _ _ hi.1]; rw [spS_e, if_pos w2]; show _ = max _ _; omega
            · rw [fld_succ _ _ _ hi.1]; rw [spS_e, if_pos w2]
        · refine tt_if (fun w3 => ?_) (fun w3 => ?_)
          · unfold j_X12_span_63
            rw [e397]
            refine tt_ok ⟨by omega, by omega⟩ (tt_in w2 (tt_bi (K M2 _ _ (i + 1) ⟨h4, ⟨by omega, by omega⟩, ?_, ?_⟩ (by omega))))
            · rw [fld_succ _ _ _ hi.1]; rw [spS_e, if_neg w2]
            · rw [fld_succ _ _ _ hi.1]; rw [spS_e, if_neg w2]; show _ = min _ _; omega
          · unfold j_X12_span_63
            rw [e397]
            refine tt_ok ⟨by omega, by omega⟩ (tt_in w2 (tt_bi (K M2 _ _ (i + 1) ⟨h4, ⟨by omega, by omega⟩, ?_, ?_⟩ (by omega))))
            · rw [fld_succ _ _ _ hi.1]; rw [spS_e, if_neg w2]
            · rw [fld_succ _ _ _ hi.1]; rw [spS_e, if_neg w2]; show _ = min _ _; omega
    obtain ⟨r, M1, e1, rfl, h1⟩ := cx
    obtain ⟨r2, M2, e2, rfl, h2⟩ := cm
    exact (h2.mixx h1).J e1 e2
  · rw [x1, m1, cl_some, cl_some]; exact h.J (r := -1) (if_pos rfl) (if_pos rfl)
def bdS (A : Mem) (i s : Int) : Int := if A 393 i = A 375 1 then max s (lit (A 388) (A 393 i) (A 394 i)) else s
theorem bdS_e (A : Mem) (i s : Int) : bdS A i s = if A 393 i = A 375 1 then max s (lit (A 388) (A 393 i) (A 394 i)) else s := rfl
def bdV (A : Mem) : Int := fld (bdS A) 0 (A 337 79).toNat
theorem x_bnd (h : RR A B Mx Mm) : ∃ Mx1, f_X11_bound Mx = some (bdV A, Mx1) ∧ RR A B Mx1 Mm := by
  obtain ⟨n1, n2, n3, n4⟩ := h.n79
  have q : Tt (f_X11_bound Mx) (fun r M => r = bdV A ∧ RR A B M Mm) := by
    unfold f_X11_bound
    refine tt_wl2 (fun M x i => RR A B M Mm ∧ (0 ≤ i ∧ i ≤ A 337 79) ∧ x = fld (bdS A) 0 i.toNat) (fun _ _ i => (41 - i).toNat) ?_ FU Mx 0 0 ⟨h, ⟨by omega, by omega⟩, rfl⟩ (by unfold FU; omega)
    rintro w M x i ⟨hM, hi, rfl⟩ K
    unfold b_X11_bound_4
    rw [hM.n79.2.1]
    refine tt_if (fun w1 => tt_ret ⟨by rw [show i = A 337 79 by omega]; rfl, hM⟩) (fun w1 => ?_)
    obtain ⟨h2, ha, hx⟩ := hM.tx hi.1 (show i < A 337 79 by omega)
    rw [hx.2.1, hM.disc.1]
    refine tt_ok ⟨by omega, by omega⟩ (tt_if (fun w2 => ?_) (fun w2 => ?_))
    · obtain ⟨M1, q1, -, h3⟩ := hM.lit2 ha.2.1 ha.2.2.1
      rw [hx.2.2.1]
      refine tt_cq q1 (tt_cq (e_max _ _ _) (tt_bi (K M1 _ (i + 1) ⟨h3, ⟨by omega, by omega⟩, ?_⟩ (by omega))))
      rw [fld_succ _ _ _ hi.1]; rw [bdS_e, if_pos w2]
    · refine tt_bi (K M _ (i + 1) ⟨hM, ⟨by omega, by omega⟩, ?_⟩ (by omega))
      rw [fld_succ _ _ _ hi.1]; rw [bdS_e, if_neg w2]
  obtain ⟨r, M1, e, rfl, h3⟩ := q
  exact ⟨M1, e, h3⟩
theorem bdS_nn {A : Mem} (n : Nat) : 0 ≤ fld (bdS A) 0 n := by
  refine fld_inv (fun _ s => 0 ≤ s) _ _ (Int.le_refl 0) (fun n s hs => ?_) n
  unfold bdS; split <;> omega
theorem m_bnd (h : RR A B Mx Mm) : f_X12_bound Mm = some (bdV A, Mm) := by
  obtain ⟨n1, n2, n3, n4⟩ := h.n79
  have q : Tt (f_X12_bound Mm) (fun r M => r = bdV A ∧ M = Mm) := by
    unfold f_X12_bound
    refine tt_wl2 (fun M x i => M = Mm ∧ (0 ≤ i ∧ i ≤ A 337 79) ∧ x = fld (bdS A) 0 i.toNat) (fun _ _ i => (41 - i).toNat) ?_ FU Mm 0 0 ⟨rfl, ⟨by omega, by omega⟩, rfl⟩ (by unfold FU; omega)
    rintro w M x i ⟨rfl, hi, rfl⟩ K
    unfold b_X12_bound_4
    rw [h.n79.1]
    refine tt_if (fun w1 => tt_ret ⟨by rw [show i = A 337 79 by omega]; rfl, rfl⟩) (fun w1 => ?_)
    obtain ⟨h2, ha, hx⟩ := h.tx hi.1 (show i < A 337 79 by omega)
    have hn := bdS_nn (A := A) i.toNat
    rw [h.mt (a := 393) i (by omega), h.disc.2]
    refine tt_ok ⟨by omega, by omega⟩ (tt_if (fun w2 => ?_) (fun w2 => ?_))
    · rw [h.mt (a := 394) i (by omega)]
      refine tt_cq (m_light h.sg h.mg ha.2.1 ha.2.2.1) ?_
      unfold j_X12_bound_47
      refine tt_if (fun w3 => ?_) (fun w3 => ?_)
      · refine tt_ok ⟨by omega, by omega⟩ (tt_bi (K M _ (i + 1) ⟨rfl, ⟨by omega, by omega⟩, ?_⟩ (by omega)))
        rw [fld_succ _ _ _ hi.1]; rw [bdS_e, if_pos w2]; omega
      · refine tt_ok ⟨by omega, by omega⟩ (tt_bi (K M _ (i + 1) ⟨rfl, ⟨by omega, by omega⟩, ?_⟩ (by omega)))
        rw [fld_succ _ _ _ hi.1]; rw [bdS_e, if_pos w2]; omega
    · unfold j_X12_bound_47
      refine tt_ip (by omega) (tt_ok ⟨by omega, by omega⟩ (tt_bi (K M _ (i + 1) ⟨rfl, ⟨by omega, by omega⟩, ?_⟩ (by omega))))
      rw [fld_succ _ _ _ hi.1]; rw [bdS_e, if_neg w2]
  obtain ⟨r, M1, e, rfl, rfl⟩ := q
  exact e
theorem J_bound (h : R Mx Mm) : Jt (f_X11_bound Mx) (f_X12_bound Mm) := by
  obtain ⟨A, B, h⟩ := h
  obtain ⟨M1, e1, h1⟩ := x_bnd h
  exact h1.J e1 (m_bnd h)
def lfS (A : Mem) (i s : Int) : Int := if (A 388 (A 393 i) = 0 ∧ A 393 i ≠ A 375 1) ∧ A 395 i = A 396 i ∧ lit (A 388) (A 393 i) (A 394 i) ≤ bdV A then s + 1 else s
theorem lfS_e (A : Mem) (i s : Int) : lfS A i s = if (A 388 (A 393 i) = 0 ∧ A 393 i ≠ A 375 1) ∧ A 395 i = A 396 i ∧ lit (A 388) (A 393 i) (A 394 i) ≤ bdV A then s + 1 else s := rfl
theorem lfS_rng (A : Mem) (n : Nat) : 0 ≤ fld (lfS A) 0 n ∧ fld (lfS A) 0 n ≤ n := by
  refine fld_inv (fun n s => 0 ≤ s ∧ s ≤ (n : Int)) _ _ ⟨Int.le_refl 0, Int.le_refl 0⟩ (fun n s hs => ?_) n
  unfold lfS; split <;> omega
theorem J_left (h : R Mx Mm) : Jt (f_X11_left Mx) (f_X12_left Mm) := by
  obtain ⟨A, B, h⟩ := h
  obtain ⟨n1, n2, n3, n4⟩ := h.n79
  obtain ⟨M0, e0, h0⟩ := x_bnd h
  have cx : Tt (f_X11_left Mx) (fun r M => r = fld (lfS A) 0 (A 337 79).toNat ∧ RR A B M Mm) := by
    unfold f_X11_left
    refine tt_cq e0 ?_
    refine tt_wl3 (fun M x1 x2 i => RR A B M Mm ∧ x1 = bdV A ∧ (0 ≤ i ∧ i ≤ A 337 79) ∧ x2 = fld (lfS A) 0 i.toNat) (fun _ _ _ i => (41 - i).toNat) ?_ FU M0 _ 0 0 ⟨h0, rfl, ⟨by omega, by omega⟩, rfl⟩ (by unfold FU; omega)
    rintro w M x1 x2 i ⟨hM, rfl, hi, rfl⟩ K
    have hr := lfS_rng A i.toNat
    unfold b_X11_left_9
    rw [hM.n79.2.1]
    refine tt_if (fun w1 => tt_ret ⟨by rw [show i = A 337 79 by omega], hM⟩) (fun w1 => ?_)
    obtain ⟨h2, ha, hx⟩ := hM.tx hi.1 (show i < A 337 79 by omega)
    have no : ¬ ((A 388 (A 393 i) = 0 ∧ A 393 i ≠ A 375 1) ∧ A 395 i = A 396 i) → Tt (j_X11_left_58 w M (bdV A) (fld (lfS A) 0 i.toNat) i (23 + i)) (fun r M => r = fld (lfS A) 0 (A 337 79).toNat ∧ RR A B M Mm) := by
      intro hn
      unfold j_X11_left_58 j_X11_left_59
      refine tt_ip rfl (tt_ok ⟨by omega, by omega⟩ (tt_bi (tt_ok ⟨by omega, by omega⟩ (tt_bi (K M _ _ (i + 1) ⟨hM, rfl, ⟨by omega, by omega⟩, ?_⟩ (by omega))))))
      rw [fld_succ _ _ _ hi.1]; rw [lfS_e, if_neg (fun z => hn ⟨z.1, z.2.1⟩)]; omega
    refine tt_ok ⟨by omega, by omega⟩ (tt_cq (x_right hx) (tt_if (fun w2 => no (fun z => bI_0.mp w2 z.2)) (fun w2 => ?_)))
    rw [hx.2.1]
    refine tt_cq (hM.x_gone ha.2.1) (tt_if (fun w3 => no (fun z => bI_0.mp w3 z.1)) (fun w3 => ?_))
    have c1 : A 388 (A 393 i) = 0 ∧ A 393 i ≠ A 375 1 := Classical.byContradiction fun z => w3 (bI_0.mpr z)
    have c2 : A 395 i = A 396 i := Classical.byContradiction fun z => w2 (bI_0.mpr z)
    obtain ⟨M1, q1, -, h3⟩ := hM.lit2 ha.2.1 ha.2.2.1
    unfold j_X11_left_59
    rw [hx.2.1, hx.2.2.1]
    refine tt_in (by decide) (tt_ok (kdTr i (by omega)) (tt_cq q1 (tt_if (fun w4 => ?_) (fun w4 => ?_))))
    · refine tt_ok ⟨by omega, by omega⟩ (tt_bi (tt_ok ⟨by omega, by omega⟩ (tt_bi (K M1 _ _ (i + 1) ⟨h3, rfl, ⟨by omega, by omega⟩, ?_⟩ (by omega)))))
      rw [fld_succ _ _ _ hi.1]; rw [lfS_e, if_neg (fun z => by have := z.2.2; omega)]; omega
    · refine tt_ok ⟨by omega, by omega⟩ (tt_bi (tt_ok ⟨by omega, by omega⟩ (tt_bi (K M1 _ _ (i + 1) ⟨h3, rfl, ⟨by omega, by omega⟩, ?_⟩ (by omega)))))
      rw [fld_succ _ _ _ hi.1]; rw [lfS_e, if_pos ⟨c1, c2, by omega⟩]
  have cm : Tt (f_X12_left Mm) (fun r M => r = fld (lfS A) 0 (A 337 79).toNat ∧ M = Mm) := by
    unfold f_X12_left
    refine tt_cq (m_bnd h) ?_
    refine tt_wl3 (fun M x1 x2 i => M = Mm ∧ x1 = bdV A ∧ (0 ≤ i ∧ i ≤ A 337 79) ∧ x2 = fld (lfS A) 0 i.toNat) (fun _ _ _ i => (41 - i).toNat) ?_ FU Mm _ 0 0 ⟨rfl, rfl, ⟨by omega, by omega⟩, rfl⟩ (by unfold FU; omega)
    rintro w M x1 x2 i ⟨rfl, rfl, hi, rfl⟩ K
    have hr := lfS_rng A i.toNat
    unfold b_X12_left_9
    rw [h.n79.1]
    refine tt_if (fun w1 => tt_ret ⟨by rw [show i = A 337 79 by omega], rfl⟩) (fun w1 => ?_)
    obtain ⟨h2, ha, hx⟩ := h.tx hi.1 (show i < A 337 79 by omega)
    refine tt_cq (h.m_gone hi.1 (by omega)) (tt_if (fun w2 => ?_) (fun w2 => ?_))
    · refine tt_ok ⟨by omega, by omega⟩ (tt_bi (K M _ _ (i + 1) ⟨rfl, rfl, ⟨by omega, by omega⟩, ?_⟩ (by omega)))
      rw [fld_succ _ _ _ hi.1]; rw [lfS_e, if_neg (fun z => bI_0.mp w2 z.1)]
    · refine tt_cq (h.m_right hi.1 (by omega)) (tt_if (fun w3 => ?_) (fun w3 => ?_))
      · refine tt_ok ⟨by omega, by omega⟩ (tt_bi (K M _ _ (i + 1) ⟨rfl, rfl, ⟨by omega, by omega⟩, ?_⟩ (by omega)))
        rw [fld_succ _ _ _ hi.1]; rw [lfS_e, if_neg (fun z => bI_0.mp w3 z.2.1)]
      · have c1 : A 388 (A 393 i) = 0 ∧ A 393 i ≠ A 375 1 := Classical.byContradiction fun z => w2 (bI_0.mpr z)
        have c2 : A 395 i = A 396 i := Classical.byContradiction fun z => w3 (bI_0.mpr z)
        rw [h.mt (a := 393) i (by omega), h.mt (a := 394) i (by omega)]
        refine tt_ok ⟨by omega, by omega⟩ (tt_cq (m_light h.sg h.mg ha.2.1 ha.2.2.1) (tt_if (fun w4 => ?_) (fun w4 => ?_)))
        · refine tt_bi (K M _ _ (i + 1) ⟨rfl, rfl, ⟨by omega, by omega⟩, ?_⟩ (by omega))
          rw [fld_succ _ _ _ hi.1]; rw [lfS_e, if_neg (fun z => by have := z.2.2; omega)]
        · refine tt_ok ⟨by omega, by omega⟩ (tt_bi (tt_bi (K M _ _ (i + 1) ⟨rfl, rfl, ⟨by omega, by omega⟩, ?_⟩ (by omega))))
          rw [fld_succ _ _ _ hi.1]; rw [lfS_e, if_pos ⟨c1, c2, by omega⟩]
  obtain ⟨r, M1, e1, rfl, h1⟩ := cx
  obtain ⟨r2, M2, e2, rfl, rfl⟩ := cm
  exact h1.J e1 e2
end QS
