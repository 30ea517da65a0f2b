/-! RUN: the steps of THE PLAN, run alike -/
def SR (D a i : Int) : Prop := SMs a i ∨ ((a = 383 ∨ a = 384) ∧ D ≤ i)
def Go (A0 B0 : Mem) (old k : Int) (L : List Int) (Mx Mm : Mem) (z D0 q D l : Int) (bd : Int) (Df : Int) : Prop := ∃ L1 Mx1 Mm1 z1, ∃ f : Nat, (f : Int) ≤ bd ∧ Cr B0 old (B0 1 9) (B0 68 k) L1 Mx z Mx1 z1 ∧ StR A0 B0 old Mx1 Mm1 z1 ∧ ((L1 = L ∧ Fr (SR Df) Mm Mm1 ∧ ∀ F, wl3 (b_X12_run_58 k) (F + f) Mm old D0 q = wl3 (b_X12_run_58 k) F Mm1 old D l) ∨ (old + z1 = 40 ∧ (∃ L2, L = L1 ++ L2) ∧ ∀ F, wl3 (b_X12_run_58 k) (F + f) Mm old D0 q = some (z1, Mm1)))
section RX
variable {A0 B0 Mx Mm : Mem} {old z k : Int}
theorem SR.mono {D D1 : Int} (h : D ≤ D1) {a i : Int} (q : SR D1 a i) : SR D a i := by unfold SR SMs at q ⊢; omega
theorem Go.seq {L1 L2 : List Int} {D0 q D1 l1 D l b1 b2 Df Df1 : Int} (h : Go A0 B0 old k L1 Mx Mm z D0 q D1 l1 b1 Df1) (hD : Df ≤ Df1) (b20 : 0 ≤ b2) (h2 : ∀ Mx1 Mm1 z1, StR A0 B0 old Mx1 Mm1 z1 → Fr (SR Df1) Mm Mm1 → Go A0 B0 old k L2 Mx1 Mm1 z1 D1 l1 D l b2 Df) : Go A0 B0 old k (L1 ++ L2) Mx Mm z D0 q D l (b1 + b2) Df := by
  obtain ⟨La, Mx1, Mm1, z1, f, hf, c1, s1, h | ⟨e40, ⟨Lr, eL⟩, st⟩⟩ := h
  · obtain ⟨eL, fr, go⟩ := h
    obtain ⟨Lb, Mx2, Mm2, z2, g, hg, c2, s2, h' | ⟨e40, ⟨Lr, eL2⟩, st⟩⟩ := h2 Mx1 Mm1 z1 s1 fr
    · obtain ⟨eL2, fr2, go2⟩ := h'
      refine ⟨La ++ Lb, Mx2, Mm2, z2, g + f, by omega, c1.app c2, s2, Or.inl ⟨by rw [eL, eL2], (fr.mono (fun a i => SR.mono hD)).tr fr2, fun F => ?_⟩⟩
      rw [← Nat.add_assoc, go, go2]
    · refine ⟨La ++ Lb, Mx2, Mm2, z2, g + f, by omega, c1.app c2, s2, Or.inr ⟨e40, ⟨Lr, by rw [eL, eL2, List.append_assoc]⟩, fun F => ?_⟩⟩
      rw [← Nat.add_assoc, go, st]
  · exact ⟨La, Mx1, Mm1, z1, f, by omega, c1, s1, Or.inr ⟨e40, ⟨Lr ++ L2, by rw [eL, List.append_assoc]⟩, st⟩⟩
theorem Go.one {D0 q D l Df : Int} {Mm1 : Mem} (s : StR A0 B0 old Mx Mm1 z) (f : Fr (SR Df) Mm Mm1) (hw : ∀ w, b_X12_run_58 k w Mm old D0 q = w Mm1 old D l) : Go A0 B0 old k [] Mx Mm z D0 q D l 1 Df :=
  ⟨[], Mx, Mm1, z, 1, by omega, ⟨rfl, rfl⟩, s, Or.inl ⟨rfl, f, fun F => by rw [wl3_s]; exact hw _⟩⟩
theorem Go.bd {L : List Int} {D0 q D l b1 b2 Df : Int} (h : Go A0 B0 old k L Mx Mm z D0 q D l b1 Df) (hb : b1 ≤ b2) : Go A0 B0 old k L Mx Mm z D0 q D l b2 Df := by
  obtain ⟨La, Mx1, Mm1, z1, f, hf, r⟩ := h
  exact ⟨La, Mx1, Mm1, z1, f, by omega, r⟩
/-- rounds -/
theorem go_rounds (hT : 0 ≤ A0 376 1 ∧ A0 376 1 ≤ 80) {D q ke c : Int} {L : List Int} (hq : 80 ≤ q) (hk : q < ke) (hl : ke < 80 + A0 376 1) (hs : A0 377 ke = 2) (hD : 0 ≤ D ∧ D < 7) (c0 : 0 ≤ c) (inner : ∀ Mx Mm z, StR A0 B0 old Mx Mm z → Go A0 B0 old k L Mx Mm z (D + 1) (q + 1) (D + 1) ke c (D + 1)) : ∀ (m : Nat) (Mx Mm : Mem) (z : Int), m + 1 ≤ 9 → StR A0 B0 old Mx Mm z → Mm 384 D = ((m + 1 : Nat) : Int) → Mm 383 D = q → Go A0 B0 old k (List.replicate (m + 1) L).flatten Mx Mm z (D + 1) (q + 1) D (ke + 1) (((m + 1 : Nat) : Int) * (c + 1)) D
  | m, Mx, Mm, z, hm, hst, h4, h3 => by
    have key : Go A0 B0 old k (L ++ (List.replicate m L).flatten) Mx Mm z (D + 1) (q + 1) D (ke + 1) (c + (1 + (m : Int) * (c + 1))) D := by
      have mc : 0 ≤ (m : Int) * (c + 1) := Int.mul_nonneg (by omega) (by omega)
      refine (inner Mx Mm z hst).seq (by omega) (by omega) (fun Mx1 Mm1 z1 s1 f1 => ?_)
      have e4 : Mm1 384 D = ((m + 1 : Nat) : Int) := (f1 384 D (by unfold SR SMs; omega)).trans h4
      have e3 : Mm1 383 D = q := (f1 383 D (by unfold SR SMs; omega)).trans h3
      have hc := fun w => rn_c w s1 hT k (by omega) hl hs hD e4 (by omega) e3 (by omega)
      have fst : Fr (SR D) Mm1 (st Mm1 384 D (((m + 1 : Nat) : Int) - 1)) := (Fr.rf _ _).st (Or.inr ⟨Or.inr rfl, Int.le_refl _⟩)
      have sst : StR A0 B0 old Mx1 (st Mm1 384 D (((m + 1 : Nat) : Int) - 1)) z1 := s1.scr ((Fr.rf _ _).st (Or.inr rfl))
      cases m with
      | zero => exact (Go.one sst fst (fun w => by rw [hc w, if_pos (by omega)])).bd (by omega)
      | succ m =>
        have g1 : Go A0 B0 old k [] Mx1 Mm1 z1 (D + 1) ke (D + 1) (q + 1) 1 D := Go.one sst fst (fun w => by rw [hc w, if_neg (by omega)])
        have g2 : Go A0 B0 old k [] Mx1 (st Mm1 384 D (((m + 1 + 1 : Nat) : Int) - 1)) z1 (D + 1) (q + 1) (D + 1) (q + 1) 0 D := ⟨[], Mx1, _, z1, 0, by omega, ⟨rfl, rfl⟩, sst, Or.inl ⟨rfl, Fr.rf _ _, fun F => rfl⟩⟩
        have r := go_rounds hT hq hk hl hs hD c0 inner m Mx1 (st Mm1 384 D (((m + 1 + 1 : Nat) : Int) - 1)) z1 (by omega) sst (by rw [st_at]; omega) (by rw [st_neA (by decide), e3])
        obtain ⟨La, Mx2, Mm2, z2, f, hf, c1, s2, h' | ⟨e40, eL, stp⟩⟩ := r
        · obtain ⟨eL, fr, go⟩ := h'
          refine ⟨La, Mx2, Mm2, z2, f + 1, by omega, c1, s2, Or.inl ⟨eL, fst.tr fr, fun F => ?_⟩⟩
          rw [← Nat.add_assoc, wl3_s, hc, if_neg (by omega), go]
        · refine ⟨La, Mx2, Mm2, z2, f + 1, by omega, c1, s2, Or.inr ⟨e40, eL, fun F => ?_⟩⟩
          rw [← Nat.add_assoc, wl3_s, hc, if_neg (by omega), stp]
    rw [List.replicate_succ, List.flatten_cons]
    refine key.bd ?_
    rw [Int.natCast_add, Int.add_mul]
    omega
end RX
