/-! RUN: a stretch of THE PLAN, run alike -/
section RY
variable {A0 B0 : Mem} {old k : Int}
theorem seg_run (hl : isLw A0 k) (hk : kd (B0 1 9) = 17) (hT : 0 ≤ A0 376 1 ∧ A0 376 1 ≤ 80) : ∀ (n d : Nat) (i j q l D : Int) (Mx Mm : Mem) (z : Int), MR A0 B0 (B0 1 9) n d i j q l → 0 ≤ i → j ≤ 40 → 80 ≤ q → l ≤ 80 + A0 376 1 → 0 ≤ D → D + d ≤ 7 → StR A0 B0 old Mx Mm z → Go A0 B0 old k (exL B0 (B0 1 9) n i j) Mx Mm z D q D l ((l - q) * 9 ^ d) D
  | 0, _, _, _, _, _, _, _, _, _, h, _, _, _, _, _, _, _ => by cases h
  | n + 1, d, i, j, q, l, D, Mx, Mm, z, h, i0, j1, q0, l1, D0, D1, hst => by
    have p9 : (0 : Int) < 9 ^ d := Int.pow_pos (by decide)
    rcases h with ⟨rfl, rfl⟩ | ⟨b1, b2, b3, b4, b5, b6⟩ | ⟨b1, b3, b4, b5, b6, b7, d1, ke, c1, c2, c3, c4, c5, c6⟩
    · have e : exL B0 (B0 1 9) (n + 1) i i = [] := by show (if i ≤ i then [] else _) = _; rw [if_pos (Int.le_refl i)]
      rw [e, Int.sub_self, Int.zero_mul]
      exact ⟨[], Mx, Mm, z, 0, by omega, ⟨rfl, rfl⟩, hst, Or.inl ⟨rfl, Fr.rf _ _, fun F => rfl⟩⟩
    · have e : exL B0 (B0 1 9) (n + 1) i j = [i] ++ exL B0 (B0 1 9) n (i + 1) j := by
        show (if j ≤ i then [] else if B0 (B0 1 9 + 4 + i) 0 = 7 then i :: exL B0 (B0 1 9) n (i + 1) j else _) = _
        rw [if_neg (by omega), if_pos b3]; rfl
      have bd : 1 + (l - (q + 1)) * 9 ^ d ≤ (l - q) * 9 ^ d := by
        rw [show l - q = (l - (q + 1)) + 1 by omega, Int.add_mul, Int.one_mul]; omega
      have bd0 : 0 ≤ (l - (q + 1)) * 9 ^ d := Int.mul_nonneg (by omega) (Int.le_of_lt p9)
      rw [e]
      by_cases w : old + z < 40
      · obtain ⟨Mx1, Mm1, r1, r2, r3, r4⟩ := hst.step w hl hk ⟨i0, by omega⟩ ⟨q0, by omega⟩ b5
        have g1 : Go A0 B0 old k [i] Mx Mm z D q D (q + 1) 1 D := ⟨[i], Mx1, Mm1, z + 1, 1, by omega, ⟨⟨hst.crp.1, hst.crp.2.1, hst.crp.2.2.1, hst.crp.2.2.2, w⟩, Mx1, r1, rfl, rfl⟩, r3, Or.inl ⟨rfl, r4.mono (fun a i q => Or.inl q), fun F => by rw [wl3_s]; exact rn_a _ hst hT q0 (by omega) b4 w r2⟩⟩
        exact (g1.seq (Int.le_refl _) bd0 (fun Mx2 Mm2 z2 s2 _ => seg_run hl hk hT n d (i + 1) j (q + 1) l D Mx2 Mm2 z2 b6 (by omega) j1 (by omega) l1 D0 D1 s2)).bd bd
      · have hc := hst.cells.2.2.2
        exact ⟨[], Mx, Mm, z, 1, by omega, ⟨rfl, rfl⟩, hst, Or.inr ⟨by omega, ⟨_, rfl⟩, fun F => by rw [wl3_s]; exact rn_s _ hst hT k D q0 (by omega) b4 (by omega)⟩⟩
    · have e : exL B0 (B0 1 9) (n + 1) i j = (List.replicate (B0 (B0 1 9 + 4 + i) 2).toNat (exL B0 (B0 1 9) n (i + 1) (B0 (B0 1 9 + 4 + i) 9))).flatten ++ exL B0 (B0 1 9) n (B0 (B0 1 9 + 4 + i) 9) j := by
        show (if j ≤ i then [] else if B0 (B0 1 9 + 4 + i) 0 = 7 then i :: exL B0 (B0 1 9) n (i + 1) j else _) = _
        rw [if_neg (by omega), if_neg (by omega)]
      obtain ⟨m, hm⟩ : ∃ m : Nat, B0 (B0 1 9 + 4 + i) 2 = ((m + 1 : Nat) : Int) := ⟨(B0 (B0 1 9 + 4 + i) 2 - 1).toNat, by omega⟩
      have fst : Fr (SR D) Mm (st (st Mm 383 D q) 384 D (A0 382 q)) := ((Fr.rf _ _).st (Or.inr ⟨Or.inl rfl, Int.le_refl _⟩)).st (Or.inr ⟨Or.inr rfl, Int.le_refl _⟩)
      have sst : StR A0 B0 old Mx (st (st Mm 383 D q) 384 D (A0 382 q)) z := hst.scr (((Fr.rf _ _).st (Or.inl rfl)).st (Or.inr rfl))
      have p1 : (0 : Int) < 9 ^ d1 := Int.pow_pos (by decide)
      have X0 : 0 ≤ (ke - (q + 1)) * 9 ^ d1 := Int.mul_nonneg (by omega) (Int.le_of_lt p1)
      have Y0 : 0 ≤ (l - (ke + 1)) * 9 ^ d := Int.mul_nonneg (by omega) (Int.le_of_lt p9)
      have Z0 : 0 ≤ ((m + 1 : Nat) : Int) * ((ke - (q + 1)) * 9 ^ d1 + 1) := Int.mul_nonneg (by omega) (by omega)
      have Z1 : ((m + 1 : Nat) : Int) * ((ke - (q + 1)) * 9 ^ d1 + 1) ≤ 9 * ((ke - (q + 1)) * 9 ^ d1 + 1) := Int.mul_le_mul_of_nonneg_right (by omega) (by omega)
      have bd : 1 + (((m + 1 : Nat) : Int) * ((ke - (q + 1)) * 9 ^ d1 + 1) + (l - (ke + 1)) * 9 ^ d) ≤ (l - q) * 9 ^ d := by
        have e9 : (9 : Int) ^ d = 9 ^ d1 * 9 := by rw [c1, Int.pow_succ]
        have eX : (ke - (q + 1)) * 9 ^ d = (ke - (q + 1)) * 9 ^ d1 * 9 := by rw [e9, Int.mul_assoc]
        rw [show l - q = (ke - (q + 1)) + ((l - (ke + 1)) + 2) by omega, Int.add_mul, Int.add_mul, eX]
        omega
      have g1 : Go A0 B0 old k [] Mx Mm z D q (D + 1) (q + 1) 1 D := Go.one sst fst (fun w => rn_b w hst hT k q0 (by omega) b4 ⟨D0, by omega⟩)
      rw [e, hm]
      obtain ⟨L1, Mx1, Mm1, z1, f, hf, r1, r2, r3⟩ : Go A0 B0 old k ((List.replicate (m + 1) (exL B0 (B0 1 9) n (i + 1) (B0 (B0 1 9 + 4 + i) 9))).flatten ++ exL B0 (B0 1 9) n (B0 (B0 1 9 + 4 + i) 9) j) Mx (st (st Mm 383 D q) 384 D (A0 382 q)) z (D + 1) (q + 1) D l (((m + 1 : Nat) : Int) * ((ke - (q + 1)) * 9 ^ d1 + 1) + (l - (ke + 1)) * 9 ^ d) D := by
        refine (go_rounds hT q0 c2 (by omega) c4 ⟨D0, by omega⟩ X0 (fun Mx2 Mm2 z2 s2 => seg_run hl hk hT n d1 (i + 1) _ (q + 1) ke (D + 1) Mx2 Mm2 z2 c5 (by omega) (by omega) (by omega) (by omega) (by omega) (by omega) s2) m Mx _ z (by omega) sst (by rw [st_at, b5, hm]) (by rw [st_neA (by decide), st_at])).seq (Int.le_refl _) Y0 (fun Mx2 Mm2 z2 s2 _ => ?_)
        exact seg_run hl hk hT n d _ j (ke + 1) l D Mx2 Mm2 z2 c6 (by omega) j1 (by omega) l1 D0 D1 s2
      have e1 : ∀ F, wl3 (b_X12_run_58 k) (F + 1) Mm old D q = wl3 (b_X12_run_58 k) F (st (st Mm 383 D q) 384 D (A0 382 q)) old (D + 1) (q + 1) := fun F => by rw [wl3_s]; exact rn_b _ hst hT k q0 (by omega) b4 ⟨D0, by omega⟩
      rw [Int.toNat_natCast]
      rcases r3 with ⟨eL, fr, go⟩ | ⟨e40, eL, stp⟩
      · exact ⟨L1, Mx1, Mm1, z1, f + 1, by omega, r1, r2, Or.inl ⟨eL, fst.tr fr, fun F => by rw [← Nat.add_assoc, e1, go]⟩⟩
      · exact ⟨L1, Mx1, Mm1, z1, f + 1, by omega, r1, r2, Or.inr ⟨e40, eL, fun F => by rw [← Nat.add_assoc, e1, stp]⟩⟩
end RY
