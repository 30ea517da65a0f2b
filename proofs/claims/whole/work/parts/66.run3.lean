/-! RUN: the state between SHOWINGS, and the model's steps -/
def CrP (B0 : Mem) (old : Int) (M : Mem) (z : Int) : Prop := M 1 12 = B0 1 12 ∧ (∀ q, M 201 q = B0 201 q) ∧ M 1 9 = B0 1 9 ∧ M 21 1 = old + z ∧ old + z < 40
def Cr (B0 : Mem) (old a9 la : Int) : List Int → Mem → Int → Mem → Int → Prop
  | [], M, z, M1, z1 => M1 = M ∧ z1 = z
  | i :: L, M, z, M1, z1 => CrP B0 old M z ∧ ∃ M2, f_X11_runShow M la (a9 + 4 + i) z = some (0, M2) ∧ Cr B0 old a9 la L M2 (z + 1) M1 z1
theorem Cr.app {B0 : Mem} {old a9 la : Int} : ∀ {L1 L2 : List Int} {M M1 M2 : Mem} {z z1 z2 : Int}, Cr B0 old a9 la L1 M z M1 z1 → Cr B0 old a9 la L2 M1 z1 M2 z2 → Cr B0 old a9 la (L1 ++ L2) M z M2 z2
  | [], _, _, _, _, _, _, _, h1, h2 => by
    obtain ⟨e1, e2⟩ := h1
    rw [e1, e2] at h2; exact h2
  | _ :: _, _, _, _, _, _, _, _, h1, h2 => by
    obtain ⟨hp, M3, e, h3⟩ := h1
    exact ⟨hp, M3, e, Cr.app h3 h2⟩
def StR (A0 B0 : Mem) (old : Int) (Mx Mm : Mem) (z : Int) : Prop := ∃ A B x, RR A B Mx Mm ∧ A 337 79 = old + z ∧ (0 ≤ z ∧ old + z ≤ 40 ∧ 0 ≤ old) ∧ Mx 67 0 = x ∧ Mm 337 64 = x ∧ (0 ≤ x ∧ x < 2147483648) ∧ (∀ a i, ¬ (392 ≤ a ∧ a ≤ 400) → ¬ (a = 337 ∧ i = 79) → A a i = A0 a i) ∧ (∀ a i, ¬ (21 ≤ a ∧ a ≤ 62) → B a i = B0 a i)
section RW
variable {A0 B0 Mx Mm : Mem} {old z : Int}
theorem StR.cells (h : StR A0 B0 old Mx Mm z) : Mm 376 1 = A0 376 1 ∧ (∀ a s, 377 ≤ a → a ≤ 382 → 80 ≤ s → Mm a s = A0 a s) ∧ Mm 337 79 = old + z ∧ (0 ≤ z ∧ old + z ≤ 40 ∧ 0 ≤ old) := by
  obtain ⟨A, B, x, h1, h2, h3, -, -, -, h7, -⟩ := h
  refine ⟨(h1.rm (by unfold ScM; omega)).trans (h7 _ _ (by omega) (by omega)), fun a s a0 a1 s0 => (h1.rm (by unfold ScM; omega)).trans (h7 _ _ (by omega) (by omega)), h1.n79.1.trans h2, h3⟩
theorem StR.crp (h : StR A0 B0 old Mx Mm z) : Mx 1 12 = B0 1 12 ∧ (∀ q, Mx 201 q = B0 201 q) ∧ Mx 1 9 = B0 1 9 ∧ Mx 21 1 = old + z := by
  obtain ⟨A, B, x, h1, h2, -, -, -, -, -, h8⟩ := h
  exact ⟨(h1.rx (by omega) (by omega)).trans (h8 _ _ (by omega)), fun q => (h1.rx (by omega) (by omega)).trans (h8 _ _ (by omega)), (h1.rx (by omega) (by omega)).trans (h8 _ _ (by omega)), h1.n79.2.1.trans h2⟩
theorem StR.scr (h : StR A0 B0 old Mx Mm z) {Mm1 : Mem} (f : Fr (fun a _ => a = 383 ∨ a = 384) Mm Mm1) : StR A0 B0 old Mx Mm1 z := by
  obtain ⟨A, B, x, h1, h2, h3, h4, h5, h6, h7, h8⟩ := h
  exact ⟨A, B, x, h1.nx (Fr.rf _ _) (f.mono (fun a i q => by unfold ScM; omega)) h1.lc, h2, h3, h4, (f 337 64 (by omega)).trans h5, h6, h7, h8⟩
theorem StR.step (h : StR A0 B0 old Mx Mm z) {k i q : Int} (hz : old + z < 40) (hl : isLw A0 k) (hk : kd (B0 1 9) = 17) (hi : 0 ≤ i ∧ i < 40) (hq : 80 ≤ q ∧ q < 160) (hS : ShwR A0 B0 (B0 1 9) i q) : ∃ Mx1 Mm1, f_X11_runShow Mx (B0 68 k) (B0 1 9 + 4 + i) z = some (0, Mx1) ∧ f_X12_runShowing Mm k q z = some (0, Mm1) ∧ StR A0 B0 old Mx1 Mm1 (z + 1) ∧ Fr SMs Mm Mm1 := by
  obtain ⟨A, B, x, h1, h2, h3, h4, h5, h6, h7, h8⟩ := h
  have kk := kd17 _ hk
  have e9 : B 1 9 = B0 1 9 := h8 _ _ (by omega)
  have e68 : B 68 k = B0 68 k := h8 _ _ (by omega)
  have pp : PlP A0 A := ⟨fun k _ _ => h7 360 k (by omega) (by omega), h7 337 60 (by omega) (by omega), h7 376 1 (by omega) (by omega), h7 372 1 (by omega) (by omega), fun a k _ _ _ _ => h7 a k (by omega) (by omega)⟩
  have sa : SA B0 B (B0 1 9) := fun c i c1 c2 => h8 c i (by omega)
  have hS1 : ShwR A B (B 1 9) i q := by rw [e9]; exact ShwR.ext hk pp sa hi hq hS
  have hl1 : isLw A k := ⟨hl.1, (h7 386 k (by omega) (by omega)).trans hl.2⟩
  obtain ⟨A1, B1, Mx1, Mm1, x1, r1, r2, r3, r4, ⟨r5, r6, r7⟩, r8, r9, r10⟩ := h1.runs hl1 hi hq hS1 h2 hz h4 h5 h6 ⟨h3.1, by omega⟩
  rw [e68, e9] at r1
  exact ⟨Mx1, Mm1, r1, r2, ⟨A1, B1, x1, r3, by omega, ⟨by omega, by omega, h3.2.2⟩, r5, r6, r7, fun a i q1 q2 => (r9 a i q1 q2).trans (h7 a i q1 q2), fun a i q1 => (r10 a i q1).trans (h8 a i q1)⟩, r8⟩
/-! the model's steps -/
theorem rn_e (w : Mem → Int → Int → Int → Res) (h : StR A0 B0 old Mx Mm z) (hT : 0 ≤ A0 376 1 ∧ A0 376 1 ≤ 80) (k D : Int) {q : Int} (hq : 80 + A0 376 1 ≤ q) : b_X12_run_58 k w Mm old D q = some (z, Mm) := by
  obtain ⟨c1, c2, c3, c4⟩ := h.cells
  unfold b_X12_run_58
  rw [c1, ok_t ⟨by omega, by omega⟩, if_pos hq, c3, ok_t ⟨by omega, by omega⟩, show old + z - old = z by omega]
theorem rn_s (w : Mem → Int → Int → Int → Res) (h : StR A0 B0 old Mx Mm z) (hT : 0 ≤ A0 376 1 ∧ A0 376 1 ≤ 80) (k D : Int) {q : Int} (hq : 80 ≤ q) (hq2 : q < 80 + A0 376 1) (hs : A0 377 q = 0) (hz : old + z = 40) : b_X12_run_58 k w Mm old D q = some (z, Mm) := by
  obtain ⟨c1, c2, c3, c4⟩ := h.cells
  unfold b_X12_run_58
  rw [c1, ok_t ⟨by omega, by omega⟩, if_neg (by omega), ok_t ⟨by omega, by omega⟩, c2 377 q (by decide) (by decide) hq, if_pos hs, c3, if_pos hz, ok_t ⟨by omega, by omega⟩, show old + z - old = z by omega]
theorem rn_a (w : Mem → Int → Int → Int → Res) (h : StR A0 B0 old Mx Mm z) (hT : 0 ≤ A0 376 1 ∧ A0 376 1 ≤ 80) {k D q : Int} {Mm1 : Mem} (hq : 80 ≤ q) (hq2 : q < 80 + A0 376 1) (hs : A0 377 q = 0) (hz : old + z < 40) (hr : f_X12_runShowing Mm k q z = some (0, Mm1)) : b_X12_run_58 k w Mm old D q = w Mm1 old D (q + 1) := by
  obtain ⟨c1, c2, c3, c4⟩ := h.cells
  unfold b_X12_run_58
  rw [c1, ok_t ⟨by omega, by omega⟩, if_neg (by omega), ok_t ⟨by omega, by omega⟩, c2 377 q (by decide) (by decide) hq, if_pos hs, c3, if_neg (by omega), ok_t ⟨by omega, by omega⟩, show old + z - old = z by omega, hr, cl_some, bi_e]
theorem rn_b (w : Mem → Int → Int → Int → Res) (h : StR A0 B0 old Mx Mm z) (hT : 0 ≤ A0 376 1 ∧ A0 376 1 ≤ 80) (k : Int) {D q : Int} (hq : 80 ≤ q) (hq2 : q < 80 + A0 376 1) (hs : A0 377 q = 1) (hD : 0 ≤ D ∧ D < 8) : b_X12_run_58 k w Mm old D q = w (st (st Mm 383 D q) 384 D (A0 382 q)) old (D + 1) (q + 1) := by
  obtain ⟨c1, c2, c3, c4⟩ := h.cells
  unfold b_X12_run_58
  rw [c1, ok_t ⟨by omega, by omega⟩, if_neg (by omega), ok_t ⟨by omega, by omega⟩, c2 377 q (by decide) (by decide) hq, if_neg (by omega), if_pos hs, ok_t hD, bm_e, st_neA (by decide), c2 382 q (by decide) (by decide) hq, bm_e, bi_e, bi_e]
theorem rn_c (w : Mem → Int → Int → Int → Res) (h : StR A0 B0 old Mx Mm z) (hT : 0 ≤ A0 376 1 ∧ A0 376 1 ≤ 80) (k : Int) {D q m q0 : Int} (hq : 80 ≤ q) (hq2 : q < 80 + A0 376 1) (hs : A0 377 q = 2) (hD : 0 ≤ D ∧ D < 7) (hm : Mm 384 D = m) (hm1 : 1 ≤ m ∧ m ≤ 9) (h3 : Mm 383 D = q0) (hq0 : 80 ≤ q0 ∧ q0 < 160) : b_X12_run_58 k w Mm old (D + 1) q = if m ≤ 1 then w (st Mm 384 D (m - 1)) old D (q + 1) else w (st Mm 384 D (m - 1)) old (D + 1) (q0 + 1) := by
  obtain ⟨c1, c2, c3, c4⟩ := h.cells
  unfold b_X12_run_58
  rw [c1, ok_t ⟨by omega, by omega⟩, if_neg (by omega), ok_t ⟨by omega, by omega⟩, c2 377 q (by decide) (by decide) hq, if_neg (by omega), if_neg (by omega), ok_t ⟨by omega, by omega⟩, show D + 1 - 1 = D by omega, ok_t ⟨by omega, by omega⟩, hm, ok_t ⟨by omega, by omega⟩, bm_e, st_at]
  by_cases w1 : m ≤ 1
  · rw [if_pos (by omega), if_pos w1, ok_t ⟨by omega, by omega⟩, bi_e, bi_e, show D + 1 + -1 = D by omega]
  · rw [if_neg (by omega), if_neg w1, bi_e, st_neA (by decide), h3, ok_t ⟨by omega, by omega⟩, bi_e]
end RW
