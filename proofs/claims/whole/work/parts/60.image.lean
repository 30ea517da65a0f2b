/-! IMAGES, written alike -/
noncomputable def mxm (S : Int → Int → Prop) (M1 M : Mem) : Mem := fun a i => @ite Int (S a i) (Classical.propDecidable _) (M1 a i) (M a i)
theorem mxm_in {S : Int → Int → Prop} {M1 M : Mem} {a i : Int} (h : S a i) : mxm S M1 M a i = M1 a i := if_pos h
theorem mxm_out {S : Int → Int → Prop} {M1 M : Mem} {a i : Int} (h : ¬ S a i) : mxm S M1 M a i = M a i := if_neg h
theorem mxm_fr {S T : Int → Int → Prop} {A M M1 : Mem} (f : Fr S M M1) (h : Fr T A M) : Fr T (mxm S M1 A) M1 := by
  intro a i hn
  by_cases w : S a i
  · rw [mxm_in w]
  · rw [mxm_out w, f a i w]; exact h a i hn
theorem mxm_sim {S T : Int → Int → Prop} {A M1 : Mem} (hs : ∀ a i, S a i → T a i) : Fr T A (mxm S M1 A) := fun _ _ hn => mxm_out (fun q => hn (hs _ _ q))
def ck (f : Int → Int) : Nat → Int
  | 0 => 5
  | n + 1 => (3 * ck f n + f n) % 233
theorem ck_su (f : Int → Int) {y : Int} (h : 0 ≤ y) : ck f (y + 1).toNat = (3 * ck f y.toNat + f y) % 233 := by
  obtain ⟨n, rfl⟩ : ∃ n : Nat, y = n := ⟨y.toNat, by omega⟩
  rfl
theorem ck_rng {f : Int → Int} : ∀ n : Nat, 0 ≤ ck f n ∧ ck f n < 233
  | 0 => ⟨(by decide : (0 : Int) ≤ 5), (by decide : (5 : Int) < 233)⟩
  | n + 1 => ⟨Int.emod_nonneg _ (by decide), Int.emod_lt_of_pos _ (by decide)⟩
theorem ck_cg {f g : Int → Int} : ∀ {n : Nat}, (∀ i : Nat, i < n → f i = g i) → ck f n = ck g n
  | 0, _ => rfl
  | n + 1, h => by
    show (3 * ck f n + f n) % 233 = (3 * ck g n + g n) % 233
    rw [ck_cg (n := n) (fun i hi => h i (by omega)), h n (by omega)]
theorem m_chk (M : Mem) {a n : Int} (hn : 0 ≤ n ∧ n ≤ ln a) (hl : ln a ≤ 1000) (hv : ∀ k, 0 ≤ k → k < n → 0 ≤ M a k ∧ M a k ≤ 255) : f_X12_checked M a n = some (ck (M a) n.toNat, M) := by
  have key : Tt (f_X12_checked M a n) (fun r M1 => r = ck (M a) n.toNat ∧ M1 = M) := by
    unfold f_X12_checked
    refine tt_wl2 (fun M1 s x => M1 = M ∧ 0 ≤ x ∧ x ≤ n ∧ s = ck (M a) x.toNat) (fun _ _ x => (n - x).toNat) ?_ FU M 5 0 ⟨rfl, by decide, hn.1, rfl⟩ (by have : FU = 1000000000 := rfl; omega)
    intro w M1 s x hI k
    obtain ⟨hM, x0, x1, i1⟩ := hI
    have hr := ck_rng (f := M a) x.toNat
    unfold b_X12_checked_4
    refine tt_if (fun c => ?_) (fun c => ?_)
    · rw [i1, show x = n by omega]; exact tt_ret ⟨rfl, hM⟩
    · have := hv x x0 (by omega)
      rw [hM]
      exact tt_ok ⟨by omega, by omega⟩ (tt_ok ⟨x0, by omega⟩ (tt_ok ⟨by omega, by omega⟩ (tt_ok (by omega) (tt_bi (tt_ok ⟨by omega, by omega⟩ (tt_bi (k _ _ _ ⟨rfl, by omega, by omega, by rw [ck_su _ x0, i1]⟩ (by omega))))))))
  obtain ⟨r, M1, e, hr, hM⟩ := key
  rw [e, hr, hM]
theorem x_chk1 (M : Mem) {s v : Int} (hs : 0 ≤ s ∧ s < 233) (hv : 0 ≤ v ∧ v ≤ 255) : f_X11_checkedOn M s v = some ((3 * s + v) % 233, M) := by
  unfold f_X11_checkedOn
  rw [ok_t ⟨by omega, by omega⟩, ok_t ⟨by omega, by omega⟩, ok_t (by omega)]
def by8 (A : Mem) (i j : Int) : Int := if j = 0 then A 392 i else if j = 1 then A 393 i else if j = 2 then A 394 i else if j = 3 then A 395 i else if j = 4 then A 396 i else if j = 5 then A 397 i + 2 * A 398 i else if j = 6 then A 400 i else if A 399 i = -1 then 255 else A 399 i
def ib (A : Mem) (k : Int) : Int := if k = 0 then A 337 79 else by8 A ((k - 1) / 8) ((k - 1) % 8)
theorem ib_at (A : Mem) {i j : Int} (h0 : 0 ≤ i) (h : 0 ≤ j ∧ j < 8) : ib A (1 + 8 * i + j) = by8 A i j := by
  unfold ib
  rw [if_neg (by omega), show (1 + 8 * i + j - 1) / 8 = i by omega, show (1 + 8 * i + j - 1) % 8 = j by omega]
section IM
variable {A B Mx Mm : Mem}
theorem by8_rng (h : RR A B Mx Mm) {i : Int} (h0 : 0 ≤ i) (h1 : i < A 337 79) (j : Int) : 0 ≤ by8 A i j ∧ by8 A i j ≤ 255 := by
  obtain ⟨h2, ha, -⟩ := h.tx h0 h1
  obtain ⟨b0, b1, b2, b3, b4, b5, b6, b7, b8⟩ := ha
  have hs := h.sr (h.th h0 h1)
  have ht := h.thg.1
  unfold by8
  repeat' split
  all_goals omega
theorem ib_rng (h : RR A B Mx Mm) {k : Int} (h0 : 0 ≤ k) (h1 : k < 1 + 8 * A 337 79) : 0 ≤ ib A k ∧ ib A k ≤ 255 := by
  obtain ⟨n1, n2, n3, n4⟩ := h.n79
  unfold ib
  by_cases w : k = 0
  · rw [if_pos w]; omega
  · rw [if_neg w]; exact by8_rng h (by omega) (by omega) _
theorem e_byteAt {M : Mem} {i j : Int} (ha : TrlA A i) (hx : TrlX A M i) (hj : 0 ≤ j ∧ j < 8) : f_X10_byteAt M (23 + i) j = some (by8 A i j, M) := by
  obtain ⟨x0, x1, x2, x3, x4, x5, x6, x7, x8⟩ := hx
  obtain ⟨-, -, -, -, -, b5, b6, -, -⟩ := ha
  unfold f_X10_byteAt by8
  rw [x0, x1, x2, x3, x4, x5, x6, x8]
  by_cases w0 : j = 0
  · rw [if_pos w0, if_pos w0]
  rw [if_neg w0, if_neg w0]
  by_cases w1 : j = 1
  · rw [if_pos w1, if_pos w1]
  rw [if_neg w1, if_neg w1]
  by_cases w2 : j = 2
  · rw [if_pos w2, if_pos w2]
  rw [if_neg w2, if_neg w2]
  by_cases w3 : j = 3
  · rw [if_pos w3, if_pos w3]
  rw [if_neg w3, if_neg w3]
  by_cases w4 : j = 4
  · rw [if_pos w4, if_pos w4]
  rw [if_neg w4, if_neg w4]
  by_cases w5 : j = 5
  · rw [if_pos w5, if_pos w5]
    unfold j_X10_byteAt_81
    rw [x7]
    rcases b5 with b5 | b5 <;> rcases b6 with b6 | b6 <;> rw [b5, b6] <;> rfl
  rw [if_neg w5, if_neg w5]
  by_cases w6 : j = 6
  · rw [if_pos w6, if_pos w6]
  rw [if_neg w6, if_neg w6]
  by_cases w7 : A 399 i = -1
  · rw [if_pos w7, if_pos w7]
  · rw [if_neg w7, if_neg w7]
def S202 (a i : Int) : Prop := a = 202 ∨ (a = 1 ∧ i = 15)
def S406 (a i : Int) : Prop := a = 406 ∨ (a = 337 ∧ i = 95)
def WX (f : Int → Int) (M0 : Mem) (n : Int) (M : Mem) : Prop := Fr S202 M0 M ∧ M 1 15 = n ∧ ∀ k, 0 ≤ k → k < n → M 202 k = f k
def WM (f : Int → Int) (M0 : Mem) (n : Int) (M : Mem) : Prop := Fr S406 M0 M ∧ M 337 95 = n ∧ ∀ k, 0 ≤ k → k < n → M 406 k = f k
theorem x_put8 {f : Int → Int} {M0 M : Mem} {n a : Int} (h : WX f M0 n M) (hn : 0 ≤ n ∧ n < 322) (ha : a = f n) : ∃ M1, f_X11_putOctet M a = some (0, M1) ∧ WX f M0 (n + 1) M1 := by
  obtain ⟨h1, h2, h3⟩ := h
  refine ⟨st (st M 202 n a) 1 15 (n + 1), ?_, (h1.st (Or.inl rfl)).st (Or.inr ⟨rfl, rfl⟩), st_at _ _ _ _, fun k k0 k1 => ?_⟩
  · unfold f_X11_putOctet
    rw [h2, if_neg (by omega), ok_t hn, bm_e, st_neA (by decide), h2, ok_t ⟨by omega, by omega⟩, bm_e]
  · rw [st_neA (by decide)]
    by_cases e : k = n
    · subst e; rw [st_at, ha]
    · rw [st_neI e]; exact h3 k k0 (by omega)
theorem m_put8 {f : Int → Int} {M0 M : Mem} {n a : Int} (h : WM f M0 n M) (hn : 0 ≤ n ∧ n < 330) (ha : a = f n) : ∃ M1, f_X12_writes M a = some (0, M1) ∧ WM f M0 (n + 1) M1 := by
  obtain ⟨h1, h2, h3⟩ := h
  refine ⟨st (st M 406 n a) 337 95 (n + 1), ?_, (h1.st (Or.inl rfl)).st (Or.inr ⟨rfl, rfl⟩), st_at _ _ _ _, fun k k0 k1 => ?_⟩
  · unfold f_X12_writes
    rw [h2, ok_t hn, bm_e, st_neA (by decide), h2, ok_t ⟨by omega, by omega⟩, bm_e]
  · rw [st_neA (by decide)]
    by_cases e : k = n
    · subst e; rw [st_at, ha]
    · rw [st_neI e]; exact h3 k k0 (by omega)
theorem tt_wx {f : Int → Int} {M0 M : Mem} {n a : Int} {K : Int → Mem → Res} {Q : Int → Mem → Prop} (h : WX f M0 n M) (hn : 0 ≤ n ∧ n < 322) (ha : a = f n) (k : ∀ M1, WX f M0 (n + 1) M1 → Tt (K 0 M1) Q) : Tt (cl (f_X11_putOctet M a) K) Q := by
  obtain ⟨M1, e, h1⟩ := x_put8 h hn ha
  rw [e, cl_some]; exact k M1 h1
theorem tt_wm {f : Int → Int} {M0 M : Mem} {n a : Int} {K : Int → Mem → Res} {Q : Int → Mem → Prop} (h : WM f M0 n M) (hn : 0 ≤ n ∧ n < 330) (ha : a = f n) (k : ∀ M1, WM f M0 (n + 1) M1 → Tt (K 0 M1) Q) : Tt (cl (f_X12_writes M a) K) Q := by
  obtain ⟨M1, e, h1⟩ := m_put8 h hn ha
  rw [e, cl_some]; exact k M1 h1
/-- an IMAGE with its check -/
def ibc (A : Mem) (k : Int) : Int := if k = 1 + 8 * A 337 79 then ck (ib A) k.toNat else ib A k
theorem RR.x_image (h : RR A B Mx Mm) : Tt (f_X11_image Mx) (fun r M1 => r = 2 + 8 * A 337 79 ∧ WX (ibc A) Mx (2 + 8 * A 337 79) M1) := by
  obtain ⟨n1, n2, n3, n4⟩ := h.n79
  have ec : ∀ {k : Int}, k < 1 + 8 * A 337 79 → ibc A k = ib A k := fun hk => if_neg (by omega)
  have kx : ∀ {M1 : Mem} {n : Int}, WX (ibc A) Mx n M1 → M1 21 1 = A 337 79 := fun q => (q.1 21 1 (by unfold S202; omega)).trans n2
  unfold f_X11_image
  refine tt_bm ?_
  have h0 : WX (ibc A) Mx 0 (st Mx 1 15 0) := ⟨(Fr.rf _ _).st (Or.inr ⟨rfl, rfl⟩), st_at _ _ _ _, fun k _ _ => by omega⟩
  refine tt_wx h0 ⟨by decide, by decide⟩ (by rw [kx h0, ec (by omega)]; exact (if_pos rfl).symm) (fun M1 h1 => ?_)
  refine tt_wl1 (fun M2 x => 0 ≤ x ∧ x ≤ A 337 79 ∧ WX (ibc A) Mx (1 + 8 * x) M2) (fun _ x => (A 337 79 - x).toNat) ?_ FU M1 0 ⟨by decide, by omega, h1⟩ (by have : FU = 1000000000 := rfl; omega)
  intro w M2 x hI k
  obtain ⟨x0, x1, h2⟩ := hI
  unfold b_X11_image_18
  rw [kx h2]
  refine tt_if (fun c => ?_) (fun c => ?_)
  · have ex : x = A 337 79 := by omega
    rw [ex] at h2
    refine tt_wl2 (fun M3 s y => M3 = M2 ∧ 0 ≤ y ∧ y ≤ 1 + 8 * A 337 79 ∧ s = ck (ib A) y.toNat) (fun _ _ y => (1 + 8 * A 337 79 - y).toNat) ?_ FU M2 5 0 ⟨rfl, by decide, by omega, rfl⟩ (by have : FU = 1000000000 := rfl; omega)
    intro w3 M3 s y hI3 k3
    obtain ⟨hM, y0, y1, j1⟩ := hI3
    rw [hM]
    unfold b_X11_image_70
    rw [h2.2.1]
    refine tt_if (fun c3 => ?_) (fun c3 => ?_)
    · have ey : y = 1 + 8 * A 337 79 := by omega
      refine tt_wx h2 ⟨by omega, by omega⟩ (by rw [j1, ey]; exact (if_pos rfl).symm) (fun M4 h4 => ?_)
      have e2 : 1 + 8 * A 337 79 + 1 = 2 + 8 * A 337 79 := by omega
      rw [e2] at h4
      exact tt_ret ⟨h4.2.1, h4⟩
    · have hb := ib_rng h y0 (by omega)
      have hr := ck_rng (f := ib A) y.toNat
      rw [h2.2.2 y y0 (by omega), ec (by omega), x_chk1 M2 (by omega) hb]
      refine tt_ok ⟨y0, by omega⟩ ?_
      rw [cl_some]
      exact tt_bi (k3 _ _ _ ⟨rfl, by omega, by omega, by rw [ck_su _ y0, j1]⟩ (by omega))
  · refine tt_wl2 (fun M3 c' y => c' = x ∧ 0 ≤ y ∧ y ≤ 8 ∧ WX (ibc A) Mx (1 + 8 * x + y) M3) (fun _ _ y => (8 - y).toNat) ?_ FU M2 x 0 ⟨rfl, by decide, by decide, by rw [Int.add_zero]; exact h2⟩ (by decide)
    intro w3 M3 c' y hI3 k3
    obtain ⟨rfl, y0, y1, h3⟩ := hI3
    unfold b_X11_image_31
    refine tt_if (fun c3 => ?_) (fun c3 => ?_)
    · refine tt_ok ⟨by omega, by omega⟩ (tt_bi (k _ _ ⟨by omega, by omega, ?_⟩ (by omega)))
      rw [show 1 + 8 * (c' + 1) = 1 + 8 * c' + y by omega]; exact h3
    · obtain ⟨q2, ha, hx⟩ := h.tx x0 (by omega : c' < A 337 79)
      have hx3 : TrlX A M3 c' := hx.ext (fun _ _ _ => rfl) (fun j => h3.1 _ _ (by unfold S202; omega))
      rw [e_byteAt ha hx3 ⟨y0, by omega⟩, cl_some]
      refine tt_ok ⟨x0, by omega⟩ (tt_wx h3 ⟨by omega, by omega⟩ (by rw [ec (by omega), ib_at A x0 ⟨y0, by omega⟩]) (fun M4 h4 => ?_))
      refine tt_ok ⟨by omega, by omega⟩ (tt_bi (k3 _ _ _ ⟨rfl, by omega, by omega, ?_⟩ (by omega)))
      rw [show 1 + 8 * c' + (y + 1) = 1 + 8 * c' + y + 1 by omega]; exact h4
theorem RR.m_image (h : RR A B Mx Mm) : Tt (f_X12_image Mm) (fun r M1 => r = 2 + 8 * A 337 79 ∧ WM (ibc A) Mm (2 + 8 * A 337 79) M1) := by
  obtain ⟨n1, n2, n3, n4⟩ := h.n79
  have ec : ∀ {k : Int}, k < 1 + 8 * A 337 79 → ibc A k = ib A k := fun hk => if_neg (by omega)
  have km : ∀ {M1 : Mem} {n : Int}, WM (ibc A) Mm n M1 → M1 337 79 = A 337 79 := fun q => (q.1 337 79 (by unfold S406; omega)).trans n1
  unfold f_X12_image
  refine tt_bm ?_
  have h0 : WM (ibc A) Mm 0 (st Mm 337 95 0) := ⟨(Fr.rf _ _).st (Or.inr ⟨rfl, rfl⟩), st_at _ _ _ _, fun k _ _ => by omega⟩
  refine tt_wm h0 ⟨by decide, by decide⟩ (by rw [km h0, ec (by omega)]; exact (if_pos rfl).symm) (fun M1 h1 => ?_)
  refine tt_wl1 (fun M2 x => 0 ≤ x ∧ x ≤ A 337 79 ∧ WM (ibc A) Mm (1 + 8 * x) M2) (fun _ x => (A 337 79 - x).toNat) ?_ FU M1 0 ⟨by decide, by omega, h1⟩ (by have : FU = 1000000000 := rfl; omega)
  intro w M2 x hI k
  obtain ⟨x0, x1, h2⟩ := hI
  unfold b_X12_image_15
  rw [km h2]
  refine tt_if (fun c => ?_) (fun c => ?_)
  · have ex : x = A 337 79 := by omega
    rw [ex] at h2
    have e1 : f_X12_checked M2 406 (M2 337 95) = some (ck (ib A) (1 + 8 * A 337 79).toNat, M2) := by
      have l406 : ln 406 = 330 := by decide +kernel
      rw [h2.2.1, m_chk M2 ⟨by omega, by omega⟩ (by omega) (fun k k0 k1 => by rw [h2.2.2 k k0 k1, ec k1]; exact ib_rng h k0 k1)]
      rw [ck_cg (g := ib A) (fun i hi => by rw [h2.2.2 i (by omega) (by omega), ec (by omega)])]
    rw [e1, cl_some]
    refine tt_wm h2 ⟨by omega, by omega⟩ (if_pos rfl).symm (fun M4 h4 => ?_)
    have e2 : 1 + 8 * A 337 79 + 1 = 2 + 8 * A 337 79 := by omega
    rw [e2] at h4
    exact tt_ret ⟨h4.2.1, h4⟩
  · have gm : ∀ {M1 : Mem} {n : Int} (a i : Int), 392 ≤ a → a ≤ 400 → WM (ibc A) Mm n M1 → M1 a i = A a i := fun a i a0 a1 q => (q.1 a i (by unfold S406; omega)).trans (h.mt i ⟨a0, a1⟩)
    have pl : ∀ j : Int, 0 ≤ j → j < 8 → ibc A (1 + 8 * x + j) = by8 A x j := fun j j0 j1 => by rw [ec (by omega), ib_at A x0 ⟨j0, j1⟩]
    have p0 := pl 0 (by decide) (by decide)
    rw [Int.add_zero] at p0
    refine tt_ok ⟨x0, by omega⟩ (tt_wm h2 ⟨by omega, by omega⟩ (by rw [gm 392 x (by decide) (by decide) h2, p0]; rfl) (fun M3 h3 => ?_))
    refine tt_wm h3 ⟨by omega, by omega⟩ (by rw [gm 393 x (by decide) (by decide) h3, pl 1 (by decide) (by decide)]; rfl) (fun M4 h4 => ?_)
    refine tt_wm h4 ⟨by omega, by omega⟩ (by rw [gm 394 x (by decide) (by decide) h4, show 1 + 8 * x + 1 + 1 = 1 + 8 * x + 2 by omega, pl 2 (by decide) (by decide)]; rfl) (fun M5 h5 => ?_)
    refine tt_wm h5 ⟨by omega, by omega⟩ (by rw [gm 395 x (by decide) (by decide) h5, show 1 + 8 * x + 1 + 1 + 1 = 1 + 8 * x + 3 by omega, pl 3 (by decide) (by decide)]; rfl) (fun M6 h6 => ?_)
    refine tt_wm h6 ⟨by omega, by omega⟩ (by rw [gm 396 x (by decide) (by decide) h6, show 1 + 8 * x + 1 + 1 + 1 + 1 = 1 + 8 * x + 4 by omega, pl 4 (by decide) (by decide)]; rfl) (fun M7 h7 => ?_)
    have e5 : 1 + 8 * x + 1 + 1 + 1 + 1 + 1 = 1 + 8 * x + 5 := by omega
    rw [e5] at h7
    obtain ⟨h2', ha, -⟩ := h.tx x0 (by omega : x < A 337 79)
    obtain ⟨-, -, -, -, -, b5, b6, -, -⟩ := ha
    have last : ∀ s0 s1 : Int, s0 = 2 * A 398 x → s1 = A 397 x → Tt (j_X12_image_102 w M7 x s0 s1) (fun r M1 => r = 2 + 8 * A 337 79 ∧ WM (ibc A) Mm (2 + 8 * A 337 79) M1) := by
      intro s0 s1 z0 z1
      unfold j_X12_image_102
      refine tt_ok ⟨by omega, by omega⟩ (tt_wm h7 ⟨by omega, by omega⟩ (by rw [pl 5 (by decide) (by decide), z0, z1]; rfl) (fun M8 h8 => ?_))
      have e6 : 1 + 8 * x + 5 + 1 = 1 + 8 * x + 6 := by omega
      rw [e6] at h8
      refine tt_ok ⟨x0, by omega⟩ (tt_wm h8 ⟨by omega, by omega⟩ (by rw [gm 400 x (by decide) (by decide) h8, pl 6 (by decide) (by decide)]; rfl) (fun M9 h9 => ?_))
      have e7 : 1 + 8 * x + 6 + 1 = 1 + 8 * x + 7 := by omega
      have e8 : 1 + 8 * x + 7 + 1 = 1 + 8 * (x + 1) := by omega
      rw [e7] at h9
      rw [gm 399 x (by decide) (by decide) h9]
      have p7 := pl 7 (by decide) (by decide)
      have q7 : by8 A x 7 = if A 399 x = -1 then 255 else A 399 x := rfl
      refine tt_if (fun c7 => ?_) (fun c7 => ?_)
      · rw [if_pos c7] at q7
        refine tt_wm h9 ⟨by omega, by omega⟩ (by rw [p7, q7]) (fun M10 h10 => tt_bi (k _ _ ⟨by omega, by omega, ?_⟩ (by omega)))
        rw [← e8]; exact h10
      · rw [if_neg c7] at q7
        refine tt_wm h9 ⟨by omega, by omega⟩ (by rw [p7, q7]) (fun M10 h10 => tt_bi (k _ _ ⟨by omega, by omega, ?_⟩ (by omega)))
        rw [← e8]; exact h10
    have mid : ∀ s1 : Int, s1 = A 397 x → Tt (j_X12_image_88 w M7 x s1) (fun r M1 => r = 2 + 8 * A 337 79 ∧ WM (ibc A) Mm (2 + 8 * A 337 79) M1) := by
      intro s1 z1
      unfold j_X12_image_88
      rw [gm 398 x (by decide) (by decide) h7]
      exact tt_ok ⟨x0, by omega⟩ (tt_if (fun c8 => last 0 s1 (by omega) z1) (fun c8 => last 2 s1 (by omega) z1))
    rw [gm 397 x (by decide) (by decide) h7]
    exact tt_if (fun c8 => mid 0 (by omega)) (fun c8 => mid 1 (by omega))
theorem J_image (h : R Mx Mm) : Jt (f_X11_image Mx) (f_X12_image Mm) := by
  obtain ⟨A, B, h⟩ := h
  obtain ⟨n1, n2, n3, n4⟩ := h.n79
  obtain ⟨r1, Mx1, e1, q1, wx⟩ := h.x_image
  obtain ⟨r2, Mm1, e2, q2, wm⟩ := h.m_image
  refine ⟨r1, Mx1, Mm1, e1, by rw [e2, q2, q1], ?_⟩
  have nA : ∀ {a i : Int}, ¬ S406 a i → mxm S406 Mm1 A a i = A a i := fun q => mxm_out q
  have nB : ∀ {a i : Int}, ¬ S202 a i → mxm S202 Mx1 B a i = B a i := fun q => mxm_out q
  refine h.upd (A1 := mxm S406 Mm1 A) (B1 := mxm S202 Mx1 B) (mxm_sim (fun a i q => by unfold S406 at q; unfold SimA; omega)) (mxm_sim (fun a i q => by unfold S202 at q; unfold SimB; omega)) (h.tap.ext ?_ ?_ ?_ ?_) (h.flt.ext ?_ ?_ ?_ ?_) (h.trs.ext ?_ ?_ ?_ ?_ ?_ ?_) (h.chr.ext ?_ ?_ ?_) ?_ (mxm_fr wm.1 h.fm) (mxm_fr wx.1 h.fx) (lc_fr wx.1 (fun i => by unfold S202; omega) h.lc)
  case refine_18 =>
    have a1 : mxm S406 Mm1 A 337 95 = 2 + 8 * A 337 79 := by rw [mxm_in (Or.inr ⟨rfl, rfl⟩)]; exact wm.2.1
    have b1 : mxm S202 Mx1 B 1 15 = 2 + 8 * A 337 79 := by rw [mxm_in (Or.inr ⟨rfl, rfl⟩)]; exact wx.2.1
    unfold OctR
    rw [a1, b1]
    refine ⟨rfl, ⟨by omega, by omega⟩, fun k k0 k1 => ?_⟩
    rw [mxm_in (Or.inl rfl), mxm_in (Or.inl rfl), wm.2.2 k k0 k1, wx.2.2 k k0 k1]
  all_goals first | exact nA (by unfold S406; omega) | exact nB (by unfold S202; omega) | exact fun i => nA (by unfold S406; omega) | exact fun i => nB (by unfold S202; omega) | exact fun a i _ _ => nA (by unfold S406; omega) | exact fun i j _ _ => nB (by unfold S202; omega) | exact funext fun i => nA (by unfold S406; omega)
end IM
