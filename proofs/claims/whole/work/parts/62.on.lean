/-! an IMAGE taken, alike -/
theorem ia12 : ∀ s : Nat, s < 4 → (iand s 1 = 0 ↔ ¬ (s : Int) % 2 = 1) ∧ (iand s 2 = 0 ↔ (s : Int) ≤ 1) := by decide +kernel
theorem ia12i {x : Int} (h : 0 ≤ x ∧ x ≤ 3) : (iand x 1 = 0 ↔ ¬ x % 2 = 1) ∧ (iand x 2 = 0 ↔ x ≤ 1) := by
  obtain ⟨n, rfl⟩ : ∃ n : Nat, x = n := ⟨x.toNat, by omega⟩
  exact ia12 n (by omega)
def SAt (b a _i : Int) : Prop := a = b
theorem sat_st {b i v : Int} {M M1 : Mem} (f : Fr (SAt b) M M1) : Fr (SAt b) M (st M1 b i v) := f.st rfl
def tvl (T : Int → Int) (p j : Int) : Int := if j = 5 then (if T (p + 5) % 2 = 1 then 1 else 0) else if j = 7 then (if T (p + 5) ≤ 1 then 0 else 1) else if j = 8 then (if T (p + 7) = 255 then -1 else T (p + 7)) else if j = 0 then T p else T (p + j)
def imgOk (A : Mem) (L : Int) : Prop := 2 ≤ L ∧ A 338 0 ≤ 40 ∧ L = 2 + 8 * A 338 0 ∧ A 338 (L - 1) = ck (A 338) (L - 1).toNat ∧ ∀ i, 0 ≤ i → i < A 338 0 → okT A (1 + 8 * i)
section ON2
variable {A B Mx Mm : Mem}
theorem e_place (M : Mem) {i : Int} (h : 0 ≤ i ∧ i ≤ 1000) : f_X11_imagePlace M i = some (1 + 8 * i, M) := by
  unfold f_X11_imagePlace
  rw [ok_t ⟨by omega, by omega⟩, ok_t ⟨by omega, by omega⟩]
theorem RR.x_isImg (h : RR A B Mx Mm) : ∃ q, f_X11_isImage Mx = some (q, Mx) ∧ ((q = 1 ∧ imgOk A (B 2 1)) ∨ (q = 0 ∧ ¬ imgOk A (B 2 1))) := by
  have ht := h.tp
  obtain ⟨l1, l2, l3⟩ := id ht
  have l0 := h.tap.2.1.1
  suffices hs : Tt (f_X11_isImage Mx) (fun q M1 => M1 = Mx ∧ ((q = 1 ∧ imgOk A (B 2 1)) ∨ (q = 0 ∧ ¬ imgOk A (B 2 1)))) by
    obtain ⟨q, M1, e, hM, hq⟩ := hs
    exact ⟨q, by rw [e, hM], hq⟩
  unfold f_X11_isImage
  by_cases w0 : B 2 1 ≤ 0
  · have e : f_X9_at Mx 0 = some (-1, Mx) := by unfold f_X9_at; rw [if_neg (by decide), l1, if_pos w0]
    rw [e, cl_some]
    exact tt_ip (by decide) (tt_ret ⟨rfl, Or.inr ⟨rfl, fun q => by have := q.1; omega⟩⟩)
  have t0 := h.tr (k := 0) (by decide) (by omega)
  rw [e_at ht (by decide) (by omega), cl_some]
  refine tt_in (by omega) (tt_if (fun c1 => ?_) (fun c1 => ?_))
  · exact tt_ret ⟨rfl, Or.inr ⟨rfl, fun q => by have := q.2.1; omega⟩⟩
  · rw [e_place Mx ⟨t0.1, by omega⟩, cl_some, l1]
    refine tt_ok ⟨by omega, by omega⟩ (tt_if (fun c2 => ?_) (fun c2 => ?_))
    · refine tt_wl3 (fun M1 y s x => M1 = Mx ∧ y = A 338 0 ∧ 0 ≤ x ∧ x ≤ B 2 1 - 1 ∧ s = ck (A 338) x.toNat) (fun _ _ _ x => (B 2 1 - 1 - x).toNat) ?_ FU Mx _ 5 0 ⟨rfl, rfl, by decide, by omega, rfl⟩ (by have : FU = 1000000000 := rfl; omega)
      intro w M1 y s x hI k
      obtain ⟨hM, hy, x0, x1, i1⟩ := hI
      rw [hM, hy]
      unfold b_X11_isImage_41
      rw [l1]
      refine tt_ok ⟨by omega, by omega⟩ (tt_if (fun c3 => ?_) (fun c3 => ?_))
      · rw [e_at ht (by omega) (by omega), cl_some]
        have ex : x = B 2 1 - 1 := by omega
        rw [ex] at i1
        refine tt_if (fun c4 => ?_) (fun c4 => ?_)
        · refine tt_wl2 (fun M2 y z => M2 = Mx ∧ y = A 338 0 ∧ 0 ≤ z ∧ z ≤ A 338 0 ∧ ∀ i, 0 ≤ i → i < z → okT A (1 + 8 * i)) (fun _ _ z => (A 338 0 - z).toNat) ?_ FU Mx _ 0 ⟨rfl, rfl, by decide, t0.1, fun i _ _ => by omega⟩ (by have : FU = 1000000000 := rfl; omega)
          intro w2 M2 y2 z hI2 k2
          obtain ⟨hM2, hy2, z0, z1, j1⟩ := hI2
          rw [hM2, hy2]
          unfold b_X11_isImage_97
          refine tt_if (fun c5 => ?_) (fun c5 => ?_)
          · exact tt_ret ⟨rfl, Or.inl ⟨rfl, by omega, by omega, by omega, by rw [← c4, i1], fun i i0 i1' => j1 i i0 (by omega)⟩⟩
          · obtain ⟨q, e, hq⟩ := h.x_told (p := 1 + 8 * z) (by omega) (by omega)
            rw [e_place Mx ⟨z0, by omega⟩, cl_some, e, cl_some]
            rcases hq with ⟨rfl, hq⟩ | ⟨rfl, hq⟩
            · refine tt_in (by decide) (tt_ok ⟨by omega, by omega⟩ (tt_bi (k2 _ _ _ ⟨rfl, rfl, by omega, by omega, fun i i0 i1' => ?_⟩ (by omega))))
              by_cases e : i = z
              · rw [e]; exact hq
              · exact j1 i i0 (by omega)
            · exact tt_ip rfl (tt_ret ⟨rfl, Or.inr ⟨rfl, fun q => hq (q.2.2.2.2 z z0 (by omega))⟩⟩)
        · exact tt_ret ⟨rfl, Or.inr ⟨rfl, fun q => c4 (by rw [i1, q.2.2.2.1])⟩⟩
      · have hb := h.tr x0 (by omega : x < B 2 1)
        have hr := ck_rng (f := A 338) x.toNat
        rw [e_at ht x0 (by omega), cl_some, x_chk1 Mx (by omega) hb, cl_some]
        exact tt_ok ⟨by omega, by omega⟩ (tt_bi (k _ _ _ _ ⟨rfl, rfl, by omega, by omega, by rw [ck_su _ x0, i1]⟩ (by omega)))
    · exact tt_ret ⟨rfl, Or.inr ⟨rfl, fun q => c2 (by have := q.2.2.1; omega)⟩⟩
theorem tpx_fr {L : Int} {S : Int → Int → Prop} {M M1 : Mem} (f : Fr S M M1) (hS : ¬ S 2 1 ∧ ∀ k, ¬ S 3 k) (h : TpX A L M) : TpX A L M1 :=
  ⟨(f _ _ hS.1).trans h.1, h.2.1, fun k k0 k1 => (f _ _ (hS.2 k)).trans (h.2.2 k k0 k1)⟩
theorem x_take {L : Int} {M : Mem} (ht : TpX A L M) {i p : Int} (hi : 0 ≤ i) (p0 : 0 ≤ p) (p7 : p + 7 < L) (h5 : 0 ≤ A 338 (p + 5) ∧ A 338 (p + 5) ≤ 3) : Tt (f_X10_take M (23 + i) p) (fun _ M1 => Fr (SAt (23 + i)) M M1 ∧ ∀ j, 0 ≤ j → j ≤ 8 → M1 (23 + i) j = tvl (A 338) p j) := by
  have hl := ht.2.1
  obtain ⟨i1, i2⟩ := ia12i h5
  unfold f_X10_take
  rw [e_at ht p0 (by omega), cl_some, ok_t ⟨by omega, by omega⟩, e_at ht (by omega) (by omega), cl_some, ok_t ⟨by omega, by omega⟩, e_at ht (by omega) (by omega), cl_some, ok_t ⟨by omega, by omega⟩, e_at ht (by omega) (by omega), cl_some]
  unfold f_X10_putShowing
  simp only [bm_e, cl_some]
  generalize hM6 : st (st (st (st (st (st M (23 + i) 0 (A 338 p)) (23 + i) 1 (A 338 (p + 1))) (23 + i) 2 (A 338 (p + 2))) (23 + i) 3 (A 338 (p + 3))) (23 + i) 7 0) (23 + i) 8 (-1) = M6
  have f6 : Fr (SAt (23 + i)) M M6 := by
    rw [← hM6]; exact sat_st (sat_st (sat_st (sat_st (sat_st (sat_st (Fr.rf _ _))))))
  have v0 : M6 (23 + i) 0 = A 338 p := by rw [← hM6]; simp [st]
  have v1 : M6 (23 + i) 1 = A 338 (p + 1) := by rw [← hM6]; simp [st]
  have v2 : M6 (23 + i) 2 = A 338 (p + 2) := by rw [← hM6]; simp [st]
  have v3 : M6 (23 + i) 3 = A 338 (p + 3) := by rw [← hM6]; simp [st]
  have t6 : TpX A L M6 := tpx_fr f6 ⟨by unfold SAt; omega, fun k => by unfold SAt; omega⟩ ht
  refine tt_ok ⟨by omega, by omega⟩ ?_
  rw [e_at t6 (by omega) (by omega), cl_some]
  refine tt_ok ⟨by omega, by omega⟩ ?_
  rw [e_at t6 (by omega) (by omega), cl_some]
  have fin : ∀ s0 : Int, (s0 = 0 ∨ s0 = 1) → s0 = tvl (A 338) p 5 → Tt (j_X10_take_57 (23 + i) p M6 (A 338 (p + 5)) s0 (A 338 (p + 4))) (fun _ M1 => Fr (SAt (23 + i)) M M1 ∧ ∀ j, 0 ≤ j → j ≤ 8 → M1 (23 + i) j = tvl (A 338) p j) := by
    intro s0 hs es
    unfold j_X10_take_57
    refine tt_ok ⟨by omega, by omega⟩ ?_
    rw [e_at t6 (by omega) (by omega), cl_some]
    unfold f_X10_putAnswer
    simp only [bm_e]
    rw [ok_t hs, cl_some]
    generalize hM9 : st (st (st M6 (23 + i) 4 (A 338 (p + 4))) (23 + i) 5 s0) (23 + i) 6 (A 338 (p + 6)) = M9
    have f9 : Fr (SAt (23 + i)) M M9 := by
      rw [← hM9]; exact sat_st (sat_st (sat_st f6))
    have u0 : M9 (23 + i) 0 = A 338 p := by rw [← hM9]; simp [st, v0]
    have u1 : M9 (23 + i) 1 = A 338 (p + 1) := by rw [← hM9]; simp [st, v1]
    have u2 : M9 (23 + i) 2 = A 338 (p + 2) := by rw [← hM9]; simp [st, v2]
    have u3 : M9 (23 + i) 3 = A 338 (p + 3) := by rw [← hM9]; simp [st, v3]
    have u4 : M9 (23 + i) 4 = A 338 (p + 4) := by rw [← hM9]; simp [st]
    have u5 : M9 (23 + i) 5 = s0 := by rw [← hM9]; simp [st]
    have u6 : M9 (23 + i) 6 = A 338 (p + 6) := by rw [← hM9]; simp [st]
    have fin2 : ∀ s1 : Int, (s1 = 0 ∨ s1 = 1) → s1 = tvl (A 338) p 7 → Tt (j_X10_take_80 (23 + i) p M9 s1) (fun _ M1 => Fr (SAt (23 + i)) M M1 ∧ ∀ j, 0 ≤ j → j ≤ 8 → M1 (23 + i) j = tvl (A 338) p j) := by
      intro s1 hs1 es1
      unfold j_X10_take_80
      have f10 : Fr (SAt (23 + i)) M (st M9 (23 + i) 7 s1) := sat_st f9
      have t10 : TpX A L (st M9 (23 + i) 7 s1) := tpx_fr f10 ⟨by unfold SAt; omega, fun k => by unfold SAt; omega⟩ ht
      refine tt_ok hs1 (tt_bm (tt_ok ⟨by omega, by omega⟩ ?_))
      rw [e_at t10 (by omega) (by omega), cl_some]
      have vals : ∀ w : Int, w = tvl (A 338) p 8 → ∀ j, 0 ≤ j → j ≤ 8 → st (st M9 (23 + i) 7 s1) (23 + i) 8 w (23 + i) j = tvl (A 338) p j := by
        intro w hw j j0 j8
        have : j = 0 ∨ j = 1 ∨ j = 2 ∨ j = 3 ∨ j = 4 ∨ j = 5 ∨ j = 6 ∨ j = 7 ∨ j = 8 := by omega
        rcases this with rfl | rfl | rfl | rfl | rfl | rfl | rfl | rfl | rfl
        · rw [st_neI (by decide), st_neI (by decide), u0]; rfl
        · rw [st_neI (by decide), st_neI (by decide), u1]; rfl
        · rw [st_neI (by decide), st_neI (by decide), u2]; rfl
        · rw [st_neI (by decide), st_neI (by decide), u3]; rfl
        · rw [st_neI (by decide), st_neI (by decide), u4]; rfl
        · rw [st_neI (by decide), st_neI (by decide), u5, es]
        · rw [st_neI (by decide), st_neI (by decide), u6]; rfl
        · rw [st_neI (by decide), st_at, es1]
        · rw [st_at, hw]
      have e8 : tvl (A 338) p 8 = if A 338 (p + 7) = 255 then -1 else A 338 (p + 7) := rfl
      refine tt_if (fun c => ?_) (fun c => ?_)
      · exact tt_bm (tt_ret ⟨sat_st f10, vals _ (by rw [e8, if_pos c])⟩)
      · exact tt_bm (tt_ret ⟨sat_st f10, vals _ (by rw [e8, if_neg c])⟩)
    have e7 : tvl (A 338) p 7 = if A 338 (p + 5) ≤ 1 then 0 else 1 := rfl
    refine tt_if (fun c => ?_) (fun c => ?_)
    · exact fin2 0 (Or.inl rfl) (by rw [e7, if_pos (i2.mp c)])
    · exact fin2 1 (Or.inr rfl) (by rw [e7, if_neg (fun q => c (i2.mpr q))])
  have e5 : tvl (A 338) p 5 = if A 338 (p + 5) % 2 = 1 then 1 else 0 := rfl
  refine tt_if (fun c => ?_) (fun c => ?_)
  · exact fin 0 (Or.inl rfl) (by rw [e5, if_neg (i1.mp c)])
  · refine fin 1 (Or.inr rfl) ?_
    rw [e5, if_pos]
    by_cases q : A 338 (p + 5) % 2 = 1
    · exact q
    · exact absurd (i1.mpr q) c
def S21 (a i : Int) : Prop := a = 21 ∨ (23 ≤ a ∧ a ≤ 62) ∨ (a = 2 ∧ i = 1)
def S392 (a i : Int) : Prop := (392 ≤ a ∧ a ≤ 400) ∨ (a = 337 ∧ (i = 1 ∨ i = 79))
theorem RR.x_on (h : RR A B Mx Mm) (hi : imgOk A (B 2 1)) : Tt (bm (st Mx 21 1 (A 338 0)) (fun M9 => wl2 b_X11_on_26 FU M9 1 0)) (fun r M1 => r = 1 ∧ Fr S21 Mx M1 ∧ M1 2 1 = 0 ∧ M1 21 1 = A 338 0 ∧ ∀ i, 0 ≤ i → i < A 338 0 → ∀ j, 0 ≤ j → j ≤ 8 → M1 (23 + i) j = tvl (A 338) (1 + 8 * i) j) := by
  obtain ⟨g1, g2, g3, g4, g5⟩ := hi
  have ht := h.tp
  have t0 := h.tr (k := 0) (by decide) (by omega)
  refine tt_bm ?_
  refine tt_wl2 (fun M1 y x => y = 1 ∧ 0 ≤ x ∧ x ≤ A 338 0 ∧ Fr (fun a i => S21 a i ∧ a ≠ 2) Mx M1 ∧ M1 21 1 = A 338 0 ∧ ∀ i, 0 ≤ i → i < x → ∀ j, 0 ≤ j → j ≤ 8 → M1 (23 + i) j = tvl (A 338) (1 + 8 * i) j) (fun _ _ x => (A 338 0 - x).toNat) ?_ FU _ 1 0 ⟨rfl, by decide, t0.1, (Fr.rf _ _).st ⟨Or.inl rfl, by decide⟩, st_at _ _ _ _, fun i _ _ => by omega⟩ (by have : FU = 1000000000 := rfl; omega)
  intro w M1 y x hI k
  obtain ⟨rfl, x0, x1, f, e21, hv⟩ := hI
  have t1 : TpX A (B 2 1) M1 := tpx_fr f ⟨fun q => q.2 rfl, fun k q => by have := q.1; unfold S21 at this; omega⟩ ht
  unfold b_X11_on_26
  rw [e21]
  refine tt_if (fun c => ?_) (fun c => ?_)
  · refine tt_bm (tt_ok (Or.inr rfl) (tt_ret ⟨rfl, (f.mono (fun a i q => q.1)).st (Or.inr (Or.inr ⟨rfl, rfl⟩)), st_at _ _ _ _, by rw [st_neA (by decide), e21], fun i i0 i1 j j0 j1 => ?_⟩))
    rw [st_neA (by omega)]; exact hv i i0 (by omega) j j0 j1
  · have hk := g5 x x0 (by omega)
    have h5 := h.tr (k := 1 + 8 * x + 5) (by omega) (by omega)
    refine tt_ok ⟨x0, by omega⟩ ?_
    rw [e_place M1 ⟨x0, by omega⟩, cl_some]
    refine tt_cb (x_take t1 x0 (p := 1 + 8 * x) (by omega) (by omega) ⟨h5.1, hk.2.2.2.2.2.1⟩) (fun r M2 q => ?_)
    obtain ⟨q1, q2⟩ := q
    refine tt_bi (k _ _ _ ⟨rfl, by omega, by omega, f.tr (q1.mono (fun a i q => by unfold SAt at q; unfold S21; omega)), ?_, fun i i0 i1 j j0 j1 => ?_⟩ (by omega))
    · rw [q1 21 1 (by unfold SAt; omega), e21]
    · by_cases e : i = x
      · rw [e]; exact q2 j j0 j1
      · rw [q1 (23 + i) j (by unfold SAt; omega)]; exact hv i i0 (by omega) j j0 j1
def CM (T : Int → Int) (M : Mem) (i : Int) : Prop := M 392 i = tvl T (1 + 8 * i) 0 ∧ M 393 i = tvl T (1 + 8 * i) 1 ∧ M 394 i = tvl T (1 + 8 * i) 2 ∧ M 395 i = tvl T (1 + 8 * i) 3 ∧ M 396 i = tvl T (1 + 8 * i) 4 ∧ M 397 i = tvl T (1 + 8 * i) 5 ∧ M 400 i = tvl T (1 + 8 * i) 6 ∧ M 398 i = tvl T (1 + 8 * i) 7 ∧ M 399 i = tvl T (1 + 8 * i) 8
theorem m_take {T : Int → Int} {M0 : Mem} (e338 : ∀ k, M0 338 k = T k) {n : Int} (hn : 0 ≤ n ∧ n ≤ 40) (hp : ∀ k, 0 ≤ k → k < 2 + 8 * n → 0 ≤ T k) : Tt (wl1 b_X12_on_101 FU (st M0 337 79 n) 0) (fun r M1 => r = 1 ∧ Fr S392 M0 M1 ∧ M1 337 1 = M0 337 1 ∧ M1 337 79 = n ∧ ∀ i, 0 ≤ i → i < n → CM T M1 i) := by
  refine tt_wl1 (fun M1 x => 0 ≤ x ∧ x ≤ n ∧ Fr S392 M0 M1 ∧ M1 337 1 = M0 337 1 ∧ M1 337 79 = n ∧ ∀ i, 0 ≤ i → i < x → CM T M1 i) (fun _ x => (n - x).toNat) ?_ FU _ 0 ⟨by decide, hn.1, (Fr.rf _ _).st (Or.inr ⟨rfl, Or.inr rfl⟩), st_neI (by decide), st_at _ _ _ _, fun i _ _ => by omega⟩ (by have : FU = 1000000000 := rfl; omega)
  intro w M1 x hI k
  obtain ⟨x0, x1, f, e1, e79, hv⟩ := hI
  have eT : ∀ k, M1 338 k = T k := fun k => (f _ _ (by unfold S392; omega)).trans (e338 k)
  unfold b_X12_on_101
  rw [e79]
  refine tt_if (fun c => ?_) (fun c => ?_)
  · exact tt_ret ⟨rfl, f, e1, e79, fun i i0 i1 => hv i i0 (by omega)⟩
  · have h5 := hp (1 + 8 * x + 5) (by omega) (by omega)
    have fin : ∀ s0 : Int, (s0 = 0 ∨ s0 = 1) → s0 = tvl T (1 + 8 * x) 5 → Tt (j_X12_on_175 w M1 x (1 + 8 * x) s0 (T (1 + 8 * x + 4)) (T (1 + 8 * x + 3)) (T (1 + 8 * x + 2)) (T (1 + 8 * x + 1)) (T (1 + 8 * x)) x) (fun r M1 => r = 1 ∧ Fr S392 M0 M1 ∧ M1 337 1 = M0 337 1 ∧ M1 337 79 = n ∧ ∀ i, 0 ≤ i → i < n → CM T M1 i) := by
      intro s0 hs es
      unfold j_X12_on_175
      rw [eT, m_put M1 ⟨x0, by omega⟩ hs]
      refine tt_ok ⟨by omega, by omega⟩ (tt_ok ⟨by omega, by omega⟩ ?_)
      rw [cl_some, puA_o (by omega), eT]
      refine tt_ok ⟨by omega, by omega⟩ (tt_ok ⟨by omega, by omega⟩ ?_)
      have fin2 : ∀ s1 : Int, (s1 = 0 ∨ s1 = 1) → s1 = tvl T (1 + 8 * x) 7 → Tt (j_X12_on_209 w (puA M1 x (T (1 + 8 * x)) (T (1 + 8 * x + 1)) (T (1 + 8 * x + 2)) (T (1 + 8 * x + 3)) (T (1 + 8 * x + 4)) s0 (T (1 + 8 * x + 6))) x (1 + 8 * x) s1 x) (fun r M1 => r = 1 ∧ Fr S392 M0 M1 ∧ M1 337 1 = M0 337 1 ∧ M1 337 79 = n ∧ ∀ i, 0 ≤ i → i < n → CM T M1 i) := by
        intro s1 hs1 es1
        unfold j_X12_on_209
        refine tt_ok ⟨x0, by omega⟩ (tt_ok hs1 (tt_bm (tt_ok ⟨by omega, by omega⟩ (tt_ok ⟨by omega, by omega⟩ ?_))))
        rw [st_neA (by decide), puA_o (by omega), eT]
        have go : ∀ v : Int, v = tvl T (1 + 8 * x) 8 → Tt (w (st (st (puA M1 x (T (1 + 8 * x)) (T (1 + 8 * x + 1)) (T (1 + 8 * x + 2)) (T (1 + 8 * x + 3)) (T (1 + 8 * x + 4)) s0 (T (1 + 8 * x + 6))) 398 x s1) 399 x v) (x + 1)) (fun r M1 => r = 1 ∧ Fr S392 M0 M1 ∧ M1 337 1 = M0 337 1 ∧ M1 337 79 = n ∧ ∀ i, 0 ≤ i → i < n → CM T M1 i) := by
          intro v hv8
          refine k _ _ ⟨by omega, by omega, ?_, ?_, ?_, fun i i0 i1 => ?_⟩ (by omega)
          · intro a i hn2
            unfold S392 at hn2
            rw [st_neA (by omega), st_neA (by omega), puA_o (by omega)]
            exact f a i (by unfold S392; omega)
          · rw [st_neA (by decide), st_neA (by decide), puA_o (by decide), e1]
          · rw [st_neA (by decide), st_neA (by decide), puA_o (by decide), e79]
          · by_cases e : i = x
            · subst e
              unfold CM
              rw [← es, ← es1, ← hv8]
              unfold puA
              refine ⟨?_, ?_, ?_, ?_, ?_, ?_, ?_, ?_, ?_⟩ <;> simp [st] <;> rfl
            · unfold CM
              simp only [st_neI e, puA_i e]
              exact hv i i0 (by omega)
        have e8 : tvl T (1 + 8 * x) 8 = if T (1 + 8 * x + 7) = 255 then -1 else T (1 + 8 * x + 7) := rfl
        refine tt_if (fun c => ?_) (fun c => ?_)
        · exact tt_ok ⟨x0, by omega⟩ (tt_bm (tt_bi (go _ (by rw [e8, if_pos c]))))
        · exact tt_ok ⟨x0, by omega⟩ (tt_bm (tt_bi (go _ (by rw [e8, if_neg c]))))
      have e7 : tvl T (1 + 8 * x) 7 = if T (1 + 8 * x + 5) ≤ 1 then 0 else 1 := rfl
      refine tt_if (fun c => ?_) (fun c => ?_)
      · exact fin2 0 (Or.inl rfl) (by rw [e7, if_pos c])
      · exact fin2 1 (Or.inr rfl) (by rw [e7, if_neg c])
    have e5 : tvl T (1 + 8 * x) 5 = if T (1 + 8 * x + 5) % 2 = 1 then 1 else 0 := rfl
    refine tt_ok ⟨by omega, by omega⟩ (tt_ok ⟨by omega, by omega⟩ (tt_bi ?_))
    simp only [eT]
    refine tt_ok ⟨by omega, by omega⟩ (tt_ok ⟨by omega, by omega⟩ (tt_ok ⟨by omega, by omega⟩ (tt_ok ⟨by omega, by omega⟩ (tt_ok ⟨by omega, by omega⟩ (tt_ok ⟨by omega, by omega⟩ (tt_ok h5 ?_))))))
    refine tt_if (fun c => ?_) (fun c => ?_)
    · exact fin 1 (Or.inr rfl) (by rw [e5, if_pos c])
    · exact fin 0 (Or.inl rfl) (by rw [e5, if_neg c])
end ON2
