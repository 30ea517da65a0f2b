/-! what changes: tape, TRIALS, CHAIRS, images; all else stays -/
def SimA (a i : Int) : Prop := a = 338 ∨ (392 ≤ a ∧ a ≤ 400) ∨ a = 403 ∨ a = 406 ∨ (a = 337 ∧ (i = 1 ∨ i = 7 ∨ i = 8 ∨ i = 79 ∨ i = 95))
def SimB (a i : Int) : Prop := a = 2 ∨ a = 3 ∨ (a = 4 ∧ (i = 4 ∨ i = 5)) ∨ a = 21 ∨ (23 ≤ a ∧ a ≤ 62) ∨ a = 63 ∨ a = 64 ∨ a = 202 ∨ (a = 1 ∧ i = 15)
theorem fr_st2 {S : Int → Int → Prop} {A M : Mem} (h : Fr S A M) (a i v : Int) : Fr S (st A a i v) (st M a i v) := by
  intro a' i' hn
  by_cases e : a' = a ∧ i' = i
  · obtain ⟨rfl, rfl⟩ := e; rw [st_at, st_at]
  · rw [st_ne e, st_ne e]; exact h a' i' hn
theorem PtrB.ext {B B1 : Mem} (h8 : B1 1 8 = B 1 8) (h9 : B1 1 9 = B 1 9) (h10 : B1 1 10 = B 1 10) (h68 : ∀ k, B1 68 k = B 68 k) (h : PtrB B) : PtrB B1 := by
  unfold PtrB at h ⊢
  simp only [h8, h9, h10, h68]; exact h
theorem FldR.ext {A A1 B B1 : Mem} (h388 : A1 388 = A 388) (h375 : A1 375 1 = A 375 1) (h389 : ∀ i, A1 389 i = A 389 i) (h78 : A1 337 78 = A 337 78) (h390 : A1 390 = A 390) (h391 : ∀ i, A1 391 i = A 391 i) (hB : ∀ a i, 13 ≤ a → a ≤ 17 → B1 a i = B a i) (h : FldR A B) : FldR A1 B1 := by
  unfold FldR at h ⊢
  simp only [h388, h375, h389, h78, h390, h391, hB 14 _ (by decide) (by decide), hB 15 _ (by decide) (by decide), hB 13 _ (by decide) (by decide), hB 16 _ (by decide) (by decide), hB 17 _ (by decide) (by decide)]
  exact h
section UP
variable {A B Mx Mm A1 B1 : Mem}
theorem simA_n {a i : Int} (h : ¬ SimA a i) (hA : Fr SimA A A1) : A1 a i = A a i := hA a i h
theorem core_ext (h : RR A B Mx Mm) (hA : Fr SimA A A1) (hB : Fr SimB B B1) : PtrB B1 ∧ ThgR A1 B1 (B1 1 8) ∧ FldR A1 B1 ∧ LwsR A1 B1 ∧ PlnR A1 B1 (B1 1 9) := by
  have hp := h.ptr
  have b8 : B1 1 8 = B 1 8 := hB 1 8 (by unfold SimB; omega)
  have b9 : B1 1 9 = B 1 9 := hB 1 9 (by unfold SimB; omega)
  have b10 : B1 1 10 = B 1 10 := hB 1 10 (by unfold SimB; omega)
  have b68 : ∀ k, B1 68 k = B 68 k := fun k => hB 68 k (by unfold SimB; omega)
  have sa : ∀ a, kd a = 17 → SA B B1 a := by
    intro a ha c i h1 h2
    have := kd17 a ha
    exact hB c i (by unfold SimB; omega)
  have pa : ∀ p, 2 ≤ p → p ≤ 4 → PlA A A1 p := by
    intro p p0 p1
    exact ⟨fun k _ _ => hA 360 k (by unfold SimA; omega), hA 362 p (by unfold SimA; omega), hA 366 p (by unfold SimA; omega), fun a k _ _ _ _ => hA a k (by unfold SimA; omega), fun a k _ _ _ _ => hA a k (by unfold SimA; omega)⟩
  have pp : PlP A A1 := ⟨fun k _ _ => hA 360 k (by unfold SimA; omega), hA 337 60 (by unfold SimA; omega), hA 376 1 (by unfold SimA; omega), hA 372 1 (by unfold SimA; omega), fun a k _ _ _ _ => hA a k (by unfold SimA; omega)⟩
  refine ⟨hp.ext b8 b9 b10 b68, ?_, ?_, ?_, ?_⟩
  · rw [b8]
    exact h.thg.ext hp.1.1 (hA 372 1 (by unfold SimA; omega)) (fun t _ _ => ⟨hA 374 _ (by unfold SimA; omega), hA 373 _ (by unfold SimA; omega)⟩) (sa _ hp.1.1)
  · exact h.fld.ext (by funext i; exact hA 388 i (by unfold SimA; omega)) (hA 375 1 (by unfold SimA; omega)) (fun i => hA 389 i (by unfold SimA; omega)) (hA 337 78 (by unfold SimA; omega)) (by funext i; exact hA 390 i (by unfold SimA; omega)) (fun i => hA 391 i (by unfold SimA; omega)) (fun a i _ _ => hB a i (by unfold SimB; omega))
  · intro k k0 k3
    rw [b68]
    exact LwR.ext (hp.law k0 k3) (hA 386 k (by unfold SimA; omega)) (pa _ (by omega) (by omega)) (sa _ (hp.law k0 k3)) (h.lws k k0 k3)
  · rw [b9]
    exact h.plr.ext hp.1.2.1 pp (fun a j _ _ _ _ => hA a j (by unfold SimA; omega)) (sa _ hp.1.2.1) (hB 1 12 (by unfold SimB; omega)) (hB 1 13 (by unfold SimB; omega)) (fun i => hB 201 i (by unfold SimB; omega))
theorem RR.upd (h : RR A B Mx Mm) (hA : Fr SimA A A1) (hB : Fr SimB B B1) (tap : TapR A1 B1) (flt : FltR A1 B1) (trs : TrsR A1 B1) (chr : ChrR A1 B1) (oct : OctR A1 B1) {Mx1 Mm1 : Mem} (fm : Fr ScM A1 Mm1) (fx : Fr (ScX (B 1 10)) B1 Mx1) (lc : Lcache (A 388) Mx1) : R Mx1 Mm1 := by
  obtain ⟨c1, c2, c3, c4, c5⟩ := core_ext h hA hB
  have b10 : B1 1 10 = B 1 10 := hB 1 10 (by unfold SimB; omega)
  have e388 : A1 388 = A 388 := by funext i; exact hA 388 i (by unfold SimA; omega)
  exact ⟨A1, B1, ⟨c1, tap, flt, c2, c3, trs, c4, c5, chr, oct⟩, fm, by rw [b10]; exact fx, by rw [e388]; exact lc⟩
theorem lc_st {g : Int → Int} {M : Mem} (h : Lcache g M) {a i v : Int} (ha : a ≠ 19 ∧ a ≠ 20) : Lcache g (st M a i v) := by
  intro s s0 s1
  rw [st_neA (Ne.symm ha.2), st_neA (Ne.symm ha.1)]
  exact h s s0 s1
theorem TapR.ext (h1 : A1 337 1 = A 337 1) (h2 : ∀ i, A1 338 i = A 338 i) (h3 : B1 2 1 = B 2 1) (h4 : ∀ i, B1 3 i = B 3 i) (h : TapR A B) : TapR A1 B1 := by
  unfold TapR at h ⊢
  simp only [h1, h2, h3, h4]; exact h
theorem FltR.ext (h1 : A1 337 7 = A 337 7) (h2 : A1 337 8 = A 337 8) (h3 : B1 4 4 = B 4 4) (h4 : B1 4 5 = B 4 5) (h : FltR A B) : FltR A1 B1 := by
  unfold FltR at h ⊢
  simp only [h1, h2, h3, h4]; exact h
theorem ChrR.ext (h1 : A1 403 = A 403) (h2 : ∀ i, B1 64 i = B 64 i) (h3 : B1 63 3 = B 63 3) (h : ChrR A B) : ChrR A1 B1 := by
  unfold ChrR at h ⊢
  simp only [h1, h2, h3]; exact h
theorem OctR.ext (h1 : A1 337 95 = A 337 95) (h2 : ∀ i, A1 406 i = A 406 i) (h3 : B1 1 15 = B 1 15) (h4 : ∀ i, B1 202 i = B 202 i) (h : OctR A B) : OctR A1 B1 := by
  unfold OctR at h ⊢
  simp only [h1, h2, h3, h4]; exact h
theorem TrlA.ext {i : Int} (h1 : ∀ a, 392 ≤ a → a ≤ 400 → A1 a i = A a i) (h2 : A1 372 1 = A 372 1) (h3 : ∀ t, A1 374 (5 + t) = A 374 (5 + t)) (h : TrlA A i) : TrlA A1 i := by
  unfold TrlA at h ⊢
  simp only [h1 392 (by decide) (by decide), h1 393 (by decide) (by decide), h1 394 (by decide) (by decide), h1 395 (by decide) (by decide), h1 396 (by decide) (by decide), h1 397 (by decide) (by decide), h1 398 (by decide) (by decide), h1 399 (by decide) (by decide), h1 400 (by decide) (by decide), h2, h3]; exact h
theorem TrlX.ext {i : Int} (h1 : ∀ a, 392 ≤ a → a ≤ 400 → A1 a i = A a i) (h2 : ∀ j, B1 (23 + i) j = B (23 + i) j) (h : TrlX A B i) : TrlX A1 B1 i := by
  unfold TrlX at h ⊢
  simp only [h1 392 (by decide) (by decide), h1 393 (by decide) (by decide), h1 394 (by decide) (by decide), h1 395 (by decide) (by decide), h1 396 (by decide) (by decide), h1 397 (by decide) (by decide), h1 398 (by decide) (by decide), h1 399 (by decide) (by decide), h1 400 (by decide) (by decide), h2]; exact h
theorem TrsR.ext (h1 : ∀ a i, 392 ≤ a → a ≤ 400 → A1 a i = A a i) (h2 : A1 372 1 = A 372 1) (h3 : ∀ t, A1 374 (5 + t) = A 374 (5 + t)) (h4 : A1 337 79 = A 337 79) (h5 : B1 21 1 = B 21 1) (h6 : ∀ i j, 0 ≤ i → i < 40 → B1 (23 + i) j = B (23 + i) j) (h : TrsR A B) : TrsR A1 B1 := by
  obtain ⟨t1, t2, t3⟩ := h
  refine ⟨by rw [h4]; exact t1, by rw [h4, h5]; exact t2, fun i i0 i1 => ?_⟩
  rw [h4] at i1
  obtain ⟨u1, u2⟩ := t3 i i0 i1
  exact ⟨u1.ext (fun a a0 a1 => h1 a i a0 a1) h2 h3, u2.ext (fun a a0 a1 => h1 a i a0 a1) (fun j => h6 i j i0 (by omega))⟩
theorem J_undo (h : R Mx Mm) : Jt (f_X11_undo Mx) (f_X12_undo Mm) := by
  obtain ⟨A, B, h⟩ := h
  obtain ⟨n1, n2, n3, n4⟩ := h.n79
  unfold f_X11_undo f_X12_undo
  rw [n1, n2]
  by_cases w : A 337 79 = 0
  · rw [if_pos w, if_pos w]; exact h.J rfl rfl
  · rw [if_neg w, if_neg w, ok_t ⟨by omega, by omega⟩, ok_t ⟨by omega, by omega⟩, bm_e, bm_e, st_at, st_at]
    refine ⟨_, _, _, rfl, rfl, ?_⟩
    refine h.upd (A1 := st A 337 79 (A 337 79 - 1)) (B1 := st B 21 1 (A 337 79 - 1)) (Fr.st (Fr.rf _ _) (by unfold SimA; omega)) (Fr.st (Fr.rf _ _) (by unfold SimB; omega)) (h.tap.ext ?_ ?_ ?_ ?_) (h.flt.ext ?_ ?_ ?_ ?_) ?_ (h.chr.ext ?_ ?_ ?_) (h.oct.ext ?_ ?_ ?_ ?_) (fr_st2 h.fm _ _ _) (fr_st2 h.fx _ _ _) (lc_st h.lc (by decide))
    rotate_left 8
    · obtain ⟨t1, t2, t3⟩ := h.trs
      refine ⟨?_, ?_, fun i i0 i1 => ?_⟩
      · rw [st_at]; omega
      · rw [st_at, st_at]
      · rw [st_at] at i1
        obtain ⟨u1, u2⟩ := t3 i i0 (by omega)
        exact ⟨u1.ext (fun a _ _ => st_neA (by omega)) (st_neA (by decide)) (fun t => st_neA (by decide)), u2.ext (fun a _ _ => st_neA (by omega)) (fun j => st_neA (by omega))⟩
    all_goals first | exact funext fun _ => st_neA (by decide) | exact st_neA (by decide) | exact st_neI (by decide) | exact fun _ => st_neA (by decide)
theorem J_end (h : R Mx Mm) (a1 : Int) : Jt (f_X11_end Mx a1) (f_X12_end Mm a1) := by
  obtain ⟨A, B, h⟩ := h
  obtain ⟨t1, t2, t3⟩ := h.tap
  have m1 : Mm 337 1 = B 2 1 := (h.rm (by unfold ScM; omega)).trans t1
  have x1 : Mx 2 1 = B 2 1 := h.rx (by omega) (by omega)
  unfold f_X11_end f_X12_end
  rw [m1, x1]
  by_cases w : a1 < 0
  · rw [if_pos w, if_pos w]; exact h.J rfl rfl
  · rw [if_neg w, if_neg w]
    by_cases w2 : a1 ≤ B 2 1
    · rw [if_pos w2, if_pos w2, bm_e, bm_e]
      refine ⟨_, _, _, rfl, rfl, ?_⟩
      refine h.upd (A1 := st A 337 1 a1) (B1 := st B 2 1 a1) (Fr.st (Fr.rf _ _) (by unfold SimA; omega)) (Fr.st (Fr.rf _ _) (by unfold SimB; omega)) ?_ (h.flt.ext ?_ ?_ ?_ ?_) (h.trs.ext ?_ ?_ ?_ ?_ ?_ ?_) (h.chr.ext ?_ ?_ ?_) (h.oct.ext ?_ ?_ ?_ ?_) (fr_st2 h.fm _ _ _) (fr_st2 h.fx _ _ _) (lc_st h.lc (by decide))
      · unfold TapR
        rw [st_at, st_at]
        refine ⟨rfl, ⟨by omega, by omega⟩, fun i i0 i1 => ?_⟩
        rw [st_neA (by decide), st_neA (by decide)]
        exact t3 i i0 (by omega)
      all_goals first | exact funext fun _ => st_neA (by decide) | exact st_neA (by decide) | exact st_neI (by decide) | exact fun _ => st_neA (by decide) | exact fun _ _ _ _ => st_neA (by omega)
    · rw [if_neg w2, if_neg w2]; exact h.J rfl rfl
end UP
