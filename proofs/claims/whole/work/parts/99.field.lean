/-! field(), alike -/
def ScF1 (a i : Int) : Prop := ScZ 1 a i ∨ (a = 337 ∧ (i = 1 ∨ i = 7 ∨ i = 8 ∨ i = 60 ∨ i = 78 ∨ i = 79)) ∨ ((a = 372 ∨ a = 375 ∨ a = 376) ∧ i = 1) ∨ ((a = 373 ∨ a = 374) ∧ 5 ≤ i ∧ i < 10) ∨ a = 388 ∨ a = 389 ∨ a = 390 ∨ a = 391
def ScF2 (sp pl a i : Int) : Prop := (sp ≤ a ∧ a ≤ sp + 43) ∨ (a = 2 ∧ i = 1) ∨ (a = 4 ∧ (i = 4 ∨ i = 5)) ∨ (a = 1 ∧ (i = 8 ∨ i = 10)) ∨ (a = 13 ∧ (i = 8 ∨ i = 9 ∨ i = 10 ∨ i = 11)) ∨ (14 ≤ a ∧ a ≤ 17) ∨ (a = 21 ∧ i = 1) ∨ (a = pl ∧ i = 6)
theorem m_things {M : Mem} {w : Int} (hw : M 372 0 = w ∧ 0 ≤ w ∧ w ≤ 5) : ∃ M1, wl1 (b_X12_field_36) FU M 0 = cl (f_X12_tellsSight (st (st (st M1 337 79 0) 337 60 0) 376 1 0)) (fun _ M13 => some (M13 337 36, M13)) ∧ (∀ t, 0 ≤ t → t < w → M1 373 (5 + t) = M 373 t ∧ M1 374 (5 + t) = M 374 t) ∧ ∀ a i, ¬ ((a = 373 ∨ a = 374) ∧ 5 ≤ i ∧ i < 10) → M1 a i = M a i := by
  have key : ∀ (n F : Nat) (M' : Mem) (x : Int), w - x = n → 0 ≤ x → (∀ t, 0 ≤ t → t < x → M' 373 (5 + t) = M 373 t ∧ M' 374 (5 + t) = M 374 t) → (∀ a i, ¬ ((a = 373 ∨ a = 374) ∧ 5 ≤ i ∧ i < 10) → M' a i = M a i) → n < F → ∃ M1, wl1 (b_X12_field_36) F M' x = cl (f_X12_tellsSight (st (st (st M1 337 79 0) 337 60 0) 376 1 0)) (fun _ M13 => some (M13 337 36, M13)) ∧ (∀ t, 0 ≤ t → t < w → M1 373 (5 + t) = M 373 t ∧ M1 374 (5 + t) = M 374 t) ∧ ∀ a i, ¬ ((a = 373 ∨ a = 374) ∧ 5 ≤ i ∧ i < 10) → M1 a i = M a i := by
    intro n
    induction n with
    | zero =>
      intro F M' x hx x0 h1 h2 hF
      obtain ⟨G, rfl⟩ : ∃ G, F = G + 1 := ⟨F - 1, by omega⟩
      have e : x = w := by omega
      subst e
      refine ⟨M', ?_, h1, h2⟩
      rw [wl1_s]
      unfold b_X12_field_36
      rw [h2 372 0 (by omega), hw.1, if_pos (Int.le_refl _), bm_e, bm_e, bm_e]
    | succ n ih =>
      intro F M' x hx x0 h1 h2 hF
      obtain ⟨G, rfl⟩ : ∃ G, F = G + 1 := ⟨F - 1, by omega⟩
      have nw : ¬ w ≤ x := by omega
      rw [wl1_s]
      show ∃ M1, b_X12_field_36 (wl1 (b_X12_field_36) G) M' x = _ ∧ _
      have g : ∀ c, (c = 373 ∨ c = 374) → M' c x = M c x := fun c hc => h2 c x (by omega)
      have ih' := ih G (st (st M' 373 (5 + x) (M' 373 x)) 374 (5 + x) (M' 374 x)) (x + 1) (by omega) (by omega) (fun t t0 t1 => by
        by_cases e : t = x
        · rw [e, st_neA (by decide), st_at, st_at, g 373 (Or.inl rfl), g 374 (Or.inr rfl)]; exact ⟨rfl, rfl⟩
        · rw [st_neA (by decide), st_neI (by omega), st_neI (by omega), st_neA (by decide)]; exact h1 t t0 (by omega)) (fun a i hn => by rw [st_ne (by omega), st_ne (by omega)]; exact h2 a i hn) (by omega)
      generalize wl1 (b_X12_field_36) G = w' at ih' ⊢
      unfold b_X12_field_36
      rw [h2 372 0 (by omega), hw.1, if_neg nw, ok_t ⟨by omega, by omega⟩, ok_t ⟨by omega, by omega⟩, ok_t ⟨by omega, by omega⟩, bm_e, st_neA (show (374 : Int) ≠ 373 by decide), bm_e]
      exact ih'
  exact key w.toNat FU M 0 (by omega) (by decide) (fun t _ _ => by omega) (fun _ _ _ => rfl) (by have : FU = 1000000000 := rfl; omega)
theorem PtrB.swapF {B B1 : Mem} (h : PtrB B) (h8 : B1 1 8 = B 1 10) (h9 : B1 1 9 = B 1 9) (h10 : B1 1 10 = B 1 8) (h68 : ∀ j, B1 68 j = B 68 j) : PtrB B1 := by
  obtain ⟨⟨a1, a2, a3, a4, a5, a6⟩, ⟨b1, b2, b3⟩, c, d⟩ := h
  unfold PtrB
  rw [h8, h9, h10, h68, h68, h68]
  refine ⟨⟨a3, a2, a1, a4, a5, a6⟩, ⟨Ne.symm b3, Ne.symm b2, Ne.symm b1⟩, c, fun j j0 j1 => ?_⟩
  rw [h68]
  obtain ⟨d1, d2, d3⟩ := d j j0 j1
  exact ⟨d3, d2, d1⟩
theorem scF_W {sp old pl a i : Int} (hn : ¬ ScX old a i) (z : ¬ ScF2 sp pl a i) : ¬ ScW sp a i := by
  intro y
  rcases y with y | y | y | y
  · exact z (Or.inl y)
  · exact hn (by unfold ScX; omega)
  · exact hn (by unfold ScX; omega)
  · by_cases e : i = 4 ∨ i = 5
    · exact z (Or.inr (Or.inr (Or.inl ⟨y.1, e⟩)))
    · exact hn (by unfold ScX; omega)
theorem scF_X {sp old pl a i : Int} (hn : ¬ ScX old a i) (z : ¬ ScF2 sp pl a i) : ¬ ScX sp a i := by
  intro y
  rcases y with y | y
  · exact z (Or.inl y)
  · exact hn (Or.inr y)
theorem scF_F {sp old pl a i : Int} (hn : ¬ ScX old a i) (z : ¬ ScF2 sp pl a i) : ¬ ScFx a i := by
  have n1 : ¬ (a = 11 ∨ a = 12 ∨ a = 18 ∨ a = 20 ∨ (a = 13 ∧ i = 7)) := fun y => hn (by
    unfold ScX
    clear hn z
    rcases y with y | y | y | y | y
    · exact Or.inr (Or.inr (Or.inl y))
    · exact Or.inr (Or.inr (Or.inr (Or.inl y)))
    · exact Or.inr (Or.inr (Or.inr (Or.inr (Or.inl ⟨by omega, by omega⟩))))
    · exact Or.inr (Or.inr (Or.inr (Or.inr (Or.inl ⟨by omega, by omega⟩))))
    · exact Or.inr (Or.inr (Or.inr (Or.inr (Or.inr (Or.inr (Or.inr (Or.inr (Or.inr (Or.inr y))))))))))
  have n2 : ¬ ((14 ≤ a ∧ a ≤ 17) ∨ (a = 13 ∧ (i = 8 ∨ i = 9 ∨ i = 10 ∨ i = 11))) := fun y => z (by
    unfold ScF2
    clear hn z
    rcases y with y | y
    · exact Or.inr (Or.inr (Or.inr (Or.inr (Or.inr (Or.inl y)))))
    · exact Or.inr (Or.inr (Or.inr (Or.inr (Or.inl y)))))
  intro y
  unfold ScFx ScSx ScPx at y
  clear hn z
  omega
theorem kd_rg {a : Int} (h : kd a = 17) : 69 ≤ a ∧ a ≤ 293 := by
  have := kd17 a h
  omega
theorem kd_apt {a b : Int} (h : kd a = 17) (h' : kd b = 17) (n : a ≠ b) : a + 43 < b ∨ b + 43 < a := by
  have := kd17 a h
  have := kd17 b h'
  omega
section FD
variable {A B Mx Mm : Mem}
set_option maxHeartbeats 8000000 in
theorem J_field (h : R Mx Mm) : Jt (f_X11_field Mx) (f_X12_field Mm) := by
  obtain ⟨A, B, h⟩ := h
  have hsp := h.ptr.1.2.2.1
  have ho := h.ptr.1.1
  have hp9 := h.ptr.1.2.1
  have ks := kd_rg hsp
  have k9 := kd_rg hp9
  have apt := kd_apt hp9 hsp h.ptr.2.1.2.2
  unfold f_X11_field f_X12_field
  rw [h.rx (a := 1) (i := 10) (by omega) (by omega), h.rx (a := 1) (i := 8) (by omega) (by omega), ok_t hsp, ok_t ho]
  obtain ⟨r, Mx1, Mm1, e1, e2, fx, fm, g1, g6, g4, g5, hr⟩ := reads_alike h (fl := 1) (pl := 1) (Or.inr rfl) ⟨fun _ => rfl, fun _ => rfl⟩
  rw [show (1 : Int) - 1 = 0 from rfl] at e1
  rw [e1, e2, cl_some]
  unfold j_X12_reads_36
  rw [bm_e, bm_e, st_neI (show (6 : Int) ≠ 7 by decide), bm_e, st_neI (show (5 : Int) ≠ 8 by decide), st_neI (show (5 : Int) ≠ 7 by decide)]
  rcases hr with ⟨rfl, hne0⟩ | ⟨rfl, h0, T1, C1, k1, A0, B0, Mx0, hJ, rfl⟩
  · rw [if_pos rfl, if_neg hne0, cl_some, if_pos rfl]
    exact ⟨-1, _, _, rfl, rfl, h.refu fx fm g1 g4 g5⟩
  · have hM : ∀ a i, a ≠ 337 ∨ i = 32 → st (st Mm1 337 7 (Mm1 337 5)) 337 8 (Mm1 337 6) a i = Mm1 a i := fun a i z => by rw [st_ne (by omega), st_ne (by omega)]
    obtain ⟨M14, e14, s14, f14⟩ := js_stands (p := 1) (Or.inr rfl) hJ (by decide) hM
    rw [if_pos h0, e14, cl_some, cl_some, if_neg (by decide), bm_e, bm_e, if_neg (show ¬ (1 : Int) = 0 by decide)]
    have hJs := hJ
    obtain ⟨j1, j2, ⟨j3, j3b⟩, ⟨j4, j5, j6⟩, j7, ⟨j8, j9, j10⟩, -, j12, -, -⟩ := hJs
    obtain ⟨w1, w2, w3, w4, w5, w6, w7⟩ := j12 rfl
    have hd1 := j1.1.hd
    have m14 : ∀ a i, ¬ ScZ 1 a i → ¬ (a = 337 ∧ (i = 7 ∨ i = 8)) → M14 a i = Mm1 a i := fun a i z1 z2 => by rw [f14 a i z1, st_ne (by omega), st_ne (by omega)]
    -- the class: what points is changed
    have x1v : ∀ i, st (st Mx0 (B 1 10) 6 1) 2 1 0 1 i = B 1 i := fun i => by
      rw [st_neA (by decide), fx 1 i (by unfold ScW; omega)]; exact h.rx (a := 1) (by omega) (by omega)
    obtain ⟨M15, hM15⟩ : ∃ M15, M15 = st (st (st (st Mx0 (B 1 10) 6 1) 2 1 0) 1 8 (B 1 10)) 1 10 (B 1 8) := ⟨_, rfl⟩
    rw [x1v, x1v, bi_e, bm_e, bm_e, ← hM15]
    have p8 : M15 1 8 = B 1 10 := by rw [hM15, st_neI (by decide), st_at]
    have v15 : ∀ a i, a ≠ 1 → ¬ (a = 2 ∧ i = 1) → M15 a i = st Mx0 (B 1 10) 6 1 a i := fun a i z1 z2 => by rw [hM15, st_neA z1, st_neA z1, st_ne z2]
    have v15s : ∀ a i, B 1 10 ≤ a → a ≤ B 1 10 + 43 → ¬ (a = B 1 10 ∧ i = 6) → M15 a i = Mx0 a i := fun a i z1 z2 z3 => by rw [v15 a i (by omega) (by omega), st_ne z3]
    rw [p8, ok_t hsp]
    -- the reference: THINGS
    have e372 : M14 372 0 = Mm1 372 0 := m14 _ _ (by unfold ScZ; omega) (by omega)
    have e375 : M14 375 0 = Mm1 375 0 := m14 _ _ (by unfold ScZ; omega) (by omega)
    obtain ⟨M17, e17, t17, o17⟩ := m_things (M := st (st M14 372 1 (M14 372 0)) 375 1 (st M14 372 1 (M14 372 0) 375 0)) (w := Mm1 372 0) ⟨by rw [st_neA (by decide), st_neI (by decide)]; exact e372, w1.1, w1.2⟩
    rw [e17]
    obtain ⟨M20, hM20⟩ : ∃ M20, M20 = st (st (st M17 337 79 0) 337 60 0) 376 1 0 := ⟨_, rfl⟩
    rw [← hM20]
    have v20 : ∀ a i, ¬ ((a = 373 ∨ a = 374) ∧ 5 ≤ i ∧ i < 10) → ¬ (a = 337 ∧ (i = 60 ∨ i = 79)) → ¬ ((a = 372 ∨ a = 375 ∨ a = 376) ∧ i = 1) → M20 a i = M14 a i := fun a i z1 z2 z3 => by
      rw [hM20, st_ne (by omega), st_ne (by omega), st_ne (by omega), o17 a i z1, st_ne (by omega), st_ne (by omega)]
    have c372 : M20 372 1 = Mm1 372 0 := by rw [hM20, st_neA (by decide), st_neA (by decide), st_neA (by decide), o17 _ _ (by omega), st_neA (by decide), st_at]; exact e372
    have c375 : M20 375 1 = Mm1 375 0 := by rw [hM20, st_neA (by decide), st_neA (by decide), st_neA (by decide), o17 _ _ (by omega), st_at, st_neA (by decide)]; exact e375
    have cth : ∀ t, 0 ≤ t → t < Mm1 372 0 → M20 373 (5 + t) = Mm1 373 t ∧ M20 374 (5 + t) = Mm1 374 t := fun t t0 t1 => by
      obtain ⟨z1, z2⟩ := t17 t t0 t1
      rw [hM20, st_neA (by decide), st_neA (by decide), st_neA (by decide), st_neA (by decide), st_neA (by decide), st_neA (by decide), z1, z2, st_neA (by decide), st_neA (by decide), st_neA (by decide), st_neA (by decide), m14 _ _ (by unfold ScZ; omega) (by omega), m14 _ _ (by unfold ScZ; omega) (by omega)]
      exact ⟨rfl, rfl⟩
    -- what was read
    have S1 : StP 1 (st (st Mm1 337 7 (Mm1 337 5)) 337 8 (Mm1 337 6)) M20 := by
      have z4 := j2.2.1
      refine s14.eq (by decide) (by rw [hM 362 0 (by omega)]; omega) (by rw [hM 366 0 (by omega)]; omega) (by rw [hM 337 32 (by omega), z4]; omega) (fun a i z => ?_) (fun a i _ => rfl)
      exact v20 a i (by unfold ScZ at z; omega) (by unfold ScZ at z; omega) (by unfold ScZ at z; omega)
    obtain ⟨rd1, rd2, rd3, -⟩ := read_at (p := 1) (A1 := M20) (B1 := M15) hJ (by decide) hM S1 v15s
    rw [show (6 : Int) - 6 * 1 = 0 from rfl] at rd2
    have oX : OldX (B 1 10) k1 (Mm1 372 0) Mx0 M15 := ⟨fun i c i0 i1 => v15s _ _ (by omega) (by omega) (by omega), fun j _ _ => v15s _ _ (by omega) (by omega) (by omega)⟩
    obtain ⟨X1, M1, X0', M0', eX, eM, pr, p20, p10, p11, fX, fM⟩ := j_build (A := M20) (Mx := M15) (Mm := M20) (a := B 1 10) (d := Mm1 375 0) (k := k1) hsp ⟨rd3, j6⟩ (w7.mv oX) rd1 rd2 ⟨fun _ _ _ => rfl, rfl, rfl, fun _ _ _ _ _ _ => rfl, fun _ _ _ _ _ _ => rfl⟩ (by rw [dscN.old oX k1 (by omega)]; exact w4.symm) c375
    rw [eX, eM, cl_some, cl_some, bm_e]
    have x19 : X1 1 9 = B 1 9 := by rw [fX 1 9 (by unfold ScFx ScSx ScPx; omega), hM15, st_neI (by decide), st_neI (by decide)]; exact x1v 9
    have x18 : X1 1 8 = B 1 10 := (fX 1 8 (by unfold ScFx ScSx ScPx; omega)).trans p8
    rw [st_neA (show (1 : Int) ≠ 21 by decide), x19, ok_t hp9, bm_e, st_neA (show (1 : Int) ≠ B 1 9 by omega), st_neA (show (1 : Int) ≠ 21 by decide), x18, ok_t hsp]
    obtain ⟨Mxf, hMxf⟩ : ∃ Mxf, Mxf = st (st X1 21 1 0) (B 1 9) 6 0 := ⟨_, rfl⟩
    rw [← hMxf]
    have vX : ∀ a i, ¬ (a = 21 ∧ i = 1) → ¬ (a = B 1 9 ∧ i = 6) → Mxf a i = X1 a i := fun a i z1 z2 => by rw [hMxf, st_ne z2, st_ne z1]
    obtain ⟨pr1, pr2, ⟨pr3, pr3a, pr3b⟩, pr4, pr5, pr6, pr7, -, -⟩ := pr
    have eA : ∀ a i, ScF1 a i → mxm ScF1 M1 A a i = M1 a i := fun a i z => mxm_in z
    have nA : ∀ a i, ¬ ScF1 a i → mxm ScF1 M1 A a i = A a i := fun a i z => mxm_out z
    have eB : ∀ a i, ScF2 (B 1 10) (B 1 9) a i → mxm (ScF2 (B 1 10) (B 1 9)) Mxf B a i = Mxf a i := fun a i z => mxm_in z
    have nB : ∀ a i, ¬ ScF2 (B 1 10) (B 1 9) a i → mxm (ScF2 (B 1 10) (B 1 9)) Mxf B a i = B a i := fun a i z => mxm_out z
    generalize hA1 : mxm ScF1 M1 A = A1 at eA nA
    generalize hB1 : mxm (ScF2 (B 1 10) (B 1 9)) Mxf B = B1 at eB nB
    have fMs : ∀ a i, ¬ (a = 337 ∧ ((67 ≤ i ∧ i ≤ 73) ∨ i = 78)) → a ≠ 387 → a ≠ 388 → a ≠ 389 → a ≠ 390 → a ≠ 391 → M1 a i = M20 a i := fun a i z1 z2 z3 z4 z5 z6 => fM a i (by unfold ScFm ScSm ScPm; omega)
    have fXs : ∀ a i, a ≠ 11 → a ≠ 12 → ¬ (14 ≤ a ∧ a ≤ 18) → a ≠ 20 → a ≠ 13 → X1 a i = M15 a i := fun a i z1 z2 z3 z4 z5 => fX a i (by unfold ScFx ScSx ScPx; omega)
    have sSA : ∀ a, kd a = 17 → a ≠ B 1 10 → a ≠ B 1 9 → SA B B1 a := by
      intro a ha hn1 hn2 c i z1 z2
      have q1 := kd_rg ha
      have q2 := kd_apt ha hsp hn1
      have q3 := kd_apt ha hp9 hn2
      clear apt
      exact nB c i (by unfold ScF2; omega)
    have b8 : B1 1 8 = B 1 10 := by rw [eB _ _ (by unfold ScF2; omega), vX _ _ (by omega) (by omega)]; exact x18
    have b9 : B1 1 9 = B 1 9 := nB _ _ (by unfold ScF2; omega)
    have b10 : B1 1 10 = B 1 8 := by rw [eB _ _ (by unfold ScF2; omega), vX _ _ (by omega) (by omega), fXs _ _ (by decide) (by decide) (by decide) (by decide) (by decide), hM15, st_at]
    have b68 : ∀ j, B1 68 j = B 68 j := fun j => nB _ _ (by unfold ScF2; omega)
    have bsp : ∀ a i, B 1 10 ≤ a → a ≤ B 1 10 + 43 → ¬ (a = B 1 10 ∧ i = 6) → B1 a i = Mx0 a i := fun a i z1 z2 z3 => by
      rw [eB _ _ (Or.inl ⟨z1, z2⟩), vX _ _ (by omega) (by omega), fXs _ _ (by omega) (by omega) (by omega) (by omega) (by omega)]
      exact v15s a i z1 z2 z3
    have ret : Mxf (B 1 10) 1 = k1 := by
      rw [vX _ _ (by omega) (by omega), fXs _ _ (by omega) (by omega) (by omega) (by omega) (by omega)]; exact rd3
    have retM : M1 337 36 = k1 := by
      rw [fMs _ _ (by omega) (by decide) (by decide) (by decide) (by decide) (by decide), v20 _ _ (by omega) (by omega) (by omega), m14 _ _ (by unfold ScZ; omega) (by omega)]; exact j5
    have a388 : ∀ t, isQ t → A1 388 t = sgv M20 (Mm1 375 0) t := fun t qt => by rw [eA _ _ (by unfold ScF1; omega)]; exact (pr1 t qt).2
    have a78 : A1 337 78 = M1 337 78 := eA _ _ (by unfold ScF1; omega)
    have a375 : A1 375 1 = Mm1 375 0 := by rw [eA _ _ (by unfold ScF1; omega), fMs _ _ (by omega) (by decide) (by decide) (by decide) (by decide) (by decide)]; exact c375
    have a372 : A1 372 1 = Mm1 372 0 := by rw [eA _ _ (by unfold ScF1; omega), fMs _ _ (by omega) (by decide) (by decide) (by decide) (by decide) (by decide)]; exact c372
    have a79 : A1 337 79 = 0 := by rw [eA _ _ (by unfold ScF1; omega), fMs _ _ (by omega) (by decide) (by decide) (by decide) (by decide) (by decide), hM20, st_neA (by decide), st_neI (by decide), st_at]
    have a60 : A1 337 60 = 0 := by rw [eA _ _ (by unfold ScF1; omega), fMs _ _ (by omega) (by decide) (by decide) (by decide) (by decide) (by decide), hM20, st_neA (by decide), st_at]
    have a376 : A1 376 1 = 0 := by rw [eA _ _ (by unfold ScF1; omega), fMs _ _ (by omega) (by decide) (by decide) (by decide) (by decide) (by decide), hM20, st_at]
    have bX : ∀ a i, (a = 13 ∧ (i = 8 ∨ i = 9 ∨ i = 10 ∨ i = 11)) ∨ (14 ≤ a ∧ a ≤ 17) → B1 a i = X1 a i := fun a i z => by
      rw [eB _ _ (by unfold ScF2; omega), vX _ _ (by omega) (by omega)]
    have PA : ∀ p, 2 ≤ p → p ≤ 4 → PlA A A1 p := fun p z0 z1 => ⟨fun j _ _ => nA _ _ (by unfold ScF1 ScZ; omega), nA _ _ (by unfold ScF1 ScZ; omega), nA _ _ (by unfold ScF1 ScZ; omega), fun a j _ _ _ _ => nA _ _ (by unfold ScF1 ScZ; omega), fun a j _ _ _ _ => nA _ _ (by unfold ScF1 ScZ; omega)⟩
    rw [ret, retM]
    refine ⟨k1, Mxf, M1, rfl, rfl, A1, B1, ⟨h.ptr.swapF b8 b9 b10 b68, ⟨?_, ?_, ?_⟩, ⟨?_, ?_⟩, ?_, ?_, ?_, ?_, ?_, ?_, ?_⟩, ?_, ?_, ?_⟩
    · rw [eA _ _ (by unfold ScF1; omega), fMs _ _ (by omega) (by decide) (by decide) (by decide) (by decide) (by decide), v20 _ _ (by omega) (by omega) (by omega), m14 _ _ (by unfold ScZ; omega) (by omega), g1, eB _ _ (by unfold ScF2; omega), vX _ _ (by omega) (by omega), fXs _ _ (by decide) (by decide) (by decide) (by decide) (by decide), hM15, st_neA (by decide), st_neA (by decide), st_at]
    · rw [eB _ _ (by unfold ScF2; omega), vX _ _ (by omega) (by omega), fXs _ _ (by decide) (by decide) (by decide) (by decide) (by decide), hM15, st_neA (by decide), st_neA (by decide), st_at]; decide
    · intro i i0 i1
      rw [eB _ _ (by unfold ScF2; omega), vX _ _ (by omega) (by omega), fXs _ _ (by decide) (by decide) (by decide) (by decide) (by decide), hM15, st_neA (by decide), st_neA (by decide), st_at] at i1
      omega
    · rw [eA _ _ (by unfold ScF1; omega), fMs _ _ (by omega) (by decide) (by decide) (by decide) (by decide) (by decide), v20 _ _ (by omega) (by omega) (by omega), f14 _ _ (by unfold ScZ; omega), st_neI (by decide), st_at, eB _ _ (by unfold ScF2; omega), vX _ _ (by omega) (by omega), fXs _ _ (by decide) (by decide) (by decide) (by decide) (by decide), v15 _ _ (by decide) (by omega)]; exact g4.symm
    · rw [eA _ _ (by unfold ScF1; omega), fMs _ _ (by omega) (by decide) (by decide) (by decide) (by decide) (by decide), v20 _ _ (by omega) (by omega) (by omega), f14 _ _ (by unfold ScZ; omega), st_at, eB _ _ (by unfold ScF2; omega), vX _ _ (by omega) (by omega), fXs _ _ (by decide) (by decide) (by decide) (by decide) (by decide), v15 _ _ (by decide) (by omega)]; exact g5.symm
    · rw [b8]
      refine ⟨by rw [a372]; exact w1, by rw [a372, bsp _ _ (by omega) (by omega) (by omega)]; exact w2, fun t t0 t1 => ?_⟩
      rw [a372] at t1
      obtain ⟨z1, z2, z3, z4, z5⟩ := w3 t t0 t1
      obtain ⟨y1, y2⟩ := cth t t0 t1
      have a374 : A1 374 (5 + t) = Mm1 374 t := by rw [eA _ _ (by unfold ScF1; omega), fMs _ _ (by omega) (by decide) (by decide) (by decide) (by decide) (by decide)]; exact y2
      have a373 : A1 373 (5 + t) = Mm1 373 t := by rw [eA _ _ (by unfold ScF1; omega), fMs _ _ (by omega) (by decide) (by decide) (by decide) (by decide) (by decide)]; exact y1
      rw [a374, a373, bsp (B 1 10 + 2) t (by omega) (by omega) (by omega), bsp _ 2 (by omega) (by omega) (by omega), bsp _ 1 (by omega) (by omega) (by omega)]
      exact ⟨z1, ⟨z2.1, by omega⟩, z3, z4, fun u u0 u1 => by rw [eA _ _ (by unfold ScF1; omega), fMs _ _ (by omega) (by decide) (by decide) (by decide) (by decide) (by decide), (cth u u0 (by omega)).1]; exact z5 u u0 u1⟩
    · refine ⟨fun t t0 t1 => by rw [a388 t ⟨t0, t1⟩]; exact sgv_rng _ _ _, by rw [a375]; exact w5, ?_, fun t t0 t1 => ?_, ?_, ?_, ?_, ?_, fun j jj0 jj1 => ?_, ?_⟩
      · rw [a375, a388 _ ⟨w5.1, w5.2⟩]
        unfold sgv
        rw [if_pos rfl]
      · have qt : isQ t := ⟨t0, t1⟩
        have a389 : A1 389 t = M1 389 t := eA _ _ (by unfold ScF1; omega)
        rw [a389, a78, a388 t qt, bX 14 t (by omega), bX 15 t (by omega)]
        obtain ⟨y1, y2⟩ := pr4 t qt
        refine ⟨(pr1 t qt).1, fun z => ?_, fun z => ⟨pr2 t qt, ?_, y1.2⟩⟩
        · rw [pr2 t qt]
          by_cases c : M1 389 t = -1
          · exact c
          · exact absurd z (y2 c)
        · have := y1.1
          by_cases c : M1 389 t = -1
          · exact absurd c (pr5 t t0 (by omega) z)
          · omega
      · rw [a375, bX 13 11 (by omega)]; exact p11
      · rw [bX 13 10 (by omega), p10]
        exact (cnt_cg (n := 96) (fun i hi => by rw [a388 i ⟨by omega, by omega⟩])).symm
      · rw [bX 13 8 (by omega), a78]; exact pr3
      · rw [a78]; exact ⟨pr3a, pr3b⟩
      · rw [a78] at jj1
        rw [bX 16 j (by omega), bX 17 j (by omega), eA 390 j (by unfold ScF1; omega), eA 391 j (by unfold ScF1; omega)]
        exact pr6 j jj0 jj1
      · have a390 : A1 390 = M1 390 := funext fun i => eA _ _ (by unfold ScF1; omega)
        rw [bX 13 9 (by omega), a78, a390]; exact pr7
    · refine ⟨by rw [a79]; decide, ?_, fun i i0 i1 => by rw [a79] at i1; omega⟩
      rw [a79, eB _ _ (by unfold ScF2; omega), hMxf, st_neA (by omega), st_at]
    · intro j j0 j3
      rw [b68]
      exact LwR.ext (h.ptr.law j0 j3) (nA _ _ (by unfold ScF1 ScZ; omega)) (PA _ (by omega) (by omega)) (sSA _ (h.ptr.law j0 j3) (h.ptr.2.2.2 j j0 j3).2.2 (h.ptr.2.2.2 j j0 j3).2.1) (h.lws j j0 j3)
    · rw [b9]
      refine ⟨⟨Or.inl a60, ?_, by rw [a376]; decide, fun z => by rw [a60] at z; exact absurd z (by decide)⟩, fun a j q0 q1 q2 q3 => by rw [nA a j (by unfold ScF1 ScZ; omega)]; exact h.stb a j q0 q1 q2 q3⟩
      rw [a60, eB _ _ (by unfold ScF2; omega), hMxf, st_at]
    · have k6 := kd17 _ hsp
      have k6' := kd17 _ hp9
      clear ks k9 apt
      exact h.chr.ext (funext fun i => nA _ _ (by unfold ScF1 ScZ; omega)) (fun i => nB _ _ (by unfold ScF2; omega)) (nB _ _ (by unfold ScF2; omega))
    · have k6 := kd17 _ hsp
      have k6' := kd17 _ hp9
      clear ks k9 apt
      exact h.oct.ext (nA _ _ (by unfold ScF1 ScZ; omega)) (fun i => nA _ _ (by unfold ScF1 ScZ; omega)) (nB _ _ (by unfold ScF2; omega)) (fun i => nB _ _ (by unfold ScF2; omega))
    · intro a i hn
      by_cases z : ScF1 a i
      · exact (eA a i z).symm
      · rw [nA a i z]
        have z' := z
        have hn' := hn
        unfold ScF1 at z'
        unfold ScM at hn'
        rw [fMs a i (by omega) (by omega) (by omega) (by omega) (by omega) (by omega), v20 a i (by omega) (by omega) (by omega), m14 a i (fun y => z (Or.inl y)) (by omega), fm a i (by
          unfold ScMW
          rintro (y | y)
          · exact hn y
          · omega)]
        exact h.fm a i hn
    · intro a i hn
      rw [b10] at hn
      by_cases z : ScF2 (B 1 10) (B 1 9) a i
      · exact (eB a i z).symm
      · rw [nB a i z, vX a i (fun y => z (by unfold ScF2; omega)) (fun y => z (by unfold ScF2; omega)), fX a i (scF_F hn z)]
        have e15 : M15 a i = st Mx0 (B 1 10) 6 1 a i := by
          rw [hM15, st_ne (fun y => z (by unfold ScF2; omega)), st_ne (fun y => z (by unfold ScF2; omega)), st_ne (fun y => z (by unfold ScF2; omega))]
        rw [e15, fx a i (scF_W hn z)]
        exact h.fx a i (scF_X hn z)
    · intro s s0 s1
      left
      rw [vX _ _ (by omega) (by omega)]
      exact p20 s ⟨s0, s1⟩
end FD
