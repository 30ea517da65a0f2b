/-! what a FIELD's text comes to, in both alike -/
theorem m_lab0 (M : Mem) : ∃ M1, wl1 (b_X12_tellsPieces_7) FU M 0 = wl1 (b_X12_tellsPieces_28) FU M1 0 ∧ (∀ t, isQ t → M1 389 t = -1) ∧ ∀ a i, ¬ (a = 389 ∧ 0 ≤ i ∧ i < 96) → M1 a i = M a i := by
  have key : ∀ (n F : Nat) (M' : Mem) (x : Int), 96 - x = n → 0 ≤ x → (∀ t, 0 ≤ t → t < x → M' 389 t = -1) → (∀ a i, ¬ (a = 389 ∧ 0 ≤ i ∧ i < 96) → M' a i = M a i) → n < F → ∃ M1, wl1 (b_X12_tellsPieces_7) F M' x = wl1 (b_X12_tellsPieces_28) FU M1 0 ∧ (∀ t, isQ t → M1 389 t = -1) ∧ ∀ a i, ¬ (a = 389 ∧ 0 ≤ i ∧ i < 96) → M1 a i = M a i := by
    intro n
    induction n with
    | zero =>
      intro F M' x hx x0 h1 h2 hF
      obtain ⟨G, rfl⟩ : ∃ G, F = G + 1 := ⟨F - 1, by omega⟩
      have e : x = 96 := by omega
      subst e
      refine ⟨M', ?_, fun t qt => h1 t qt.1 (by have := qt.2; omega), h2⟩
      rw [wl1_s]
      unfold b_X12_tellsPieces_7
      rw [if_pos (by decide)]
    | succ n ih =>
      intro F M' x hx x0 h1 h2 hF
      obtain ⟨G, rfl⟩ : ∃ G, F = G + 1 := ⟨F - 1, by omega⟩
      have n96 : ¬ 96 ≤ x := by omega
      rw [wl1_s]
      show ∃ M1, b_X12_tellsPieces_7 (wl1 (b_X12_tellsPieces_7) G) M' x = _ ∧ _
      have ih' := ih G (st M' 389 x (-1)) (x + 1) (by omega) (by omega) (fun t t0 t1 => by
        by_cases e : t = x
        · rw [e, st_at]
        · rw [st_neI e]; exact h1 t t0 (by omega)) (fun a i hn => by rw [st_ne (by omega)]; exact h2 a i hn) (by omega)
      generalize wl1 (b_X12_tellsPieces_7) G = w at ih' ⊢
      unfold b_X12_tellsPieces_7
      rw [if_neg n96, ok_t ⟨by omega, by omega⟩, bm_e]
      exact ih'
  exact key 96 FU M 0 (by decide) (by decide) (fun t _ _ => by omega) (fun _ _ _ => rfl) (by have : FU = 1000000000 := rfl; omega)
def ScFx (a i : Int) : Prop := ScSx a i ∨ ScPx a i ∨ (a = 13 ∧ i = 11)
def ScFm (a i : Int) : Prop := ScSm a i ∨ ScPm a i
theorem j_build {A Mx Mm : Mem} {a d : Int} {k : Nat} (hka : kd a = 17) (h1 : Mx a 1 = k ∧ k ≤ 40) (hdr : dscR Mx a k) (hL : RulA A 1) (hX : RulX A Mx a 1 0) (hA : PlA A Mm 1) (hd : dscN Mx a k = d) (hdm : Mm 375 1 = d) : ∃ X1 M1 X0 M0, f_X3_build Mx a = some (0, X1) ∧ f_X12_tellsSight Mm = some (0, M1) ∧ PR (sgv A d) X0 M0 X1 M1 96 ∧ (∀ t, isQ t → X1 20 t = 0) ∧ X1 13 10 = cnt (sgv A d) 96 ∧ X1 13 11 = d ∧ Fr ScFx Mx X1 ∧ Fr ScFm Mm M1 := by
  have ks := kd17 a hka
  have hFU : FU = 1000000000 := rfl
  -- the class, up to the PIECES
  obtain ⟨X5, e5, z5, o5⟩ := x_noth (st Mx 13 11 d)
  have sX : SGx A d a (st X5 13 10 0) (st X5 13 10 0) 0 := by
    refine ⟨fun t _ _ => by omega, by rw [st_at]; rfl, ?_, ⟨?_, ?_, ?_, ?_⟩, Fr.rf _ _⟩
    · rw [st_neI (by decide), o5 13 11 (by decide), st_at]
    · rw [st_neA (by decide)]; exact z5 16 (by decide) (by decide)
    · rw [st_neA (by decide)]; exact z5 0 (by decide) (by decide)
    · rw [st_neA (by decide)]; exact z5 17 (by decide) (by decide)
    · rw [st_neA (by decide)]; exact z5 18 (by decide) (by decide)
  have sc : ∀ c i, c ≠ 11 → c ≠ 13 → st X5 13 10 0 c i = Mx c i := fun c i c1 c2 => by rw [st_neA c2, o5 c i c1, st_neA c2]
  have hX' : RulX A (st X5 13 10 0) a 1 0 := hX.ext hka ⟨fun _ _ _ => rfl, rfl, rfl, fun _ _ _ _ _ _ => rfl, fun _ _ _ _ _ _ => rfl⟩ (fun c i c0 c1 => sc c i (by omega) (by omega)) hL
  obtain ⟨X6, e6, s6⟩ := x_sights hka hL hX' sX
  have eX : f_X3_build Mx a = cl (f_X3_partPieces X6) (fun _ M10 => some (0, M10)) := by
    unfold f_X3_build
    rw [x_discOf h1 hdr, cl_some, hd, bm_e, e5, cl_some, bm_e]
    exact e6
  -- the reference, up to the PIECES
  have sM : SGm A d Mm (st (st (st (st Mm 337 70 0) 337 71 0) 337 72 0) 337 73 0) 0 := by
    refine ⟨fun t _ _ => by omega, ⟨?_, ?_, ?_, ?_⟩, Fr.st (Fr.st (Fr.st (Fr.st (Fr.rf _ _) (by unfold ScSm; omega)) (by unfold ScSm; omega)) (by unfold ScSm; omega)) (by unfold ScSm; omega)⟩
    · rw [st_neI (by decide), st_neI (by decide), st_neI (by decide), st_at]
    · rw [st_neI (by decide), st_neI (by decide), st_at]
    · rw [st_neI (by decide), st_at]
    · rw [st_at]
  obtain ⟨M6, e6m, s6m⟩ := m_sights hL hA hdm sM
  have eM : f_X12_tellsSight Mm = cl (f_X12_tellsPieces M6) (fun _ M8 => some (0, M8)) := by
    unfold f_X12_tellsSight
    rw [bm_e, bm_e, bm_e, bm_e]
    exact e6m
  obtain ⟨M7, e7, l7, o7⟩ := m_lab0 (st M6 337 78 0)
  -- the PIECES
  have p0 : PR (sgv A d) (st (st X6 13 8 0) 13 9 (-1)) M7 (st (st X6 13 8 0) 13 9 (-1)) M7 0 := by
    have e78 : M7 337 78 = 0 := by rw [o7 337 78 (by omega), st_at]
    refine ⟨fun t qt => ⟨?_, ?_⟩, fun t qt => ?_, ⟨?_, by omega, by omega⟩, fun t qt => ?_, fun t t0 t1 => by omega, fun j j0 j1 => by omega, ?_, Fr.rf _ _, Fr.rf _ _⟩
    · rw [st_neA (by decide), st_neA (by decide)]; exact (s6.1 t qt.1 qt.2).1
    · rw [o7 388 t (by omega), st_neA (by decide)]; exact s6m.1 t qt.1 qt.2
    · rw [st_neA (by decide), st_neA (by decide), l7 t qt]; exact (s6.1 t qt.1 qt.2).2.1
    · rw [st_neI (by decide), st_at, e78]
    · rw [l7 t qt, e78]; exact ⟨by decide, fun z => absurd rfl z⟩
    · rw [st_at, e78, if_pos rfl]
  obtain ⟨X8, M8, f8, g8, q8⟩ := j_pieces (fun t _ => (sgv_rng A d t).1) 96 FU FU _ _ 0 (by decide) (by decide) p0 (by omega) (by omega)
  have f9 : f_X3_partPieces X6 = some (0, X8) := by
    unfold f_X3_partPieces
    rw [bm_e, bm_e]; exact f8
  have g9 : f_X12_tellsPieces M6 = some (0, M8) := by
    unfold f_X12_tellsPieces
    rw [bm_e, e7]; exact g8
  have fx8 := q8.2.2.2.2.2.2.2.1
  have fm8 := q8.2.2.2.2.2.2.2.2
  refine ⟨X8, M8, _, _, by rw [eX, f9, cl_some], by rw [eM, g9, cl_some], q8, fun t qt => ?_, ?_, ?_, ?_, ?_⟩
  · rw [fx8 20 t (by unfold ScPx; omega), st_neA (by decide), st_neA (by decide)]; exact (s6.1 t qt.1 qt.2).2.2
  · rw [fx8 13 10 (by unfold ScPx; omega), st_neI (by decide), st_neI (by decide)]; exact s6.2.1
  · rw [fx8 13 11 (by unfold ScPx; omega), st_neI (by decide), st_neI (by decide)]; exact s6.2.2.1
  · intro c i hn
    have n1 : ¬ ScPx c i := fun z => hn (Or.inr (Or.inl z))
    have n2 : ¬ ScSx c i := fun z => hn (Or.inl z)
    have n3 : ¬ (c = 13 ∧ i = 11) := fun z => hn (Or.inr (Or.inr z))
    rw [fx8 c i n1, st_ne (fun z => n1 (by unfold ScPx; omega)), st_ne (fun z => n1 (by unfold ScPx; omega)), s6.2.2.2.2 c i n2, st_ne (fun z => n2 (by unfold ScSx; omega)), o5 c i (fun z => n2 (by unfold ScSx; omega)), st_ne n3]
  · intro c i hn
    have n1 : ¬ ScPm c i := fun z => hn (Or.inr z)
    have n2 : ¬ ScSm c i := fun z => hn (Or.inl z)
    rw [fm8 c i n1, o7 c i (fun z => n1 (by unfold ScPm; omega)), st_ne (fun z => n1 (by unfold ScPm; omega)), s6m.2.2 c i n2]
