/-! stands(): the text that was read comes to its place -/
def ScZ (p a i : Int) : Prop := ((a = 362 ∨ a = 366) ∧ i = p) ∨ ((363 ≤ a ∧ a ≤ 365) ∧ 40 * p ≤ i ∧ i < 40 * p + 40) ∨ ((367 ≤ a ∧ a ≤ 371) ∧ 5 * p ≤ i ∧ i < 5 * p + 5) ∨ (a = 360 ∧ 900 * p ≤ i ∧ i < 900 * p + 900)
theorem seg_at {M : Mem} {a : Int} : ∀ {C : List Int} {i : Int} (k : Nat), Seg M a i C → k < C.length → C[k]? = some (M a (i + k))
  | [], _, _, _, h => by simp at h
  | x :: C, i, 0, h, _ => by
    rw [show i + ((0 : Nat) : Int) = i by omega, h.1]; rfl
  | x :: C, i, k + 1, h, hk => by
    have := seg_at k h.2 (by simpa using hk)
    rw [show i + ((k + 1 : Nat) : Int) = i + 1 + k by omega]
    exact this
theorem cod_slc {M : Mem} {o : Int} {C : List Int} (h : Seg M 360 o C) {i j : Int} (h0 : 0 ≤ i) (h1 : i ≤ j) (h2 : j ≤ C.length) : cod M (o + i) (o + j) = slc C i j := by
  unfold cod slc
  apply List.ext_getElem?
  intro k
  have e : (o + j - (o + i)).toNat = (j - i).toNat := by omega
  rw [e, List.getElem?_map]
  by_cases c : k < (j - i).toNat
  · rw [List.getElem?_range c, List.getElem?_take, if_pos c, List.getElem?_drop, seg_at (i.toNat + k) h (by omega)]
    show some _ = some _
    rw [show o + ((i.toNat + k : Nat) : Int) = o + i + k by omega]
  · rw [List.getElem?_eq_none (by rw [List.length_range]; omega), List.getElem?_eq_none (by rw [List.length_take]; omega)]
    rfl
theorem seg_of {M : Mem} {a : Int} : ∀ {C : List Int} {i : Int}, (∀ k : Nat, k < C.length → C[k]? = some (M a (i + k))) → Seg M a i C
  | [], _, _ => trivial
  | x :: C, i, h => by
    refine ⟨?_, seg_of (fun k hk => ?_)⟩
    · have := h 0 (by simp)
      rw [show i + ((0 : Nat) : Int) = i by omega] at this
      exact (Option.some.inj this).symm
    · have := h (k + 1) (by simp; omega)
      rw [show i + ((k + 1 : Nat) : Int) = i + 1 + k by omega] at this
      exact this
theorem seg_slc {M : Mem} {a : Int} {C : List Int} (h : Seg M a 0 (C.map mk)) {i j : Int} (h0 : 0 ≤ i) (h1 : i ≤ j) (h2 : j ≤ C.length) : Seg M a i ((slc C i j).map mk) := by
  apply seg_of
  intro k hk
  rw [List.length_map] at hk
  unfold slc at hk ⊢
  rw [List.length_take, List.length_drop] at hk
  have hs := seg_at (i.toNat + k) h (by rw [List.length_map]; omega)
  rw [List.getElem?_map] at hs ⊢
  rw [List.getElem?_take, if_pos (by omega), List.getElem?_drop, hs]
  rw [show (0 : Int) + ((i.toNat + k : Nat) : Int) = i + k by omega]
/-- what has come to a place p -/
def StP (p : Int) (M M1 : Mem) : Prop := M1 362 p = M 362 0 ∧ M1 366 p = M 366 0 ∧ (∀ j, 0 ≤ j → j < M 362 0 → M1 363 (40 * p + j) = M 363 j + 900 * p ∧ M1 364 (40 * p + j) = M 364 j + 900 * p ∧ M1 365 (40 * p + j) = M 365 j + 900 * p) ∧ (∀ j, 0 ≤ j → j < M 366 0 → M1 367 (5 * p + j) = M 367 j ∧ M1 368 (5 * p + j) = M 368 j ∧ M1 369 (5 * p + j) = M 369 j + 900 * p ∧ M1 370 (5 * p + j) = M 370 j + 900 * p ∧ M1 371 (5 * p + j) = M 371 j + 900 * p) ∧ (∀ j, 0 ≤ j → j < M 337 32 → M1 360 (900 * p + j) = M 360 j)
theorem m_stands {M : Mem} {p : Int} (hp : 1 ≤ p ∧ p ≤ 4) (hr : 0 ≤ M 362 0 ∧ M 362 0 ≤ 40) (hw : 0 ≤ M 366 0 ∧ M 366 0 ≤ 5) (hc : 0 ≤ M 337 32 ∧ M 337 32 ≤ 900) (hR : ∀ c j, 363 ≤ c → c ≤ 365 → 0 ≤ j → j < M 362 0 → 0 ≤ M c j ∧ M c j ≤ 900) (hW : ∀ c j, 369 ≤ c → c ≤ 371 → 0 ≤ j → j < M 366 0 → 0 ≤ M c j ∧ M c j ≤ 900) (hB : ∀ j, 0 ≤ j → j < M 366 0 → M 368 j = 0 ∨ M 368 j = 1) : ∃ M1, f_X12_stands M p = some (0, M1) ∧ StP p M M1 ∧ Fr (ScZ p) M M1 := by
  have key : Tt (f_X12_stands M p) (fun r M1 => r = 0 ∧ StP p M M1 ∧ Fr (ScZ p) M M1) := by
    unfold f_X12_stands
    have hFU : FU = 1000000000 := rfl
    refine tt_ok ⟨by omega, by omega⟩ (tt_bmN (fun M2 e2 => ?_))
    have f2 : Fr (ScZ p) M M2 := by rw [e2]; exact Fr.st (Fr.rf _ _) (by unfold ScZ; omega)
    refine tt_bmN (fun M3 e3 => ?_)
    have f3 : Fr (ScZ p) M M3 := by rw [e3]; exact Fr.st f2 (by unfold ScZ; omega)
    have nz : ∀ c i, ¬ ScZ p c i → ∀ {M' : Mem}, Fr (ScZ p) M M' → M' c i = M c i := fun c i q _ f => f c i q
    have e362 : M3 362 p = M 362 0 := by rw [e3, st_neA (by decide), e2, st_at]
    have e366 : M3 366 p = M 366 0 := by rw [e3, st_at]; exact nz 366 0 (by unfold ScZ; omega) f2
    refine tt_ok ⟨by omega, by omega⟩ (tt_bi ?_)
    refine tt_wl2 (fun M4 x2 x3 => x2 = 900 * p ∧ 0 ≤ x3 ∧ x3 ≤ M 362 0 ∧ M4 362 p = M 362 0 ∧ M4 366 p = M 366 0 ∧ (∀ j, 0 ≤ j → j < x3 → M4 363 (40 * p + j) = M 363 j + 900 * p ∧ M4 364 (40 * p + j) = M 364 j + 900 * p ∧ M4 365 (40 * p + j) = M 365 j + 900 * p) ∧ Fr (ScZ p) M M4) (fun _ _ x3 => (40 - x3).toNat) ?_ FU M3 (900 * p) 0 ⟨rfl, by decide, hr.1, e362, e366, fun j _ _ => by omega, f3⟩ (by omega)
    rintro w M4 x2 x3 ⟨rfl, i0, i1, i2, i3, i4, f4⟩ K
    unfold b_X12_stands_32
    refine tt_ok ⟨by omega, by omega⟩ ?_
    rw [i2]
    refine tt_if (fun c => ?_) (fun c => ?_)
    · have ex : x3 = M 362 0 := by omega
      subst ex
      refine tt_wl2 (fun M5 x2 x3 => x2 = 900 * p ∧ 0 ≤ x3 ∧ x3 ≤ M 366 0 ∧ M5 362 p = M 362 0 ∧ M5 366 p = M 366 0 ∧ (∀ j, 0 ≤ j → j < M 362 0 → M5 363 (40 * p + j) = M 363 j + 900 * p ∧ M5 364 (40 * p + j) = M 364 j + 900 * p ∧ M5 365 (40 * p + j) = M 365 j + 900 * p) ∧ (∀ j, 0 ≤ j → j < x3 → M5 367 (5 * p + j) = M 367 j ∧ M5 368 (5 * p + j) = M 368 j ∧ M5 369 (5 * p + j) = M 369 j + 900 * p ∧ M5 370 (5 * p + j) = M 370 j + 900 * p ∧ M5 371 (5 * p + j) = M 371 j + 900 * p) ∧ Fr (ScZ p) M M5) (fun _ _ x3 => (5 - x3).toNat) ?_ FU M4 (900 * p) 0 ⟨rfl, by decide, hw.1, i2, i3, i4, fun j _ _ => by omega, f4⟩ (by omega)
      rintro w' M5 x2 x3 ⟨rfl, j0, j1, j2, j3, j4, j5, f5⟩ K'
      unfold b_X12_stands_107
      refine tt_ok ⟨by omega, by omega⟩ ?_
      rw [j3]
      refine tt_if (fun c => ?_) (fun c => ?_)
      · have ex : x3 = M 366 0 := by omega
        subst ex
        refine tt_wl2 (fun M6 x2 x3 => x2 = 900 * p ∧ 0 ≤ x3 ∧ x3 ≤ M 337 32 ∧ (∀ c i, c ≠ 360 → M6 c i = M5 c i) ∧ (∀ j, 0 ≤ j → j < x3 → M6 360 (900 * p + j) = M 360 j) ∧ Fr (ScZ p) M M6) (fun _ _ x3 => (900 - x3).toNat) ?_ FU M5 (900 * p) 0 ⟨rfl, by decide, hc.1, fun _ _ _ => rfl, fun j _ _ => by omega, f5⟩ (by omega)
        rintro w'' M6 x2 x3 ⟨rfl, k0, k1, k2, k3, f6⟩ K''
        unfold b_X12_stands_211
        have e32 : M6 337 32 = M 337 32 := nz 337 32 (by unfold ScZ; omega) f6
        rw [e32]
        refine tt_if (fun c => ?_) (fun c => ?_)
        · have ex : x3 = M 337 32 := by omega
          subst ex
          refine tt_ret ⟨rfl, ⟨by rw [k2 _ _ (by decide)]; exact j2, by rw [k2 _ _ (by decide)]; exact j3, fun j a1 a2 => ?_, fun j a1 a2 => ?_, k3⟩, f6⟩
          · rw [k2 _ _ (by decide), k2 _ _ (by decide), k2 _ _ (by decide)]; exact j4 j a1 a2
          · rw [k2 _ _ (by decide), k2 _ _ (by decide), k2 _ _ (by decide), k2 _ _ (by decide), k2 _ _ (by decide)]; exact j5 j a1 a2
        · refine tt_ok ⟨by omega, by omega⟩ (tt_ok ⟨by omega, by omega⟩ (tt_ok ⟨by omega, by omega⟩ (tt_bm (tt_bi (K'' _ _ _ ⟨rfl, by omega, by omega, fun c i hc => by rw [st_neA hc]; exact k2 c i hc, fun j a1 a2 => ?_, Fr.st f6 (by unfold ScZ; omega)⟩ (by omega))))))
          by_cases e : j = x3
          · subst e
            rw [st_at]; exact nz 360 j (by unfold ScZ; omega) f6
          · rw [st_neI (by omega)]; exact k3 j a1 (by omega)
      · have g : ∀ c, 367 ≤ c → c ≤ 371 → ∀ {M' : Mem}, Fr (ScZ p) M M' → M' c x3 = M c x3 := fun c _ _ _ f => nz c x3 (by unfold ScZ; omega) f
        have b369 := hW 369 x3 (by decide) (by decide) j0 (by omega)
        have b370 := hW 370 x3 (by decide) (by decide) j0 (by omega)
        have b371 := hW 371 x3 (by decide) (by decide) j0 (by omega)
        have b368 := hB x3 j0 (by omega)
        refine tt_ok ⟨by omega, by omega⟩ (tt_ok ⟨by omega, by omega⟩ (tt_ok ⟨by omega, by omega⟩ (tt_ok ⟨by omega, by omega⟩ ?_)))
        rw [g 367 (by decide) (by decide) f5]
        refine tt_bmN (fun N1 en1 => ?_)
        have g1 : Fr (ScZ p) M N1 := by rw [en1]; exact Fr.st f5 (by unfold ScZ; omega)
        rw [g 368 (by decide) (by decide) g1]
        refine tt_ok b368 (tt_bmN (fun N2 en2 => ?_))
        have g2 : Fr (ScZ p) M N2 := by rw [en2]; exact Fr.st g1 (by unfold ScZ; omega)
        rw [g 369 (by decide) (by decide) g2]
        refine tt_ok ⟨by omega, by omega⟩ (tt_bmN (fun N3 en3 => ?_))
        have g3 : Fr (ScZ p) M N3 := by rw [en3]; exact Fr.st g2 (by unfold ScZ; omega)
        rw [g 370 (by decide) (by decide) g3]
        refine tt_ok ⟨by omega, by omega⟩ (tt_bmN (fun N4 en4 => ?_))
        have g4 : Fr (ScZ p) M N4 := by rw [en4]; exact Fr.st g3 (by unfold ScZ; omega)
        rw [g 371 (by decide) (by decide) g4]
        refine tt_ok ⟨by omega, by omega⟩ (tt_bmN (fun N5 en5 => ?_))
        have g5 : Fr (ScZ p) M N5 := by rw [en5]; exact Fr.st g4 (by unfold ScZ; omega)
        have old : ∀ c i, ¬ ((367 ≤ c ∧ c ≤ 371) ∧ i = 5 * p + x3) → N5 c i = M5 c i := by
          intro c i hn
          rw [en5, st_ne (by omega), en4, st_ne (by omega), en3, st_ne (by omega), en2, st_ne (by omega), en1, st_ne (by omega)]
        refine tt_bi (K' N5 _ (x3 + 1) ⟨rfl, by omega, by omega, by rw [old _ _ (by omega)]; exact j2, by rw [old _ _ (by omega)]; exact j3, fun j a1 a2 => ?_, fun j a1 a2 => ?_, g5⟩ (by omega))
        · rw [old _ _ (by omega), old _ _ (by omega), old _ _ (by omega)]; exact j4 j a1 a2
        · by_cases e : j = x3
          · subst e
            refine ⟨?_, ?_, ?_, ?_, ?_⟩
            · rw [en5, st_neA (by decide), en4, st_neA (by decide), en3, st_neA (by decide), en2, st_neA (by decide), en1, st_at]
            · rw [en5, st_neA (by decide), en4, st_neA (by decide), en3, st_neA (by decide), en2, st_at]
            · rw [en5, st_neA (by decide), en4, st_neA (by decide), en3, st_at]
            · rw [en5, st_neA (by decide), en4, st_at]
            · rw [en5, st_at]
          · rw [old _ _ (by omega), old _ _ (by omega), old _ _ (by omega), old _ _ (by omega), old _ _ (by omega)]
            exact j5 j a1 (by omega)
    · have g : ∀ c, 363 ≤ c → c ≤ 365 → ∀ {M' : Mem}, Fr (ScZ p) M M' → M' c x3 = M c x3 := fun c _ _ _ f => nz c x3 (by unfold ScZ; omega) f
      have b363 := hR 363 x3 (by decide) (by decide) i0 (by omega)
      have b364 := hR 364 x3 (by decide) (by decide) i0 (by omega)
      have b365 := hR 365 x3 (by decide) (by decide) i0 (by omega)
      refine tt_ok ⟨by omega, by omega⟩ (tt_ok ⟨by omega, by omega⟩ (tt_ok ⟨by omega, by omega⟩ ?_))
      rw [g 363 (by decide) (by decide) f4]
      refine tt_ok ⟨by omega, by omega⟩ (tt_ok ⟨by omega, by omega⟩ (tt_bmN (fun N1 en1 => ?_)))
      have g1 : Fr (ScZ p) M N1 := by rw [en1]; exact Fr.st f4 (by unfold ScZ; omega)
      rw [g 364 (by decide) (by decide) g1]
      refine tt_ok ⟨by omega, by omega⟩ (tt_bmN (fun N2 en2 => ?_))
      have g2 : Fr (ScZ p) M N2 := by rw [en2]; exact Fr.st g1 (by unfold ScZ; omega)
      rw [g 365 (by decide) (by decide) g2]
      refine tt_ok ⟨by omega, by omega⟩ (tt_bmN (fun N3 en3 => ?_))
      have g3 : Fr (ScZ p) M N3 := by rw [en3]; exact Fr.st g2 (by unfold ScZ; omega)
      have old : ∀ c i, ¬ ((363 ≤ c ∧ c ≤ 365) ∧ i = 40 * p + x3) → N3 c i = M4 c i := by
        intro c i hn
        rw [en3, st_ne (by omega), en2, st_ne (by omega), en1, st_ne (by omega)]
      refine tt_bi (K N3 _ (x3 + 1) ⟨rfl, by omega, by omega, by rw [old _ _ (by omega)]; exact i2, by rw [old _ _ (by omega)]; exact i3, fun j a1 a2 => ?_, g3⟩ (by omega))
      by_cases e : j = x3
      · subst e
        refine ⟨?_, ?_, ?_⟩
        · rw [en3, st_neA (by decide), en2, st_neA (by decide), en1, st_at]
        · rw [en3, st_neA (by decide), en2, st_at]
        · rw [en3, st_at]
      · rw [old _ _ (by omega), old _ _ (by omega), old _ _ (by omega)]
        exact i4 j a1 (by omega)
  obtain ⟨r, M1, e, rfl, q⟩ := key
  exact ⟨M1, e, q⟩
theorem RlY.all {A B : Mem} {a wd r : Int} {C : List Int} : ∀ (k : Nat) (i j : Int), RlY A B a wd C r k i j → ∀ j', j ≤ j' → j' < r → Sg2 C (A 363 j') (A 364 j') false ∧ Sg2 C (A 364 j') (A 365 j') true
  | 0, i, j, h, j', h0, h1 => by
    have e : j = r := h
    omega
  | k + 1, i, j, h, j', h0, h1 => by
    rcases h with ⟨g1, g2, g3, g6, g7, g8⟩ | ⟨g1, g2⟩
    · by_cases e : j' = j
      · rw [e]; exact ⟨g6, g7⟩
      · exact RlY.all k (i + 1) (j + 1) g8 j' (by omega) h1
    · exact RlY.all k (i + 1) j g2 j' h0 h1
section SP
variable {A M B : Mem} {C : List Int} {p a wd : Int}
theorem sg_T (h360 : Seg A 360 (900 * p) C) (hC : C.length ≤ 900) {i j : Int} {t : Bool} (h : Sg2 C i j t) : SegT A p (i + 900 * p) (j + 900 * p) t ∧ cod A (i + 900 * p) (j + 900 * p) = slc C i j := by
  obtain ⟨⟨h1, h2, h3⟩, h4⟩ := h
  have e : cod A (i + 900 * p) (j + 900 * p) = slc C i j := by
    have := cod_slc h360 h1 h2 h3
    rw [Int.add_comm (900 * p) i, Int.add_comm (900 * p) j] at this
    exact this
  exact ⟨⟨by omega, by omega, by omega, by rw [e]; exact h4⟩, e⟩
theorem sg_X (h360 : Seg A 360 (900 * p) C) (hC : C.length ≤ 900) (hB : Seg B (a + 3) 0 (C.map mk)) {i j : Int} {t : Bool} (h : Sg2 C i j t) : SegX A B (a + 3) i j (i + 900 * p) (j + 900 * p) := by
  have e := (sg_T h360 hC h).2
  obtain ⟨⟨h1, h2, h3⟩, h4⟩ := h
  exact ⟨h1, by omega, by omega, by rw [e]; exact seg_slc hB h1 h2 h3⟩
theorem rul_A (hs : StP p M A) (hr : 0 ≤ M 362 0 ∧ M 362 0 ≤ 40) (h360 : Seg A 360 (900 * p) C) (hC : C.length ≤ 900) {k : Nat} (h : RlY M B a wd C (M 362 0) k 0 0) : RulA A p := by
  refine ⟨by rw [hs.1]; exact hr, fun j j0 j1 => ?_⟩
  rw [hs.1] at j1
  obtain ⟨g1, g2⟩ := RlY.all k 0 0 h j j0 j1
  obtain ⟨s1, s2, s3⟩ := hs.2.2.1 j j0 j1
  rw [s1, s2, s3]
  exact ⟨(sg_T h360 hC g1).1, (sg_T h360 hC g2).1⟩
theorem lin_X (hs : StP p M A) (h360 : Seg A 360 (900 * p) C) (hC : C.length ≤ 900) (hB : Seg B (a + 3) 0 (C.map mk)) : ∀ (k : Nat) (i j : Int), 0 ≤ j → RlY M B a wd C (M 362 0) k i j → LinX A B a p wd k i j
  | 0, i, j, j0, h => by
    show j = A 362 p
    rw [hs.1]; exact h
  | k + 1, i, j, j0, h => by
    rcases h with ⟨g1, g2, ⟨g3, g4, g5⟩, g6, g7, g8⟩ | ⟨g1, g2⟩
    · left
      obtain ⟨s1, s2, s3⟩ := hs.2.2.1 j j0 g2
      rw [hs.1, g3, g4, g5, s1, s2, s3]
      exact ⟨g1, g2, sg_X h360 hC hB g6, sg_X h360 hC hB g7, lin_X hs h360 hC hB k (i + 1) (j + 1) (by omega) g8⟩
    · exact Or.inr ⟨g1, lin_X hs h360 hC hB k (i + 1) j j0 g2⟩
theorem way_A {k : Int} (hs : StP p M A) (hw : 0 ≤ M 366 0 ∧ M 366 0 ≤ 5) (h360 : Seg A 360 (900 * p) C) (hC : C.length ≤ 900) (h : WyY M B a C k (M 366 0)) : LawA A p := by
  refine ⟨by rw [hs.2.1]; exact hw, fun j j0 j1 => ?_⟩
  rw [hs.2.1] at j1
  obtain ⟨-, -, g3, -, -, g8, g9⟩ := h j j0 j1
  obtain ⟨s1, s2, s3, s4, s5⟩ := hs.2.2.2.1 j j0 j1
  rw [s2, s3, s4, s5]
  exact ⟨g3, (sg_T h360 hC g8).1, (sg_T h360 hC g9).1⟩
theorem way_X {k : Int} (hk : k ≤ 40) (hs : StP p M A) (h360 : Seg A 360 (900 * p) C) (hC : C.length ≤ 900) (hB : Seg B (a + 3) 0 (C.map mk)) (h3 : B a 3 = M 366 0) (h : WyY M B a C k (M 366 0)) : LawX A B a p := by
  refine ⟨by rw [hs.2.1]; exact h3, fun j j0 j1 => ?_⟩
  rw [hs.2.1] at j1
  obtain ⟨g1, g2, -, g4, ⟨g5, g6, g7⟩, g8, g9⟩ := h j j0 j1
  obtain ⟨s1, s2, s3, s4, s5⟩ := hs.2.2.2.1 j j0 j1
  unfold WayX
  rw [s1, s2, s3, s4, s5, g5, g6, g7]
  exact ⟨⟨g1.1, by omega⟩, g2, g4, sg_X h360 hC hB g8, sg_X h360 hC hB g9⟩
end SP
