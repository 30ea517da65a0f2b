/-! law(), alike -/
/-- the class's cells that change when a text is taken: the SCRIPT that was spare, tape, FAULT, and one that points -/
def ScT1 (sp c j a i : Int) : Prop := (sp ≤ a ∧ a ≤ sp + 43) ∨ (a = 2 ∧ i = 1) ∨ (a = 4 ∧ (i = 4 ∨ i = 5)) ∨ (a = c ∧ i = j) ∨ (a = 1 ∧ i = 10)
def ScL1 (k a i : Int) : Prop := ScZ (2 + k) a i ∨ (a = 337 ∧ (i = 1 ∨ i = 7 ∨ i = 8)) ∨ (a = 386 ∧ i = k)
theorem StP.eq {p : Int} {M M1 A M' : Mem} (h : StP p M M1) (hp : 1 ≤ p ∧ p ≤ 4) (hr : M 362 0 ≤ 40) (hw : M 366 0 ≤ 5) (hc : M 337 32 ≤ 900) (hA : ∀ a i, ScZ p a i → A a i = M1 a i) (hM : ∀ a i, a ≠ 337 ∨ i = 32 → M' a i = M a i) : StP p M' A := by
  obtain ⟨h1, h2, h3, h4, h5⟩ := h
  have e362 : M' 362 0 = M 362 0 := hM _ _ (by omega)
  have e366 : M' 366 0 = M 366 0 := hM _ _ (by omega)
  have e32 : M' 337 32 = M 337 32 := hM _ _ (by omega)
  refine ⟨?_, ?_, fun j j0 j1 => ?_, fun j j0 j1 => ?_, fun j j0 j1 => ?_⟩
  · rw [e362, hA 362 p (by unfold ScZ; omega)]; exact h1
  · rw [e366, hA 366 p (by unfold ScZ; omega)]; exact h2
  · rw [e362] at j1
    rw [hM 363 j (by omega), hM 364 j (by omega), hM 365 j (by omega), hA 363 _ (by unfold ScZ; omega), hA 364 _ (by unfold ScZ; omega), hA 365 _ (by unfold ScZ; omega)]
    exact h3 j j0 j1
  · rw [e366] at j1
    rw [hM 367 j (by omega), hM 368 j (by omega), hM 369 j (by omega), hM 370 j (by omega), hM 371 j (by omega), hA 367 _ (by unfold ScZ; omega), hA 368 _ (by unfold ScZ; omega), hA 369 _ (by unfold ScZ; omega), hA 370 _ (by unfold ScZ; omega), hA 371 _ (by unfold ScZ; omega)]
    exact h4 j j0 j1
  · rw [e32] at j1
    rw [hM 360 j (by omega), hA 360 _ (by unfold ScZ; omega)]
    exact h5 j j0 j1
section LW
variable {A B Mx Mm : Mem}
/-- a text is refused -/
theorem RR.refu (h : RR A B Mx Mm) {Mx1 Mm1 : Mem} (fx : Fr (ScW (B 1 10)) Mx Mx1) (fm : Fr ScMW Mm Mm1) (e1 : Mm1 337 1 = 0) (e4 : Mx1 4 4 = Mm1 337 5) (e5 : Mx1 4 5 = Mm1 337 6) : R (st Mx1 2 1 0) (st (st Mm1 337 7 (Mm1 337 5)) 337 8 (Mm1 337 6)) := by
  have hs := h.ptr.1.2.2.1
  have ks := kd17 _ hs
  refine h.upd (A1 := st (st (st A 337 1 0) 337 7 (Mm1 337 5)) 337 8 (Mm1 337 6)) (B1 := st (st (st B 2 1 0) 4 4 (Mm1 337 5)) 4 5 (Mm1 337 6)) (Fr.st (Fr.st (Fr.st (Fr.rf _ _) (by unfold SimA; omega)) (by unfold SimA; omega)) (by unfold SimA; omega)) (Fr.st (Fr.st (Fr.st (Fr.rf _ _) (by unfold SimB; omega)) (by unfold SimB; omega)) (by unfold SimB; omega)) ?_ ?_ (h.trs.ext ?_ ?_ ?_ ?_ ?_ ?_) (h.chr.ext ?_ ?_ ?_) (h.oct.ext ?_ ?_ ?_ ?_) ?_ ?_ ?_
  · refine ⟨?_, ?_, fun i i0 i1 => ?_⟩
    · simp [st]
    · simp [st]
    · simp [st] at i1
      omega
  · unfold FltR
    simp [st]
  · intro a i _ _
    rw [st_neA (by omega), st_neA (by omega), st_neA (by omega)]
  · simp [st]
  · intro t; simp [st]
  · simp [st]
  · simp [st]
  · intro i j _ _
    rw [st_neA (by omega), st_neA (by omega), st_neA (by omega)]
  · funext i; simp [st]
  · intro i; simp [st]
  · simp [st]
  · simp [st]
  · intro i; simp [st]
  · simp [st]
  · intro i; simp [st]
  · intro a i hn
    by_cases c8 : a = 337 ∧ i = 8
    · obtain ⟨rfl, rfl⟩ := c8; rw [st_at, st_at]
    rw [st_ne c8, st_ne c8]
    by_cases c7 : a = 337 ∧ i = 7
    · obtain ⟨rfl, rfl⟩ := c7; rw [st_at, st_at]
    rw [st_ne c7, st_ne c7]
    by_cases c1 : a = 337 ∧ i = 1
    · obtain ⟨rfl, rfl⟩ := c1; rw [st_at]; exact e1
    rw [st_ne c1, fm a i (by unfold ScMW; rintro (q | q); exact hn q; exact c1 q)]
    exact h.fm a i hn
  · intro a i hn
    by_cases c2 : a = 2 ∧ i = 1
    · obtain ⟨rfl, rfl⟩ := c2; rw [st_at, st_neA (by decide), st_neA (by decide), st_at]
    rw [st_ne c2]
    by_cases c5 : a = 4 ∧ i = 5
    · obtain ⟨rfl, rfl⟩ := c5; rw [st_at]; exact e5
    rw [st_ne c5]
    by_cases c4 : a = 4 ∧ i = 4
    · obtain ⟨rfl, rfl⟩ := c4; rw [st_at]; exact e4
    rw [st_ne c4, st_ne c2, fx a i (by unfold ScW; unfold ScX at hn; omega)]
    exact h.fx a i hn
  · intro s s0 s1
    rw [st_neA (by decide), st_neA (by decide), fx 20 s (by unfold ScW; omega), fx 19 s (by unfold ScW; omega)]
    exact h.lc s s0 s1
end LW
