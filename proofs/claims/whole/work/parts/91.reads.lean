/-! a text of a FIELD or a LAW is read: both sides, from related objects on -/
def ScB (a i : Int) : Prop := (a = 337 ∧ (i = 1 ∨ i = 2 ∨ i = 3 ∨ i = 4 ∨ i = 5 ∨ i = 6 ∨ i = 32 ∨ i = 36 ∨ i = 52)) ∨ ((a = 362 ∨ a = 366 ∨ a = 372 ∨ a = 375) ∧ i = 0)
theorem m_begins (M : Mem) : ∃ M1, f_X12_begins M = some (0, M1) ∧ (M1 337 3 = M 337 1 ∧ M1 337 1 = 0 ∧ M1 337 2 = 0 ∧ M1 337 4 = -1 ∧ M1 337 5 = 0 ∧ M1 337 6 = -1) ∧ (M1 362 0 = 0 ∧ M1 366 0 = 0 ∧ M1 372 0 = 0 ∧ M1 375 0 = 95 ∧ M1 337 32 = 0 ∧ M1 337 36 = 0 ∧ M1 337 52 = 0) ∧ Fr ScB M M1 := by
  unfold f_X12_begins
  simp only [bm_e]
  refine ⟨_, rfl, ⟨?_, ?_, ?_, ?_, ?_, ?_⟩, ⟨?_, ?_, ?_, ?_, ?_, ?_, ?_⟩, ?_⟩
  · simp [st]
  · simp [st]
  · simp [st]
  · simp [st]
  · simp [st]
  · simp [st]
  · simp [st]
  · simp [st]
  · simp [st]
  · simp [st]
  · simp [st]
  · simp [st]
  · simp [st]
  · intro a i hn
    unfold ScB at hn
    rw [st_ne (by omega), st_ne (by omega), st_ne (by omega), st_ne (by omega), st_ne (by omega), st_ne (by omega), st_ne (by omega), st_ne (by omega), st_ne (by omega), st_ne (by omega), st_ne (by omega), st_ne (by omega), st_ne (by omega)]
theorem begins_mp {A B M M1 : Mem} {T : List Tok} (hA : TapR A B) (hM1 : M 337 1 = A 337 1) (hM3 : ∀ i, M 338 i = A 338 i) (q : M1 337 3 = M 337 1 ∧ M1 337 1 = 0 ∧ M1 337 2 = 0 ∧ M1 337 4 = -1 ∧ M1 337 5 = 0 ∧ M1 337 6 = -1) (f : Fr ScB M M1) (hT : Lx (B 3) (B 2 1) 0 T) : MP (B 3) (B 2 1) M1 T := by
  obtain ⟨q3, q1, q2, q4, q5, q6⟩ := q
  obtain ⟨t1, t2, t3⟩ := hA
  refine ⟨q5, by rw [q3, hM1, t1], t2, fun i i0 i1 => ?_, by omega, by rw [q2]; exact hT, by omega, ?_, q6⟩
  · rw [f 338 i (by unfold ScB; omega), hM3]
    exact t3 i i0 i1
  · rw [q4, q2]
    exact ⟨fun z => by omega, fun z => by have := z.1; omega⟩
/-- what the reading of a text may write in the class -/
def ScW (sp a i : Int) : Prop := (sp ≤ a ∧ a ≤ sp + 43) ∨ (7 ≤ a ∧ a ≤ 9) ∨ (a = 5 ∧ i = 5) ∨ (a = 4 ∧ 1 ≤ i ∧ i ≤ 10)
def ScMW (a i : Int) : Prop := ScM a i ∨ (a = 337 ∧ i = 1)
theorem ScB_W {M M1 : Mem} (f : Fr ScB M M1) : Fr ScMW M M1 := f.mono (fun a i q => by unfold ScB at q; unfold ScMW ScM; omega)
theorem ScJ_W {M M1 : Mem} (f : Fr ScJ M M1) : Fr ScMW M M1 := f.mono (fun a i q => Or.inl (by unfold ScJ ScS at q; unfold ScM; omega))
theorem ScH_W {sp : Int} {M M1 : Mem} (f : Fr (ScH sp) M M1) : Fr (ScW sp) M M1 := f.mono (fun a i q => by unfold ScH ScG ScK at q; unfold ScW; omega)
theorem ScG_W {sp : Int} {M M1 : Mem} (f : Fr (ScG sp) M M1) : Fr (ScW sp) M M1 := f.mono (fun a i q => by unfold ScG at q; unfold ScW; omega)
section RD
variable {A B Mx Mm : Mem}
theorem RR.xb (h : RR A B Mx Mm) : XB (B 3) (B 2 1) Mx := by
  obtain ⟨t1, t2, t3⟩ := h.tap
  refine ⟨h.rx (by omega) (by omega), t2, fun i i0 i1 => ?_⟩
  rw [h.rx (a := 3) (by omega) (by omega)]
  exact ⟨rfl, (t3 i i0 i1).2⟩
theorem reads_alike (h : RR A B Mx Mm) {fl pl : Int} (hfl : fl = 0 ∨ fl = 1) (hpl : pl = 1 ↔ fl = 1) : ∃ r Mx1 Mm1, f_X5_takes Mx (1 - fl) (B 1 10) (B 1 8) = some (r, Mx1) ∧ f_X12_reads Mm pl = j_X12_reads_36 pl Mm1 ∧ Fr (ScW (B 1 10)) Mx Mx1 ∧ Fr ScMW Mm Mm1 ∧ Mm1 337 1 = 0 ∧ Mx1 (B 1 10) 6 = r ∧ Mx1 4 4 = Mm1 337 5 ∧ Mx1 4 5 = Mm1 337 6 ∧ ((r = 0 ∧ Mm1 337 5 ≠ 0) ∨ (r = 1 ∧ Mm1 337 5 = 0 ∧ ∃ T1 C1 k1 A0 B0 Mx0, JS (B 3) (B 2 1) (B 1 10) fl A0 B0 Mx0 Mm1 T1 C1 k1 k1 ∧ Mx1 = st Mx0 (B 1 10) 6 1)) := by
  have hs := h.ptr.1.2.2.1
  have ks := kd17 _ hs
  obtain ⟨T, M12, hT, eT, x12, ⟨v3, v2, v1, vn⟩, f12⟩ := x_start h.xb hs (1 - fl) (B 1 8)
  obtain ⟨Mb, eb, q1, ⟨b1, b2, b3, b4, b5, b6, b7⟩, fb⟩ := m_begins Mm
  have mp : MP (B 3) (B 2 1) Mb T := begins_mp h.tap (h.rm (by unfold ScM; omega)) (fun i => h.rm (by unfold ScM; omega)) q1 fb hT
  have hd := x12.1.hd
  have hn := x12.2.1
  have hJ : JS (B 3) (B 2 1) (B 1 10) fl Mb M12 M12 Mb T [] 0 0 := by
    refine ⟨x12, ⟨mp, by rw [b5]; rfl, trivial⟩, ⟨b7, v3⟩, ⟨by rw [v1]; rfl, b6, by decide⟩, by simp; omega, ⟨by omega, by omega, ?_⟩, fun _ => ?_, fun _ => ?_, Fr.rf _ _, Fr.rf _ _⟩
    · show (0 : Int) = Mb 362 0
      rw [b1]
    · rw [b2, vn]
      exact ⟨by decide, rfl, fun j j0 j1 => by omega⟩
    · rw [b3, b4, vn]
      exact ⟨by decide, rfl, fun j j0 j1 => by omega, rfl, by decide, b2, fun i i0 i1 => by omega⟩
  have hFU : FU = 1000000000 := rfl
  obtain ⟨r, M3, M4, e3, e4, q⟩ := j_loop hfl hpl (f_X5_readStatements 7) T.length FU FU M12 Mb T [] 0 hJ (Nat.le_refl _) (by omega) (by omega)
  have e3' : f_X5_readStatements 8 M12 0 = some (r, M3) := e3
  have em : f_X12_reads Mm pl = j_X12_reads_36 pl M4 := by
    unfold f_X12_reads
    rw [eb, cl_some]; exact e4
  have hr : r = 0 ∨ r = 1 := by rcases q with ⟨z, -⟩ | ⟨z, -⟩ <;> omega
  have ex : f_X5_takes Mx (1 - fl) (B 1 10) (B 1 8) = some (r, st M3 (B 1 10) 6 r) := by
    rw [eT, e3', cl_some, ok_t hr, bm_e, st_at, ok_t hr]
  have n4 : (4 : Int) ≠ B 1 10 := by omega
  refine ⟨r, _, M4, ex, em, ?_, ?_, ?_, st_at _ _ _ _, ?_, ?_, ?_⟩
  · have f3 : Fr (ScG (B 1 10)) M12 M3 := by
      rcases q with ⟨-, e, p, -, -, -, z⟩ | ⟨-, T1, C1, k1, z, -⟩
      · exact z
      · exact z.2.2.2.2.2.2.2.2.2
    exact Fr.st ((ScH_W f12).tr (ScG_W f3)) (by unfold ScW; omega)
  · have f4 : Fr ScJ Mb M4 := by
      rcases q with ⟨-, e, p, -, -, z, -⟩ | ⟨-, T1, C1, k1, z, -⟩
      · exact z
      · exact z.2.2.2.2.2.2.2.2.1
    exact (ScB_W fb).tr (ScJ_W f4)
  · have f4 : Fr ScJ Mb M4 := by
      rcases q with ⟨-, e, p, -, -, z, -⟩ | ⟨-, T1, C1, k1, z, -⟩
      · exact z
      · exact z.2.2.2.2.2.2.2.2.1
    rw [f4 337 1 (by unfold ScJ ScS; omega)]; exact q1.2.1
  · rw [st_neA n4]
    rcases q with ⟨-, e, p, x, m, -⟩ | ⟨-, T1, C1, k1, z, -⟩
    · rw [x.1, m.1]
    · rw [z.1.2.2.2.2.2.2.2.2.2.1, z.2.1.1.1]
  · rw [st_neA n4]
    rcases q with ⟨-, e, p, x, m, -⟩ | ⟨-, T1, C1, k1, z, -⟩
    · rw [x.2.1, m.2.1]
    · rw [z.1.2.2.2.2.2.2.2.2.2.2, z.2.1.1.2.2.2.2.2.2.2.2]
  · rcases q with ⟨rfl, e, p, x, m, -⟩ | ⟨rfl, T1, C1, k1, z, -⟩
    · exact Or.inl ⟨rfl, by rw [m.1]; exact m.2.2⟩
    · exact Or.inr ⟨rfl, z.2.1.1.1, T1, C1, k1, Mb, M12, M3, z, rfl⟩
end RD
