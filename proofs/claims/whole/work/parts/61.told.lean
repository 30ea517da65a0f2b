/-! an IMAGE read: what is told, alike -/
section ON
variable {A B Mx Mm : Mem}
theorem RR.updR {A1 B1 : Mem} (h : RR A B Mx Mm) (hA : Fr SimA A A1) (hB : Fr SimB B B1) (tap : TapR A1 B1) (flt : FltR A1 B1) (trs : TrsR A1 B1) (chr : ChrR A1 B1) (oct : OctR A1 B1) {Mx1 Mm1 : Mem} (fm : Fr ScM A1 Mm1) (fx : Fr (ScX (B 1 10)) B1 Mx1) (lc : Lcache (A 388) Mx1) : RR A1 B1 Mx1 Mm1 := by
  obtain ⟨c1, c2, c3, c4, c5⟩ := core_ext h hA hB
  have b10 : B1 1 10 = B 1 10 := hB 1 10 (by unfold SimB; omega)
  have e388 : A1 388 = A 388 := by funext i; exact hA 388 i (by unfold SimA; omega)
  exact ⟨⟨c1, tap, flt, c2, c3, trs, c4, c5, chr, oct⟩, fm, by rw [b10]; exact fx, by rw [e388]; exact lc⟩
/-- the tape emptied -/
theorem RR.empt (h : RR A B Mx Mm) : RR (st A 337 1 0) (st B 2 1 0) (st Mx 2 1 0) (st Mm 337 1 0) := by
  refine h.updR ((Fr.rf _ _).st (by unfold SimA; omega)) ((Fr.rf _ _).st (by unfold SimB; omega)) ?_ (h.flt.ext ?_ ?_ ?_ ?_) (h.trs.ext ?_ ?_ ?_ ?_ ?_ ?_) (h.chr.ext ?_ ?_ ?_) (h.oct.ext ?_ ?_ ?_ ?_) (fr_st2 h.fm _ _ _) (fr_st2 h.fx _ _ _) (lc_st h.lc (by omega))
  case refine_1 =>
    unfold TapR
    rw [st_at, st_at]
    exact ⟨rfl, ⟨by decide, by decide⟩, fun i i0 i1 => by omega⟩
  all_goals first | exact st_ne (by omega) | exact fun i => st_ne (by omega) | exact fun a i _ _ => st_ne (by omega) | exact fun i j _ _ => st_ne (by omega) | exact funext fun i => st_ne (by omega)
def okT (A : Mem) (p : Int) : Prop := A 338 p < A 372 1 ∧ A 338 (p + 1) < 96 ∧ A 338 (p + 2) ≤ 99 ∧ A 338 (p + 3) < A 374 (5 + A 338 p) ∧ A 338 (p + 4) < A 374 (5 + A 338 p) ∧ A 338 (p + 5) ≤ 3 ∧ A 338 (p + 6) ≤ 9 ∧ (A 338 (p + 7) = 255 ∨ A 338 (p + 7) < A 374 (5 + A 338 p))
def TpX (A : Mem) (L : Int) (M : Mem) : Prop := M 2 1 = L ∧ L ≤ 900 ∧ ∀ k, 0 ≤ k → k < L → M 3 k = A 338 k
theorem e_at {L : Int} {M : Mem} (h : TpX A L M) {k : Int} (k0 : 0 ≤ k) (k1 : k < L) : f_X9_at M k = some (A 338 k, M) := by
  obtain ⟨h1, h2, h3⟩ := h
  unfold f_X9_at
  rw [if_neg (by omega), h1, if_neg (by omega), ok_t ⟨k0, by omega⟩, h3 k k0 k1]
theorem RR.tp (h : RR A B Mx Mm) : TpX A (B 2 1) Mx := by
  obtain ⟨t1, t2, t3⟩ := h.tap
  exact ⟨h.rx (by omega) (by omega), t2.2, fun k k0 k1 => (h.rx (by omega) (by omega)).trans (t3 k k0 k1).1.symm⟩
theorem RR.tr (h : RR A B Mx Mm) {k : Int} (k0 : 0 ≤ k) (k1 : k < B 2 1) : 0 ≤ A 338 k ∧ A 338 k ≤ 255 := by
  obtain ⟨t1, t2, t3⟩ := h.tap
  obtain ⟨q1, q2, q3⟩ := t3 k k0 k1
  omega
theorem RR.xSort (h : RR A B Mx Mm) {t s : Int} (ht : isTh A t) (hs : 0 ≤ s) : ∃ q, f_X11_isSort Mx t s = some (q, Mx) ∧ ((q = 1 ∧ s < A 374 (5 + t)) ∨ (q = 0 ∧ ¬ s < A 374 (5 + t))) := by
  rcases h.isSort2 ht s with ⟨-, b, e, -⟩ | ⟨b, e, -⟩
  · exact ⟨1, e, Or.inl ⟨rfl, b⟩⟩
  · exact ⟨0, e, Or.inr ⟨rfl, fun q => b ⟨hs, q⟩⟩⟩
theorem RR.x_told (h : RR A B Mx Mm) {p : Int} (p0 : 0 ≤ p) (p7 : p + 7 < B 2 1) : ∃ q, f_X11_isTrial Mx p = some (q, Mx) ∧ ((q = 1 ∧ okT A p) ∨ (q = 0 ∧ ¬ okT A p)) := by
  have ht := h.tp
  have hl := ht.2.1
  have x8 : Mx 1 8 = B 1 8 := h.rx (by omega) (by omega)
  have hk := h.ptr.1.1
  have kk := kd17 _ hk
  have b0 := h.tr (k := p) (by omega) (by omega)
  have b2 := h.tr (k := p + 2) (by omega) (by omega)
  have b3 := h.tr (k := p + 3) (by omega) (by omega)
  have b4 := h.tr (k := p + 4) (by omega) (by omega)
  have b7 := h.tr (k := p + 7) (by omega) (by omega)
  unfold f_X11_isTrial okT
  rw [e_at ht (by omega) (by omega), cl_some, x8, ok_t hk, (SA.thg h.ptr h.fx) _ 3 (by omega) (by omega), h.thg.2.1]
  by_cases w0 : A 372 1 ≤ A 338 p
  · exact ⟨0, if_pos w0, Or.inr ⟨rfl, fun q => by omega⟩⟩
  have hT : isTh A (A 338 p) := ⟨b0.1, by omega⟩
  rw [if_neg w0, ok_t ⟨by omega, by omega⟩, e_at ht (by omega) (by omega), cl_some]
  by_cases w1 : 96 ≤ A 338 (p + 1)
  · exact ⟨0, if_pos w1, Or.inr ⟨rfl, fun q => by omega⟩⟩
  rw [if_neg w1, ok_t ⟨by omega, by omega⟩, e_at ht (by omega) (by omega), cl_some]
  obtain ⟨q2, e2, h2⟩ := xx_isBr Mx (A 338 (p + 2))
  rw [e2, cl_some]
  unfold isBr at h2
  rcases h2 with ⟨rfl, h2⟩ | ⟨rfl, h2⟩
  rotate_left
  · exact ⟨0, if_pos rfl, Or.inr ⟨rfl, fun q => by omega⟩⟩
  rw [if_neg (by decide), ok_t ⟨by omega, by omega⟩, e_at ht (by omega) (by omega), cl_some]
  obtain ⟨q3, e3, h3⟩ := h.xSort hT b3.1
  rw [e3, cl_some]
  rcases h3 with ⟨rfl, h3⟩ | ⟨rfl, h3⟩
  rotate_left
  · exact ⟨0, if_pos rfl, Or.inr ⟨rfl, fun q => h3 q.2.2.2.1⟩⟩
  rw [if_neg (by decide), ok_t ⟨by omega, by omega⟩, e_at ht (by omega) (by omega), cl_some]
  obtain ⟨q4, e4, h4⟩ := h.xSort hT b4.1
  rw [e4, cl_some]
  rcases h4 with ⟨rfl, h4⟩ | ⟨rfl, h4⟩
  rotate_left
  · exact ⟨0, if_pos rfl, Or.inr ⟨rfl, fun q => h4 q.2.2.2.2.1⟩⟩
  rw [if_neg (by decide), ok_t ⟨by omega, by omega⟩, e_at ht (by omega) (by omega), cl_some, ok_t ⟨by omega, by omega⟩, e_at ht (by omega) (by omega), cl_some]
  by_cases w5 : 3 < A 338 (p + 5)
  · exact ⟨0, if_pos w5, Or.inr ⟨rfl, fun q => by omega⟩⟩
  rw [if_neg w5, ok_t ⟨by omega, by omega⟩, e_at ht (by omega) (by omega), cl_some]
  by_cases w6 : 9 < A 338 (p + 6)
  · exact ⟨0, if_pos w6, Or.inr ⟨rfl, fun q => by omega⟩⟩
  rw [if_neg w6]
  by_cases w7 : A 338 (p + 7) = 255
  · exact ⟨1, if_pos w7, Or.inl ⟨rfl, by omega, by omega, by omega, h3, h4, by omega, by omega, Or.inl w7⟩⟩
  rw [if_neg w7]
  obtain ⟨q7, e7, h7⟩ := h.xSort hT b7.1
  rw [e7, cl_some]
  rcases h7 with ⟨rfl, h7⟩ | ⟨rfl, h7⟩
  · exact ⟨1, if_neg (by decide), Or.inl ⟨rfl, by omega, by omega, by omega, h3, h4, by omega, by omega, Or.inr h7⟩⟩
  · exact ⟨0, if_pos rfl, Or.inr ⟨rfl, fun q => q.2.2.2.2.2.2.2.elim w7 h7⟩⟩
/-- the model's, its tape emptied or not -/
theorem RR.m_told (h : RR A B Mx Mm) {T : Int → Int} (hT : ∀ k, Mm 338 k = T k) {p : Int} (p0 : 0 ≤ p) (p7 : p + 7 < 900) (hb : ∀ k, 0 ≤ k → k ≤ 7 → 0 ≤ T (p + k)) : ∃ q, f_X12_isTold Mm p = some (q, Mm) ∧ ((q = 1 ∧ okT A p) ∨ (q = 0 ∧ ¬ okT A p)) := by
  have e338 : ∀ k, Mm 338 k = A 338 k := fun k => h.rm (by unfold ScM; omega)
  have hz : ∀ k, 0 ≤ k → k ≤ 7 → 0 ≤ A 338 (p + k) := fun k k0 k1 => by rw [← e338, hT]; exact hb k k0 k1
  have z0 := hz 0 (by decide) (by decide)
  rw [Int.add_zero] at z0
  have z3 := hz 3 (by decide) (by decide)
  have z4 := hz 4 (by decide) (by decide)
  have z6 := hz 6 (by decide) (by decide)
  have z7 := hz 7 (by decide) (by decide)
  unfold f_X12_isTold okT
  simp only [e338]
  rw [ok_t ⟨by omega, by omega⟩, ok_t ⟨by omega, by omega⟩]
  by_cases w1 : 96 ≤ A 338 (p + 1)
  · exact ⟨0, if_pos w1, Or.inr ⟨rfl, fun q => by omega⟩⟩
  rw [if_neg w1, ok_t ⟨by omega, by omega⟩, ok_t ⟨by omega, by omega⟩]
  by_cases w2 : 99 < A 338 (p + 2)
  · exact ⟨0, if_pos w2, Or.inr ⟨rfl, fun q => by omega⟩⟩
  rw [if_neg w2, ok_t ⟨by omega, by omega⟩, ok_t ⟨by omega, by omega⟩]
  by_cases w5 : 3 < A 338 (p + 5)
  · exact ⟨0, if_pos w5, Or.inr ⟨rfl, fun q => by omega⟩⟩
  rw [if_neg w5, ok_t ⟨by omega, by omega⟩, ok_t ⟨by omega, by omega⟩, ok_t ⟨by omega, by omega⟩, ok_t ⟨by omega, by omega⟩]
  unfold f_X12_isTrial
  obtain ⟨q0, e0, h0⟩ := m_isTh h.fm h.thg (A 338 p)
  rw [e0, cl_some]
  rcases h0 with ⟨rfl, h0⟩ | ⟨rfl, h0⟩
  rotate_left
  · exact ⟨0, by rw [if_pos rfl, cl_some, if_pos rfl], Or.inr ⟨rfl, fun q => h0 ⟨z0, q.1⟩⟩⟩
  have hn := h.nt h0
  have hsr := h.sr h0
  have h0' := h0.2
  rw [if_neg (by decide), ok_t ⟨by omega, by omega⟩, ok_t ⟨by omega, by omega⟩, h.m374 h0, ok_t ⟨by omega, by omega⟩]
  obtain ⟨q3, e3, h3⟩ := e_isIn Mm (A 338 (p + 3)) 0 (A 374 (5 + A 338 p) - 1)
  rw [e3, cl_some]
  rcases h3 with ⟨rfl, h3⟩ | ⟨rfl, h3⟩
  rotate_left
  · exact ⟨0, by rw [if_pos rfl, cl_some, if_pos rfl], Or.inr ⟨rfl, fun q => by omega⟩⟩
  rw [if_neg (by decide), h.m374 h0, ok_t ⟨by omega, by omega⟩]
  obtain ⟨q4, e4, h4⟩ := e_isIn Mm (A 338 (p + 4)) 0 (A 374 (5 + A 338 p) - 1)
  rw [e4, cl_some]
  rcases h4 with ⟨rfl, h4⟩ | ⟨rfl, h4⟩
  rotate_left
  · exact ⟨0, by rw [if_pos rfl, cl_some, if_pos rfl], Or.inr ⟨rfl, fun q => by omega⟩⟩
  obtain ⟨q6, e6, h6⟩ := e_isIn Mm (A 338 (p + 6)) 0 9
  rw [if_neg (by decide), e6, cl_some]
  rcases h6 with ⟨rfl, h6⟩ | ⟨rfl, h6⟩
  rotate_left
  · exact ⟨0, by rw [if_pos rfl, cl_some, if_pos rfl], Or.inr ⟨rfl, fun q => by omega⟩⟩
  rw [if_neg (by decide), cl_some, if_neg (by decide), ok_t ⟨by omega, by omega⟩]
  simp only [e338]
  by_cases w7 : A 338 (p + 7) = 255
  · exact ⟨1, if_pos w7, Or.inl ⟨rfl, by omega, by omega, by omega, by omega, by omega, by omega, by omega, Or.inl w7⟩⟩
  rw [if_neg w7, ok_t ⟨by omega, by omega⟩, ok_t ⟨by omega, by omega⟩, h.m374 h0]
  by_cases w8 : A 374 (5 + A 338 p) ≤ A 338 (p + 7)
  · exact ⟨0, if_pos w8, Or.inr ⟨rfl, fun q => by omega⟩⟩
  · exact ⟨1, if_neg w8, Or.inl ⟨rfl, by omega, by omega, by omega, by omega, by omega, by omega, by omega, Or.inr (by omega)⟩⟩
end ON
