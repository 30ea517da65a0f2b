/-! WALKS, alike -/
section WK
variable {A B Mx Mm : Mem}
theorem lc_fr {S : Int → Int → Prop} {g : Int → Int} {M M1 : Mem} (f : Fr S M M1) (hS : ∀ i, ¬ S 19 i ∧ ¬ S 20 i) (h : Lcache g M) : Lcache g M1 := by
  intro s s0 s1
  rw [f 20 _ (hS _).2, f 19 _ (hS _).1]
  exact h s s0 s1
theorem RR.walked (h : RR A B Mx Mm) (a1 a2 : Int) : ∃ Mx1 Mm1, f_X1_passed Mx a1 a2 = some (sm (vc (A 403) a1 a2 11) 8, Mx1) ∧ f_X12_walked Mm a1 a2 = some (sm (vc (A 403) a1 a2 11) 8, Mm1) ∧ RR A B Mx1 Mm1 := by
  have hx : ∀ s, 0 ≤ s → s < 96 → Mx 64 s = A 403 s := fun s s0 s1 => (h.rx (by omega) (by omega)).trans (h.chr.1 s s0 s1).1
  have hm : ∀ s, Mm 403 s = A 403 s := fun s => h.rm (by unfold ScM; omega)
  obtain ⟨r1, Mx1, e1, q1, f1⟩ := x_passed hx (a1 := a1) a2
  obtain ⟨r2, Mm1, e2, q2, f2⟩ := m_walked (a1 := a1) (a2 := a2) hm
  exact ⟨Mx1, Mm1, by rw [e1, q1], by rw [e2, q2], h.nx (f1.mono (fun a i q => by unfold S65 at q; unfold ScX; omega)) (f2.mono (fun a i q => by unfold S404 at q; unfold ScM; omega)) (lc_fr f1 (fun i => by unfold S65; omega) h.lc)⟩
theorem J_walks (h : R Mx Mm) (a1 : Int) : Jt (f_X11_walks Mx a1) (f_X12_walks Mm a1) := by
  obtain ⟨A, B, h⟩ := h
  unfold f_X11_walks f_X12_walks
  obtain ⟨q, e, hq⟩ := e_isIn Mm a1 0 7
  rw [e, cl_some]
  rcases hq with ⟨rfl, hq⟩ | ⟨rfl, hq⟩
  · obtain ⟨Mx1, Mm1, e1, e2, h1⟩ := h.walked a1 0
    have hn := vc_NN (A 403) a1 0 (n := 11) (by decide)
    have hr := sm_rng hn (x := 8) (by decide) (by decide)
    have hs : 0 ≤ sm (vc (A 403) a1 0 11) 8 ∧ sm (vc (A 403) a1 0 11) 8 ≤ 362797056 := ⟨hr.1, hn.2⟩
    refine h1.J (r := sm (vc (A 403) a1 0 11) 8) ?_ ?_
    · rw [if_neg (by omega), if_neg (by omega), e1, cl_some, ok_t ⟨by omega, by omega⟩]
    · rw [if_neg (by decide), e2, cl_some, ok_t ⟨by omega, by omega⟩]
  · refine h.J (r := -1) ?_ (if_pos rfl)
    by_cases w : a1 < 0
    · rw [if_pos w]
    · rw [if_neg w, if_pos (by omega)]
theorem J_walk (h : R Mx Mm) (a1 a2 : Int) : Jt (f_X11_walk Mx a1 a2) (f_X12_walk Mm a1 a2) := by
  obtain ⟨A, B, h⟩ := h
  unfold f_X11_walk f_X12_walk
  obtain ⟨q, e, hq⟩ := e_isIn Mm a1 0 7
  rw [e, cl_some]
  rcases hq with ⟨rfl, hq⟩ | ⟨rfl, hq⟩
  · obtain ⟨Mx1, Mm1, e1, e2, h1⟩ := h.walked a1 1
    have hn := vc_NN (A 403) a1 1 (n := 11) (by decide)
    have hr := sm_rng hn (x := 8) (by decide) (by decide)
    have hs : 0 ≤ sm (vc (A 403) a1 1 11) 8 ∧ sm (vc (A 403) a1 1 11) 8 ≤ 362797056 := ⟨hr.1, hn.2⟩
    generalize sm (vc (A 403) a1 1 11) 8 = t at *
    have hg := gcdV_rng hs.1 (by decide : (0 : Int) < 362797056) (by decide) (by omega)
    refine Jt.cg ((if_neg (by omega)).trans ((if_pos (by omega)).trans (by rw [e1, cl_some, x_common _ hs.1 (by decide) (by decide), cl_some]))) ((if_neg (by decide)).trans (by rw [e2, cl_some, m_common _ hs.1 (by decide) (by decide), cl_some])) ?_
    generalize gcdV t 362797056 = g at *
    have em : f_J9_max_f86c9 Mx1 1 g = some (g, Mx1) := by
      unfold f_J9_max_f86c9
      by_cases w : 1 < g
      · rw [if_pos w]
      · rw [if_neg w, show g = 1 by omega]
    unfold j_X11_walk_44
    rw [em, cl_some, cl_some]
    by_cases w : a2 = 0
    · exact h1.J (r := 362797056 / g) (by rw [if_pos w, ok_t ⟨by omega, by omega⟩]) (by rw [if_pos w, ok_t ⟨by omega, by omega⟩])
    · exact h1.J (r := t / g) (by rw [if_neg w, ok_t ⟨by omega, by omega⟩]) (by rw [if_neg w, ok_t ⟨by omega, by omega⟩])
  · refine h.J (r := -1) ?_ (if_pos rfl)
    by_cases w : a1 < 0
    · rw [if_pos w]
    · rw [if_neg w, if_neg (by omega)]
end WK
