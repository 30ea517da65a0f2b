/-! what is told has: alike -/
section HS
variable {A B Mx Mm : Mem}
theorem cnt_su (f : Int → Int) {y : Int} (h : 0 ≤ y) : cnt f (y + 1).toNat = cnt f y.toNat + (if 0 < f y then 1 else 0) := by
  obtain ⟨n, rfl⟩ : ∃ n : Nat, y = n := ⟨y.toNat, by omega⟩
  rfl
theorem RR.m_lawsOn (h : RR A B Mx Mm) : wl2 b_X12_has_65 FU Mm 0 0 = some (cnt (A 386) 3, Mm) := by
  have key : Tt (wl2 b_X12_has_65 FU Mm 0 0) (fun r M1 => r = cnt (A 386) 3 ∧ M1 = Mm) := by
    refine tt_wl2 (fun M1 x y => M1 = Mm ∧ 0 ≤ y ∧ y ≤ 3 ∧ x = cnt (A 386) y.toNat) (fun _ _ y => (3 - y).toNat) ?_ FU Mm 0 0 ⟨rfl, by decide, by decide, rfl⟩ (by decide)
    intro w M1 x y hI k
    obtain ⟨hM, y0, y1, ex⟩ := hI
    have hc := cnt_rng (A 386) y.toNat
    unfold b_X12_has_65
    refine tt_if (fun c => ?_) (fun c => ?_)
    · have : y = 3 := by omega
      rw [ex, this]; exact tt_ret ⟨rfl, hM⟩
    · refine tt_ok ⟨by omega, by omega⟩ ?_
      have hy := (h.lws y y0 (by omega)).1
      rw [hM, h.rm (a := 386) (by unfold ScM; omega)]
      have e1 := cnt_su (A 386) y0
      refine tt_if (fun c2 => ?_) (fun c2 => ?_)
      · refine tt_bi (k Mm _ _ ⟨rfl, by omega, by omega, ?_⟩ (by omega))
        rw [e1, if_neg (by omega)]; omega
      · refine tt_ok ⟨by omega, by omega⟩ (tt_bi (tt_bi (k Mm _ _ ⟨rfl, by omega, by omega, ?_⟩ (by omega))))
        rw [e1, if_pos (by omega)]; omega
  obtain ⟨r, M1, e, hr, hM⟩ := key
  rw [e, hr, hM]
theorem RR.x_lawsOn (h : RR A B Mx Mm) : f_X11_lawsThatStand Mx = some (cnt (A 386) 3, Mx) := by
  have key : Tt (f_X11_lawsThatStand Mx) (fun r M1 => r = cnt (A 386) 3 ∧ M1 = Mx) := by
    unfold f_X11_lawsThatStand
    refine tt_wl2 (fun M1 x y => M1 = Mx ∧ 0 ≤ y ∧ y ≤ 3 ∧ x = cnt (A 386) y.toNat) (fun _ _ y => (3 - y).toNat) ?_ FU Mx 0 0 ⟨rfl, by decide, by decide, rfl⟩ (by decide)
    intro w M1 x y hI k
    obtain ⟨hM, y0, y1, ex⟩ := hI
    have hc := cnt_rng (A 386) y.toNat
    unfold b_X11_lawsThatStand_4
    refine tt_if (fun c => ?_) (fun c => ?_)
    · have : y = 3 := by omega
      rw [ex, this]; exact tt_ret ⟨rfl, hM⟩
    · have hk := h.ptr.law y0 (by omega)
      obtain ⟨hy, hb, -⟩ := h.lws y y0 (by omega)
      have hs : SA B Mx (B 68 y) := SA.of h.fx hk h.ptr.1.2.2.1 (h.ptr.2.2.2 y y0 (by omega)).2.2
      have kk := kd17 _ hk
      refine tt_ok ⟨by omega, by omega⟩ ?_
      rw [hM, h.rx (a := 68) (by omega) (by omega), hs (B 68 y) 6 (by omega) (by omega), hb]
      refine tt_ok hk ?_
      have e1 := cnt_su (A 386) y0
      refine tt_if (fun c2 => ?_) (fun c2 => ?_)
      · refine tt_ok ⟨by omega, by omega⟩ (tt_bi (tt_bi (k Mx _ _ ⟨rfl, by omega, by omega, ?_⟩ (by omega))))
        rw [e1, if_neg (by omega)]; omega
      · refine tt_ok ⟨by omega, by omega⟩ (tt_bi (tt_bi (k Mx _ _ ⟨rfl, by omega, by omega, ?_⟩ (by omega))))
        rw [e1, if_pos (by omega)]; omega
  obtain ⟨r, M1, e, hr, hM⟩ := key
  rw [e, hr, hM]
def wysA (A : Mem) (k : Int) : Int := if A 386 k = 0 then 0 else A 366 (2 + k)
theorem RR.x_ways (h : RR A B Mx Mm) {k : Int} (h0 : 0 ≤ k) (h3 : k < 3) : f_X11_waysOf Mx k = some (wysA A k, Mx) := by
  unfold f_X11_waysOf wysA
  obtain ⟨q, e, hq⟩ := x_lawAt h.ptr h.fx h.lws k
  have hb := (h.lws k h0 h3).1
  rw [e, cl_some]
  rcases hq with ⟨rfl, hl⟩ | ⟨rfl, hl⟩
  · obtain ⟨l1, l2, l3, l4, l5, l6⟩ := h.law hl
    have kk := kd17 _ l1
    rw [if_neg (by omega), ok_t l1, l2 _ 3 (by omega) (by omega), l5.1, if_neg (by have := hl.2; omega)]
  · have : A 386 k = 0 := by
      rcases hb with hb | hb
      · exact hb
      · exact absurd ⟨⟨h0, h3⟩, hb⟩ hl
    rw [if_pos rfl, if_pos this]
theorem RR.m_ways (h : RR A B Mx Mm) {k : Int} (h0 : 0 ≤ k) (h3 : k < 3) : j_X12_has_158 (6 + k) Mm = some (wysA A k, Mm) := by
  unfold j_X12_has_158 wysA
  rw [show 6 + k - 6 = k by omega, show 6 + k - 4 = 2 + k by omega, ok_t ⟨by omega, by omega⟩, ok_t ⟨h0, h3⟩, h.rm (a := 386) (by unfold ScM; omega), h.rm (a := 366) (by unfold ScM; omega)]
  by_cases w : A 386 k = 0
  · rw [if_pos w, if_pos w]
  · rw [if_neg w, if_neg w, ok_t ⟨by omega, by omega⟩, ok_t ⟨by omega, by omega⟩]
theorem J_has (h : R Mx Mm) (a1 : Int) : Jt (f_X11_has Mx a1) (f_X12_has Mm a1) := by
  obtain ⟨A, B, h⟩ := h
  obtain ⟨n1, n2, n3, n4⟩ := h.n79
  unfold f_X11_has f_X12_has
  by_cases w0 : a1 = 0
  · have x8 : Mx 1 8 = B 1 8 := h.rx (by omega) (by omega)
    have hk := h.ptr.1.1
    have kk := kd17 _ hk
    refine h.J (r := A 372 1) ?_ ?_
    · rw [if_pos w0, x8, ok_t hk, (SA.thg h.ptr h.fx) _ 3 (by omega) (by omega), h.thg.2.1]
    · rw [if_pos w0, h.rm (a := 372) (by unfold ScM; omega)]
  refine Jt.cg (if_neg w0) (if_neg w0) ?_
  by_cases w1 : a1 = 1
  · exact h.J (r := cnt (A 386) 3) (by rw [if_pos w1, h.x_lawsOn, cl_some]) (by rw [if_pos w1, h.m_lawsOn])
  refine Jt.cg (if_neg w1) (if_neg w1) ?_
  by_cases w2 : a1 = 2
  · exact h.J (r := A 337 79) (by rw [if_pos w2, n2]) (by rw [if_pos w2, n1])
  refine Jt.cg (if_neg w2) (if_neg w2) ?_
  by_cases w3 : a1 = 3
  · obtain ⟨c1, c2⟩ := h.chr
    refine h.J (r := cnt (A 403) 96) ?_ ?_
    · rw [if_pos w3, h.rx (a := 63) (by omega) (by omega), c2]
    · have e : Mm 403 = A 403 := funext fun i => h.rm (by unfold ScM; omega)
      rw [if_pos w3, e_has3, e]
      intro s s0 s1
      rw [e]; have := (c1 s s0 s1).2; omega
  refine Jt.cg (if_neg w3) (if_neg w3) ?_
  by_cases w4 : a1 = 4
  · obtain ⟨-, -, -, -, -, g6, -⟩ := h.fld
    refine h.J (r := cnt (A 388) 96) ?_ ?_
    · rw [if_pos w4, h.rx (a := 13) (by omega) (by omega), g6]
    · have e : Mm 388 = A 388 := funext fun i => h.rm (by unfold ScM; omega)
      rw [if_pos w4, e_has4, e]
  refine Jt.cg (if_neg w4) (if_neg w4) ?_
  by_cases w5 : a1 = 5
  · refine h.J (r := A 375 1) ?_ ?_
    · rw [if_pos w5, h.disc.1]
    · rw [if_pos w5, h.rm (a := 375) (by unfold ScM; omega)]
  refine Jt.cg (if_neg w5) (if_neg w5) ?_
  by_cases w6 : a1 = 6
  · exact h.J (r := wysA A 0) (by rw [if_pos w6, h.x_ways (by decide) (by decide), cl_some]) (by rw [if_pos w6, w6]; exact h.m_ways (k := 0) (by decide) (by decide))
  refine Jt.cg (if_neg w6) (if_neg w6) ?_
  by_cases w7 : a1 = 7
  · exact h.J (r := wysA A 1) (by rw [if_pos w7, h.x_ways (by decide) (by decide), cl_some]) (by rw [if_pos w7, w7]; exact h.m_ways (k := 1) (by decide) (by decide))
  refine Jt.cg (if_neg w7) (if_neg w7) ?_
  by_cases w8 : a1 = 8
  · exact h.J (r := wysA A 2) (by rw [if_pos w8, h.x_ways (by decide) (by decide), cl_some]) (by rw [if_pos w8, w8]; exact h.m_ways (k := 2) (by decide) (by decide))
  refine Jt.cg (if_neg w8) (if_neg w8) ?_
  by_cases w9 : a1 = 9
  · obtain ⟨Mm1, e, h1⟩ := h.m_showings
    have x9 : Mx 1 9 = B 1 9 := h.rx (by omega) (by omega)
    have hk := h.ptr.1.2.1
    have kk := kd17 _ hk
    have hs : SA B Mx (B 1 9) := SA.of h.fx hk h.ptr.1.2.2.1 h.ptr.2.1.2.2
    refine h1.J (r := if A 337 60 = 0 then 0 else B 1 13) ?_ ?_
    · rw [if_pos w9, x9, ok_t hk, hs _ 6 (by omega) (by omega), h.pln.2.1, h.rx (a := 1) (i := 13) (by omega) (by omega)]
      by_cases w : A 337 60 = 0
      · rw [if_pos w, if_pos w]
      · rw [if_neg w, if_neg w]
    · rw [if_pos w9, e, cl_some]
  exact h.J (r := -1) (if_neg w9) (if_neg w9)
end HS
