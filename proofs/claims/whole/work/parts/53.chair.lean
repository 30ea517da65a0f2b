/-! CHAIRS alike; what is counted -/
theorem cnt_cg {f g : Int → Int} : ∀ {n : Nat}, (∀ i : Nat, i < n → (0 < f i ↔ 0 < g i)) → cnt f n = cnt g n
  | 0, _ => rfl
  | n + 1, h => by
    have e := cnt_cg (n := n) (fun i hi => h i (by omega))
    have := h n (by omega)
    show cnt f n + _ = cnt g n + _
    rw [e]
    by_cases w : 0 < f n
    · rw [if_pos w, if_pos (this.mp w)]
    · rw [if_neg w, if_neg (fun q => w (this.mpr q))]
theorem cnt_upd {f g : Int → Int} {s : Nat} : ∀ {n : Nat}, s < n → (∀ i : Nat, i < n → i ≠ s → f i = g i) → cnt g n = cnt f n + bI (0 < g s) - bI (0 < f s)
  | 0, h, _ => absurd h (Nat.not_lt_zero _)
  | n + 1, h, k => by
    show cnt g n + _ = cnt f n + _ + _ - _
    by_cases e : s = n
    · subst e
      rw [cnt_cg (f := g) (g := f) (n := s) (fun i hi => by rw [k i (by omega) (by omega)])]
      unfold bI
      omega
    · rw [cnt_upd (f := f) (g := g) (s := s) (n := n) (by omega) (fun i hi he => k i (by omega) he), k n (by omega) (fun q => e q.symm)]
      omega
theorem e_has3 (M : Mem) (h : ∀ s, 0 ≤ s → s < 96 → 0 ≤ M 403 s) : wl2 b_X12_has_97 FU M 0 0 = some (cnt (M 403) 96, M) := by
  have key : Tt (wl2 b_X12_has_97 FU M 0 0) (fun r M1 => r = cnt (M 403) 96 ∧ M1 = M) := by
    refine tt_wl2 (fun M1 x y => M1 = M ∧ 0 ≤ y ∧ y ≤ 96 ∧ x = cnt (M 403) y.toNat) (fun _ _ y => (96 - y).toNat) ?_ FU M 0 0 ⟨rfl, by decide, by decide, rfl⟩ (by decide)
    intro w M1 x y hI k
    obtain ⟨rfl, y0, y1, ex⟩ := hI
    have hc := cnt_rng (M1 403) y.toNat
    unfold b_X12_has_97
    refine tt_if (fun c => ?_) (fun c => ?_)
    · have : y = 96 := by omega
      subst this; exact tt_ret ⟨ex, rfl⟩
    · refine tt_ok ⟨by omega, by omega⟩ ?_
      have e1 : cnt (M1 403) (y + 1).toNat = cnt (M1 403) y.toNat + (if 0 < M1 403 y then 1 else 0) := by
        obtain ⟨n, rfl⟩ : ∃ n : Nat, y = n := ⟨y.toNat, by omega⟩
        rfl
      have hy := h y y0 (by omega)
      refine tt_if (fun c2 => ?_) (fun c2 => ?_)
      · refine tt_bi (k M1 _ _ ⟨rfl, by omega, by omega, ?_⟩ (by omega))
        rw [e1, if_neg (by omega)]; omega
      · refine tt_ok ⟨by omega, by omega⟩ (tt_bi (tt_bi (k M1 _ _ ⟨rfl, by omega, by omega, ?_⟩ (by omega))))
        rw [e1, if_pos (by omega)]; omega
  obtain ⟨r, M1, e, hr, hM⟩ := key
  rw [e, hr, hM]
theorem e_has4 (M : Mem) : wl2 b_X12_has_125 FU M 0 0 = some (cnt (M 388) 96, M) := by
  have key : Tt (wl2 b_X12_has_125 FU M 0 0) (fun r M1 => r = cnt (M 388) 96 ∧ M1 = M) := by
    refine tt_wl2 (fun M1 x y => M1 = M ∧ 0 ≤ y ∧ y ≤ 96 ∧ x = cnt (M 388) y.toNat) (fun _ _ y => (96 - y).toNat) ?_ FU M 0 0 ⟨rfl, by decide, by decide, rfl⟩ (by decide)
    intro w M1 x y hI k
    obtain ⟨rfl, y0, y1, ex⟩ := hI
    have hc := cnt_rng (M1 388) y.toNat
    unfold b_X12_has_125
    refine tt_if (fun c => ?_) (fun c => ?_)
    · have : y = 96 := by omega
      subst this; exact tt_ret ⟨ex, rfl⟩
    · refine tt_ok ⟨by omega, by omega⟩ ?_
      have e1 : cnt (M1 388) (y + 1).toNat = cnt (M1 388) y.toNat + (if 0 < M1 388 y then 1 else 0) := by
        obtain ⟨n, rfl⟩ : ∃ n : Nat, y = n := ⟨y.toNat, by omega⟩
        rfl
      refine tt_if (fun c2 => ?_) (fun c2 => ?_)
      · refine tt_bi (k M1 _ _ ⟨rfl, by omega, by omega, ?_⟩ (by omega))
        rw [e1, if_neg (by omega)]; omega
      · refine tt_ok ⟨by omega, by omega⟩ (tt_bi (tt_bi (k M1 _ _ ⟨rfl, by omega, by omega, ?_⟩ (by omega))))
        rw [e1, if_pos (by omega)]; omega
  obtain ⟨r, M1, e, hr, hM⟩ := key
  rw [e, hr, hM]
theorem m_has3 (M : Mem) (h : ∀ s, 0 ≤ s → s < 96 → 0 ≤ M 403 s) : f_X12_has M 3 = some (cnt (M 403) 96, M) := by
  unfold f_X12_has
  rw [if_neg (by decide), if_neg (by decide), if_neg (by decide), if_pos rfl, e_has3 M h]
section CH
variable {A B Mx Mm : Mem}
theorem J_chair (h : R Mx Mm) (a1 a2 : Int) {a3 : Int} (h3 : a3 = 0 ∨ a3 = 1) : Jt (f_X11_chair Mx a1 a2 a3) (f_X12_chair Mm a1 a2 a3) := by
  obtain ⟨A, B, h⟩ := h
  unfold f_X11_chair f_X12_chair
  rcases h.sq2 a1 a2 with ⟨s, x1, m1, x2, i1, i2, s0, s1⟩ | ⟨s, x1, m1⟩
  · obtain ⟨c1, c2⟩ := h.chr
    obtain ⟨d1, d2⟩ := c1 _ s0 s1
    have x64 : Mx 64 (12 * a2 + a1) = B 64 (12 * a2 + a1) := h.rx (by omega) (by omega)
    have x63 : Mx 63 3 = B 63 3 := h.rx (by omega) (by omega)
    have m403 : ∀ i, Mm 403 i = A 403 i := fun i => h.rm (by unfold ScM; omega)
    rw [x1, m1, cl_some, cl_some]
    refine Jt.cg ((if_neg (by decide)).trans (by rw [x2, cl_some])) ((if_neg (by decide)).trans ((ok_t i1).trans ((ok_t i2).trans (ok_t ⟨s0, s1⟩)))) ?_
    unfold f_X1_putChair
    rw [ok_t ⟨s0, s1⟩, x64, d1, m403]
    by_cases w : A 403 (12 * a2 + a1) = a3
    · refine h.J (r := -1) ?_ (if_pos w)
      rw [if_pos w, cl_some, if_pos rfl]
    · generalize es : 12 * a2 + a1 = sq at *
      have hr := cnt_rng (A 403) 96
      have hup : cnt (st A 403 sq a3 403) 96 = B 63 3 + (if a3 = 0 then -1 else 1) := by
        obtain ⟨n, rfl⟩ : ∃ n : Nat, sq = n := ⟨sq.toNat, by omega⟩
        rw [cnt_upd (f := A 403) (g := st A 403 n a3 403) (s := n) (n := 96) (by omega) (fun i _ he => (st_neI (by omega)).symm), c2, st_at]
        unfold bI
        rcases h3 with rfl | rfl <;> rcases d2 with d2 | d2 <;> rw [d2] at w ⊢ <;> simp at w ⊢ <;> omega
      have hrn := cnt_rng (st A 403 sq a3 403) 96
      have ha : Fr SimA A (st A 403 sq a3) := (Fr.rf _ _).st (by unfold SimA; omega)
      have hb : ∀ v, Fr SimB B (st (st B 64 sq a3) 63 3 v) := fun v => ((Fr.rf _ _).st (by unfold SimB; omega)).st (by unfold SimB; omega)
      have fin : ∀ v, v = cnt (st A 403 sq a3 403) 96 → R (st (st Mx 64 sq a3) 63 3 v) (st Mm 403 sq a3) := by
        intro v hv
        refine h.upd ha (hb v) (h.tap.ext ?_ ?_ ?_ ?_) (h.flt.ext ?_ ?_ ?_ ?_) (h.trs.ext ?_ ?_ ?_ ?_ ?_ ?_) ?_ (h.oct.ext ?_ ?_ ?_ ?_) (fr_st2 h.fm _ _ _) (fr_st2 (fr_st2 h.fx _ _ _) _ _ _) (lc_st (lc_st h.lc (by omega)) (by omega))
        case refine_15 =>
          refine ⟨fun i i0 i1 => ?_, by rw [st_at, hv]⟩
          rw [st_neA (by decide)]
          by_cases ei : i = sq
          · subst ei; rw [st_at, st_at]; exact ⟨rfl, h3⟩
          · rw [st_neI ei, st_neI ei]; exact c1 i i0 i1
        all_goals first | (exact st_neA (by decide)) | (intro i; exact st_neA (by decide)) | (rw [st_neA (by decide), st_neA (by decide)]) | (intro i; rw [st_neA (by decide), st_neA (by decide)]) | (intro a i _ _; exact st_neA (by omega)) | (intro i j _ _; rw [st_neA (by omega), st_neA (by omega)])
      have hm : f_X12_has (st Mm 403 sq a3) 3 = some (cnt (st A 403 sq a3 403) 96, st Mm 403 sq a3) := by
        have e403 : st Mm 403 sq a3 403 = st A 403 sq a3 403 := by funext i; simp [st, m403]
        rw [m_has3, e403]
        intro i i0 i1
        rw [e403]
        by_cases ei : i = sq
        · subst ei; rw [st_at]; omega
        · rw [st_neI ei]; have := (c1 i i0 i1).2; omega
      have h3' := h3
      rcases h3' with e0 | e0
      · rw [if_pos e0] at hup
        refine ⟨B 63 3 + (-1), st (st Mx 64 sq a3) 63 3 (B 63 3 + (-1)), st Mm 403 sq a3, ?_, ?_, fin _ hup.symm⟩
        · rw [if_neg w, ok_t h3, bm_e, if_pos e0, st_neA (by decide), x63, ok_t ⟨by omega, by omega⟩, bm_e, cl_some, if_neg (by decide), st_at]
        · rw [if_neg w, ok_t h3, bm_e, hm, cl_some, hup]
      · rw [if_neg (by omega)] at hup
        refine ⟨B 63 3 + 1, st (st Mx 64 sq a3) 63 3 (B 63 3 + 1), st Mm 403 sq a3, ?_, ?_, fin _ hup.symm⟩
        · rw [if_neg w, ok_t h3, bm_e, if_neg (by omega), st_neA (by decide), x63, ok_t ⟨by omega, by omega⟩, bm_e, cl_some, if_neg (by decide), st_at]
        · rw [if_neg w, ok_t h3, bm_e, hm, cl_some, hup]
  · rw [x1, m1, cl_some, cl_some]; exact h.J (r := -1) (if_pos rfl) (if_pos rfl)
end CH
