/-! the model's WALKS -/
def S404 (a _i : Int) : Prop := a = 404 ∨ a = 405
/-- what came from the rows before q -/
def prtW (ch : Int → Int) (a2 col : Int) (v : Int → Int) (q r : Int) : Int := if ch (12 * r + col) = 0 then (if r - 1 < q then cof a2 v (r - 1) else 0) + (if r < q then cof a2 v r else 0) + (if r + 1 < q then cof a2 v (r + 1) else 0) else 0
theorem prtW_0 (ch : Int → Int) (a2 col : Int) (v : Int → Int) {r : Int} (h : 0 ≤ r) : prtW ch a2 col v 0 r = 0 := by
  have e : cof a2 v (r - 1) = 0 ∨ 0 ≤ r - 1 := by
    by_cases w : 0 ≤ r - 1
    · exact Or.inr w
    · left; unfold cof; rw [if_neg (by omega)]
  unfold prtW
  split
  · rcases e with e | e
    · rw [e, if_neg (show ¬ r < 0 by omega), if_neg (show ¬ r + 1 < 0 by omega)]; split <;> rfl
    · rw [if_neg (show ¬ r - 1 < 0 by omega), if_neg (show ¬ r < 0 by omega), if_neg (show ¬ r + 1 < 0 by omega)]; rfl
  · rfl
theorem prtW_8 (ch : Int → Int) (a2 col : Int) (v : Int → Int) {r : Int} (h : r < 8) : prtW ch a2 col v 8 r = stp ch a2 col v r := by
  have e : cof a2 v (r + 1) = 0 ∨ r + 1 < 8 := by
    by_cases w : r + 1 < 8
    · exact Or.inr w
    · left; unfold cof; rw [if_neg (by omega)]
  unfold prtW stp
  split
  · rw [if_pos (show r - 1 < 8 by omega)]
    rcases e with e | e
    · rw [e]; split <;> rfl
    · rw [if_pos e]
  · rfl
theorem prtW_f (ch : Int → Int) (a2 col : Int) (v : Int → Int) {q r : Int} (h : r < q - 1 ∨ q + 1 < r) : prtW ch a2 col v (q + 1) r = prtW ch a2 col v q r := by
  unfold prtW
  split
  · rcases h with h | h
    · rw [if_pos (show r - 1 < q + 1 by omega), if_pos (show r < q + 1 by omega), if_pos (show r + 1 < q + 1 by omega), if_pos (show r - 1 < q by omega), if_pos (show r < q by omega), if_pos (show r + 1 < q by omega)]
    · rw [if_neg (show ¬ r - 1 < q + 1 by omega), if_neg (show ¬ r < q + 1 by omega), if_neg (show ¬ r + 1 < q + 1 by omega), if_neg (show ¬ r - 1 < q by omega), if_neg (show ¬ r < q by omega), if_neg (show ¬ r + 1 < q by omega)]
  · rfl
theorem prtW_n (ch : Int → Int) (a2 col : Int) (v : Int → Int) {q r : Int} (h : q - 1 ≤ r ∧ r ≤ q + 1) : prtW ch a2 col v (q + 1) r = (if ch (12 * r + col) = 0 then prtW ch a2 col v q r + cof a2 v q else prtW ch a2 col v q r) := by
  have : r = q - 1 ∨ r = q ∨ r = q + 1 := by omega
  unfold prtW
  by_cases w : ch (12 * r + col) = 0
  · rw [if_pos w, if_pos w, if_pos w]
    rcases this with e | e | e
    · rw [if_pos (show r - 1 < q + 1 by omega), if_pos (show r < q + 1 by omega), if_pos (show r + 1 < q + 1 by omega), if_pos (show r - 1 < q by omega), if_pos (show r < q by omega), if_neg (show ¬ r + 1 < q by omega), show r + 1 = q by omega]; omega
    · rw [if_pos (show r - 1 < q + 1 by omega), if_pos (show r < q + 1 by omega), if_neg (show ¬ r + 1 < q + 1 by omega), if_pos (show r - 1 < q by omega), if_neg (show ¬ r < q by omega), if_neg (show ¬ r + 1 < q by omega), e]; omega
    · rw [if_pos (show r - 1 < q + 1 by omega), if_neg (show ¬ r < q + 1 by omega), if_neg (show ¬ r + 1 < q + 1 by omega), if_neg (show ¬ r - 1 < q by omega), if_neg (show ¬ r < q by omega), if_neg (show ¬ r + 1 < q by omega), show r - 1 = q by omega]; omega
  · rw [if_neg w, if_neg w, if_neg w]
theorem prtW_rng {v : Int → Int} (h : NN v) (ch : Int → Int) (a2 col q r : Int) : 0 ≤ prtW ch a2 col v q r ∧ prtW ch a2 col v q r ≤ 9 * 362797056 := by
  have := cof_rng h a2 (r - 1)
  have := cof_rng h a2 r
  have := cof_rng h a2 (r + 1)
  unfold prtW
  split
  · split <;> split <;> split <;> omega
  · omega
section MW
variable {M0 : Mem} {ch : Int → Int} {a1 a2 : Int}
def QW (ch : Int → Int) (a1 a2 : Int) (M0 : Mem) (r : Int) (M1 : Mem) : Prop := r = sm (vc ch a1 a2 11) 8 ∧ Fr S404 M0 M1
/-- a column, scattered -/
theorem m_scat {v : Int → Int} (h : NN v) (hc : ∀ s, M0 403 s = ch s) {col : Int} (h0 : 1 ≤ col ∧ col < 12) {w44 : Mem → Int → Res} (hw : ∀ M1, Fr S404 M0 M1 → (∀ i, 0 ≤ i → i < 8 → M1 404 i = stp ch a2 col v i) → Tt (w44 M1 (col + 1)) (QW ch a1 a2 M0)) {M2 : Mem} (f2 : Fr S404 M0 M2) (hv : ∀ i, 0 ≤ i → i < 8 → M2 404 i = v i) (hz : ∀ i, 0 ≤ i → i < 8 → M2 405 i = 0) : Tt (wl2 (b_X12_walked_77 a2 w44) FU M2 col 0) (QW ch a1 a2 M0) := by
  refine tt_wl2 (fun M1 c x => Fr S404 M0 M1 ∧ c = col ∧ 0 ≤ x ∧ x ≤ 8 ∧ (∀ i, 0 ≤ i → i < 8 → M1 404 i = v i) ∧ ∀ i, 0 ≤ i → i < 8 → M1 405 i = prtW ch a2 col v x i) (fun _ _ x => (8 - x).toNat) ?_ FU M2 col 0 ⟨f2, rfl, by decide, by decide, hv, fun i h1 h2 => by rw [hz i h1 h2, prtW_0 _ _ _ _ h1]⟩ (by decide)
  intro w77 M1 c x hI k
  obtain ⟨f, rfl, x0, x1, i1, i2⟩ := hI
  unfold b_X12_walked_77
  refine tt_if (fun c1 => ?_) (fun c1 => ?_)
  · have e8 : x = 8 := by omega
    subst e8
    refine tt_wl2 (fun M3 c' y => Fr S404 M0 M3 ∧ c' = c ∧ 0 ≤ y ∧ y ≤ 8 ∧ (∀ i, 0 ≤ i → i < y → M3 404 i = stp ch a2 c v i) ∧ ∀ i, 0 ≤ i → i < 8 → M3 405 i = stp ch a2 c v i) (fun _ _ y => (8 - y).toNat) ?_ FU M1 c 0 ⟨f, rfl, by decide, by decide, fun i _ _ => by omega, fun i h1 h2 => by rw [i2 i h1 h2, prtW_8 _ _ _ _ h2]⟩ (by decide)
    intro w M3 c' y hI3 k3
    obtain ⟨f3, rfl, y0, y1, j1, j2⟩ := hI3
    unfold b_X12_walked_193
    refine tt_if (fun c2 => ?_) (fun c2 => ?_)
    · exact tt_ok ⟨by omega, by omega⟩ (tt_bi (hw M3 f3 (fun i h1 h2 => j1 i h1 (by omega))))
    · refine tt_ok ⟨y0, by omega⟩ (tt_bm (tt_bi (k3 _ _ _ ⟨f3.st (Or.inl rfl), rfl, by omega, by omega, fun i h1 h2 => ?_, fun i h1 h2 => ?_⟩ (by omega))))
      · by_cases e : i = y
        · subst e; rw [st_at]; exact j2 i h1 (by omega)
        · rw [st_neI e]; exact j1 i h1 (by omega)
      · rw [st_neA (by decide)]; exact j2 i h1 h2
  · have hx := h.le x0 (by omega : x < 8)
    have inner : ∀ u, u = cof a2 v x → Tt (wl4 (b_X12_walked_129 a2 w44 w77) FU M1 c x u (x - 1)) (QW ch a1 a2 M0) := by
      intro u hu
      have hcr := cof_rng h a2 x
      refine tt_wl4 (fun M3 c' x' u' y => Fr S404 M0 M3 ∧ c' = c ∧ x' = x ∧ u' = u ∧ x - 1 ≤ y ∧ y ≤ x + 2 ∧ (∀ i, 0 ≤ i → i < 8 → M3 404 i = v i) ∧ ∀ i, 0 ≤ i → i < 8 → M3 405 i = if i < y then prtW ch a2 c v (x + 1) i else prtW ch a2 c v x i) (fun _ _ _ _ y => (x + 2 - y).toNat) ?_ FU M1 c x u (x - 1) ⟨f, rfl, rfl, rfl, by omega, by omega, i1, fun i h1 h2 => ?_⟩ (by have : FU = 1000000000 := rfl; omega)
      · intro w M3 c' x' u' y hI3 k3
        obtain ⟨f3, rfl, rfl, rfl, y0, y1, j1, j2⟩ := hI3
        unfold b_X12_walked_129
        refine tt_ok ⟨by omega, by omega⟩ (tt_if (fun c2 => ?_) (fun c2 => ?_))
        · refine tt_bi (k _ _ _ ⟨f3, rfl, by omega, by omega, j1, fun i h1 h2 => ?_⟩ (by omega))
          rw [j2 i h1 h2]
          by_cases e : i < y
          · rw [if_pos e]
          · rw [if_neg e, prtW_f _ _ _ _ (by omega)]
        · obtain ⟨q, eq, hq⟩ := e_isIn M3 y 0 7
          rw [eq, cl_some]
          rcases hq with ⟨rfl, hq⟩ | ⟨rfl, hq⟩
          · have e403 : M3 403 (12 * y + c') = ch (12 * y + c') := (f3 _ _ (by unfold S404; omega)).trans (hc _)
            have hp := prtW_rng h ch a2 c' x' y
            have ey := j2 y hq.1 (by omega)
            rw [if_neg (by omega)] at ey
            refine tt_in (by decide) (tt_ok ⟨by omega, by omega⟩ (tt_ok ⟨by omega, by omega⟩ (tt_ok ⟨by omega, by omega⟩ ?_)))
            rw [e403, ey]
            refine tt_if (fun c3 => ?_) (fun c3 => ?_)
            · refine tt_ok ⟨by omega, by omega⟩ (tt_ok ⟨by omega, by omega⟩ (tt_bm (tt_bi (k3 _ _ _ _ _ ⟨f3.st (Or.inr rfl), rfl, rfl, rfl, by omega, by omega, fun i h1 h2 => ?_, fun i h1 h2 => ?_⟩ (by omega)))))
              · rw [st_neA (by decide)]; exact j1 i h1 h2
              · by_cases e : i = y
                · subst e; rw [st_at, if_pos (by omega), prtW_n _ _ _ _ ⟨by omega, by omega⟩, if_pos c3, hu]
                · rw [st_neI e, j2 i h1 h2]
                  by_cases e2 : i < y
                  · rw [if_pos e2, if_pos (by omega)]
                  · rw [if_neg e2, if_neg (by omega)]
            · refine tt_ok ⟨by omega, by omega⟩ (tt_bi (k3 _ _ _ _ _ ⟨f3, rfl, rfl, rfl, by omega, by omega, j1, fun i h1 h2 => ?_⟩ (by omega)))
              rw [j2 i h1 h2]
              by_cases e : i = y
              · subst e; rw [if_neg (by omega), if_pos (by omega), prtW_n _ _ _ _ ⟨by omega, by omega⟩, if_neg c3]
              · by_cases e2 : i < y
                · rw [if_pos e2, if_pos (by omega)]
                · rw [if_neg e2, if_neg (by omega)]
          · refine tt_ip rfl (tt_ok ⟨by omega, by omega⟩ (tt_bi (k3 _ _ _ _ _ ⟨f3, rfl, rfl, rfl, by omega, by omega, j1, fun i h1 h2 => ?_⟩ (by omega))))
            rw [j2 i h1 h2]
            by_cases e2 : i < y
            · rw [if_pos e2, if_pos (by omega)]
            · rw [if_neg e2, if_neg (by omega)]
      · rw [i2 i h1 h2]
        by_cases e : i < x - 1
        · rw [if_pos e, prtW_f _ _ _ _ (by omega)]
        · rw [if_neg e]
    rw [i1 x x0 (by omega)]
    have ec : cof a2 v x = (if a2 = 0 then v x else if x = 0 ∨ x = 7 then 3 * v x else 2 * v x) := if_pos ⟨x0, by omega⟩
    refine tt_ok ⟨x0, by omega⟩ (tt_if (fun c2 => ?_) (fun c2 => ?_))
    · exact tt_ok ⟨by omega, by omega⟩ (tt_bi (tt_bi (inner _ (by rw [ec, if_pos c2]; omega))))
    · refine tt_if (fun c3 => ?_) (fun c3 => ?_)
      · exact tt_ok ⟨by omega, by omega⟩ (tt_bi (tt_bi (inner _ (by rw [ec, if_neg c2, if_pos (Or.inl c3)]; omega))))
      · refine tt_if (fun c4 => ?_) (fun c4 => ?_)
        · exact tt_ok ⟨by omega, by omega⟩ (tt_bi (tt_bi (inner _ (by rw [ec, if_neg c2, if_pos (Or.inr c4)]; omega))))
        · exact tt_ok ⟨by omega, by omega⟩ (tt_bi (tt_bi (inner _ (by rw [ec, if_neg c2, if_neg (by omega)]; omega))))
theorem m_sum {v : Int → Int} (h : NN v) (hv : ∀ i, 0 ≤ i → i < 8 → M0 404 i = v i) : wl2 b_X12_walked_231 FU M0 0 0 = some (sm v 8, M0) := by
  have key : Tt (wl2 b_X12_walked_231 FU M0 0 0) (fun r M1 => r = sm v 8 ∧ M1 = M0) := by
    refine tt_wl2 (fun M1 s x => M1 = M0 ∧ 0 ≤ x ∧ x ≤ 8 ∧ s = sm v x.toNat) (fun _ _ x => (8 - x).toNat) ?_ FU M0 0 0 ⟨rfl, by decide, by decide, rfl⟩ (by decide)
    intro w M1 s x hI k
    obtain ⟨hM, x0, x1, i1⟩ := hI
    have hr := sm_rng h x0 x1
    unfold b_X12_walked_231
    refine tt_if (fun c => ?_) (fun c => ?_)
    · rw [i1, show x = 8 by omega]; exact tt_ret ⟨rfl, hM⟩
    · have := h.le x0 (by omega : x < 8)
      have e := sm_su v x0
      rw [hM, hv x x0 (by omega)]
      exact tt_ok ⟨x0, by omega⟩ (tt_ok ⟨by omega, by omega⟩ (tt_bi (tt_bi (k _ _ _ ⟨rfl, by omega, by omega, by omega⟩ (by omega)))))
  obtain ⟨r, M1, e, hr, hM⟩ := key
  rw [e, hr, hM]
theorem m_walked (hc : ∀ s, M0 403 s = ch s) : Tt (f_X12_walked M0 a1 a2) (QW ch a1 a2 M0) := by
  unfold f_X12_walked
  refine tt_wl1 (fun M1 x => Fr S404 M0 M1 ∧ 0 ≤ x ∧ x ≤ 8 ∧ ∀ i, 0 ≤ i → i < x → M1 404 i = vc ch a1 a2 0 i) (fun _ x => (8 - x).toNat) ?_ FU M0 0 ⟨Fr.rf _ _, by decide, by decide, fun i _ _ => by omega⟩ (by decide)
  intro w M1 x hI k
  obtain ⟨f, x0, x1, i1⟩ := hI
  have e0 : ∀ r, vc ch a1 a2 0 r = if r = a1 ∧ ch (12 * r) = 0 then 1 else 0 := fun _ => rfl
  unfold b_X12_walked_2
  refine tt_if (fun c => ?_) (fun c => ?_)
  · refine tt_wl1 (fun M2 y => Fr S404 M0 M2 ∧ 1 ≤ y ∧ y ≤ 12 ∧ ∀ i, 0 ≤ i → i < 8 → M2 404 i = vc ch a1 a2 (y - 1).toNat i) (fun _ y => (12 - y).toNat) ?_ FU M1 1 ⟨f, by decide, by decide, fun i h1 h2 => i1 i h1 (by omega)⟩ (by decide)
    intro w44 M2 y hI2 k2
    obtain ⟨f2, y0, y1, i2⟩ := hI2
    have hn := vc_NN ch a1 a2 (n := (y - 1).toNat) (by omega)
    unfold b_X12_walked_44
    refine tt_if (fun c2 => ?_) (fun c2 => ?_)
    · rw [m_sum hn i2, show (y - 1).toNat = 11 by omega]
      exact tt_ret ⟨rfl, f2⟩
    · have nx : ∀ M3, Fr S404 M0 M3 → (∀ i, 0 ≤ i → i < 8 → M3 404 i = stp ch a2 y (vc ch a1 a2 (y - 1).toNat) i) → Tt (w44 M3 (y + 1)) (QW ch a1 a2 M0) := by
        intro M3 f3 h3
        refine k2 _ _ ⟨f3, by omega, by omega, fun i h1 h2 => ?_⟩ (by omega)
        rw [h3 i h1 h2, show (y + 1 - 1).toNat = (y - 1).toNat + 1 by omega]
        show _ = stp ch a2 (((y - 1).toNat + 1 : Nat) : Int) _ i
        rw [show (((y - 1).toNat + 1 : Nat) : Int) = y by omega]
      refine tt_wl2 (fun M3 c' z => Fr S404 M0 M3 ∧ c' = y ∧ 0 ≤ z ∧ z ≤ 8 ∧ (∀ i, 0 ≤ i → i < 8 → M3 404 i = vc ch a1 a2 (y - 1).toNat i) ∧ ∀ i, 0 ≤ i → i < z → M3 405 i = 0) (fun _ _ z => (8 - z).toNat) ?_ FU M2 y 0 ⟨f2, rfl, by decide, by decide, i2, fun i _ _ => by omega⟩ (by decide)
      intro w53 M3 c' z hI3 k3
      obtain ⟨f3, rfl, z0, z1, j1, j2⟩ := hI3
      unfold b_X12_walked_53
      refine tt_if (fun c3 => ?_) (fun c3 => ?_)
      · exact m_scat hn hc ⟨y0, by omega⟩ nx f3 j1 (fun i h1 h2 => j2 i h1 (by omega))
      · refine tt_ok ⟨z0, by omega⟩ (tt_bm (tt_bi (k3 _ _ _ ⟨f3.st (Or.inr rfl), rfl, by omega, by omega, fun i h1 h2 => ?_, fun i h1 h2 => ?_⟩ (by omega))))
        · rw [st_neA (by decide)]; exact j1 i h1 h2
        · by_cases e : i = z
          · subst e; rw [st_at]
          · rw [st_neI e]; exact j2 i h1 (by omega)
  · have put : ∀ u : Int, vc ch a1 a2 0 x = u → Tt (w (st M1 404 x u) (x + 1)) (QW ch a1 a2 M0) := by
      intro u hu
      refine k _ _ ⟨f.st (Or.inl rfl), by omega, by omega, fun i h1 h2 => ?_⟩ (by omega)
      by_cases e : i = x
      · subst e; rw [st_at, hu]
      · rw [st_neI e]; exact i1 i h1 (by omega)
    refine tt_if (fun c1 => ?_) (fun c1 => ?_)
    · have e403 : M1 403 (12 * x) = ch (12 * x) := (f _ _ (by unfold S404; omega)).trans (hc _)
      rw [e403]
      refine tt_ok ⟨by omega, by omega⟩ (tt_ok ⟨by omega, by omega⟩ (tt_if (fun c2 => ?_) (fun c2 => ?_)))
      · exact tt_ok ⟨x0, by omega⟩ (tt_bm (tt_bi (put 1 (by rw [e0, if_pos ⟨c1, c2⟩]))))
      · exact tt_ok ⟨x0, by omega⟩ (tt_bm (tt_bi (put 0 (by rw [e0, if_neg (fun q => c2 q.2)]))))
    · exact tt_ok ⟨x0, by omega⟩ (tt_bm (tt_bi (put 0 (by rw [e0, if_neg (fun q => c1 q.1)]))))
end MW
