/-! NAMES in both readers -/
def ScN (sp k w a i : Int) : Prop := ScQ sp a i ∨ (a = sp + 4 + k ∧ i = 1) ∨ (a = sp + 2 ∧ i = w) ∨ (a = sp ∧ i = 3)
theorem x_whichIs {M : Mem} {a w : Int} (hw : M a 3 = w ∧ 0 ≤ w ∧ w ≤ 5) (hn : ∀ j, 0 ≤ j → j < w → 0 ≤ M (a + 2) j ∧ M (a + 2) j < 40) (v : Int) : ∃ r, f_X7_whichIs M a v = some (r, M) ∧ ((r = -1 ∧ ∀ j, 0 ≤ j → j < w → M (a + 4 + M (a + 2) j) 1 ≠ v) ∨ ((0 ≤ r ∧ r < w) ∧ M (a + 4 + M (a + 2) r) 1 = v)) := by
  have key : Tt (f_X7_whichIs M a v) (fun r M1 => M1 = M ∧ ((r = -1 ∧ ∀ j, 0 ≤ j → j < w → M (a + 4 + M (a + 2) j) 1 ≠ v) ∨ ((0 ≤ r ∧ r < w) ∧ M (a + 4 + M (a + 2) r) 1 = v))) := by
    unfold f_X7_whichIs
    refine tt_wl1 (fun M1 x => M = M1 ∧ 0 ≤ x ∧ x ≤ w ∧ ∀ j, 0 ≤ j → j < x → M (a + 4 + M (a + 2) j) 1 ≠ v) (fun _ x => (w - x).toNat) ?_ FU M 0 ⟨rfl, by decide, by omega, fun j _ _ => by omega⟩ (by have : FU = 1000000000 := rfl; omega)
    rintro w' M1 x ⟨rfl, x0, x1, hx⟩ K
    unfold b_X7_whichIs_2
    rw [hw.1]
    refine tt_if (fun c => ?_) (fun c => ?_)
    · exact tt_ret ⟨rfl, Or.inl ⟨rfl, fun j j0 j1 => hx j j0 (by omega)⟩⟩
    · refine tt_ok ⟨by omega, by omega⟩ (tt_ok (hn x x0 (by omega)) (tt_if (fun c2 => ?_) (fun c2 => ?_)))
      · exact tt_ret ⟨rfl, Or.inr ⟨⟨x0, by omega⟩, c2⟩⟩
      · refine tt_bi (K _ _ ⟨rfl, by omega, by omega, fun j j0 j1 => ?_⟩ (by omega))
        by_cases e : j = x
        · rw [e]; exact c2
        · exact hx j j0 (by omega)
  obtain ⟨r, M1, e, rfl, q⟩ := key
  exact ⟨r, e, q⟩
section NM
variable {b : Int → Int} {n sp : Int} {M : Mem} {T : List Tok} {C : List Int}
def dupX (M : Mem) (sp w v : Int) : Prop := ∃ j, 0 ≤ j ∧ j < w ∧ M (sp + 4 + M (sp + 2) j) 1 = v
theorem x_name (h : XT b n sp M T C) : (hk T = 1 ∧ ∃ M1, f_X5_readName M = some (1, M1) ∧ XT b n sp M1 T.tail C ∧ Fr (ScQ sp) M M1) ∨ (hk T ≠ 1 ∧ ∃ M1, f_X5_readName M = some (0, M1) ∧ XE sp M1 1 (if hk T = 5 then hq T + 6 else hq T) ∧ Fr (ScQ sp) M M1) := by
  obtain ⟨k1, k2, k3, -⟩ := h.2.2.2.2.2.1
  have hd := h.1.hd.1
  have hn := h.2.1
  unfold f_X5_readName
  rw [k1, k3]
  by_cases e5 : hk T = 5
  · right
    obtain ⟨M1, e, x1, f1⟩ := x_ref h (k := 1) (by decide) (hq T + 6)
    rw [if_pos e5, if_pos e5, ok_t ⟨by omega, by omega⟩, e, cl_some, ok_t (Or.inl rfl)]
    exact ⟨by omega, M1, rfl, x1, f1⟩
  rw [if_neg e5, if_neg e5]
  by_cases e1 : hk T = 1
  · left
    obtain ⟨M1, e, x1, f1⟩ := x_step h (by omega)
    rw [if_pos e1, e, cl_some]
    exact ⟨e1, M1, rfl, x1, f1⟩
  · right
    obtain ⟨M1, e, x1, f1⟩ := x_ref h (k := 1) (by decide) (hq T)
    rw [if_neg e1, e, cl_some, ok_t (Or.inl rfl)]
    exact ⟨e1, M1, rfl, x1, f1⟩
theorem x_newName (h : XT b n sp M T C) {k w : Int} (hw : M sp 3 = w ∧ 0 ≤ w ∧ w ≤ 4) (hk1 : M sp 1 = k + 1 ∧ 0 ≤ k ∧ k < 40) (hn : ∀ j, 0 ≤ j → j < w → 0 ≤ M (sp + 2) j ∧ M (sp + 2) j < 40) : (hk T = 1 ∧ ¬ dupX M sp w (hv T) ∧ ∃ M1, f_X5_readNewName M = some (1, M1) ∧ XT b n sp M1 T.tail C ∧ (M1 (sp + 4 + k) 1 = hv T ∧ M1 (sp + 2) w = k ∧ M1 sp 3 = w + 1) ∧ Fr (ScN sp k w) M M1) ∨ (hk T = 1 ∧ dupX M sp w (hv T) ∧ ∃ M1, f_X5_readNewName M = some (0, M1) ∧ XE sp M1 3 (hq T) ∧ Fr (ScN sp k w) M M1) ∨ (hk T ≠ 1 ∧ ∃ M1, f_X5_readNewName M = some (0, M1) ∧ XE sp M1 1 (if hk T = 5 then hq T + 6 else hq T) ∧ Fr (ScN sp k w) M M1) := by
  obtain ⟨k1, k2, k3, -⟩ := h.2.2.2.2.2.1
  have ks := kd17 sp h.2.2.1.2
  have fN : ∀ {M1 M2 : Mem}, Fr (ScQ sp) M1 M2 → Fr (ScN sp k w) M1 M2 := fun f => f.mono (fun a i q => Or.inl q)
  unfold f_X5_readNewName
  show _ ∨ _ ∨ _
  have e0 : ∀ K : Int → Int → Res, (bi (M 4 8) (fun y1 => bi (M 4 9) (fun y2 => K y1 y2))) = K (hv T) (hq T) := fun K => by rw [k2, k3]; rfl
  rw [e0]
  rcases x_name h with ⟨c, M1, e, x1, f1⟩ | ⟨c, M1, e, x1, f1⟩
  · have same : ∀ a i, sp + 1 ≤ a → a ≤ sp + 43 → a ≠ sp + 3 → M1 a i = M a i := fun a i _ _ _ => f1 a i (by unfold ScQ; omega)
    have s13 : M1 sp 1 = k + 1 ∧ M1 sp 3 = w := ⟨(f1 sp 1 (by unfold ScQ; omega)).trans hk1.1, (f1 sp 3 (by unfold ScQ; omega)).trans hw.1⟩
    have sj : ∀ j, M1 (sp + 2) j = M (sp + 2) j := fun j => same _ j (by omega) (by omega) (by omega)
    obtain ⟨r, e2, hr⟩ := x_whichIs (M := M1) (a := sp) (w := w) ⟨s13.2, hw.2.1, by omega⟩ (fun j j0 j1 => by rw [sj]; exact hn j j0 j1) (hv T)
    rw [e, cl_some, if_neg (by decide), x1.2.2.1.1, ok_t x1.2.2.1.2, e2, cl_some]
    have dj : ∀ j, 0 ≤ j → j < w → M1 (sp + 4 + M1 (sp + 2) j) 1 = M (sp + 4 + M (sp + 2) j) 1 := fun j j0 j1 => by
      have := hn j j0 j1
      rw [sj, same _ 1 (by omega) (by omega) (by omega)]
    rcases hr with ⟨rfl, hr⟩ | ⟨hr, hr2⟩
    · left
      rw [if_pos rfl, x1.2.2.1.1, ok_t x1.2.2.1.2]
      have x2 : XT b n sp (st (st (st M1 (sp + 4 + k) 1 (hv T)) (sp + 2) w k) sp 3 (w + 1)) T.tail C := ((x1.ot (by omega)).ot (by omega)).ot (by omega)
      have ep : f_X7_putName M1 sp (hv T) = some (0, st (st (st M1 (sp + 4 + k) 1 (hv T)) (sp + 2) w k) sp 3 (w + 1)) := by
        unfold f_X7_putName
        rw [s13.1, s13.2, if_neg (by omega), if_neg (by omega), ok_t ⟨by omega, by omega⟩, ok_t ⟨by omega, by omega⟩, show k + 1 - 1 = k by omega, bm_e, st_neA (show sp ≠ sp + 4 + k by omega), s13.1, ok_t ⟨by omega, by omega⟩, st_neA (show sp ≠ sp + 4 + k by omega), s13.2, ok_t ⟨by omega, by omega⟩, show k + 1 - 1 = k by omega, bm_e, st_neA (show sp ≠ sp + 2 by omega), st_neA (show sp ≠ sp + 4 + k by omega), s13.2, ok_t ⟨by omega, by omega⟩, bm_e]
      refine ⟨c, ?_, _, by rw [ep, cl_some], x2, ⟨?_, ?_, st_at _ _ _ _⟩, ?_⟩
      · rintro ⟨j, j0, j1, ej⟩
        exact hr j j0 j1 (by rw [dj j j0 j1]; exact ej)
      · rw [st_neA (by omega), st_neA (by omega), st_at]
      · rw [st_neA (by omega), st_at]
      · exact Fr.st (Fr.st (Fr.st (fN f1) (Or.inr (Or.inl ⟨rfl, rfl⟩))) (Or.inr (Or.inr (Or.inl ⟨rfl, rfl⟩)))) (Or.inr (Or.inr (Or.inr ⟨rfl, rfl⟩)))
    · right; left
      obtain ⟨M3, e3, x3, f3⟩ := x_ref x1 (k := 3) (by decide) (hq T)
      rw [if_neg (by omega), e3, cl_some, ok_t (Or.inl rfl)]
      exact ⟨c, ⟨r, hr.1, hr.2, by rw [← dj r hr.1 hr.2]; exact hr2⟩, M3, rfl, x3, fN (f1.tr f3)⟩
  · right; right
    rw [e, cl_some, if_pos rfl]
    exact ⟨c, M1, rfl, x1, fN f1⟩
theorem m_dupW {k : Int} (hk : 0 ≤ k ∧ k ≤ 4) : ∀ (d F : Nat) (M : Mem) (i : Int), M 337 5 = 0 → 0 ≤ i → k - i = d → d + 1 < F → ((∃ j, i ≤ j ∧ j < k ∧ M 367 j = M 367 k) ∧ wl2 b_X12_wayTold_31 F M k i = j_X12_wayTold_74 (st (st M 337 5 3) 337 6 (M 337 30)) k) ∨ ((¬ ∃ j, i ≤ j ∧ j < k ∧ M 367 j = M 367 k) ∧ wl2 b_X12_wayTold_31 F M k i = j_X12_wayTold_74 M k)
  | 0, F, M, i, h5, i0, hd, hF => by
    obtain ⟨G, rfl⟩ : ∃ G, F = G + 1 := ⟨F - 1, by omega⟩
    right
    refine ⟨by rintro ⟨j, j0, j1, -⟩; omega, ?_⟩
    rw [wl2_s]
    unfold b_X12_wayTold_31
    rw [if_pos (by omega)]
  | d + 1, F, M, i, h5, i0, hd, hF => by
    obtain ⟨G, rfl⟩ : ∃ G, F = G + 1 + 1 := ⟨F - 2, by omega⟩
    have e0 : wl2 b_X12_wayTold_31 (G + 1 + 1) M k i = if M 367 i = M 367 k then wl2 b_X12_wayTold_31 (G + 1) (st (st M 337 5 3) 337 6 (M 337 30)) k (i + 1) else wl2 b_X12_wayTold_31 (G + 1) M k (i + 1) := by
      rw [wl2_s]
      show b_X12_wayTold_31 (wl2 b_X12_wayTold_31 (G + 1)) M k i = _
      generalize wl2 b_X12_wayTold_31 (G + 1) = w
      unfold b_X12_wayTold_31
      rw [if_neg (by omega), if_pos h5, ok_t ⟨by omega, by omega⟩, ok_t ⟨by omega, by omega⟩, m_fail h5, cl_some]
      rfl
    rw [e0]
    by_cases c : M 367 i = M 367 k
    · left
      refine ⟨⟨i, Int.le_refl _, by omega, c⟩, ?_⟩
      rw [if_pos c, wl2_s]
      unfold b_X12_wayTold_31
      by_cases c2 : k ≤ i + 1
      · rw [if_pos c2]
      · rw [if_neg c2, if_neg (by rw [(me_fail (by decide)).1]; decide)]
    · rw [if_neg c]
      rcases m_dupW hk d (G + 1) M (i + 1) h5 (by omega) (by omega) (by omega) with ⟨⟨j, j0, j1, ej⟩, e⟩ | ⟨q, e⟩
      · exact Or.inl ⟨⟨j, by omega, j1, ej⟩, e⟩
      · right
        refine ⟨?_, e⟩
        rintro ⟨j, j0, j1, ej⟩
        by_cases z : j = i
        · rw [z] at ej; exact c ej
        · exact q ⟨j, by omega, j1, ej⟩
theorem m_dupT {k : Int} (hk : 0 ≤ k ∧ k ≤ 4) : ∀ (d F : Nat) (M : Mem) (i : Int), M 337 5 = 0 → 0 ≤ i → k - i = d → d + 1 < F → ((∃ j, i ≤ j ∧ j < k ∧ M 373 j = M 373 k) ∧ wl2 b_X12_thingTold_31 F M k i = j_X12_thingTold_74 (st (st M 337 5 3) 337 6 (M 337 30)) k) ∨ ((¬ ∃ j, i ≤ j ∧ j < k ∧ M 373 j = M 373 k) ∧ wl2 b_X12_thingTold_31 F M k i = j_X12_thingTold_74 M k)
  | 0, F, M, i, h5, i0, hd, hF => by
    obtain ⟨G, rfl⟩ : ∃ G, F = G + 1 := ⟨F - 1, by omega⟩
    right
    refine ⟨by rintro ⟨j, j0, j1, -⟩; omega, ?_⟩
    rw [wl2_s]
    unfold b_X12_thingTold_31
    rw [if_pos (by omega)]
  | d + 1, F, M, i, h5, i0, hd, hF => by
    obtain ⟨G, rfl⟩ : ∃ G, F = G + 1 + 1 := ⟨F - 2, by omega⟩
    have e0 : wl2 b_X12_thingTold_31 (G + 1 + 1) M k i = if M 373 i = M 373 k then wl2 b_X12_thingTold_31 (G + 1) (st (st M 337 5 3) 337 6 (M 337 30)) k (i + 1) else wl2 b_X12_thingTold_31 (G + 1) M k (i + 1) := by
      rw [wl2_s]
      show b_X12_thingTold_31 (wl2 b_X12_thingTold_31 (G + 1)) M k i = _
      generalize wl2 b_X12_thingTold_31 (G + 1) = w
      unfold b_X12_thingTold_31
      rw [if_neg (by omega), if_pos h5, ok_t ⟨by omega, by omega⟩, ok_t ⟨by omega, by omega⟩, m_fail h5, cl_some]
      rfl
    rw [e0]
    by_cases c : M 373 i = M 373 k
    · left
      refine ⟨⟨i, Int.le_refl _, by omega, c⟩, ?_⟩
      rw [if_pos c, wl2_s]
      unfold b_X12_thingTold_31
      by_cases c2 : k ≤ i + 1
      · rw [if_pos c2]
      · rw [if_neg c2, if_neg (by rw [(me_fail (by decide)).1]; decide)]
    · rw [if_neg c]
      rcases m_dupT hk d (G + 1) M (i + 1) h5 (by omega) (by omega) (by omega) with ⟨⟨j, j0, j1, ej⟩, e⟩ | ⟨q, e⟩
      · exact Or.inl ⟨⟨j, by omega, j1, ej⟩, e⟩
      · right
        refine ⟨?_, e⟩
        rintro ⟨j, j0, j1, ej⟩
        by_cases z : j = i
        · rw [z] at ej; exact c ej
        · exact q ⟨j, by omega, j1, ej⟩
theorem m_isHere0b (h : M 337 5 ≠ 0) (a : Int) : f_X12_isHere M a = some (0, M) := by
  unfold f_X12_isHere
  rw [if_neg h]
theorem m_takes0 (h : M 337 5 ≠ 0) (a : Int) : f_X12_takes M a = some (0, M) := by
  unfold f_X12_takes
  rw [m_isHere0b h, cl_some, if_pos rfl]
theorem m_asks0 (h : M 337 5 ≠ 0) (a : Int) : f_X12_asks M a = some (0, M) := by
  unfold f_X12_asks
  rw [if_neg h]
theorem m_asksSign0 (h : M 337 5 ≠ 0) (a : Int) : f_X12_asksSign M a = some (0, M) := by
  unfold f_X12_asksSign
  rw [if_neg h]
theorem m_number0 (h : M 337 5 ≠ 0) (lo hi : Int) : f_X12_number M lo hi = some (0, M) := by
  unfold f_X12_number
  rw [if_neg h]
/-- what the reading of a STATEMENT may write in the reference -/
def ScJ (a i : Int) : Prop := ScS a i ∨ (a = 337 ∧ (i = 36 ∨ i = 52)) ∨ ((a = 362 ∨ a = 366 ∨ a = 372 ∨ a = 375) ∧ i = 0) ∨ ((363 ≤ a ∧ a ≤ 365) ∧ 0 ≤ i ∧ i < 40) ∨ (((367 ≤ a ∧ a ≤ 371) ∨ a = 373 ∨ a = 374) ∧ 0 ≤ i ∧ i < 5)
theorem ScS_J {M M1 : Mem} (f : Fr ScS M M1) : Fr ScJ M M1 := f.mono (fun a i h => Or.inl h)
theorem ScJ_M {M M1 : Mem} (f : Fr ScJ M M1) : Fr ScM M M1 := f.mono (fun a i h => by unfold ScJ ScS at h; unfold ScM; omega)
theorem m_wayBad {k p w : Int} (h : ME M k p) (hw : M 366 0 = w ∧ 0 ≤ w ∧ w ≤ 4) : ∃ M1, j_X12_wayTold_74 M w = some (0, M1) ∧ ME M1 k p ∧ M1 337 36 = M 337 36 ∧ Fr ScJ M M1 := by
  have hne : M 337 5 ≠ 0 := by rw [h.1]; exact h.2.2
  have sS : ∀ (x : Mem) (a i v j : Int), a ≠ 337 → st x a i v 337 j = x 337 j := fun x a i v j ha => st_neA (by omega)
  have h3 : ∀ (x : Mem) (j : Int), j ≠ 34 → j ≠ 35 → j ≠ 51 → st (st (st x 337 34 0) 337 35 (x 337 52)) 337 51 0 337 j = x 337 j := fun x j j1 j2 j3 => by rw [st_neI j3, st_neI j2, st_neI j1]
  unfold j_X12_wayTold_74
  rw [m_takes0 hne, cl_some, ok_t ⟨by omega, by omega⟩, ok_t (Or.inl rfl), bm_e, st_at, if_pos rfl]
  have n1 : st M 368 w 0 337 5 ≠ 0 := by rw [sS _ _ _ _ _ (by decide)]; exact hne
  rw [m_asks0 n1, cl_some]
  unfold j_X12_wayTold_105
  rw [ok_t ⟨by omega, by omega⟩, bm_e]
  have n2 : st (st M 368 w 0) 369 w (st M 368 w 0 337 32) 337 5 ≠ 0 := by rw [sS _ _ _ _ _ (by decide)]; exact n1
  rw [m_rSum0 n2, cl_some, bm_e]
  have n3 : ∀ v, st (st (st (st (st (st M 368 w 0) 369 w (st M 368 w 0 337 32)) 337 34 0) 337 35 (st (st M 368 w 0) 369 w (st M 368 w 0 337 32) 337 52)) 337 51 0) 370 w v 337 5 ≠ 0 := by
    intro v
    rw [sS _ _ _ _ _ (by decide), h3 _ 5 (by decide) (by decide) (by decide)]; exact n2
  rw [m_rTest0 (n3 _), cl_some, bm_e]
  have e366 : ∀ v v2, st (st (st (st (st (st (st M 368 w 0) 369 w (st M 368 w 0 337 32)) 337 34 0) 337 35 (st (st M 368 w 0) 369 w (st M 368 w 0 337 32) 337 52)) 337 51 0) 370 w v) 371 w v2 366 0 = w := by
    intro v v2
    rw [st_neA (by decide), st_neA (by decide), st_neA (by decide), st_neA (by decide), st_neA (by decide), st_neA (by decide), st_neA (by decide)]; exact hw.1
  rw [e366, ok_t ⟨by omega, by omega⟩, bm_e]
  have e337 : ∀ (v v2 v3 : Int) (j : Int), j ≠ 34 → j ≠ 35 → j ≠ 51 → st (st (st (st (st (st (st (st M 368 w 0) 369 w (st M 368 w 0 337 32)) 337 34 0) 337 35 (st (st M 368 w 0) 369 w (st M 368 w 0 337 32) 337 52)) 337 51 0) 370 w v) 371 w v2) 366 0 v3 337 j = M 337 j := by
    intro v v2 v3 j j1 j2 j3
    rw [sS _ _ _ _ _ (by decide), sS _ _ _ _ _ (by decide), sS _ _ _ _ _ (by decide), h3 _ j j1 j2 j3, sS _ _ _ _ _ (by decide), sS _ _ _ _ _ (by decide)]
  refine ⟨_, rfl, ⟨?_, ?_, h.2.2⟩, ?_, ?_⟩
  · rw [e337 _ _ _ 5 (by decide) (by decide) (by decide)]; exact h.1
  · rw [e337 _ _ _ 6 (by decide) (by decide) (by decide)]; exact h.2.1
  · rw [e337 _ _ _ 36 (by decide) (by decide) (by decide)]
  · exact Fr.st (Fr.st (Fr.st (Fr.st (Fr.st (Fr.st (Fr.st (Fr.st (Fr.rf _ _) (by unfold ScJ; omega)) (by unfold ScJ; omega)) (by unfold ScJ ScS; omega)) (by unfold ScJ ScS; omega)) (by unfold ScJ ScS; omega)) (by unfold ScJ; omega)) (by unfold ScJ; omega)) (by unfold ScJ; omega)
theorem m_thBad {k p w : Int} (h : ME M k p) (hw : M 372 0 = w ∧ 0 ≤ w ∧ w ≤ 4) : ∃ M1, j_X12_thingTold_74 M w = some (0, M1) ∧ ME M1 k p ∧ M1 337 36 = M 337 36 ∧ Fr ScJ M M1 := by
  have hne : M 337 5 ≠ 0 := by rw [h.1]; exact h.2.2
  unfold j_X12_thingTold_74
  rw [m_number0 hne, cl_some, ok_t ⟨by omega, by omega⟩, bm_e, st_neA (by decide), hw.1, ok_t ⟨by omega, by omega⟩, bm_e]
  refine ⟨_, rfl, ⟨?_, ?_, h.2.2⟩, ?_, ?_⟩
  · rw [st_neA (by decide), st_neA (by decide)]; exact h.1
  · rw [st_neA (by decide), st_neA (by decide)]; exact h.2.1
  · rw [st_neA (by decide), st_neA (by decide)]
  · exact Fr.st (Fr.st (Fr.rf _ _) (by unfold ScJ; omega)) (by unfold ScJ; omega)
end NM
