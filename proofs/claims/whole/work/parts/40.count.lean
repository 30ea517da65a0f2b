/-! counts over TRIALS, alike -/
def fld {σ : Type} (f : Int → σ → σ) (s : σ) : Nat → σ
  | 0 => s
  | n + 1 => f n (fld f s n)
theorem fld_succ {σ : Type} (f : Int → σ → σ) (s : σ) (i : Int) (h : 0 ≤ i) : fld f s (i + 1).toNat = f i (fld f s i.toNat) := by
  obtain ⟨n, rfl⟩ : ∃ n : Nat, i = n := ⟨i.toNat, by omega⟩
  rfl
theorem fld_inv {σ : Type} (P : Nat → σ → Prop) (f : Int → σ → σ) (s : σ) (h0 : P 0 s) (hs : ∀ n s, P n s → P (n + 1) (f n s)) : ∀ n, P n (fld f s n)
  | 0 => h0
  | n + 1 => hs n _ (fld_inv P f s h0 hs n)
section QC
variable {A B Mx Mm : Mem}
def whr (A : Mem) (i w : Int) : Int := if w = 0 then 1 else if w = 1 then A 397 i else if w = 2 then bI (A 397 i = 0) else if w = 3 then bI (A 388 (A 393 i) = 0 ∧ A 393 i ≠ A 375 1) else if w = 4 then bI (A 393 i = A 375 1) else if w = 5 then bI (A 394 i = 0) else if w = 6 then isl A (A 393 i) else if w = 7 then bI (5 ≤ A 400 i) else if w = 8 then A 398 i else bI (A 399 i = A 396 i)
theorem isl_01 (A : Mem) (s : Int) : isl A s = 0 ∨ isl A s = 1 := by
  unfold isl; split
  · exact Or.inl rfl
  · exact bI_01
theorem RR.x_where (h : RR A B Mx Mm) {i w : Int} (h0 : 0 ≤ i) (h1 : i < A 337 79) (hw : 0 ≤ w ∧ w ≤ 9) : f_X11_isWhere Mx (23 + i) w = some (whr A i w, Mx) := by
  obtain ⟨h2, ha, hx⟩ := h.tx h0 h1
  obtain ⟨x0, x1, x2, x3, x4, x5, x6, x7, x8⟩ := id hx
  obtain ⟨-, b1, -, -, -, b5, b6, -, -⟩ := ha
  unfold f_X11_isWhere whr
  by_cases w0 : w = 0
  · rw [if_pos w0, if_pos w0]
  · rw [if_neg w0, if_neg w0]
    by_cases w1 : w = 1
    · rw [if_pos w1, if_pos w1, x5, ok_t b5]
    · rw [if_neg w1, if_neg w1]
      by_cases w2 : w = 2
      · rw [if_pos w2, if_pos w2, x5]; unfold bI; split <;> rfl
      · rw [if_neg w2, if_neg w2]
        by_cases w3 : w = 3
        · rw [if_pos w3, if_pos w3, x1, h.x_gone b1, cl_some, ok_t bI_01]
        · rw [if_neg w3, if_neg w3]
          by_cases w4 : w = 4
          · rw [if_pos w4, if_pos w4, x1, h.disc.1]; unfold bI; split <;> rfl
          · rw [if_neg w4, if_neg w4]
            by_cases w5 : w = 5
            · rw [if_pos w5, if_pos w5, x2]; unfold bI; split <;> rfl
            · rw [if_neg w5, if_neg w5]
              by_cases w6 : w = 6
              · rw [if_pos w6, if_pos w6, x1, ok_t b1, h.x_isl b1, cl_some, ok_t (isl_01 _ _)]
              · rw [if_neg w6, if_neg w6]
                by_cases w7 : w = 7
                · rw [if_pos w7, if_pos w7, x6]
                  by_cases z : A 400 i < 5
                  · rw [if_pos z, bI_f (by omega)]
                  · rw [if_neg z, bI_t (by omega)]
                · rw [if_neg w7, if_neg w7]
                  by_cases w8 : w = 8
                  · rw [if_pos w8, if_pos w8, x7, ok_t b6]
                  · rw [if_neg w8, if_neg w8, if_pos (by omega), x_led hx, cl_some, ok_t bI_01]
theorem RR.m_where (h : RR A B Mx Mm) {i w : Int} (h0 : 0 ≤ i) (h1 : i < A 337 79) : f_X12_isWhere Mm i w = some (whr A i w, Mm) := by
  obtain ⟨h2, ha, -⟩ := h.tx h0 h1
  obtain ⟨-, b1, -, -, -, b5, b6, -, -⟩ := ha
  have g : ∀ a : Int, 392 ≤ a → a ≤ 400 → Mm a i = A a i := fun a a0 a1 => h.mt i ⟨a0, a1⟩
  unfold f_X12_isWhere whr
  by_cases w0 : w = 0
  · rw [if_pos w0, if_pos w0]
  · rw [if_neg w0, if_neg w0]
    by_cases w1 : w = 1
    · rw [if_pos w1, if_pos w1, ok_t ⟨h0, h2⟩, g 397 (by omega) (by omega), ok_t b5]
    · rw [if_neg w1, if_neg w1]
      by_cases w2 : w = 2
      · rw [if_pos w2, if_pos w2, ok_t ⟨h0, h2⟩, g 397 (by omega) (by omega)]; unfold bI; split <;> rfl
      · rw [if_neg w2, if_neg w2]
        by_cases w3 : w = 3
        · rw [if_pos w3, if_pos w3, h.m_gone h0 h1, cl_some, ok_t bI_01]
        · rw [if_neg w3, if_neg w3]
          by_cases w4 : w = 4
          · rw [if_pos w4, if_pos w4, ok_t ⟨h0, h2⟩, g 393 (by omega) (by omega), h.disc.2]; unfold bI; split <;> rfl
          · rw [if_neg w4, if_neg w4]
            by_cases w5 : w = 5
            · rw [if_pos w5, if_pos w5, ok_t ⟨h0, h2⟩, g 394 (by omega) (by omega)]; unfold bI; split <;> rfl
            · rw [if_neg w5, if_neg w5]
              by_cases w6 : w = 6
              · rw [if_pos w6, if_pos w6, ok_t ⟨h0, h2⟩, g 393 (by omega) (by omega), h.m_isl b1, cl_some, ok_t (isl_01 _ _)]
              · rw [if_neg w6, if_neg w6]
                by_cases w7 : w = 7
                · rw [if_pos w7, if_pos w7, ok_t ⟨h0, h2⟩, g 400 (by omega) (by omega)]
                  by_cases z : A 400 i < 5
                  · rw [if_pos z, bI_f (by omega)]
                  · rw [if_neg z, bI_t (by omega)]
                · rw [if_neg w7, if_neg w7]
                  by_cases w8 : w = 8
                  · rw [if_pos w8, if_pos w8, ok_t ⟨h0, h2⟩, g 398 (by omega) (by omega), ok_t b6]
                  · rw [if_neg w8, if_neg w8, h.m_led h0 h1, cl_some, ok_t bI_01]
def ofT (A : Mem) (i t : Int) : Prop := t = -1 ∨ A 392 i = t
theorem x_of {M : Mem} {i : Int} (h : TrlX A M i) (t : Int) : ∃ q, f_X10_isOf M (23 + i) t = some (q, M) ∧ ((q = 1 ∧ ofT A i t) ∨ (q = 0 ∧ ¬ ofT A i t)) := by
  obtain ⟨x0, -⟩ := h
  unfold f_X10_isOf ofT
  rw [x0]
  by_cases w : t = -1
  · rw [if_pos w]; exact ⟨1, rfl, Or.inl ⟨rfl, Or.inl w⟩⟩
  · rw [if_neg w]
    by_cases w2 : t = A 392 i
    · rw [if_pos w2]; exact ⟨1, rfl, Or.inl ⟨rfl, Or.inr w2.symm⟩⟩
    · rw [if_neg w2]; exact ⟨0, rfl, Or.inr ⟨rfl, fun z => z.elim w (fun z => w2 z.symm)⟩⟩
theorem RR.m_of (h : RR A B Mx Mm) {i : Int} (h0 : 0 ≤ i) (h1 : i < 40) (t : Int) : ∃ q, f_X12_isOf Mm i t = some (q, Mm) ∧ ((q = 1 ∧ ofT A i t) ∨ (q = 0 ∧ ¬ ofT A i t)) := by
  unfold f_X12_isOf ofT
  rw [h.mt (a := 392) i (by omega)]
  by_cases w : t = -1
  · rw [if_pos w]; exact ⟨1, rfl, Or.inl ⟨rfl, Or.inl w⟩⟩
  · rw [if_neg w, ok_t ⟨h0, h1⟩]
    by_cases w2 : A 392 i = t
    · rw [if_pos w2]; exact ⟨1, rfl, Or.inl ⟨rfl, Or.inr w2⟩⟩
    · rw [if_neg w2]; exact ⟨0, rfl, Or.inr ⟨rfl, fun z => z.elim w w2⟩⟩
def isTA (A : Mem) (t : Int) : Prop := t = -1 ∨ isTh A t
theorem RR.ta2 (h : RR A B Mx Mm) (t : Int) : (isTA A t ∧ f_X11_isThingOrAll Mx t = some (1, Mx) ∧ (t = -1 ∨ (t ≠ -1 ∧ f_X12_isThing Mm t = some (1, Mm)))) ∨ (¬ isTA A t ∧ f_X11_isThingOrAll Mx t = some (0, Mx) ∧ t ≠ -1 ∧ f_X12_isThing Mm t = some (0, Mm)) := by
  obtain ⟨q, e, hq⟩ := m_isTh h.fm h.thg t
  have hT := h.thg.1
  have e3 : Mx (B 1 8) 3 = A 372 1 := by rw [(SA.thg h.ptr h.fx) _ 3 (by omega) (by omega), h.thg.2.1]
  unfold f_X11_isThingOrAll isTA
  rw [h.rx (a := 1) (i := 8) (by omega) (by omega), ok_t h.ptr.1.1, e3]
  rcases hq with ⟨rfl, hq⟩ | ⟨rfl, hq⟩
  · left
    obtain ⟨t0, t1⟩ := id hq
    refine ⟨Or.inr hq, by rw [if_neg (by omega), if_neg (by omega)], Or.inr ⟨by omega, e⟩⟩
  · by_cases w : t = -1
    · left
      refine ⟨Or.inl w, by rw [if_neg (by omega), if_neg (by omega)], Or.inl w⟩
    · right
      refine ⟨fun z => z.elim w hq, ?_, w, e⟩
      by_cases w2 : t < -1
      · rw [if_pos w2]
      · rw [if_neg w2, if_pos]
        apply Classical.byContradiction
        intro z
        exact hq ⟨by omega, by omega⟩
noncomputable def cntF (A : Mem) (t w r : Int) (i s : Int) : Int := haveI := Classical.propDecidable (ofT A i t ∧ whr A i w ≠ 0 ∧ (r = 0 ∨ A 395 i = A 396 i)); if ofT A i t ∧ whr A i w ≠ 0 ∧ (r = 0 ∨ A 395 i = A 396 i) then s + 1 else s
theorem cntF_t {t w r i s : Int} (h : ofT A i t ∧ whr A i w ≠ 0 ∧ (r = 0 ∨ A 395 i = A 396 i)) : cntF A t w r i s = s + 1 := by unfold cntF; rw [if_pos h]
theorem cntF_f {t w r i s : Int} (h : ¬ (ofT A i t ∧ whr A i w ≠ 0 ∧ (r = 0 ∨ A 395 i = A 396 i))) : cntF A t w r i s = s := by unfold cntF; rw [if_neg h]
theorem cntF_rng (A : Mem) (t w r : Int) (n : Nat) : 0 ≤ fld (cntF A t w r) 0 n ∧ fld (cntF A t w r) 0 n ≤ n := by
  refine fld_inv (fun n s => 0 ≤ s ∧ s ≤ (n : Int)) _ _ ⟨Int.le_refl 0, Int.le_refl 0⟩ (fun n s hs => ?_) n
  by_cases h : ofT A n t ∧ whr A n w ≠ 0 ∧ (r = 0 ∨ A 395 n = A 396 n)
  · rw [cntF_t h]; omega
  · rw [cntF_f h]; omega
theorem J_count (h : R Mx Mm) (a1 a2 a3 : Int) : Jt (f_X11_count Mx a1 a2 a3) (f_X12_count Mm a1 a2 a3) := by
  obtain ⟨A, B, h⟩ := h
  obtain ⟨n1, n2, n3, n4⟩ := h.n79
  have nopx : ∀ q, f_X11_isThingOrAll Mx a1 = some (q, Mx) → q = 0 ∨ ¬ (0 ≤ a2 ∧ a2 ≤ 9) → f_X11_count Mx a1 a2 a3 = some (-1, Mx) := by
    intro q e hq
    unfold f_X11_count
    rw [e, cl_some]
    by_cases w : q = 0
    · rw [if_pos w]
    · rw [if_neg w]
      by_cases w2 : a2 < 0
      · rw [if_pos w2]
      · rw [if_neg w2, if_neg (by omega)]
  rcases h.ta2 a1 with ⟨t, e1, e2⟩ | ⟨t, e1, e2, e3⟩
  · obtain ⟨q, e, hq⟩ := e_isIn Mm a2 0 9
    have mm : f_X12_count Mm a1 a2 a3 = j_X12_count_13 a1 a2 a3 Mm := by
      unfold f_X12_count
      rcases e2 with e2 | ⟨w, e2⟩
      · rw [if_pos e2]
      · rw [if_neg w, e2, cl_some, if_neg (by decide)]
    rcases hq with ⟨rfl, hq⟩ | ⟨rfl, hq⟩
    · have cx : Tt (f_X11_count Mx a1 a2 a3) (fun r M => r = fld (cntF A a1 a2 a3) 0 (A 337 79).toNat ∧ RR A B M Mm) := by
        unfold f_X11_count
        refine tt_cq e1 (tt_in (by decide) (tt_in (by omega) (tt_ip (by omega) ?_)))
        refine tt_wl2 (fun M x4 i => RR A B M Mm ∧ (0 ≤ i ∧ i ≤ A 337 79) ∧ x4 = fld (cntF A a1 a2 a3) 0 i.toNat) (fun _ _ i => (41 - i).toNat) ?_ FU Mx 0 0 ⟨h, ⟨by omega, by omega⟩, rfl⟩ (by unfold FU; omega)
        rintro w M x4 i ⟨hM, hi, rfl⟩ K
        have hr := cntF_rng A a1 a2 a3 i.toNat
        unfold b_X11_count_26
        rw [hM.n79.2.1]
        refine tt_if (fun w1 => tt_ret ⟨by rw [show i = A 337 79 by omega], hM⟩) (fun w1 => ?_)
        obtain ⟨h2, ha, hx⟩ := hM.tx hi.1 (by omega)
        have skip : ∀ y, y = fld (cntF A a1 a2 a3) 0 i.toNat → ¬ (ofT A i a1 ∧ whr A i a2 ≠ 0 ∧ (a3 = 0 ∨ A 395 i = A 396 i)) → y = fld (cntF A a1 a2 a3) 0 (i + 1).toNat := by
          intro y hy hn; rw [fld_succ _ _ _ hi.1, cntF_f hn, hy]
        obtain ⟨z, ez, hz⟩ := x_of hx a1
        have go : ofT A i a1 → (a3 = 0 ∨ A 395 i = A 396 i) → Tt (j_X11_count_71 a1 a2 a3 w M (fld (cntF A a1 a2 a3) 0 i.toNat) i (23 + i)) (fun r M => r = fld (cntF A a1 a2 a3) 0 (A 337 79).toNat ∧ RR A B M Mm) := by
          intro c1 c2
          unfold j_X11_count_71
          refine tt_ok (kdTr i (by omega)) (tt_cq (hM.x_where hi.1 (by omega) hq) (tt_if (fun w2 => ?_) (fun w2 => ?_)))
          · exact tt_ok ⟨by omega, by omega⟩ (tt_bi (K M _ (i + 1) ⟨hM, ⟨by omega, by omega⟩, skip _ rfl (fun z => z.2.1 w2)⟩ (by omega)))
          · refine tt_ok ⟨by omega, by omega⟩ (tt_bi (tt_ok ⟨by omega, by omega⟩ (tt_bi (K M _ (i + 1) ⟨hM, ⟨by omega, by omega⟩, ?_⟩ (by omega)))))
            rw [fld_succ _ _ _ hi.1, cntF_t ⟨c1, w2, c2⟩]
        refine tt_ok ⟨by omega, by omega⟩ (tt_cq ez ?_)
        rcases hz with ⟨rfl, hz⟩ | ⟨rfl, hz⟩
        · refine tt_in (by decide) (tt_if (fun w2 => go hz (Or.inl w2)) (fun w2 => ?_))
          refine tt_cq (x_right hx) (tt_if (fun w3 => ?_) (fun w3 => go hz (Or.inr (Classical.byContradiction fun z => w3 (bI_0.mpr z)))))
          exact tt_bi (K M _ (i + 1) ⟨hM, ⟨by omega, by omega⟩, skip _ rfl (fun z => z.2.2.elim w2 (bI_0.mp w3))⟩ (by omega))
        · exact tt_ip rfl (tt_bi (K M _ (i + 1) ⟨hM, ⟨by omega, by omega⟩, skip _ rfl (fun z => hz z.1)⟩ (by omega)))
      have cm : Tt (f_X12_count Mm a1 a2 a3) (fun r M => r = fld (cntF A a1 a2 a3) 0 (A 337 79).toNat ∧ RR A B Mx M) := by
        rw [mm]
        unfold j_X12_count_13
        refine tt_cq e (tt_in (by decide) ?_)
        refine tt_wl2 (fun M x4 i => RR A B Mx M ∧ (0 ≤ i ∧ i ≤ A 337 79) ∧ x4 = fld (cntF A a1 a2 a3) 0 i.toNat) (fun _ _ i => (41 - i).toNat) ?_ FU Mm 0 0 ⟨h, ⟨by omega, by omega⟩, rfl⟩ (by unfold FU; omega)
        rintro w M x4 i ⟨hM, hi, rfl⟩ K
        have hr := cntF_rng A a1 a2 a3 i.toNat
        unfold b_X12_count_33
        rw [hM.n79.1]
        refine tt_if (fun w1 => tt_ret ⟨by rw [show i = A 337 79 by omega], hM⟩) (fun w1 => ?_)
        have skip : ∀ y, y = fld (cntF A a1 a2 a3) 0 i.toNat → ¬ (ofT A i a1 ∧ whr A i a2 ≠ 0 ∧ (a3 = 0 ∨ A 395 i = A 396 i)) → y = fld (cntF A a1 a2 a3) 0 (i + 1).toNat := by
          intro y hy hn; rw [fld_succ _ _ _ hi.1, cntF_f hn, hy]
        obtain ⟨z, ez, hz⟩ := hM.m_of hi.1 (show i < 40 by omega) a1
        refine tt_cq ez ?_
        rcases hz with ⟨rfl, hz⟩ | ⟨rfl, hz⟩
        · refine tt_in (by decide) (tt_cq (hM.m_where hi.1 (by omega)) (tt_if (fun w2 => ?_) (fun w2 => ?_)))
          · exact tt_ok ⟨by omega, by omega⟩ (tt_bi (K M _ (i + 1) ⟨hM, ⟨by omega, by omega⟩, skip _ rfl (fun z => z.2.1 w2)⟩ (by omega)))
          · refine tt_if (fun w3 => ?_) (fun w3 => ?_)
            · refine tt_ok ⟨by omega, by omega⟩ (tt_bi (tt_ok ⟨by omega, by omega⟩ (tt_bi (K M _ (i + 1) ⟨hM, ⟨by omega, by omega⟩, ?_⟩ (by omega)))))
              rw [fld_succ _ _ _ hi.1, cntF_t ⟨hz, w2, Or.inl w3⟩]
            · refine tt_cq (hM.m_right hi.1 (by omega)) (tt_if (fun w4 => ?_) (fun w4 => ?_))
              · exact tt_ok ⟨by omega, by omega⟩ (tt_bi (K M _ (i + 1) ⟨hM, ⟨by omega, by omega⟩, skip _ rfl (fun z => z.2.2.elim w3 (bI_0.mp w4))⟩ (by omega)))
              · refine tt_ok ⟨by omega, by omega⟩ (tt_bi (tt_ok ⟨by omega, by omega⟩ (tt_bi (K M _ (i + 1) ⟨hM, ⟨by omega, by omega⟩, ?_⟩ (by omega)))))
                rw [fld_succ _ _ _ hi.1, cntF_t ⟨hz, w2, Or.inr (Classical.byContradiction fun z => w4 (bI_0.mpr z))⟩]
        · exact tt_ip rfl (tt_ok ⟨by omega, by omega⟩ (tt_bi (K M _ (i + 1) ⟨hM, ⟨by omega, by omega⟩, skip _ rfl (fun z => hz z.1)⟩ (by omega))))
      obtain ⟨r, M1, f1, rfl, h1⟩ := cx
      obtain ⟨r2, M2, f2, rfl, h2⟩ := cm
      exact (h2.mixx h1).J f1 f2
    · refine h.J (nopx _ e1 (Or.inr hq)) ?_
      rw [mm]
      unfold j_X12_count_13
      rw [e, cl_some, if_pos rfl]
  · refine h.J (nopx _ e1 (Or.inl rfl)) ?_
    unfold f_X12_count
    rw [if_neg e2, e3, cl_some, if_pos rfl]
theorem J_tried (h : R Mx Mm) (a1 a2 : Int) : Jt (f_X11_tried Mx a1 a2) (f_X12_tried Mm a1 a2) := by
  obtain ⟨A, B, h⟩ := h
  obtain ⟨n1, n2, n3, n4⟩ := h.n79
  unfold f_X11_tried f_X12_tried
  rw [n1]
  refine Jt.cg rfl (ok_t ⟨by omega, by omega⟩) ?_
  rcases h.tr2 a1 with ⟨t, y1, y2, kt⟩ | ⟨t, y1, y2⟩
  · rw [y1, y2, cl_some, cl_some]
    have t0 := t.1
    obtain ⟨h2, ha, hx⟩ := h.tx t.1 t.2
    obtain ⟨x0, x1, x2, x3, x4, x5, x6, x7, x8⟩ := id hx
    obtain ⟨-, b1, b2, -, -, b5, b6, -, -⟩ := ha
    have g : ∀ a : Int, 392 ≤ a → a ≤ 400 → Mm a a1 = A a a1 := fun a a0 a1' => h.mt a1 ⟨a0, a1'⟩
    refine Jt.cg (if_neg (by omega)) (if_neg (by decide)) ?_
    by_cases w0 : a2 = 0
    · exact h.J (r := A 392 a1) (by rw [if_pos w0, ok_t kt, x0]) (by rw [if_pos w0, ok_t ⟨t0, h2⟩, g 392 (by omega) (by omega)])
    refine Jt.cg (if_neg w0) (if_neg w0) ?_
    by_cases w1 : a2 = 1
    · exact h.J (r := A 393 a1 % 12) (by rw [if_pos w1, ok_t kt, x1, ok_t b1.1]) (by rw [if_pos w1, ok_t ⟨t0, h2⟩, g 393 (by omega) (by omega), ok_t b1.1])
    refine Jt.cg (if_neg w1) (if_neg w1) ?_
    by_cases w2 : a2 = 2
    · exact h.J (r := A 393 a1 / 12) (by rw [if_pos w2, ok_t kt, x1, ok_t b1.1]) (by rw [if_pos w2, ok_t ⟨t0, h2⟩, g 393 (by omega) (by omega), ok_t b1.1])
    refine Jt.cg (if_neg w2) (if_neg w2) ?_
    by_cases w3 : a2 = 3
    · exact h.J (r := A 394 a1) (by rw [if_pos w3, ok_t kt, x2]) (by rw [if_pos w3, ok_t ⟨t0, h2⟩, g 394 (by omega) (by omega)])
    refine Jt.cg (if_neg w3) (if_neg w3) ?_
    by_cases w4 : a2 = 4
    · exact h.J (r := A 395 a1) (by rw [if_pos w4, ok_t kt, x3]) (by rw [if_pos w4, ok_t ⟨t0, h2⟩, g 395 (by omega) (by omega)])
    refine Jt.cg (if_neg w4) (if_neg w4) ?_
    by_cases w5 : a2 = 5
    · exact h.J (r := A 396 a1) (by rw [if_pos w5, ok_t kt, x4]) (by rw [if_pos w5, ok_t ⟨t0, h2⟩, g 396 (by omega) (by omega)])
    refine Jt.cg (if_neg w5) (if_neg w5) ?_
    by_cases w6 : a2 = 6
    · refine h.J (r := if A 397 a1 = 0 then 0 else 1) ?_ ?_
      · rw [if_pos w6, ok_t kt, x5]; split <;> rfl
      · rw [if_pos w6, ok_t ⟨t0, h2⟩, g 397 (by omega) (by omega)]; split <;> rfl
    refine Jt.cg (if_neg w6) (if_neg w6) ?_
    by_cases w7 : a2 = 7
    · exact h.J (r := A 400 a1) (by rw [if_pos w7, ok_t kt, x6]) (by rw [if_pos w7, ok_t ⟨t0, h2⟩, g 400 (by omega) (by omega)])
    refine Jt.cg (if_neg w7) (if_neg w7) ?_
    by_cases w8 : a2 = 8
    · refine h.J (r := if bI (A 395 a1 = A 396 a1) = 0 then 0 else 1) ?_ ?_
      · rw [if_pos w8, ok_t kt, x_right hx, cl_some]; split <;> rfl
      · rw [if_pos w8, h.m_right t0 h2, cl_some]; split <;> rfl
    refine Jt.cg (if_neg w8) (if_neg w8) ?_
    by_cases w9 : a2 = 9
    · obtain ⟨M1, q1, q2, h3⟩ := h.lit2 b1 b2
      exact h3.J (r := lit (A 388) (A 393 a1) (A 394 a1)) (by rw [if_pos w9, ok_t kt, x1, x2, q1, cl_some]) (by rw [if_pos w9, ok_t ⟨t0, h2⟩, g 393 (by omega) (by omega), g 394 (by omega) (by omega), q2, cl_some])
    refine Jt.cg (if_neg w9) (if_neg w9) ?_
    by_cases w10 : a2 = 10
    · refine h.J (r := if A 398 a1 = 0 then 0 else 1) ?_ ?_
      · rw [if_pos w10, ok_t kt, x7]; split <;> rfl
      · rw [if_pos w10, ok_t ⟨t0, h2⟩, g 398 (by omega) (by omega)]; split <;> rfl
    refine Jt.cg (if_neg w10) (if_neg w10) ?_
    by_cases w11 : a2 = 11
    · exact h.J (r := A 399 a1) (by rw [if_pos w11, ok_t kt, x8]) (by rw [if_pos w11, ok_t ⟨t0, h2⟩, g 399 (by omega) (by omega)])
    exact h.J (r := -1) (if_neg w11) (if_neg w11)
  · rw [y1, y2, cl_some, cl_some]
    exact h.J (r := -1) (if_pos rfl) (if_pos rfl)
end QC
