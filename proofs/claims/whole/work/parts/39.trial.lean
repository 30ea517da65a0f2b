/-! TRIALS, one by one -/
section QT
variable {A B Mx Mm : Mem}
theorem RR.tx (h : RR A B Mx Mm) {i : Int} (h0 : 0 ≤ i) (h1 : i < A 337 79) : i < 40 ∧ TrlA A i ∧ TrlX A Mx i := by
  obtain ⟨hT, -, hall⟩ := h.trs
  obtain ⟨ha, x0, x1, x2, x3, x4, x5, x6, x7, x8⟩ := hall i h0 h1
  have g : ∀ j, Mx (23 + i) j = B (23 + i) j := fun j => h.rx (by omega) (by omega)
  exact ⟨by omega, ha, (g 0).trans x0, (g 1).trans x1, (g 2).trans x2, (g 3).trans x3, (g 4).trans x4, (g 5).trans x5, (g 6).trans x6, (g 7).trans x7, (g 8).trans x8⟩
theorem RR.mt (h : RR A B Mx Mm) {a : Int} (i : Int) (ha : 392 ≤ a ∧ a ≤ 400) : Mm a i = A a i := h.rm (by unfold ScM; omega)
theorem RR.n79 (h : RR A B Mx Mm) : Mm 337 79 = A 337 79 ∧ Mx 21 1 = A 337 79 ∧ 0 ≤ A 337 79 ∧ A 337 79 ≤ 40 := by
  obtain ⟨hT, hb, -⟩ := h.trs
  exact ⟨h.rm (by unfold ScM; omega), (h.rx (a := 21) (by omega) (by omega)).trans hb, hT.1, hT.2⟩
theorem RR.th (h : RR A B Mx Mm) {i : Int} (h0 : 0 ≤ i) (h1 : i < A 337 79) : isTh A (A 392 i) := (h.tx h0 h1).2.1.1
theorem x_right {M : Mem} {i : Int} (h : TrlX A M i) : f_X10_isRight M (23 + i) = some (bI (A 395 i = A 396 i), M) := by
  obtain ⟨-, -, -, x3, x4, -⟩ := h
  unfold f_X10_isRight bI
  rw [x3, x4]; split <;> rfl
theorem RR.m_right (h : RR A B Mx Mm) {i : Int} (h0 : 0 ≤ i) (h1 : i < 40) : f_X12_isRight Mm i = some (bI (A 395 i = A 396 i), Mm) := by
  unfold f_X12_isRight bI
  rw [ok_t ⟨h0, h1⟩, h.mt (a := 395) i (by omega), h.mt (a := 396) i (by omega)]; split <;> rfl
theorem x_led {M : Mem} {i : Int} (h : TrlX A M i) : f_X10_isLed M (23 + i) = some (bI (A 399 i = A 396 i), M) := by
  obtain ⟨-, -, -, -, x4, -, -, -, x8⟩ := h
  unfold f_X10_isLed bI
  rw [x8, x4]; split <;> rfl
theorem RR.m_led (h : RR A B Mx Mm) {i : Int} (h0 : 0 ≤ i) (h1 : i < A 337 79) : f_X12_isLed Mm i = some (bI (A 399 i = A 396 i), Mm) := by
  obtain ⟨h2, ha, -⟩ := h.tx h0 h1
  have := ha.2.2.2.2.1
  unfold f_X12_isLed bI
  rw [ok_t ⟨h0, h2⟩, h.mt (a := 399) i (by omega), h.mt (a := 396) i (by omega)]
  by_cases q : A 399 i = -1
  · rw [if_pos q, if_neg (by omega)]
  · rw [if_neg q]; split <;> rfl
/-- the SEEN SIDE's number -/
def sdA (A : Mem) : Int := ssd (A 390) (A 337 78 - 1).toNat
theorem ssd_rng (f : Int → Int) : ∀ n : Nat, 0 ≤ ssd f n ∧ ssd f n ≤ n
  | 0 => ⟨Int.le_refl 0, Int.le_refl 0⟩
  | n + 1 => by
    have := ssd_rng f n
    show 0 ≤ (if f (ssd f n) < f (n + 1 : Nat) then ((n + 1 : Nat) : Int) else ssd f n) ∧ (if f (ssd f n) < f (n + 1 : Nat) then ((n + 1 : Nat) : Int) else ssd f n) ≤ _
    split <;> omega
theorem ssd_succ (f : Int → Int) (n : Nat) : ssd f (n + 1) = if f (ssd f n) < f ((n : Int) + 1) then (n : Int) + 1 else ssd f n := rfl
theorem RR.m_seen (h : RR A B Mx Mm) (hp : 1 ≤ A 337 78) : f_X12_seenSide Mm = some (sdA A, Mm) := by
  have hf := h.fld
  obtain ⟨-, -, -, -, -, -, -, hpc, -⟩ := hf
  have q : Tt (f_X12_seenSide Mm) (fun r M => r = sdA A ∧ M = Mm) := by
    unfold f_X12_seenSide
    refine tt_wl2 (fun M x k => M = Mm ∧ (1 ≤ k ∧ k ≤ A 337 78) ∧ x = ssd (A 390) (k - 1).toNat) (fun _ _ k => (97 - k).toNat) ?_ FU Mm 0 1 ⟨rfl, ⟨by omega, hp⟩, rfl⟩ (by unfold FU; omega)
    rintro w M x k ⟨rfl, hk, rfl⟩ K
    unfold b_X12_seenSide_4
    rw [h.rm (a := 337) (i := 78) (by unfold ScM; omega)]
    refine tt_if (fun h5 => ?_) (fun h5 => ?_)
    · refine tt_ret ⟨?_, rfl⟩
      unfold sdA
      rw [show k = A 337 78 by omega]
    · have hr := ssd_rng (A 390) (k - 1).toNat
      have e1 : (k + 1 - 1).toNat = (k - 1).toNat + 1 := by omega
      have e2 : (((k - 1).toNat : Nat) : Int) + 1 = k := by omega
      rw [h.rm (a := 390) (i := k) (by unfold ScM; omega), h.rm (a := 390) (i := ssd (A 390) (k - 1).toNat) (by unfold ScM; omega)]
      refine tt_ok ⟨by omega, by omega⟩ (tt_ok ⟨by omega, by omega⟩ (tt_if (fun h6 => ?_) (fun h6 => ?_)))
      · refine tt_bi (K M _ (k + 1) ⟨rfl, ⟨by omega, by omega⟩, ?_⟩ (by omega))
        rw [e1, ssd_succ, e2, if_neg (by omega)]
      · refine tt_bi (K M _ (k + 1) ⟨rfl, ⟨by omega, by omega⟩, ?_⟩ (by omega))
        rw [e1, ssd_succ, e2, if_pos (by omega)]
  obtain ⟨r, M1, e, rfl, rfl⟩ := q
  exact e
/-- whether a SQUARE is in an ISLAND -/
def isl (A : Mem) (s : Int) : Int := if A 388 s = 0 then 0 else bI (A 389 s ≠ sdA A)
theorem RR.m_isl (h : RR A B Mx Mm) {s : Int} (hs : 0 ≤ s ∧ s < 96) : f_X12_isIsland Mm s = some (isl A s, Mm) := by
  have hg := h.sg s hs.1 hs.2
  obtain ⟨-, -, h4⟩ := h.fld.2.2.2.1 s hs.1 hs.2
  unfold f_X12_isIsland isl
  rw [ok_t hs, h.mg s hs.1 hs.2]
  by_cases q : A 388 s = 0
  · rw [if_pos (by omega), if_pos q]
  · obtain ⟨-, h5, h6⟩ := h4 q
    rw [if_neg (by omega), if_neg q, h.m_seen (by omega), cl_some, h.rm (a := 389) (by unfold ScM; omega)]
    by_cases w : A 389 s = sdA A
    · rw [if_pos w, bI_f (fun z => z w)]
    · rw [if_neg w, bI_t w]
theorem RR.x_isl (h : RR A B Mx Mm) {s : Int} (hs : 0 ≤ s ∧ s < 96) : f_X3_isIsland Mx (Mx 15 s) = some (isl A s, Mx) := by
  obtain ⟨-, h3, h4⟩ := h.fld.2.2.2.1 s hs.1 hs.2
  have h9 := h.fld.2.2.2.2.2.2.2.2.2
  have hpc := h.fld.2.2.2.2.2.2.2.1
  unfold f_X3_isIsland isl
  rw [h.rx (a := 15) (i := s) (by omega) (by omega), h.rx (a := 13) (i := 9) (by omega) (by omega), h9]
  by_cases q : A 388 s = 0
  · rw [h3 q, if_pos rfl, if_pos q]
  · obtain ⟨h5, h6, h7⟩ := h4 q
    have hn : ¬ A 389 s = -1 := by omega
    rw [h5, if_neg hn, if_neg q, if_neg (show ¬ A 337 78 = 0 by omega)]
    show (if A 389 s = sdA A then _ else _) = _
    by_cases w : A 389 s = sdA A
    · rw [if_pos w, bI_f (fun z => z w)]
    · rw [if_neg w, bI_t w]
theorem RR.disc (h : RR A B Mx Mm) : Mx 13 11 = A 375 1 ∧ Mm 375 1 = A 375 1 := ⟨(h.rx (by omega) (by omega)).trans h.fld.2.2.2.2.1, h.rm (by unfold ScM; omega)⟩
theorem RR.x_gone (h : RR A B Mx Mm) {s : Int} (hs : 0 ≤ s ∧ s < 96) : f_X3_isGone Mx s = some (bI (A 388 s = 0 ∧ s ≠ A 375 1), Mx) := by
  unfold f_X3_isGone
  rw [ok_t hs, h.xg s hs.1 hs.2, h.disc.1]
  by_cases q : A 388 s = 0
  · rw [if_pos q]
    by_cases w : s = A 375 1
    · rw [if_pos w, bI_f (fun z => z.2 w)]
    · rw [if_neg w, bI_t ⟨q, w⟩]
  · rw [if_neg q, bI_f (fun z => q z.1)]
theorem RR.m_gone (h : RR A B Mx Mm) {i : Int} (h0 : 0 ≤ i) (h1 : i < A 337 79) : f_X12_isGone Mm i = some (bI (A 388 (A 393 i) = 0 ∧ A 393 i ≠ A 375 1), Mm) := by
  obtain ⟨h2, ha, -⟩ := h.tx h0 h1
  have hs := ha.2.1
  unfold f_X12_isGone
  rw [ok_t ⟨h0, h2⟩, h.mt (a := 393) i (by omega), ok_t hs, h.mg _ hs.1 hs.2, h.disc.2]
  by_cases q : A 388 (A 393 i) = 0
  · rw [if_pos q]
    by_cases w : A 393 i = A 375 1
    · rw [if_pos w, bI_f (fun z => z.2 w)]
    · rw [if_neg w, bI_t ⟨q, w⟩]
  · rw [if_neg q, bI_f (fun z => q z.1)]
/-- a TRIAL's SHOWING -/
def envT (A : Mem) (i : Int) : Int → Int := env (A 388) (A 392 i) (A 393 i) (A 394 i)
theorem RR.showT (h : RR A B Mx Mm) {i : Int} (h0 : 0 ≤ i) (h1 : i < A 337 79) : ∃ Mx1 Mm1, f_X11_putTrial Mx (23 + i) = some (0, Mx1) ∧ f_X12_showsTrial Mm i = some (0, Mm1) ∧ RR A B Mx1 Mm1 ∧ EnvX Mx1 (envT A i) ∧ EnvM Mm1 (envT A i) ∧ EnvOk (envT A i) := by
  obtain ⟨h2, ha, x0, x1, x2, -⟩ := h.tx h0 h1
  have ht := h.nt (h.th h0 h1)
  obtain ⟨Mx1, Mm1, q1, q2, k⟩ := h.shows (t := A 392 i) (s := A 393 i) (b := A 394 i) (by omega) ha.2.1 ha.2.2.1
  refine ⟨Mx1, Mm1, ?_, ?_, k⟩
  · unfold f_X11_putTrial
    rw [x0, x1, x2, q1, cl_some]
  · unfold f_X12_showsTrial
    rw [ok_t ⟨h0, h2⟩, h.mt (a := 392) i (by omega), h.mt (a := 393) i (by omega), h.mt (a := 394) i (by omega), q2, cl_some]
/-- KIND of a TRIAL by a LAW -/
def knd (A : Mem) (p i : Int) : Int := if A 395 i ≠ A 396 i then 0 else if A 398 i ≠ 0 then 1 else if A 399 i = A 396 i then 2 else if A 397 i ≠ 0 then 3 else if A 388 (A 393 i) = 0 ∧ 5 ≤ lit (A 388) (A 393 i) (A 394 i) then 4 else if isl A (A 393 i) ≠ 0 then 5 else if 0 < crd A (envT A i) p 1 ∧ crd A (envT A i) p 1 < linV A (envT A i) p then 6 else 7
theorem RR.kindM (h : RR A B Mx Mm) {k i : Int} (l : isLw A k) (h0 : 0 ≤ i) (h1 : i < A 337 79) : ∃ Mm1, f_X12_kindOf Mm k i = some (knd A (2 + k) i, Mm1) ∧ RR A B Mx Mm1 := by
  obtain ⟨h2, ha, -⟩ := h.tx h0 h1
  have q : Tt (f_X12_kindOf Mm k i) (fun r M => r = knd A (2 + k) i ∧ RR A B Mx M) := by
    unfold f_X12_kindOf knd
    refine tt_cq (h.m_right h0 h2) (tt_if (fun w => ?_) (fun w => ?_))
    · rw [if_pos (bI_0.mp w)]; exact tt_ret ⟨rfl, h⟩
    · rw [if_neg (fun z => w (bI_0.mpr z))]
      rw [h.mt (a := 398) i (by omega)]
      refine tt_ok ⟨h0, h2⟩ (tt_if (fun w => ?_) (fun w => ?_))
      · rw [if_neg (fun z => z w)]
        refine tt_cq (h.m_led h0 h1) (tt_if (fun w => ?_) (fun w => ?_))
        · rw [if_neg (bI_0.mp w), h.mt (a := 397) i (by omega)]
          refine tt_if (fun w => ?_) (fun w => ?_)
          · rw [if_neg (fun z => z w)]
            obtain ⟨_, M1, -, q1, h3, -, em, eo⟩ := h.showT h0 h1
            have h3' := h.mixm h3
            have e71 : M1 337 71 = A 388 (A 393 i) := em.2.2.2.1
            have e72 : M1 337 72 = lit (A 388) (A 393 i) (A 394 i) := em.2.2.2.2.1
            have rest : Tt (j_X12_kindOf_64 k i M1) (fun r M => r = (if isl A (A 393 i) ≠ 0 then 5 else if 0 < crd A (envT A i) (2 + k) 1 ∧ crd A (envT A i) (2 + k) 1 < linV A (envT A i) (2 + k) then 6 else 7) ∧ RR A B Mx M) := by
              unfold j_X12_kindOf_64
              rw [h3'.mt (a := 393) i (by omega)]
              refine tt_ok ⟨h0, h2⟩ (tt_cq (h3'.m_isl ha.2.1) (tt_if (fun w => ?_) (fun w => ?_)))
              · rw [if_neg (fun z => z w)]
                obtain ⟨-, -, l3, l4, -, -⟩ := h3'.law l
                obtain ⟨M2, q2, f2⟩ := m_crd eo em h3'.fm l.1 l3 1
                have h4 : RR A B Mx M2 := h3'.nr (Fr.rf _ _) f2
                refine tt_cq q2 (tt_if (fun w => ?_) (fun w => ?_))
                · rw [if_neg (by omega)]; exact tt_ret ⟨rfl, h4⟩
                · obtain ⟨M3, q3, f3⟩ := m_line eo (em.fr f2) h4.fm l.1 l4
                  have h5 : RR A B Mx M3 := h4.nr (Fr.rf _ _) f3
                  refine tt_cq q3 (tt_if (fun w => ?_) (fun w => ?_))
                  · rw [if_neg (by omega)]; exact tt_ret ⟨rfl, h5⟩
                  · rw [if_pos ⟨by omega, by omega⟩]; exact tt_ret ⟨rfl, h5⟩
              · rw [if_pos w]; exact tt_ret ⟨rfl, h3'⟩
            refine tt_cq q1 ?_
            rw [e71, e72]
            refine tt_if (fun w => tt_if (fun w2 => ?_) (fun w2 => ?_)) (fun w => ?_)
            · rw [if_neg (by omega)]; exact rest
            · rw [if_pos ⟨w, by omega⟩]; exact tt_ret ⟨rfl, h3'⟩
            · rw [if_neg (fun z => w z.1)]; exact rest
          · rw [if_pos w]; exact tt_ret ⟨rfl, h⟩
        · rw [if_pos (Classical.byContradiction fun z => w (bI_0.mpr z))]; exact tt_ret ⟨rfl, h⟩
      · rw [if_pos w]; exact tt_ret ⟨rfl, h⟩
  obtain ⟨r, M1, e, rfl, h3⟩ := q
  exact ⟨M1, e, h3⟩
theorem RR.lit2 (h : RR A B Mx Mm) {s b : Int} (hs : 0 ≤ s ∧ s < 96) (hb : isBr b) : ∃ Mx1, f_X3_lightAt Mx s b = some (lit (A 388) s b, Mx1) ∧ f_X12_lightAt Mm s b = some (lit (A 388) s b, Mm) ∧ RR A B Mx1 Mm := by
  obtain ⟨M1, q1, f1, l1⟩ := x_light h.sg h.xg h.lc hs hb
  exact ⟨M1, q1, m_light h.sg h.mg hs hb, h.nx (f1.mono (fun a i q => by unfold ScL at q; unfold ScX; omega)) (Fr.rf _ _) l1⟩
theorem RR.kindX (h : RR A B Mx Mm) {k i : Int} (l : isLw A k) (h0 : 0 ≤ i) (h1 : i < A 337 79) : ∃ Mx1, f_X11_kindOf Mx (B 68 k) (23 + i) = some (knd A (2 + k) i, Mx1) ∧ RR A B Mx1 Mm := by
  obtain ⟨h2, ha, hx⟩ := h.tx h0 h1
  obtain ⟨x0, x1, x2, x3, x4, x5, x6, x7, x8⟩ := id hx
  have q : Tt (f_X11_kindOf Mx (B 68 k) (23 + i)) (fun r M => r = knd A (2 + k) i ∧ RR A B M Mm) := by
    unfold f_X11_kindOf knd
    refine tt_cq (x_right hx) (tt_if (fun w => ?_) (fun w => ?_))
    · rw [if_pos (bI_0.mp w)]; exact tt_ret ⟨rfl, h⟩
    · rw [if_neg (fun z => w (bI_0.mpr z)), x7]
      refine tt_if (fun w => ?_) (fun w => ?_)
      · rw [if_neg (fun z => z w)]
        refine tt_cq (x_led hx) (tt_if (fun w => ?_) (fun w => ?_))
        · rw [if_neg (bI_0.mp w), x5]
          refine tt_if (fun w => ?_) (fun w => ?_)
          · rw [if_neg (fun z => z w)]
            have sc : ∃ M1, f_X11_isScattered Mx (23 + i) = some (bI (A 388 (A 393 i) = 0 ∧ 5 ≤ lit (A 388) (A 393 i) (A 394 i)), M1) ∧ RR A B M1 Mm := by
              obtain ⟨M1, q1, -, h3⟩ := h.lit2 ha.2.1 ha.2.2.1
              unfold f_X11_isScattered
              rw [x1, h.disc.1]
              have j28 : A 388 (A 393 i) = 0 → j_X11_isScattered_28 (23 + i) Mx = some (bI (A 388 (A 393 i) = 0 ∧ 5 ≤ lit (A 388) (A 393 i) (A 394 i)), M1) := by
                intro w3
                unfold j_X11_isScattered_28 j_X11_isScattered_33
                rw [if_neg (by decide), x1, x2, q1, cl_some]
                by_cases w4 : lit (A 388) (A 393 i) (A 394 i) < 5
                · rw [if_pos w4, bI_f (by omega)]
                · rw [if_neg w4, bI_t ⟨w3, by omega⟩]
              by_cases w1 : A 393 i = A 375 1
              · rw [if_pos w1]
                refine ⟨M1, j28 ?_, h3⟩
                rw [w1]; exact h.fld.2.2.1
              · rw [if_neg w1, h.x_gone ha.2.1, cl_some]
                by_cases w3 : A 388 (A 393 i) = 0
                · rw [bI_t (show A 388 (A 393 i) = 0 ∧ A 393 i ≠ A 375 1 from ⟨w3, w1⟩), if_neg (by decide)]
                  exact ⟨M1, j28 w3, h3⟩
                · rw [bI_f (show ¬ (A 388 (A 393 i) = 0 ∧ A 393 i ≠ A 375 1) from fun z => w3 z.1), if_pos rfl, bI_f (show ¬ (A 388 (A 393 i) = 0 ∧ 5 ≤ lit (A 388) (A 393 i) (A 394 i)) from fun z => w3 z.1)]
                  unfold j_X11_isScattered_33
                  rw [if_pos rfl]
                  exact ⟨Mx, rfl, h⟩
            obtain ⟨M1, q1, h3⟩ := sc
            refine tt_cq q1 (tt_if (fun w => ?_) (fun w => ?_))
            · rw [if_neg (bI_0.mp w)]
              obtain ⟨-, -, -, y1, -⟩ := h3.tx h0 h1
              rw [y1]
              refine tt_ok ha.2.1 (tt_cq (h3.x_isl ha.2.1) (tt_if (fun w => ?_) (fun w => ?_)))
              · rw [if_neg (fun z => z w)]
                obtain ⟨M2, _, q2, -, h4, ex, -, eo⟩ := h3.showT h0 h1
                have h4' := h3.mixx h4
                obtain ⟨k1, l2, l3, l4, l5, l6⟩ := h4'.law l
                obtain ⟨M3, q3, f3⟩ := x_crd eo ex k1 l2 l3 l5 1
                have h5 : RR A B M3 Mm := h4'.nr f3 (Fr.rf _ _)
                refine tt_cq q2 (tt_cq q3 (tt_if (fun w => ?_) (fun w => ?_)))
                · rw [if_neg (by omega)]; exact tt_ret ⟨rfl, h5⟩
                · obtain ⟨-, l2', -, -, -, -⟩ := h5.law l
                  obtain ⟨M4, q4, f4⟩ := x_line eo (ex.fr f3) k1 l2' l4 l6
                  have h6 : RR A B M4 Mm := h5.nr f4 (Fr.rf _ _)
                  refine tt_cq q4 (tt_if (fun w => ?_) (fun w => ?_))
                  · rw [if_neg (by omega)]; exact tt_ret ⟨rfl, h6⟩
                  · rw [if_pos ⟨by omega, by omega⟩]; exact tt_ret ⟨rfl, h6⟩
              · rw [if_pos w]; exact tt_ret ⟨rfl, h3⟩
            · rw [if_pos (Classical.byContradiction fun z => w (bI_0.mpr z))]; exact tt_ret ⟨rfl, h3⟩
          · rw [if_pos w]; exact tt_ret ⟨rfl, h⟩
        · rw [if_pos (Classical.byContradiction fun z => w (bI_0.mpr z))]; exact tt_ret ⟨rfl, h⟩
      · rw [if_pos w]; exact tt_ret ⟨rfl, h⟩
  obtain ⟨r, M1, e, rfl, h3⟩ := q
  exact ⟨M1, e, h3⟩
def isTr (A : Mem) (i : Int) : Prop := 0 ≤ i ∧ i < A 337 79
theorem RR.tr2 (h : RR A B Mx Mm) (i : Int) : (isTr A i ∧ f_X0_trialAt Mx i = some (23 + i, Mx) ∧ f_X12_isIn Mm i 0 (A 337 79 - 1) = some (1, Mm) ∧ kd (23 + i) = 20) ∨ (¬ isTr A i ∧ f_X0_trialAt Mx i = some (0, Mx) ∧ f_X12_isIn Mm i 0 (A 337 79 - 1) = some (0, Mm)) := by
  obtain ⟨n1, n2, n3, n4⟩ := h.n79
  obtain ⟨q, e, hq⟩ := e_isIn Mm i 0 (A 337 79 - 1)
  unfold f_X0_trialAt isTr
  rw [n2]
  rcases hq with ⟨rfl, hq⟩ | ⟨rfl, hq⟩
  · left
    exact ⟨by omega, by rw [if_neg (by omega), if_neg (by omega), ok_t ⟨by omega, by omega⟩], e, kdTr i (by omega)⟩
  · right
    refine ⟨by omega, ?_, e⟩
    by_cases w : i < 0
    · rw [if_pos w]
    · rw [if_neg w, if_pos (by omega)]
theorem J_kind (h : R Mx Mm) (a1 a2 : Int) : Jt (f_X11_kind Mx a1 a2) (f_X12_kind Mm a1 a2) := by
  obtain ⟨A, B, h⟩ := h
  obtain ⟨n1, n2, n3, n4⟩ := h.n79
  unfold f_X11_kind f_X12_kind
  rcases h.law2 a1 with ⟨l, x1, m1, z1, k1⟩ | ⟨l, x1, m1⟩
  · rw [x1, m1, cl_some, cl_some]
    refine Jt.cg rfl (if_neg (by decide)) ?_
    rw [n1]
    refine Jt.cg rfl (ok_t ⟨by omega, by omega⟩) ?_
    rcases h.tr2 a2 with ⟨t, y1, y2, kt⟩ | ⟨t, y1, y2⟩
    · rw [y1, y2, cl_some, cl_some]
      obtain ⟨M1, e1, h1⟩ := h.kindX l t.1 t.2
      obtain ⟨M2, e2, h2⟩ := h.kindM l t.1 t.2
      refine (h2.mixx h1).J (r := knd A (2 + a1) a2) ?_ ?_
      · rw [if_neg z1, if_neg (by have := t.1; omega), ok_t k1, ok_t kt, e1, cl_some]
      · rw [if_neg (by decide), e2, cl_some]
    · rw [y1, y2, cl_some, cl_some]
      exact h.J (r := -1) ((if_neg z1).trans (if_pos rfl)) (if_pos rfl)
  · rw [x1, m1, cl_some, cl_some]
    rcases h.tr2 a2 with ⟨t, y1, y2, kt⟩ | ⟨t, y1, y2⟩
    · rw [y1, cl_some]; exact h.J (r := -1) (if_pos rfl) (if_pos rfl)
    · rw [y1, cl_some]; exact h.J (r := -1) (if_pos rfl) (if_pos rfl)
/-- how many of the first n with f -/
def cnE (f : Int → Int) (v : Int) : Nat → Int
  | 0 => 0
  | n + 1 => if f n = v then cnE f v n + 1 else cnE f v n
theorem cnE_rng (f : Int → Int) (v : Int) : ∀ n : Nat, 0 ≤ cnE f v n ∧ cnE f v n ≤ n
  | 0 => ⟨Int.le_refl 0, Int.le_refl 0⟩
  | n + 1 => by
    have := cnE_rng f v n
    show 0 ≤ (if f n = v then cnE f v n + 1 else cnE f v n) ∧ (if f n = v then cnE f v n + 1 else cnE f v n) ≤ _
    split <;> omega
theorem cnE_succ (f : Int → Int) (v : Int) (n : Nat) : cnE f v (n + 1) = if f n = v then cnE f v n + 1 else cnE f v n := rfl
theorem J_kinds (h : R Mx Mm) (a1 a2 : Int) : Jt (f_X11_kinds Mx a1 a2) (f_X12_kinds Mm a1 a2) := by
  obtain ⟨A, B, h⟩ := h
  obtain ⟨n1, n2, n3, n4⟩ := h.n79
  unfold f_X11_kinds f_X12_kinds
  rcases h.law2 a1 with ⟨l, x1, m1, z1, k1⟩ | ⟨l, x1, m1⟩
  · rw [x1, m1, cl_some, cl_some]
    refine Jt.cg (if_neg z1) (if_neg (by decide)) ?_
    obtain ⟨q, e, hq⟩ := e_isIn Mm a2 0 7
    rw [e, cl_some]
    rcases hq with ⟨rfl, hq⟩ | ⟨rfl, hq⟩
    · refine Jt.cg ((if_neg (by omega)).trans (if_pos (by omega))) (if_neg (by decide)) ?_
      have cx : Tt (wl3 (b_X11_kinds_28 a2) FU Mx (B 68 a1) 0 0) (fun r M => r = cnE (knd A (2 + a1)) a2 (A 337 79).toNat ∧ RR A B M Mm) := by
        refine tt_wl3 (fun M x3 x4 i => RR A B M Mm ∧ x3 = B 68 a1 ∧ (0 ≤ i ∧ i ≤ A 337 79) ∧ x4 = cnE (knd A (2 + a1)) a2 i.toNat) (fun _ _ _ i => (41 - i).toNat) ?_ FU Mx _ 0 0 ⟨h, rfl, ⟨by omega, by omega⟩, rfl⟩ (by unfold FU; omega)
        rintro w M x3 x4 i ⟨hM, rfl, hi, rfl⟩ K
        unfold b_X11_kinds_28
        rw [hM.n79.2.1]
        have hr := cnE_rng (knd A (2 + a1)) a2 i.toNat
        have hii : ((i.toNat : Nat) : Int) = i := by omega
        have hi1 : (i + 1).toNat = i.toNat + 1 := by omega
        refine tt_if (fun w1 => ?_) (fun w1 => ?_)
        · exact tt_ret ⟨by rw [show i = A 337 79 by omega], hM⟩
        · obtain ⟨M1, e1, h1⟩ := hM.kindX l hi.1 (by omega)
          refine tt_ok ⟨by omega, by omega⟩ (tt_ok k1 (tt_cq e1 (tt_if (fun w2 => ?_) (fun w2 => ?_))))
          · refine tt_ok ⟨by omega, by omega⟩ (tt_bi (tt_bi (K M1 _ _ (i + 1) ⟨h1, rfl, ⟨by omega, by omega⟩, ?_⟩ (by omega))))
            rw [hi1, cnE_succ, hii, if_pos w2]
          · refine tt_ok ⟨by omega, by omega⟩ (tt_bi (tt_bi (K M1 _ _ (i + 1) ⟨h1, rfl, ⟨by omega, by omega⟩, ?_⟩ (by omega))))
            rw [hi1, cnE_succ, hii, if_neg w2]; omega
      have cm : Tt (wl2 (b_X12_kinds_27 a1 a2) FU Mm 0 0) (fun r M => r = cnE (knd A (2 + a1)) a2 (A 337 79).toNat ∧ RR A B Mx M) := by
        refine tt_wl2 (fun M x4 i => RR A B Mx M ∧ (0 ≤ i ∧ i ≤ A 337 79) ∧ x4 = cnE (knd A (2 + a1)) a2 i.toNat) (fun _ _ i => (41 - i).toNat) ?_ FU Mm 0 0 ⟨h, ⟨by omega, by omega⟩, rfl⟩ (by unfold FU; omega)
        rintro w M x4 i ⟨hM, hi, rfl⟩ K
        unfold b_X12_kinds_27
        rw [hM.n79.1]
        have hr := cnE_rng (knd A (2 + a1)) a2 i.toNat
        have hii : ((i.toNat : Nat) : Int) = i := by omega
        have hi1 : (i + 1).toNat = i.toNat + 1 := by omega
        refine tt_if (fun w1 => ?_) (fun w1 => ?_)
        · exact tt_ret ⟨by rw [show i = A 337 79 by omega], hM⟩
        · obtain ⟨M1, e1, h1⟩ := hM.kindM l hi.1 (by omega)
          refine tt_cq e1 (tt_if (fun w2 => ?_) (fun w2 => ?_))
          · refine tt_ok ⟨by omega, by omega⟩ (tt_bi (tt_ok ⟨by omega, by omega⟩ (tt_bi (K M1 _ (i + 1) ⟨h1, ⟨by omega, by omega⟩, ?_⟩ (by omega)))))
            rw [hi1, cnE_succ, hii, if_pos w2]
          · refine tt_ok ⟨by omega, by omega⟩ (tt_bi (K M1 _ (i + 1) ⟨h1, ⟨by omega, by omega⟩, ?_⟩ (by omega)))
            rw [hi1, cnE_succ, hii, if_neg w2]
      obtain ⟨r, M1, e1, rfl, h1⟩ := cx
      obtain ⟨r2, M2, e2, rfl, h2⟩ := cm
      exact (h2.mixx h1).J e1 e2
    · refine h.J (r := -1) ?_ (if_pos rfl)
      by_cases w : a2 < 0
      · rw [if_pos w]
      · rw [if_neg w, if_neg (by omega)]
  · rw [x1, m1, cl_some, cl_some]; exact h.J (r := -1) (if_pos rfl) (if_pos rfl)
end QT
