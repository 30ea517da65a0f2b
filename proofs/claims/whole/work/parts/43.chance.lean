/-! CHANCES, alike -/
def chS (s : Int) (q : Int → Int) : Int → Int := fun j => (q j * (s - 1) + (if 0 < j then q (j - 1) else 0)) / s
def ch0 : Int → Int := fun j => if j = 0 then 1000000000000 else 0
/-- how many were taken, how many RIGHT, the row of q -/
def chD (A : Mem) (t hon i : Int) : Prop := ofT A i t ∧ (hon = 0 ∨ (A 398 i = 0 ∧ A 399 i ≠ A 396 i))
noncomputable def chF (A : Mem) (t hon : Int) (i : Int) (s : Int × Int × (Int → Int)) : Int × Int × (Int → Int) := haveI := Classical.propDecidable (chD A t hon i); if chD A t hon i then (s.1 + 1, s.2.1 + bI (A 395 i = A 396 i), chS (A 374 (5 + A 392 i)) s.2.2) else s
theorem chF_t {A : Mem} {t hon i : Int} {s : Int × Int × (Int → Int)} (h : chD A t hon i) : chF A t hon i s = (s.1 + 1, s.2.1 + bI (A 395 i = A 396 i), chS (A 374 (5 + A 392 i)) s.2.2) := by unfold chF; rw [if_pos h]
theorem chF_f {A : Mem} {t hon i : Int} {s : Int × Int × (Int → Int)} (h : ¬ chD A t hon i) : chF A t hon i s = s := by unfold chF; rw [if_neg h]
def QOk (T : Int) (q : Int → Int) : Prop := (∀ j, T < j → q j = 0) ∧ (∀ j, j < 0 → q j = 0) ∧ ∀ j, 0 ≤ q j ∧ q j ≤ 1000000000000
theorem chS_rng {s : Int} (hs : 2 ≤ s ∧ s ≤ 6) {q : Int → Int} {T : Int} (h0 : 0 ≤ T) (h : QOk T q) (j : Int) : (0 ≤ q j * (s - 1) ∧ q j * (s - 1) ≤ 5000000000000) ∧ (0 ≤ q j * (s - 1) + (if 0 < j then q (j - 1) else 0) ∧ q j * (s - 1) + (if 0 < j then q (j - 1) else 0) ≤ 6000000000000) := by
  have a := mul_rng (h.2.2 j) (show 0 ≤ s - 1 ∧ s - 1 ≤ 5 by omega)
  have b := h.2.2 (j - 1)
  refine ⟨⟨a.1, by omega⟩, ?_⟩
  split <;> omega
theorem chS_ok {s : Int} (hs : 2 ≤ s ∧ s ≤ 6) {q : Int → Int} {T : Int} (h0 : 0 ≤ T) (h : QOk T q) : QOk (T + 1) (chS s q) := by
  refine ⟨fun j hj => ?_, fun j hj => ?_, fun j => ?_⟩
  · unfold chS
    rw [h.1 j (by omega), h.1 (j - 1) (by omega), Int.zero_mul]
    split <;> simp
  · unfold chS
    rw [h.2.1 j hj, Int.zero_mul, if_neg (by omega)]; simp
  · have a := chS_rng hs h0 h j
    unfold chS
    refine ⟨Int.ediv_nonneg a.2.1 (by omega), ?_⟩
    apply Int.ediv_le_of_le_mul (by omega)
    have b := h.2.2 j
    have c := h.2.2 (j - 1)
    have d : q j * (s - 1) ≤ 1000000000000 * (s - 1) := Int.mul_le_mul_of_nonneg_right b.2 (by omega)
    split <;> omega
section QH
variable {A B Mx Mm : Mem}
theorem ch_inv (h : RR A B Mx Mm) (t hon : Int) (n : Nat) (hn : (n : Int) ≤ A 337 79) : (0 ≤ (fld (chF A t hon) (0, 0, ch0) n).1 ∧ (fld (chF A t hon) (0, 0, ch0) n).1 ≤ n) ∧ (0 ≤ (fld (chF A t hon) (0, 0, ch0) n).2.1 ∧ (fld (chF A t hon) (0, 0, ch0) n).2.1 ≤ (fld (chF A t hon) (0, 0, ch0) n).1) ∧ QOk (fld (chF A t hon) (0, 0, ch0) n).1 (fld (chF A t hon) (0, 0, ch0) n).2.2 := by
  refine fld_inv (fun (n : Nat) (s : Int × Int × (Int → Int)) => (n : Int) ≤ A 337 79 → (0 ≤ s.1 ∧ s.1 ≤ n) ∧ (0 ≤ s.2.1 ∧ s.2.1 ≤ s.1) ∧ QOk s.1 s.2.2) _ _ ?_ ?_ n hn
  · intro _
    refine ⟨⟨Int.le_refl 0, Int.le_refl 0⟩, ⟨Int.le_refl 0, Int.le_refl 0⟩, fun j hj => ?_, fun j hj => ?_, fun j => ?_⟩
    · show (if j = 0 then _ else _) = _
      rw [if_neg (by have : (0 : Int) < j := hj; omega)]
    · show (if j = 0 then _ else _) = _
      rw [if_neg (by omega)]
    · show 0 ≤ (if j = 0 then (1000000000000 : Int) else 0) ∧ (if j = 0 then (1000000000000 : Int) else 0) ≤ _
      split <;> omega
  · intro n s ih hn
    have ih := ih (by omega)
    by_cases hd : chD A t hon n
    · rw [chF_t hd]
      have hb := bI_01 (p := A 395 n = A 396 n)
      refine ⟨⟨?_, ?_⟩, ⟨?_, ?_⟩, chS_ok (h.sr (h.th (i := n) (by omega) (by omega))) ih.1.1 ih.2.2⟩ <;> simp only <;> omega
    · rw [chF_f hd]
      exact ⟨⟨ih.1.1, by omega⟩, ih.2.1, ih.2.2⟩
/-- the sum of q from a on, for n places -/
def smq (q : Int → Int) (a : Int) : Nat → Int
  | 0 => 0
  | n + 1 => smq q a n + q (a + n)
theorem smq_rng {q : Int → Int} {T : Int} (h : QOk T q) (a : Int) : ∀ n : Nat, 0 ≤ smq q a n ∧ smq q a n ≤ 1000000000000 * n
  | 0 => ⟨Int.le_refl 0, by show (0 : Int) ≤ _; omega⟩
  | n + 1 => by
    have ih := smq_rng h a n
    have := h.2.2 (a + n)
    show 0 ≤ smq q a n + q (a + n) ∧ smq q a n + q (a + n) ≤ _
    omega
noncomputable def chV (A : Mem) (t hon : Int) : Int := smq (fld (chF A t hon) (0, 0, ch0) (A 337 79).toNat).2.2 (fld (chF A t hon) (0, 0, ch0) (A 337 79).toNat).2.1 (41 - (fld (chF A t hon) (0, 0, ch0) (A 337 79).toNat).2.1).toNat
def Sc3 (a _i : Int) : Prop := a = 203
def Sc4 (a _i : Int) : Prop := a = 401
theorem RR.f203 (h : RR A B Mx Mm) {Mx1 : Mem} (f : Fr Sc3 Mx Mx1) : RR A B Mx1 Mm := h.nx (f.mono (fun a i q => by unfold Sc3 at q; unfold ScX; omega)) (Fr.rf _ _) (fun s s0 s1 => by rw [f 20 s (by unfold Sc3; omega), f 19 s (by unfold Sc3; omega)]; exact h.lc s s0 s1)
theorem RR.f401 (h : RR A B Mx Mm) {Mm1 : Mem} (f : Fr Sc4 Mm Mm1) : RR A B Mx Mm1 := h.nx (Fr.rf _ _) (f.mono (fun a i q => by unfold Sc4 at q; unfold ScM; omega)) h.lc
theorem x_spread {M : Mem} {q : Int → Int} {T s : Int} (hT : 0 ≤ T ∧ T < 40) (hq : QOk T q) (hs : 2 ≤ s ∧ s ≤ 6) (hM : ∀ j, 0 ≤ j → j ≤ 40 → M 203 j = q j) : ∃ M1, f_X11_spreadChances M (T + 1) s = some (0, M1) ∧ Fr Sc3 M M1 ∧ ∀ j, 0 ≤ j → j ≤ 40 → M1 203 j = chS s q j := by
  have hk := chS_ok hs hT.1 hq
  have q0 : Tt (f_X11_spreadChances M (T + 1) s) (fun r M1 => r = 0 ∧ Fr Sc3 M M1 ∧ ∀ j, 0 ≤ j → j ≤ 40 → M1 203 j = chS s q j) := by
    unfold f_X11_spreadChances
    refine tt_cq (e_min _ _ _) ?_
    rw [show min (T + 1) 40 = T + 1 by omega]
    refine tt_wl1 (fun M1 x => Fr Sc3 M M1 ∧ (-1 ≤ x ∧ x ≤ 40) ∧ (∀ j, 0 ≤ j → j ≤ x → M1 203 j = q j) ∧ ∀ j, x < j → j ≤ 40 → M1 203 j = chS s q j) (fun _ x => (x + 1).toNat) ?_ FU M (T + 1) ⟨Fr.rf _ _, ⟨by omega, by omega⟩, fun j h0 h1 => hM j h0 (by omega), fun j h0 h1 => by rw [hM j (by omega) h1, hq.1 j (by omega), hk.1 j h0]⟩ (by unfold FU; omega)
    rintro w M1 x ⟨f1, hx, h1, h2⟩ K
    have go : ∀ z, z = (if 0 < x then q (x - 1) else 0) → 0 ≤ x → Tt (j_X11_spreadChances_27 s w M1 x z) (fun r M1 => r = 0 ∧ Fr Sc3 M M1 ∧ ∀ j, 0 ≤ j → j ≤ 40 → M1 203 j = chS s q j) := by
      intro z hz hx0
      have rr := chS_rng hs hT.1 hq x
      rw [← hz] at rr
      unfold j_X11_spreadChances_27
      rw [h1 x hx0 (Int.le_refl x)]
      refine tt_ok ⟨by omega, by omega⟩ (tt_ok ⟨by omega, by omega⟩ (tt_ok ⟨by omega, by omega⟩ (tt_ok ⟨by omega, by omega⟩ (tt_ok ⟨by omega, by omega⟩ (tt_bm (tt_bi (K _ (x + -1) ⟨Fr.st f1 rfl, ⟨by omega, by omega⟩, fun j h0 h3 => ?_, fun j h0 h3 => ?_⟩ (by omega))))))))
      · rw [st_neI (by omega)]; exact h1 j h0 (by omega)
      · by_cases e : j = x
        · subst e; rw [st_at, hz]; rfl
        · rw [st_neI e]; exact h2 j (by omega) h3
    unfold b_X11_spreadChances_7
    refine tt_if (fun w1 => tt_ret ⟨rfl, f1, fun j h0 h3 => h2 j (by omega) h3⟩) (fun w1 => tt_if (fun w2 => ?_) (fun w2 => ?_))
    · exact go 0 (by rw [if_neg (by omega)]) (by omega)
    · rw [h1 (x - 1) (by omega) (by omega)]
      exact tt_ok ⟨by omega, by omega⟩ (tt_ok ⟨by omega, by omega⟩ (go _ (by rw [if_pos (by omega)]) (by omega)))
  obtain ⟨r, M1, e, rfl, f1, h1⟩ := q0
  exact ⟨M1, e, f1, h1⟩
theorem x_chance (h : RR A B Mx Mm) (t hon : Int) : ∃ Mx1, f_X11_chanceOf Mx t hon = some (chV A t hon, Mx1) ∧ RR A B Mx1 Mm := by
  obtain ⟨n1, n2, n3, n4⟩ := h.n79
  have q0 : Tt (f_X11_chanceOf Mx t hon) (fun r M => r = chV A t hon ∧ RR A B M Mm) := by
    unfold f_X11_chanceOf
    refine tt_wl1 (fun M x => Fr Sc3 Mx M ∧ (0 ≤ x ∧ x ≤ 41) ∧ ∀ j, 0 ≤ j → j < x → M 203 j = ch0 j) (fun _ x => (41 - x).toNat) ?_ FU Mx 0 ⟨Fr.rf _ _, ⟨by omega, by omega⟩, fun j h0 h1 => by omega⟩ (by unfold FU; omega)
    rintro w M x ⟨f1, hx, h1⟩ K
    unfold b_X11_chanceOf_2
    refine tt_if (fun w1 => ?_) (fun w1 => tt_if (fun w2 => ?_) (fun w2 => ?_))
    · refine tt_wl3 (fun M x3 x4 i => RR A B M Mm ∧ (0 ≤ i ∧ i ≤ A 337 79) ∧ x3 = (fld (chF A t hon) (0, 0, ch0) i.toNat).1 ∧ x4 = (fld (chF A t hon) (0, 0, ch0) i.toNat).2.1 ∧ ∀ j, 0 ≤ j → j ≤ 40 → M 203 j = (fld (chF A t hon) (0, 0, ch0) i.toNat).2.2 j) (fun _ _ _ i => (41 - i).toNat) ?_ FU M 0 0 0 ⟨h.f203 f1, ⟨by omega, by omega⟩, rfl, rfl, fun j h0 h2 => h1 j h0 (by omega)⟩ (by unfold FU; omega)
      rintro w3 M x3 x4 i ⟨hM, hi, rfl, rfl, hq⟩ K3
      have inv := ch_inv hM t hon i.toNat (by omega)
      unfold b_X11_chanceOf_42
      rw [hM.n79.2.1]
      refine tt_if (fun w4 => ?_) (fun w4 => ?_)
      · have ei : i = A 337 79 := by omega
        subst ei
        refine tt_wl2 (fun M1 v j => RR A B M1 Mm ∧ ((fld (chF A t hon) (0, 0, ch0) (A 337 79).toNat).2.1 ≤ j ∧ j ≤ 41) ∧ (∀ j, 0 ≤ j → j ≤ 40 → M1 203 j = (fld (chF A t hon) (0, 0, ch0) (A 337 79).toNat).2.2 j) ∧ v = smq (fld (chF A t hon) (0, 0, ch0) (A 337 79).toNat).2.2 (fld (chF A t hon) (0, 0, ch0) (A 337 79).toNat).2.1 (j - (fld (chF A t hon) (0, 0, ch0) (A 337 79).toNat).2.1).toNat) (fun _ _ j => (41 - j).toNat) ?_ FU M 0 _ ⟨hM, ⟨Int.le_refl _, by omega⟩, hq, by rw [Int.sub_self]; rfl⟩ (by unfold FU; omega)
        rintro w5 M1 v j ⟨h5, hj, hq5, rfl⟩ K5
        unfold b_X11_chanceOf_143
        refine tt_if (fun w6 => ?_) (fun w6 => ?_)
        · refine tt_ret ⟨?_, h5⟩
          unfold chV
          rw [show j = 41 by omega]
        · have sr := smq_rng inv.2.2 (fld (chF A t hon) (0, 0, ch0) (A 337 79).toNat).2.1 (j - (fld (chF A t hon) (0, 0, ch0) (A 337 79).toNat).2.1).toNat
          have qr := inv.2.2.2.2 j
          rw [hq5 j (by omega) (by omega)]
          refine tt_ok ⟨by omega, by omega⟩ (tt_ok ⟨by omega, by omega⟩ (tt_bi (tt_bi (K5 M1 _ (j + 1) ⟨h5, ⟨by omega, by omega⟩, hq5, ?_⟩ (by omega)))))
          rw [show (j + 1 - (fld (chF A t hon) (0, 0, ch0) (A 337 79).toNat).2.1).toNat = (j - (fld (chF A t hon) (0, 0, ch0) (A 337 79).toNat).2.1).toNat + 1 by omega]
          show _ = smq _ _ _ + _
          rw [show (fld (chF A t hon) (0, 0, ch0) (A 337 79).toNat).2.1 + (((j - (fld (chF A t hon) (0, 0, ch0) (A 337 79).toNat).2.1).toNat : Nat) : Int) = j by omega]
      · obtain ⟨h2, ha, hx⟩ := hM.tx hi.1 (show i < A 337 79 by omega)
        have hs := hM.sr (hM.th hi.1 (show i < A 337 79 by omega))
        have skip : ¬ chD A t hon i → Tt (w3 M (fld (chF A t hon) (0, 0, ch0) i.toNat).1 (fld (chF A t hon) (0, 0, ch0) i.toNat).2.1 (i + 1)) (fun r M => r = chV A t hon ∧ RR A B M Mm) := by
          intro hn
          have e : fld (chF A t hon) (0, 0, ch0) (i + 1).toNat = fld (chF A t hon) (0, 0, ch0) i.toNat := by rw [fld_succ _ _ _ hi.1, chF_f hn]
          exact K3 M _ _ (i + 1) ⟨hM, ⟨by omega, by omega⟩, by rw [e], by rw [e], by rw [e]; exact hq⟩ (by omega)
        have go : chD A t hon i → Tt (j_X11_chanceOf_95 t hon w3 M (fld (chF A t hon) (0, 0, ch0) i.toNat).1 (fld (chF A t hon) (0, 0, ch0) i.toNat).2.1 i (23 + i)) (fun r M => r = chV A t hon ∧ RR A B M Mm) := by
          intro hd
          have e : fld (chF A t hon) (0, 0, ch0) (i + 1).toNat = ((fld (chF A t hon) (0, 0, ch0) i.toNat).1 + 1, (fld (chF A t hon) (0, 0, ch0) i.toNat).2.1 + bI (A 395 i = A 396 i), chS (A 374 (5 + A 392 i)) (fld (chF A t hon) (0, 0, ch0) i.toNat).2.2) := by rw [fld_succ _ _ _ hi.1, chF_t hd]
          unfold j_X11_chanceOf_95
          rw [hx.1]
          refine tt_ok ⟨by omega, by omega⟩ (tt_bi (tt_ok (kdTr i (by omega)) (tt_cq (hM.sorts (hM.th hi.1 (by omega))) ?_)))
          obtain ⟨M1, e1, f2, hq1⟩ := x_spread (T := (fld (chF A t hon) (0, 0, ch0) i.toNat).1) ⟨by omega, by omega⟩ inv.2.2 hs hq
          have hM1 := hM.f203 f2
          obtain ⟨-, -, hx1⟩ := hM1.tx hi.1 (show i < A 337 79 by omega)
          refine tt_cq e1 (tt_cq (x_right hx1) (tt_if (fun w5 => ?_) (fun w5 => ?_)))
          · refine tt_ok ⟨by omega, by omega⟩ (tt_bi (tt_ok ⟨by omega, by omega⟩ (tt_bi (K3 M1 _ _ (i + 1) ⟨hM1, ⟨by omega, by omega⟩, by rw [e], by rw [e]; show _ = _ + bI _; rw [w5], by rw [e]; exact hq1⟩ (by omega)))))
          · have b1 : bI (A 395 i = A 396 i) = 1 := bI_01.resolve_left w5
            refine tt_ok ⟨by omega, by omega⟩ (tt_bi (tt_ok ⟨by omega, by omega⟩ (tt_bi (K3 M1 _ _ (i + 1) ⟨hM1, ⟨by omega, by omega⟩, by rw [e], by rw [e]; show _ = _ + bI _; rw [b1], by rw [e]; exact hq1⟩ (by omega)))))
        obtain ⟨z, ez, hz⟩ := x_of hx t
        refine tt_ok ⟨by omega, by omega⟩ (tt_cq ez ?_)
        rcases hz with ⟨rfl, hz⟩ | ⟨rfl, hz⟩
        · refine tt_in (by decide) (tt_if (fun w5 => go ⟨hz, Or.inl w5⟩) (fun w5 => ?_))
          rw [hx.2.2.2.2.2.2.2.1]
          refine tt_if (fun w6 => ?_) (fun w6 => ?_)
          · refine tt_cq (x_led hx) (tt_if (fun w7 => go ⟨hz, Or.inr ⟨w6, bI_0.mp w7⟩⟩) (fun w7 => tt_bi (skip ?_)))
            rintro ⟨-, z | ⟨-, z⟩⟩
            · exact w5 z
            · exact w7 (bI_0.mpr z)
          · refine tt_bi (skip ?_)
            rintro ⟨-, z | ⟨z, -⟩⟩
            · exact w5 z
            · exact w6 z
        · exact tt_ip rfl (tt_bi (skip (fun z => hz z.1)))
    · refine tt_ok ⟨by omega, by omega⟩ (tt_bm (tt_bi (K _ (x + 1) ⟨Fr.st f1 rfl, ⟨by omega, by omega⟩, fun j h0 h2 => ?_⟩ (by omega))))
      by_cases e : j = x
      · subst e; rw [st_at]; unfold ch0; rw [if_pos w2]
      · rw [st_neI e]; exact h1 j h0 (by omega)
    · refine tt_ok ⟨by omega, by omega⟩ (tt_bm (tt_bi (K _ (x + 1) ⟨Fr.st f1 rfl, ⟨by omega, by omega⟩, fun j h0 h2 => ?_⟩ (by omega))))
      by_cases e : j = x
      · subst e; rw [st_at]; unfold ch0; rw [if_neg w2]
      · rw [st_neI e]; exact h1 j h0 (by omega)
  obtain ⟨r, M1, e, hr, h1⟩ := q0
  exact ⟨M1, by rw [e, hr], h1⟩
end QH
