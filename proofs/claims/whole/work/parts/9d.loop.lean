/-! all of a PLAN: both readers side by side -/
def JP (b : Int → Int) (n sp kn : Int) (Mx0 Mm0 Mx Mm : Mem) (T : List Tok) (C : List Int) (k : Nat) (d l : Int) : Prop :=
  (XT b n sp Mx T C ∧ MC b n Mm T C) ∧ (Mm 337 52 = d ∧ 0 ≤ d ∧ d ≤ 6) ∧ (Mx 4 3 = 2 ∧ Mx 4 2 = kn) ∧ (Mx sp 1 = k ∧ Mm 337 36 = k ∧ k ≤ 40) ∧ (Mm 376 0 = l ∧ 0 ≤ l ∧ l + d ≤ 2 * k) ∧ C.length + T.length ≤ 901 ∧ Fr ScY Mm0 Mm ∧ Fr (ScG sp) Mx0 Mx ∧ StB Mm
theorem StB.fr {M M1 : Mem} (h : StB M) (f : ∀ a j, 380 ≤ a → a ≤ 381 → 0 ≤ j → j < 80 → M1 a j = M a j) : StB M1 := fun a j a0 a1 j0 j1 => by rw [f a j a0 a1 j0 j1]; exact h a j a0 a1 j0 j1
theorem StB.p {M M1 : Mem} (h : StB M) (f : Fr ScP M M1) : StB M1 := h.fr (fun a j _ _ _ _ => f a j (by unfold ScP; omega))
theorem StB.t {M M1 : Mem} {l : Int} (h : StB M) (f : Fr (ScT8 l) M M1) : StB M1 := h.fr (fun a j _ _ _ _ => f a j (by unfold ScT8 ScS; omega))
theorem StB.l {M M1 : Mem} {l : Int} (h : StB M) (f : Fr (ScLp l) M M1) (hb : Bd M1 l) : StB M1 := by
  intro a j a0 a1 j0 j1
  by_cases e : j = l
  · subst e
    obtain ⟨h1, h2⟩ := hb
    have : a = 380 ∨ a = 381 := by omega
    rcases this with rfl | rfl
    · exact h1
    · exact h2
  · rw [f a j (by unfold ScLp ScS; omega)]; exact h a j a0 a1 j0 j1
theorem Kn.fr {kn sp w : Int} {Mx0 Mm0 Mx Mm : Mem} (h : Kn kn sp w Mx0 Mm0) (hs : kd sp = 17) (fm : Fr ScY Mm0 Mm) (fx : Fr (ScG sp) Mx0 Mx) : Kn kn sp w Mx Mm := by
  obtain ⟨⟨k1, k2⟩, ⟨k3, k4, k5, k6⟩, k7⟩ := h
  have ap := kd_apt k1 hs k2
  have rk := kd_rg k1
  have rs := kd_rg hs
  refine ⟨⟨k1, k2⟩, ⟨(fx kn 3 (by unfold ScG; omega)).trans k3, (fm 372 1 (by unfold ScY ScS; omega)).trans k4, k5, k6⟩, fun t t0 t1 => ?_⟩
  obtain ⟨y1, y2, y3⟩ := k7 t t0 t1
  rw [fx (kn + 2) t (by unfold ScG; omega), fx _ 1 (by unfold ScG; omega), fm 373 (5 + t) (by unfold ScY ScS; omega)]
  exact ⟨y1, y2, fun u u0 u1 => by rw [fm 373 (5 + u) (by unfold ScY ScS; omega)]; exact y3 u u0 u1⟩
theorem OldP.tr {a i j k l : Int} {A A' A'' B B' B'' : Mem} (h : OldP a i j k l A A' B B') (h' : OldP a i j k l A' A'' B' B'') : OldP a i j k l A A'' B B'' := ⟨fun s c s0 s1 => (h'.1 s c s0 s1).trans (h.1 s c s0 s1), fun c s c0 c1 s0 s1 => (h'.2 c s c0 c1 s0 s1).trans (h.2 c s c0 c1 s0 s1)⟩
theorem pc_show (M : Mem) (s d : Int) : Pc (f_X5_readShow M s d) (fun r _ => r = 0 ∨ r = 1) := by
  unfold f_X5_readShow
  refine pc_bi (pc_bi (pc_cl (pc_any _) (fun _ _ _ => pc_if (fun _ => pc_rt (Or.inl rfl)) (fun _ => pc_ok (fun _ => pc_cl (pc_any _) (fun _ _ _ => pc_bm (pc_if ?_ ?_)))))))
  · exact fun _ => pc_cl (pc_any _) (fun _ _ _ => pc_ok (fun h => pc_rt h))
  · refine fun _ => pc_ok (fun _ => pc_bm (pc_cl (pc_any _) (fun _ _ _ => pc_if (fun _ => pc_rt (Or.inl rfl)) (fun _ => pc_cl (pc_any _) (fun _ _ _ => pc_if (fun _ => pc_rt (Or.inl rfl)) ?_)))))
    exact fun _ => pc_ok (fun _ => pc_bm (pc_rt (Or.inr rfl)))
theorem pc_times (S : Mem → Int → Res) (M : Mem) (s d : Int) : Pc (f_X5_readTimes S M s d) (fun r _ => r = 0 ∨ r = 1) := by
  unfold f_X5_readTimes
  refine pc_cl (pc_any _) (fun _ _ _ => pc_if (fun _ => pc_rt (Or.inl rfl)) (fun _ => pc_cl (pc_any _) (fun _ _ _ => pc_if ?_ (fun _ => pc_if ?_ ?_))))
  · exact fun _ => pc_cl (pc_any _) (fun _ _ _ => pc_ok (fun h => pc_rt h))
  · refine fun _ => pc_cl (pc_any _) (fun _ _ _ => pc_ok (fun _ => pc_cl (pc_any _) (fun _ _ _ => pc_if ?_ (fun _ => pc_cl (pc_any _) (fun _ _ _ => pc_if ?_ ?_)))))
    · exact fun _ => pc_ok (fun _ => pc_bm (pc_rt (Or.inl rfl)))
    · exact fun _ => pc_ok (fun _ => pc_bm (pc_rt (Or.inl rfl)))
    · exact fun _ => pc_ok (fun _ => pc_bm (pc_rt (Or.inr rfl)))
  · exact fun _ => pc_cl (pc_any _) (fun _ _ _ => pc_ok (fun h => pc_rt h))
section PL
variable {b : Int → Int} {n sp kn w : Int} {Mx0 Mm0 Mx Mm : Mem} {T : List Tok} {C : List Int} {k : Nat} {d l : Int}
theorem x_stw2 (h : XT b n sp Mx T C) (h43 : Mx 4 3 = 2) : f_X5_isStatementWord Mx = some (bI (isW T 7 ∨ isW T 8), Mx) := by
  have ow := fun w (hw : 0 ≤ w) => h.ow (w := w) hw
  unfold f_X5_isStatementWord
  rw [h43, if_neg (by decide), if_neg (by decide)]
  by_cases c7 : isW T 7
  · rw [if_pos ((ow 7 (by decide)).mpr c7), bI_t (Or.inl c7)]
  rw [if_neg (fun q => c7 ((ow 7 (by decide)).mp q))]
  by_cases c8 : isW T 8
  · rw [if_pos ((ow 8 (by decide)).mpr c8), bI_t (Or.inr c8)]
  rw [if_neg (fun q => c8 ((ow 8 (by decide)).mp q)), bI_f (by rintro (q | q); exact c7 q; exact c8 q)]
/-- the reference at a STATEMENT of a PLAN -/
theorem m_74 {M : Mem} (mc : MC b n M T C) {k : Int} (h36 : M 337 36 = k) (hk : 0 ≤ k ∧ k ≤ 40) : (isW T 7 ∧ ∃ M1, j_X12_planned_74 M = cl (f_X12_showTold M1) (fun _ M20 => some (0, M20)) ∧ MC b n M1 T.tail C ∧ Fr ScP (st M 337 36 (k + 1)) M1) ∨ (isW T 8 ∧ ∃ M1, j_X12_planned_74 M = cl (f_X12_timesTold M1) (fun _ M20 => some (0, M20)) ∧ MC b n M1 T.tail C ∧ Fr ScP (st M 337 36 (k + 1)) M1) ∨ (¬ (isW T 7 ∨ isW T 8) ∧ ∃ M1, j_X12_planned_74 M = some (0, M1) ∧ ME M1 1 (hq T) ∧ Fr ScP (st M 337 36 (k + 1)) M1) := by
  have mc1 : MC b n (st M 337 36 (k + 1)) T C := mc.ot (by decide)
  unfold j_X12_planned_74
  rw [h36, ok_t ⟨by omega, by omega⟩, bm_e]
  rcases m_takes mc1.1 (a := 346) (by decide) with ⟨c7, M1, e1, q1, q2⟩ | ⟨c7, e1⟩
  · left
    rw [e1, cl_some, if_neg (by decide)]
    exact ⟨c7, M1, rfl, mc1.go q1 q2, q2⟩
  · have c7 : ¬ isW T 7 := c7
    have mc2 := mc1.lo
    rw [e1, cl_some, if_pos rfl]
    rcases m_asks mc2.1 (a := 347) (by decide) with ⟨c8, M1, e1, q1, q2⟩ | ⟨c8, M1, e1, q1, q2⟩
    · right; left
      rw [e1, cl_some, if_pos q1.1]
      exact ⟨c8, M1, rfl, mc2.go q1 q2, (lk_fr _ _).tr q2⟩
    · right; right
      have c8 : ¬ isW T 8 := c8
      rw [e1, cl_some, if_neg (by rw [q1.1]; exact q1.2.2)]
      exact ⟨by rintro (q | q); exact c7 q; exact c8 q, M1, rfl, q1, (lk_fr _ _).tr q2⟩
def PEnd (d : Int) (T : List Tok) : Prop := (d = 0 ∧ hk T = 0) ∨ (0 < d ∧ isS T 93)
/-- both refuse -/
def EE (sp : Int) (Mx0 Mm0 Mx Mm : Mem) : Prop := ∃ e p, XE sp Mx e p ∧ ME Mm e p ∧ Fr ScY Mm0 Mm ∧ Fr (ScG sp) Mx0 Mx ∧ StB Mm
theorem ScP_Y {M M1 : Mem} (f : Fr ScP M M1) : Fr ScY M M1 := f.mono (fun a i q => by unfold ScP at q; unfold ScY ScS; omega)
/-- the head of a STATEMENT in both -/
theorem j_hd (S : Mem → Int → Res) (w2 : Mem → Int → Res) (x2 : Int) (h : JP b n sp kn Mx0 Mm0 Mx Mm T C k d l) (hn : ¬ PEnd d T) : (∃ Mx1 Mm1, j_X5_readStatements_33 S d w2 Mx x2 = some (0, Mx1) ∧ j_X12_planned_50 (lk Mm T) (lkv b T) = some (0, Mm1) ∧ EE sp Mx0 Mm0 Mx1 Mm1) ∨ (k < 40 ∧ hk T ≠ 0 ∧ ∃ M9 M1, ((M9 (sp + 4 + k) 0 = 7 ∧ j_X5_readStatements_33 S d w2 Mx x2 = cl (f_X5_readShow M9 (sp + 4 + k) d) (KX w2 x2) ∧ j_X12_planned_50 (lk Mm T) (lkv b T) = cl (f_X12_showTold M1) (fun _ M20 => some (0, M20))) ∨ (M9 (sp + 4 + k) 0 = 8 ∧ j_X5_readStatements_33 S d w2 Mx x2 = cl (f_X5_readTimes S M9 (sp + 4 + k) d) (KX w2 x2) ∧ j_X12_planned_50 (lk Mm T) (lkv b T) = cl (f_X12_timesTold M1) (fun _ M20 => some (0, M20)))) ∧ XT b n sp M9 T.tail C ∧ MC b n M1 T.tail C ∧ (M9 (sp + 4 + k) 9 = k + 1 ∧ M9 sp 1 = k + 1) ∧ (M1 337 36 = k + 1 ∧ M1 337 52 = d ∧ M1 376 0 = l) ∧ OldP sp 0 k 0 l Mm M1 Mx M9 ∧ Fr ScY Mm0 M1 ∧ Fr (ScG sp) Mx0 M9 ∧ M9 4 3 = 2 ∧ M9 4 2 = kn ∧ StB M1) := by
  obtain ⟨⟨h1, h2⟩, ⟨h3, h3a, h3b⟩, ⟨h4, h4b⟩, ⟨h5, h6, h7⟩, ⟨h8, h9, h10⟩, h11, h12, h13, h14⟩ := h
  have sb0 : StB (lk Mm T) := h14.p (lk_fr _ _)
  have sb1 : ∀ M1, Fr ScP (st (lk Mm T) 337 36 (k + 1)) M1 → StB M1 := fun M1 f => (sb0.fr (fun a j _ _ _ _ => st_neA (by omega))).p f
  have mp := h2.1
  have el := lkv_end mp.2.2.2.2.2.1 mp.2.2.2.2.1 (fun i i0 i1 => (mp.2.2.2.1 i i0 i1).2.1)
  have k3 := h1.2.2.2.2.2.1.2.2.1
  have k1 := h1.2.2.2.2.2.1.1
  have rs := kd_rg h1.2.2.1.2
  have mcl := h2.lo
  have l36 : lk Mm T 337 36 = k := (st_neI (by decide)).trans h6
  have fl : Fr ScY Mm0 (lk Mm T) := h12.tr (ScP_Y (lk_fr _ _))
  have fl36 : ∀ M1, Fr ScP (st (lk Mm T) 337 36 (k + 1)) M1 → Fr ScY Mm0 M1 := fun M1 f => (Fr.st fl (by unfold ScY; omega)).tr (ScP_Y f)
  unfold j_X5_readStatements_33 j_X12_planned_50
  rw [h1.2.2.1.1, ok_t h1.2.2.1.2, h5, k1, l36]
  by_cases c41 : (k : Int) = 40 ∧ hk T ≠ 0
  · -- a 41st
    left
    obtain ⟨M1, e1, x1, f1⟩ := x_ref h1 (k := 5) (by decide) (hq T)
    rw [if_neg (show ¬ (k : Int) < 40 by omega), if_neg c41.2, if_neg (fun q => c41.2 (el.mp q)), if_pos c41.1, k3, e1, cl_some, ok_t (Or.inl rfl), m_fail mcl.1.1, cl_some, lk_at]
    exact ⟨M1, _, rfl, rfl, 5, hq T, x1, me_fail (by decide), fl.tr (ScP_Y (fr_fail (Fr.rf _ _) _ _)), h13.tr (ScQ_G f1), sb0.p (fr_fail (Fr.rf _ _) _ _)⟩
  · have ex : (if (k : Int) < 40 then j_X5_readStatements_62 S d w2 Mx x2 else if hk T = 0 then j_X5_readStatements_62 S d w2 Mx x2 else cl (f_X5_refused Mx 5 (Mx 4 9)) (fun r29 M30 => ok (r29 = 0 ∨ r29 = 1) (some (r29, M30)))) = j_X5_readStatements_62 S d w2 Mx x2 := by
      by_cases c : (k : Int) < 40
      · rw [if_pos c]
      · rw [if_neg c, if_pos (by omega)]
    have em : (if lkv b T = -1 then j_X12_planned_74 (lk Mm T) else if (k : Int) = 40 then cl (f_X12_fail (lk Mm T) 5 (lk Mm T 337 2)) (fun r23 M24 => some (0, M24)) else j_X12_planned_74 (lk Mm T)) = j_X12_planned_74 (lk Mm T) := by
      by_cases c : lkv b T = -1
      · rw [if_pos c]
      · rw [if_neg c, if_neg (fun q => c41 ⟨q, fun z => c (el.mpr z)⟩)]
    rw [ex, em]
    unfold j_X5_readStatements_62
    rw [x_stw2 h1 h4, cl_some, bI_ite, k3]
    have KXe : (fun r17 M18 => if r17 = 0 then (some (0, M18)) else (cl (f_X5_readSign M18 59) (fun r21 M22 => if r21 = 0 then (some (0, M22)) else (ok (in32 (x2 + 1)) (bi (x2 + 1) (fun y26 => w2 M22 y26)))))) = KX w2 x2 := rfl
    rw [KXe]
    -- the words
    have ok9 : ∀ wd : Int, wd = 7 ∨ wd = 8 → isW T wd → ∀ M1, MC b n M1 T.tail C → Fr ScP (st (lk Mm T) 337 36 (k + 1)) M1 → k < 40 ∧ ∃ M9, XT b n sp M9 T.tail C ∧ (M9 (sp + 4 + k) 0 = wd ∧ M9 (sp + 4 + k) 9 = k + 1 ∧ M9 sp 1 = k + 1) ∧ f_X5_readStatement S Mx d = (if wd = 7 then (cl (f_X5_readShow M9 (sp + 4 + k) d) (fun r52 M53 => ok (r52 = 0 ∨ r52 = 1) (some (r52, M53)))) else (cl (f_X5_readTimes S M9 (sp + 4 + k) d) (fun r57 M58 => ok (r57 = 0 ∨ r57 = 1) (some (r57, M58))))) ∧ (M1 337 36 = k + 1 ∧ M1 337 52 = d ∧ M1 376 0 = l) ∧ OldP sp 0 k 0 l Mm M1 Mx M9 ∧ Fr (ScG sp) Mx0 M9 ∧ M9 4 3 = 2 ∧ M9 4 2 = kn := by
      intro wd hwd hw M1 mc1 f1
      have hz : hk T ≠ 0 := by have := hw.1; omega
      have hk40 : k < 40 := by
        by_cases c : (k : Int) = 40
        · exact absurd ⟨c, hz⟩ c41
        · omega
      obtain ⟨M9, x9, b1, same, f9, e43, er⟩ := x_rst S d h1 ⟨h5, hk40⟩ hw (by omega) (by omega)
      have e42 : M9 4 2 = kn := (f9 4 2 (by unfold ScG; omega)).trans h4b
      have g1 : ∀ a i, ¬ ScP a i → ¬ (a = 337 ∧ i = 36) → M1 a i = Mm a i := fun a i z1 z2 => by rw [f1 a i z1, st_ne z2]; exact lk_fr Mm T a i z1
      refine ⟨hk40, M9, x9, b1, ?_, ⟨?_, ?_, ?_⟩, ⟨fun s c s0 s1 => same _ _ (by omega) (by omega) (by omega) (by omega) (by omega), fun c s c0 c1 s0 s1 => g1 _ _ (by unfold ScP; omega) (by omega)⟩, h13.tr f9, e43.trans h4, e42⟩
      · rw [er, if_neg (by omega), if_neg (by omega), if_neg (by omega)]
        rcases hwd with rfl | rfl
        · rw [if_pos rfl, if_pos rfl]
        · rw [if_neg (show ¬ (8 : Int) = 7 by decide), if_pos rfl, if_neg (show ¬ (8 : Int) = 7 by decide)]
      · rw [f1 _ _ (by unfold ScP; omega), st_at]
      · rw [g1 _ _ (by unfold ScP; omega) (by omega)]; exact h3
      · rw [g1 _ _ (by unfold ScP; omega) (by omega)]; exact h8
    rcases m_74 mcl l36 ⟨by omega, by omega⟩ with ⟨c7, M1, e1, mc1, f1⟩ | ⟨c8, M1, e1, mc1, f1⟩ | ⟨cn, M1, e1, m1, f1⟩
    · right
      obtain ⟨hk40, M9, x9, b1, er, q1, q2, q3, q4, q5⟩ := ok9 7 (Or.inl rfl) c7 M1 mc1 f1
      rw [if_pos rfl, cl_01 (pc_show M9 _ d)] at er
      rw [if_pos (Or.inl c7), er, e1]
      exact ⟨hk40, by have := c7.1; omega, M9, M1, Or.inl ⟨b1.1, rfl, rfl⟩, x9, mc1, b1.2, q1, q2, fl36 M1 f1, q3, q4, q5, sb1 M1 f1⟩
    · right
      obtain ⟨hk40, M9, x9, b1, er, q1, q2, q3, q4, q5⟩ := ok9 8 (Or.inr rfl) c8 M1 mc1 f1
      rw [if_neg (show ¬ (8 : Int) = 7 by decide), cl_01 (pc_times S M9 _ d)] at er
      rw [if_pos (Or.inr c8), er, e1]
      exact ⟨hk40, by have := c8.1; omega, M9, M1, Or.inr ⟨b1.1, rfl, rfl⟩, x9, mc1, b1.2, q1, q2, fl36 M1 f1, q3, q4, q5, sb1 M1 f1⟩
    · left
      obtain ⟨M3, e3, x3, f3⟩ := x_ref h1 (k := 1) (by decide) (hq T)
      rw [if_neg cn, e3, cl_some, ok_t (Or.inl rfl), e1]
      exact ⟨M3, M1, rfl, rfl, 1, hq T, x3, m1, fl36 M1 f1, h13.tr (ScQ_G f3), sb1 M1 f1⟩
/-- what a list of STATEMENTS comes to -/
def LO (b : Int → Int) (n sp kn w : Int) (Mx0 Mm0 Mx Mm : Mem) (T : List Tok) (C : List Int) (k : Nat) (d l : Int) (dd : Nat) (Rx Rm : Res) : Prop :=
  ∃ Mx1 Mm1 G1, Rm = wl0 b_X12_plan_11 G1 Mm1 ∧ ((Rx = some (0, Mx1) ∧ 0 < G1 ∧ EE sp Mx0 Mm0 Mx1 Mm1) ∨ (Rx = some (1, Mx1) ∧ ∃ T1 c k1 l1, JP b n sp kn Mx0 Mm0 Mx1 Mm1 T1 (C ++ c) k1 d l1 ∧ PEnd d T1 ∧ T1.length ≤ T.length ∧ T1.length < G1 ∧ k ≤ k1 ∧ l ≤ l1 ∧ OldP sp 0 k 0 l Mm Mm1 Mx Mx1 ∧ ∃ m, MY Mm1 Mx1 sp w (C ++ c) m dd k k1 l l1))
end PL
