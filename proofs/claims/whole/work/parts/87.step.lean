/-! one STATEMENT, and all of a text: both readers side by side -/
theorem WyY.mv {A A' B B' : Mem} {a k w r : Int} {C : List Int} (hA : OldM r w A A') (hB : OldX a k w B B') (h : WyY A B a C k w) : WyY A' B' a C k w := by
  intro j j0 j1
  obtain ⟨h1, h2, h3, h4, ⟨h5, h6, h7⟩, h8, h9⟩ := h j j0 j1
  rw [hB.2 j j0 j1, hB.1 _ 5 h1.1 h1.2, hB.1 _ 1 h1.1 h1.2, hB.1 _ 6 h1.1 h1.2, hB.1 _ 7 h1.1 h1.2, hB.1 _ 8 h1.1 h1.2, hA.2 367 j (by decide) (by decide) (by decide) j0 j1, hA.2 368 j (by decide) (by decide) (by decide) j0 j1, hA.2 369 j (by decide) (by decide) (by decide) j0 j1, hA.2 370 j (by decide) (by decide) (by decide) j0 j1, hA.2 371 j (by decide) (by decide) (by decide) j0 j1]
  exact ⟨h1, h2, h3, h4, ⟨h5, h6, h7⟩, h8, h9⟩
theorem ThY.mv {A A' B B' : Mem} {a k w r : Int} (hA : OldM r w A A') (hB : OldX a k w B B') (h : ThY A B a k w) : ThY A' B' a k w := by
  intro j j0 j1
  obtain ⟨h1, h2, h3, h4, h5⟩ := h j j0 j1
  rw [hB.2 j j0 j1, hB.1 _ 2 h2.1 h2.2, hB.1 _ 1 h2.1 h2.2, hA.2 373 j (by decide) (by decide) (by decide) j0 j1, hA.2 374 j (by decide) (by decide) (by decide) j0 j1]
  exact ⟨h1, h2, h3, h4, fun u u0 u1 => by rw [hA.2 373 u (by decide) (by decide) (by decide) u0 (by omega)]; exact h5 u u0 u1⟩
section JP
variable {b : Int → Int} {n sp fl km : Int} {A0 B0 Mx Mm : Mem} {T T1 : List Tok} {C : List Int} {k : Nat}
/-- both move on along the text alone -/
theorem JS.mv (h : JS b n sp fl A0 B0 Mx Mm T C k km) {Mx1 Mm1 : Mem} (x1 : XT b n sp Mx1 T1 C) (m1 : MP b n Mm1 T1) (hl : T1.length ≤ T.length) (fx : Fr (ScQ sp) Mx Mx1) (fm : Fr ScP Mm Mm1) : JS b n sp fl A0 B0 Mx1 Mm1 T1 C k km := by
  obtain ⟨h1, h2, ⟨h3, h3b⟩, ⟨h4, h5, h6⟩, h7, ⟨h8, h9, h10⟩, h11, h12, h13, h14⟩ := h
  have ks := kd17 sp h1.2.2.1.2
  have gm : ∀ a i, ¬ ScP a i → Mm1 a i = Mm a i := fun a i q => fm a i q
  have gx : ∀ a i, ¬ ScQ sp a i → Mx1 a i = Mx a i := fun a i q => fx a i q
  have oX : ∀ w, OldX sp k w Mx Mx1 := fun w => ⟨fun i c i0 i1 => gx _ _ (by unfold ScQ; omega), fun j j0 j1 => gx _ _ (by unfold ScQ; omega)⟩
  have oM : ∀ r w, OldM r w Mm Mm1 := fun r w => ⟨fun c j c0 c1 j0 j1 => gm _ _ (by unfold ScP; omega), fun c j c0 c1 c2 j0 j1 => gm _ _ (by unfold ScP; omega)⟩
  have e362 := gm 362 0 (by unfold ScP; omega)
  have e3 := gx sp 3 (by unfold ScQ; omega)
  refine ⟨x1, ⟨m1, (gm 337 32 (by unfold ScP; omega)).trans h2.2.1, Seg.fr (fun i => gm 360 i (by unfold ScP; omega)) h2.2.2⟩, ⟨(gm 337 52 (by unfold ScP; omega)).trans h3, (gx 4 3 (by unfold ScQ; omega)).trans h3b⟩, ⟨(gx sp 1 (by unfold ScQ; omega)).trans h4, (gm 337 36 (by unfold ScP; omega)).trans h5, h6⟩, by omega, ⟨by rw [e362]; exact h8, by rw [e362]; exact h9, ?_⟩, fun hf => ?_, fun hf => ?_, h13.tr (ScS_J (ScP_S fm)), h14.tr (ScQ_G fx)⟩
  · rw [e362]
    have := RlY.old [] (oM (Mm 362 0) 0) (oX 0) k 0 0 (by omega) (by omega) (by omega) h10
    rw [List.append_nil] at this
    exact this
  · obtain ⟨w1, w2, w3⟩ := h11 hf
    rw [gm 366 0 (by unfold ScP; omega), e3]
    exact ⟨w1, w2, WyY.mv (oM 0 _) (oX _) w3⟩
  · obtain ⟨w1, w2, w3, w4, w5⟩ := h12 hf
    rw [gm 372 0 (by unfold ScP; omega), gm 375 0 (by unfold ScP; omega), gm 366 0 (by unfold ScP; omega), e3, dscN.old (oX 0) k (by omega)]
    exact ⟨w1, w2, ThY.mv (oM 0 _) (oX _) w3, w4, w5.1, w5.2.1, w5.2.2.mv (oX 0)⟩
theorem JS.cnt (h : JS b n sp fl A0 B0 Mx Mm T C k km) (v : Int) : JS b n sp fl A0 B0 Mx (st Mm 337 36 v) T C k v := by
  obtain ⟨h1, h2, ⟨h3, h3b⟩, ⟨h4, h5, h6⟩, h7, ⟨h8, h9, h10⟩, h11, h12, h13, h14⟩ := h
  have gm : ∀ a i, ¬ (a = 337 ∧ i = 36) → st Mm 337 36 v a i = Mm a i := fun a i q => st_ne q
  have oX : ∀ w, OldX sp k w Mx Mx := fun w => ⟨fun i c i0 i1 => rfl, fun j j0 j1 => rfl⟩
  have oM : ∀ r w, OldM r w Mm (st Mm 337 36 v) := fun r w => ⟨fun c j c0 c1 j0 j1 => gm _ _ (by omega), fun c j c0 c1 c2 j0 j1 => gm _ _ (by omega)⟩
  have e362 := gm 362 0 (by omega)
  refine ⟨h1, h2.ot (by omega), ⟨(gm 337 52 (by omega)).trans h3, h3b⟩, ⟨h4, st_at _ _ _ _, h6⟩, h7, ⟨by rw [e362]; exact h8, by rw [e362]; exact h9, ?_⟩, fun hf => ?_, fun hf => ?_, Fr.st h13 (by unfold ScJ; omega), h14⟩
  · rw [e362]
    have := RlY.old [] (oM (Mm 362 0) 0) (oX 0) k 0 0 (by omega) (by omega) (by omega) h10
    rw [List.append_nil] at this
    exact this
  · obtain ⟨w1, w2, w3⟩ := h11 hf
    rw [gm 366 0 (by omega)]
    exact ⟨w1, w2, WyY.mv (oM 0 _) (oX _) w3⟩
  · obtain ⟨w1, w2, w3, w4, w5⟩ := h12 hf
    rw [gm 372 0 (by omega), gm 375 0 (by omega), gm 366 0 (by omega)]
    exact ⟨w1, w2, ThY.mv (oM 0 _) (oX _) w3, w4, w5⟩
/-- what a STATEMENT comes to -/
def JT (b : Int → Int) (n sp fl : Int) (A0 B0 : Mem) (N : Nat) (k : Nat) (w2 : Mem → Int → Res) (x2 : Int) (Rx Rm : Res) : Prop :=
  (∃ e p Mx Mm, Rx = some (0, Mx) ∧ Rm = some (0, Mm) ∧ XE sp Mx e p ∧ ME Mm e p ∧ Fr ScJ A0 Mm ∧ Fr (ScG sp) B0 Mx) ∨ (∃ Mx Mm T C, Rx = w2 Mx (x2 + 1) ∧ Rm = some (0, Mm) ∧ JS b n sp fl A0 B0 Mx Mm T C (k + 1) (k + 1) ∧ T.length < N)
def KX (w2 : Mem → Int → Res) (x2 : Int) : Int → Mem → Res := fun r17 M18 => if r17 = 0 then (some (0, M18)) else (cl (f_X5_readSign M18 59) (fun r21 M22 => if r21 = 0 then (some (0, M22)) else (ok (in32 (x2 + 1)) (bi (x2 + 1) (fun y26 => w2 M22 y26)))))
theorem j_semi {N : Nat} {w2 : Mem → Int → Res} {x2 : Int} {Rx Rm : Res} (hx2 : -100 ≤ x2 ∧ x2 ≤ 100) (hk40 : k < 40) (h : JB b n sp fl A0 B0 N (k + 1) k Rx Rm) : JT b n sp fl A0 B0 N k w2 x2 (cl Rx (KX w2 x2)) (cl Rm (fun _ M => j_X12_statement_123 M)) := by
  rcases h with ⟨e, p, M1, M2, r, e1, e2, h1, h2, h3, h4, h5⟩ | ⟨M1, M2, r, T, C, e1, e2, hJ, hl⟩
  · left
    have hne : M2 337 5 ≠ 0 := by rw [h2.1]; exact h2.2.2
    rw [e1, e2, cl_some, cl_some]
    unfold KX j_X12_statement_123
    rw [if_pos rfl, m_asksSign0 hne, cl_some, h3, ok_t ⟨by omega, by omega⟩, bm_e]
    refine ⟨e, p, M1, _, rfl, rfl, h1, ⟨?_, ?_, h2.2.2⟩, Fr.st h4 (by unfold ScJ; omega), h5⟩
    · rw [st_neI (by decide)]; exact h2.1
    · rw [st_neI (by decide)]; exact h2.2.1
  · rw [e1, e2, cl_some, cl_some]
    unfold KX j_X12_statement_123
    rw [if_neg (by decide)]
    have x0 := hJ.1
    have m0 := hJ.2.1.1
    have c36 := hJ.2.2.2.1.2.1
    rcases m_asksSign m0 (c := 59) (by decide) (by decide) (by decide) with ⟨c, M4, e4, q1, q2⟩ | ⟨c, M4, e4, q1, q2⟩
    · rcases x_sign x0 59 with ⟨-, M3, e3, x3, f3⟩ | ⟨q, -⟩
      · right
        have hl2 := (x0.1.tl (by omega)).2
        have hJ2 := (hJ.mv x3 q1 (by omega) f3 q2).cnt (k + 1)
        rw [e3, e4, cl_some, cl_some, if_neg (by decide), ok_t ⟨by omega, by omega⟩, q2 337 36 (by unfold ScP; omega), c36, ok_t ⟨by omega, by omega⟩, bm_e]
        exact ⟨M3, _, T.tail, C, rfl, rfl, hJ2, by omega⟩
      · exact absurd c q
    · rcases x_sign x0 59 with ⟨q, -⟩ | ⟨-, M3, e3, x3, f3⟩
      · exact absurd q c
      · left
        rw [e3, e4, cl_some, cl_some, if_pos rfl, q2 337 36 (by unfold ScP; omega), c36, ok_t ⟨by omega, by omega⟩, bm_e]
        refine ⟨1, hq T, M3, _, rfl, rfl, x3, ⟨?_, ?_, by decide⟩, Fr.st (hJ.2.2.2.2.2.2.2.2.1.tr (ScS_J (ScP_S q2))) (by unfold ScJ; omega), hJ.2.2.2.2.2.2.2.2.2.tr (ScQ_G f3)⟩
        · rw [st_neI (by decide)]; exact q1.1
        · rw [st_neI (by decide)]; exact q1.2.1
theorem x_stw (h : XT b n sp Mx T C) (hfl : fl = 0 ∨ fl = 1) (h43 : Mx 4 3 = 1 - fl) : f_X5_isStatementWord Mx = some (bI ((fl = 1 ∧ (isW T 0 ∨ isW T 1 ∨ isW T 2)) ∨ (fl = 0 ∧ (isW T 3 ∨ isW T 6))), Mx) := by
  have ow := fun w (hw : 0 ≤ w) => h.ow (w := w) hw
  unfold f_X5_isStatementWord
  rw [h43]
  rcases hfl with rfl | rfl
  · rw [if_neg (by decide), if_pos (by decide)]
    by_cases c3 : isW T 3
    · rw [if_pos ((ow 3 (by decide)).mpr c3), bI_t (Or.inr ⟨rfl, Or.inl c3⟩)]
    rw [if_neg (fun q => c3 ((ow 3 (by decide)).mp q))]
    by_cases c6 : isW T 6
    · rw [if_pos ((ow 6 (by decide)).mpr c6), bI_t (Or.inr ⟨rfl, Or.inr c6⟩)]
    rw [if_neg (fun q => c6 ((ow 6 (by decide)).mp q)), bI_f]
    rintro (⟨q, -⟩ | ⟨-, q | q⟩)
    · exact absurd q (by decide)
    · exact c3 q
    · exact c6 q
  · rw [if_pos (by decide)]
    by_cases c0 : isW T 0
    · rw [if_pos ((ow 0 (by decide)).mpr c0), bI_t (Or.inl ⟨rfl, Or.inl c0⟩)]
    rw [if_neg (fun q => c0 ((ow 0 (by decide)).mp q))]
    by_cases c1 : isW T 1
    · rw [if_pos ((ow 1 (by decide)).mpr c1), bI_t (Or.inl ⟨rfl, Or.inr (Or.inl c1)⟩)]
    rw [if_neg (fun q => c1 ((ow 1 (by decide)).mp q))]
    by_cases c2 : isW T 2
    · rw [if_pos ((ow 2 (by decide)).mpr c2), bI_t (Or.inl ⟨rfl, Or.inr (Or.inr c2)⟩)]
    rw [if_neg (fun q => c2 ((ow 2 (by decide)).mp q)), bI_f]
    rintro (⟨-, q | q | q⟩ | ⟨q, -⟩)
    · exact c0 q
    · exact c1 q
    · exact c2 q
    · exact absurd q (by decide)
/-- the class's readStatement, up to what stands behind the word -/
theorem x_rst (S : Mem → Int → Res) (a1 : Int) (h : XT b n sp Mx T C) (hk1 : Mx sp 1 = k ∧ k < 40) {wd : Int} (hw : isW T wd) (hwd : 0 ≤ wd) (hn : (wd = 2 ∨ wd = 3) → Mx sp 3 < 5) : ∃ M9, XT b n sp M9 T.tail C ∧ (M9 (sp + 4 + k) 0 = wd ∧ M9 (sp + 4 + k) 9 = k + 1 ∧ M9 sp 1 = k + 1) ∧ (∀ a i, sp ≤ a → a ≤ sp + 43 → a ≠ sp + 3 → ¬ (a = sp ∧ (i = 1 ∨ i = 5)) → ¬ (a = sp + 4 + k ∧ (i = 0 ∨ i = 9)) → M9 a i = Mx a i) ∧ Fr (ScG sp) Mx M9 ∧ M9 4 3 = Mx 4 3 ∧ f_X5_readStatement S Mx a1 = (if wd = 1 then (cl (f_X5_readSquare M9 (sp + 4 + k)) (fun r13 M14 => ok (r13 = 0 ∨ r13 = 1) (some (r13, M14)))) else (if wd = 2 then (cl (f_X5_readNewName M9) (fun r18 M19 => if r18 = 0 then (some (0, M19)) else (cl (f_X5_readNumber M19 (sp + 4 + k) 2 6) (fun r22 M23 => if r22 = 0 then (some (0, M23)) else (some (1, M23)))))) else (if wd = 3 then (cl (f_X5_readNewName M9) (fun r28 M29 => if r28 = 0 then (some (0, M29)) else (cl (f_X5_readKnows M29 (sp + 4 + k)) (fun r32 M33 => if r32 = 0 then (some (0, M33)) else (cl (f_X5_readRule M33 (sp + 4 + k)) (fun r36 M37 => if r36 = 0 then (some (0, M37)) else (some (1, M37)))))))) else (if wd = 7 then (cl (f_X5_readShow M9 (sp + 4 + k) a1) (fun r52 M53 => ok (r52 = 0 ∨ r52 = 1) (some (r52, M53)))) else (if wd = 8 then (cl (f_X5_readTimes S M9 (sp + 4 + k) a1) (fun r57 M58 => ok (r57 = 0 ∨ r57 = 1) (some (r57, M58)))) else (cl (f_X5_readRule M9 (sp + 4 + k)) (fun r43 M44 => ok (r43 = 0 ∨ r43 = 1) (some (r43, M44))))))))) := by
  have ks := kd17 sp h.2.2.1.2
  have hkst : kd (sp + 4 + k) = 18 := kdSt sp h.2.2.1.2 k ⟨by omega, by omega⟩
  have e10 : Mx 4 10 = wd := (h.ow hwd).mpr hw
  obtain ⟨M7, M9, e7, e9, x9, b1, same, f9, e43⟩ := x_beg h hk1 hw
  refine ⟨M9, x9, b1, same, f9, e43, ?_⟩
  have e47 : f_X5_readStatement S Mx a1 = j_X5_readStatement_47 S a1 Mx := by
    unfold f_X5_readStatement j_X5_readStatement_16 j_X5_readStatement_21
    rw [e10, h.2.2.1.1]
    by_cases c2 : wd = 2
    · rw [if_pos c2, if_neg (by decide), ok_t h.2.2.1.2, if_pos (hn (Or.inl c2))]
    rw [if_neg c2]
    by_cases c3 : wd = 3
    · rw [if_pos c3, if_neg (by decide), ok_t h.2.2.1.2, if_pos (hn (Or.inr c3))]
    rw [if_neg c3, if_pos rfl]
  rw [e47]
  unfold j_X5_readStatement_47 j_X5_readStatement_185
  rw [h.2.2.1.1, ok_t h.2.2.1.2, e10, e7, cl_some, e9, cl_some, ok_t hkst, b1.1]
  by_cases c1 : wd = 1
  · rw [if_pos c1, if_pos c1]
  rw [if_neg c1, if_neg c1]
  by_cases c2 : wd = 2
  · rw [if_pos c2, if_pos c2]
  rw [if_neg c2, if_neg c2]
  by_cases c3 : wd = 3
  · rw [if_pos c3, if_pos c3]
  rw [if_neg c3, if_neg c3]
  by_cases c7 : wd = 7
  · rw [if_neg (by omega), if_neg (by omega), if_neg (by omega), if_pos c7, if_pos c7]
  by_cases c8 : wd = 8
  · rw [if_neg (by omega), if_neg (by omega), if_neg (by omega), if_neg c7, if_pos c8, if_neg c7, if_pos c8]
  rw [if_neg c7, if_neg c8, if_neg c7, if_neg c8, ok_t hkst]
  by_cases c4 : wd = 4
  · rw [if_pos c4]
  rw [if_neg c4]
  by_cases c5 : wd = 5
  · rw [if_pos c5]
  rw [if_neg c5]
  by_cases c6 : wd = 6
  · rw [if_pos c6]
  rw [if_neg c6]
theorem cl_01 {R : Res} (h : ∀ r M, R = some (r, M) → r = 0 ∨ r = 1) : cl R (fun r M => ok (r = 0 ∨ r = 1) (some (r, M))) = R := by
  cases hR : R with
  | none => rfl
  | some p =>
    obtain ⟨r, M⟩ := p
    rw [cl_some, ok_t (h r M hR)]
theorem JB.r01 {N : Nat} {Rx Rm : Res} {km : Int} (h : JB b n sp fl A0 B0 N k km Rx Rm) : cl Rx (fun r M => ok (r = 0 ∨ r = 1) (some (r, M))) = Rx := by
  refine cl_01 (fun r M e => ?_)
  rcases h with ⟨_, _, M1, _, _, e1, -⟩ | ⟨M1, _, _, _, _, e1, -⟩
  · rw [e1] at e; cases e; exact Or.inl rfl
  · rw [e1] at e; cases e; exact Or.inr rfl
end JP
