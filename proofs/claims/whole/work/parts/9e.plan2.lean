section PM
variable {b : Int → Int} {n sp kn w : Int} {Mx0 Mm0 Mx Mm : Mem} {T : List Tok} {C : List Int} {k : Nat} {d l : Int}
theorem LO.show {Mx1 Mm1 : Mem} {T1 : List Tok} {c : List Int} {dd : Nat} {Rx Rm : Res} (hS : ShwY Mm1 Mx1 sp w (C ++ c) k l) (h7 : Mx1 (sp + 4 + k) 0 = 7) (h377 : Mm1 377 l = 0) (ho : OldP sp 0 k 0 l Mm Mm1 Mx Mx1) (hl0 : 0 ≤ l) (hT : T1.length < T.length) (h : LO b n sp kn w Mx0 Mm0 Mx1 Mm1 T1 (C ++ c) (k + 1) d (l + 1) dd Rx Rm) : LO b n sp kn w Mx0 Mm0 Mx Mm T C k d l dd Rx Rm := by
  obtain ⟨Mx2, Mm2, G1, e, q⟩ := h
  rcases q with q | ⟨eR, T2, c2, k1, l1, hJ, hE, hl1, hl2, hk, hll, ho2, m, hm⟩
  · exact ⟨Mx2, Mm2, G1, e, Or.inl q⟩
  · have ec : ((k + 1 : Nat) : Int) = k + 1 := by omega
    rw [ec] at ho2 hm
    rw [List.append_assoc] at hJ hm
    have s0 : ∀ c, Mx2 (sp + 4 + k) c = Mx1 (sp + 4 + k) c := fun c => ho2.1 k c (by omega) (by omega)
    have m0 : ∀ c, 377 ≤ c → c ≤ 382 → Mm2 c l = Mm1 c l := fun c c0 c1 => ho2.2 c l c0 c1 hl0 (by omega)
    have hS2 := hS.mv (A' := Mm2) (B' := Mx2) c2 m0 s0
    rw [List.append_assoc] at hS2
    exact ⟨Mx2, Mm2, G1, e, Or.inr ⟨eR, T2, c ++ c2, k1, l1, hJ, hE, by omega, hl2, by omega, by omega, ho.tr (ho2.sub (Int.le_refl _) (by omega) (Int.le_refl _) (by omega)), m + 1, Or.inr (Or.inl ⟨by omega, by omega, by rw [s0]; exact h7, by rw [m0 377 (by decide) (by decide)]; exact h377, hS2, hm⟩)⟩⟩
theorem LO.times {Mx3 Mm3 : Mem} {T3 : List Tok} {c2 : List Int} {dd k1 m : Nat} {l1 : Int} {Rx Rm : Res} (h8 : Mx3 (sp + 4 + k) 0 = 8) (h377 : Mm3 377 l = 1) (h382 : Mm3 382 l = Mx3 (sp + 4 + k) 2) (h2 : 1 ≤ Mx3 (sp + 4 + k) 2 ∧ Mx3 (sp + 4 + k) 2 ≤ 9) (h9 : Mx3 (sp + 4 + k) 9 = k1) (hk1 : k + 1 ≤ k1) (hl1 : l + 1 ≤ l1) (h3 : Mm3 377 l1 = 2) (hm : MY Mm3 Mx3 sp w (C ++ c2) m dd (k + 1) k1 (l + 1) l1) (ho : OldP sp 0 k 0 l Mm Mm3 Mx Mx3) (hl0 : 0 ≤ l) (hT : T3.length < T.length) (h : LO b n sp kn w Mx0 Mm0 Mx3 Mm3 T3 (C ++ c2) k1 d (l1 + 1) (dd + 1) Rx Rm) : LO b n sp kn w Mx0 Mm0 Mx Mm T C k d l (dd + 1) Rx Rm := by
  obtain ⟨Mx4, Mm4, G1, e, q⟩ := h
  rcases q with q | ⟨eR, T4, c4, k4, l4, hJ, hE, hl3, hl2, hk, hll, ho2, m4, hm4⟩
  · exact ⟨Mx4, Mm4, G1, e, Or.inl q⟩
  · have s0 : ∀ c, Mx4 (sp + 4 + k) c = Mx3 (sp + 4 + k) c := fun c => ho2.1 k c (by omega) (by omega)
    have m0 : ∀ c j, 377 ≤ c → c ≤ 382 → 0 ≤ j → j ≤ l1 → Mm4 c j = Mm3 c j := fun c j c0 c1 j0 j1 => ho2.2 c j c0 c1 j0 (by omega)
    have hmi := MY.mv c4 m dd (k + 1) k1 (l + 1) l1 (ho2.sub (by omega) (Int.le_refl _) (by omega) (by omega)) hm
    rw [List.append_assoc] at hJ hmi hm4
    have hmi := hmi.le m4
    have hm4 := hm4.le m
    rw [Nat.add_comm m4 m] at hm4
    refine ⟨Mx4, Mm4, G1, e, Or.inr ⟨eR, T4, c2 ++ c4, k4, l4, hJ, hE, by omega, hl2, by omega, by omega, ho.tr (ho2.sub (Int.le_refl _) (by omega) (Int.le_refl _) (by omega)), m + m4 + 1, Or.inr (Or.inr ⟨by omega, by rw [s0]; exact h8, by rw [m0 377 l (by decide) (by decide) hl0 (by omega)]; exact h377, by rw [m0 382 l (by decide) (by decide) hl0 (by omega), s0]; exact h382, by rw [s0]; exact h2, by rw [s0, h9]; omega, dd, l1, rfl, by omega, by omega, by rw [m0 377 l1 (by decide) (by decide) (by omega) (Int.le_refl _)]; exact h3, by rw [s0, h9]; exact hmi, by rw [s0, h9]; exact hm4⟩)⟩⟩
theorem ScSt_G {s : Int} (hs : sp + 4 ≤ s ∧ s ≤ sp + 43) {M M1 : Mem} (f : Fr (ScSt sp s) M M1) : Fr (ScG sp) M M1 := f.mono (fun a i q => by unfold ScSt ScQ at q; unfold ScG; omega)
theorem ScS9_G {s : Int} (hs : sp + 4 ≤ s ∧ s ≤ sp + 43) {M M1 : Mem} (f : Fr (ScS9 sp s) M M1) : Fr (ScG sp) M M1 := f.mono (fun a i q => by unfold ScS9 ScQ at q; unfold ScG; omega)
theorem OldP.st {s : Int} {Mxa Mma : Mem} (hs : s = sp + 4 + k) (fx : Fr (ScSt sp s) Mx Mxa) (fm : Fr (fun a i => ScLp l a i ∨ ScT8 l a i) Mm Mma) (rs : 69 ≤ sp ∧ sp ≤ 293) : OldP sp 0 k 0 l Mm Mma Mx Mxa := ⟨fun i c i0 i1 => fx _ _ (by unfold ScSt ScQ; omega), fun c j c0 c1 j0 j1 => fm _ _ (by unfold ScT8 ScLp ScS; omega)⟩
theorem j_plan (hK : Kn kn sp w Mx0 Mm0) : ∀ (N : Nat) (dd : Nat) (d : Int) (F G : Nat) (Mx Mm : Mem) (T : List Tok) (C : List Int) (k : Nat) (l x2 : Int), (dd : Int) + d = 6 → JP b n sp kn Mx0 Mm0 Mx Mm T C k d l → T.length ≤ N → T.length < F → T.length < G → 0 ≤ x2 → x2 ≤ k → LO b n sp kn w Mx0 Mm0 Mx Mm T C k d l dd (wl1 (b_X5_readStatements_2 (f_X5_readStatements (dd + 1)) d) F Mx x2) (wl0 b_X12_plan_11 G Mm)
  | 0, dd, d, F, G, Mx, Mm, T, C, k, l, x2, hdd, h, hN, hF, hG, hx0, hx1 => by
    have := h.1.1.1.hd.2.1
    omega
  | N + 1, dd, d, F, G, Mx, Mm, T, C, k, l, x2, hdd, h, hN, hF, hG, hx0, hx1 => by
    obtain ⟨F', rfl⟩ : ∃ F', F = F' + 1 := ⟨F - 1, by omega⟩
    obtain ⟨G', rfl⟩ : ∃ G', G = G' + 1 := ⟨G - 1, by omega⟩
    have tk := h.1.1.1
    have th := tk.hd
    have hd := h.2.1.2
    have hk40 := h.2.2.2.1.2.2
    have hl := h.2.2.2.2.1.2
    have k1 := h.1.1.2.2.2.2.2.1.1
    have rs := kd_rg h.1.1.2.2.1.2
    by_cases hE : PEnd d T
    · have eX : wl1 (b_X5_readStatements_2 (f_X5_readStatements (dd + 1)) d) (F' + 1) Mx x2 = some (1, Mx) := by
        rw [wl1_s]
        generalize wl1 (b_X5_readStatements_2 (f_X5_readStatements (dd + 1)) d) F' = w'
        unfold b_X5_readStatements_2
        rw [if_neg (show ¬ 40 < x2 by omega)]
        rcases hE with ⟨e0, ez⟩ | ⟨e0, ez⟩
        · rw [if_pos e0, k1, if_pos ez]
        · rw [if_neg (show ¬ d = 0 by omega), x_isSign h.1.1 93, cl_some, bI_ite, if_pos ez]
      exact ⟨Mx, Mm, G' + 1, rfl, Or.inr ⟨eX, T, [], k, l, by rw [List.append_nil]; exact h, hE, Nat.le_refl _, hG, Nat.le_refl _, Int.le_refl _, ⟨fun _ _ _ _ => rfl, fun _ _ _ _ _ _ => rfl⟩, 1, Or.inl ⟨rfl, rfl⟩⟩⟩
    · have eX : wl1 (b_X5_readStatements_2 (f_X5_readStatements (dd + 1)) d) (F' + 1) Mx x2 = j_X5_readStatements_33 (f_X5_readStatements (dd + 1)) d (wl1 (b_X5_readStatements_2 (f_X5_readStatements (dd + 1)) d) F') Mx x2 := by
        rw [wl1_s]
        generalize wl1 (b_X5_readStatements_2 (f_X5_readStatements (dd + 1)) d) F' = w'
        unfold b_X5_readStatements_2
        rw [if_neg (show ¬ 40 < x2 by omega)]
        by_cases e0 : d = 0
        · rw [if_pos e0, k1, if_neg (fun q => hE (Or.inl ⟨e0, q⟩))]
        · rw [if_neg e0, x_isSign h.1.1 93, cl_some, bI_ite, if_neg (fun q => hE (Or.inr ⟨by omega, q⟩))]
      have eM : wl0 b_X12_plan_11 (G' + 1) Mm = cl (j_X12_planned_50 (lk Mm T) (lkv b T)) (fun _ M41 => wl0 b_X12_plan_11 G' M41) := by
        rw [m_it h.1.2.1 h.2.1.1 hd.1, if_neg (fun q => hE (Or.inl ⟨q.2, q.1⟩)), m_pl h.1.2.1 h.2.1.1 hd.1 (fun q => hE (Or.inr q))]
      rw [eX, eM]
      generalize hw2 : wl1 (b_X5_readStatements_2 (f_X5_readStatements (dd + 1)) d) F' = w2
      rcases j_hd (f_X5_readStatements (dd + 1)) w2 x2 h hE with ⟨Mxa, Mma, ea, eb, he⟩ | ⟨hk4, hz, M9, M1, hh, x9, mc1, ⟨b9, b1⟩, ⟨a36, a52, a376⟩, ho, fm, fx, e43, e42, sb⟩
      · rw [ea, eb, cl_some]
        exact ⟨Mxa, Mma, G', rfl, Or.inl ⟨rfl, by omega, he⟩⟩
      · have hs : sp + 4 ≤ sp + 4 + (k : Int) ∧ sp + 4 + (k : Int) ≤ sp + 43 := by omega
        have hl80 : 0 ≤ l ∧ l < 80 := by omega
        obtain ⟨t1, t2⟩ := tk.tl hz
        have h901 := h.2.2.2.2.2.1
        have hkn := hK.fr x9.2.2.1.2 fm fx
        have hr2 : -100 ≤ x2 ∧ x2 ≤ 100 := by omega
        rcases hh with ⟨b7, eR, em⟩ | ⟨b8, eR, em⟩
        · -- show
          rw [eR, em]
          rcases j_show (w2 := w2) (x2 := x2) (s := sp + 4 + k) (l := l) (w := w) (d := d) (kn := kn) hr2 hs hl80 hd x9 mc1 (by omega) hkn e42 a52 a376 with ⟨e, p, Mxa, Mma, ea, eb, xe, me, bd, fxa, fma⟩ | ⟨Mxa, Mma, T1, c, ea, eb, ⟨x1, m1, len1, len2⟩, ⟨a376', a377⟩, hsh, fxa, fma⟩
          · rw [ea, eb, cl_some, cl_some]
            exact ⟨Mxa, Mma, G', rfl, Or.inl ⟨rfl, by omega, e, p, xe, me, fm.tr (ScLp_Y hl80 fma), fx.tr (ScSt_G hs fxa), sb.l fma bd⟩⟩
          · rw [ea, eb, cl_some, cl_some]
            have hbd : Bd Mma l := by
              obtain ⟨-, -, -, -, -, -, ⟨⟨z1, z2, z3⟩, -⟩⟩ := hsh
              have : ((C ++ c).length : Int) ≤ 900 := by rw [List.length_append]; omega
              exact ⟨⟨z1, by omega⟩, by omega, by omega⟩
            have hJ : JP b n sp kn Mx0 Mm0 Mxa Mma T1 (C ++ c) (k + 1) d (l + 1) := by
              refine ⟨⟨x1, m1⟩, ⟨(fma 337 52 (by unfold ScLp ScS; omega)).trans a52, hd⟩, ⟨(fxa 4 3 (by unfold ScSt ScQ; omega)).trans e43, (fxa 4 2 (by unfold ScSt ScQ; omega)).trans e42⟩, ⟨?_, ?_, by omega⟩, ⟨a376', by omega, by omega⟩, by rw [List.length_append]; omega, fm.tr (ScLp_Y hl80 fma), fx.tr (ScSt_G hs fxa), sb.l fma hbd⟩
              · rw [fxa sp 1 (by unfold ScSt ScQ; omega), b1]; omega
              · rw [fma 337 36 (by unfold ScLp ScS; omega), a36]; omega
            have ih := j_plan hK N dd d F' G' Mxa Mma T1 (C ++ c) (k + 1) (l + 1) (x2 + 1) hdd hJ (by omega) (by omega) (by omega) (by omega) (by omega)
            rw [hw2] at ih
            exact LO.show ⟨by rw [fxa _ 9 (by unfold ScSt ScQ; omega)]; exact b9, hsh⟩ (by rw [fxa _ 0 (by unfold ScSt ScQ; omega)]; exact b7) a377 (ho.tr (OldP.st rfl fxa (fma.mono (fun _ _ q => Or.inl q)) rs)) hl80.1 (by omega) ih
        · -- times
          rw [eR, em]
          rcases j_tmA (f_X5_readStatements (dd + 1)) w2 x2 hs hl80 hd x9 mc1 a52 a376 with ⟨e, p, Mxa, Mma, ea, eb, xe, me, fxa, fma⟩ | ⟨Mxa, Mma, T1, ea, eb, d6, x1, m1, len, ⟨c52, c376, c377⟩, ⟨c382, c2⟩, fxa, fma⟩
          · rw [ea, eb, cl_some, cl_some]
            exact ⟨Mxa, Mma, G', rfl, Or.inl ⟨rfl, by omega, e, p, xe, me, fm.tr (ScT8_Y hl80 fma), fx.tr (ScSt_G hs fxa), sb.t fma⟩⟩
          · obtain ⟨dd', rfl⟩ : ∃ dd', dd = dd' + 1 := ⟨dd - 1, by omega⟩
            rw [ea, eb, cl_some, cl_some]
            have hJ : JP b n sp kn Mx0 Mm0 Mxa Mma T1 C (k + 1) (d + 1) (l + 1) := by
              refine ⟨⟨x1, m1⟩, ⟨c52, by omega, by omega⟩, ⟨(fxa 4 3 (by unfold ScSt ScQ; omega)).trans e43, (fxa 4 2 (by unfold ScSt ScQ; omega)).trans e42⟩, ⟨?_, ?_, by omega⟩, ⟨c376, by omega, by omega⟩, by omega, fm.tr (ScT8_Y hl80 fma), fx.tr (ScSt_G hs fxa), sb.t fma⟩
              · rw [fxa sp 1 (by unfold ScSt ScQ; omega), b1]; omega
              · rw [fma 337 36 (by unfold ScT8 ScS; omega), a36]; omega
            have hFU : FU = 1000000000 := rfl
            have ih := j_plan hK N dd' (d + 1) FU G' Mxa Mma T1 C (k + 1) (l + 1) 0 (by omega) hJ (by omega) (by omega) (by omega) (by omega) (by omega)
            have eS : f_X5_readStatements (dd' + 1 + 1) Mxa (d + 1) = wl1 (b_X5_readStatements_2 (f_X5_readStatements (dd' + 1)) (d + 1)) FU Mxa 0 := rfl
            rw [eS]
            obtain ⟨Mx2, Mm2, G1, e2, q⟩ := ih
            rw [e2]
            rcases q with ⟨er, g0, e, p, xe, me, fm2, fx2, sb2⟩ | ⟨er, T2, cc, k2, l2, hJ2, hE2, len2, lenG, hk2, hl2, ho2, m, hm⟩
            · rw [er]
              unfold TmK
              rw [cl_some, if_pos rfl, xe.2.2.1.1, ok_t xe.2.2.1.2, bm_e, cl_some]
              unfold KX
              rw [if_pos rfl]
              exact ⟨_, Mm2, G1, rfl, Or.inl ⟨rfl, g0, e, p, xe.ot (by omega), me, fm2, Fr.st fx2 (by unfold ScG; omega), sb2⟩⟩
            · rw [er]
              have hsg : isS T2 93 := by
                rcases hE2 with ⟨z, -⟩ | ⟨-, z⟩
                · omega
                · exact z
              obtain ⟨G2, rfl⟩ : ∃ G2, G1 = G2 + 1 := ⟨G1 - 1, by omega⟩
              obtain ⟨⟨x2a, m2a⟩, ⟨d52, d0, d66⟩, ⟨d43, d42⟩, ⟨d1, d36, d40⟩, ⟨d376, dl0, dlk⟩, d901, dfm, dfx, dsb⟩ := hJ2
              have hl280 : 0 ≤ l2 ∧ l2 < 80 := by omega
              have tk2 := x2a.1.hd
              rcases j_tmZ (f_X5_readStatements (dd' + 1 + 1)) (w2 := w2) hr2 hs ⟨hd.1, by omega⟩ hl280 x2a m2a d1 d52 d376 hsg G2 with ⟨e, p, Mx3, Mm3, e3, em3, xe, me, fx3, fm3⟩ | ⟨Mx3, Mm3, T3, e3, em3, x3, m3, len3, ⟨f52, f376, f377⟩, f9, fx3, fm3⟩
              · rw [e3, em3]
                exact ⟨Mx3, Mm3, G2, rfl, Or.inl ⟨rfl, by omega, e, p, xe, me, dfm.tr (ScT8_Y hl280 fm3), dfx.tr (ScS9_G hs fx3), dsb.t fm3⟩⟩
              · rw [e3, em3]
                have hJ3 : JP b n sp kn Mx0 Mm0 Mx3 Mm3 T3 (C ++ cc) k2 d (l2 + 1) := by
                  refine ⟨⟨x3, m3⟩, ⟨f52, hd⟩, ⟨(fx3 4 3 (by unfold ScS9 ScQ; omega)).trans d43, (fx3 4 2 (by unfold ScS9 ScQ; omega)).trans d42⟩, ⟨?_, ?_, d40⟩, ⟨f376, by omega, by omega⟩, by omega, dfm.tr (ScT8_Y hl280 fm3), dfx.tr (ScS9_G hs fx3), dsb.t fm3⟩
                  · rw [fx3 sp 1 (by unfold ScS9 ScQ; omega)]; exact d1
                  · rw [fm3 337 36 (by unfold ScT8 ScS; omega)]; exact d36
                have ih2 := j_plan hK N (dd' + 1) d F' G2 Mx3 Mm3 T3 (C ++ cc) k2 (l2 + 1) (x2 + 1) hdd hJ3 (by omega) (by omega) (by omega) (by omega) (by omega)
                rw [hw2] at ih2
                have ec : ((k + 1 : Nat) : Int) = k + 1 := by omega
                rw [ec] at ho2 hm
                have o3 : OldP sp 0 k 0 l Mm2 Mm3 Mx2 Mx3 := ⟨fun i c i0 i1 => fx3 _ _ (by unfold ScS9 ScQ; omega), fun c j c0 c1 j0 j1 => fm3 _ _ (by unfold ScT8 ScS; omega)⟩
                have o4 : OldP sp (k + 1) k2 (l + 1) l2 Mm2 Mm3 Mx2 Mx3 := ⟨fun i c i0 i1 => fx3 _ _ (by unfold ScS9 ScQ; omega), fun c j c0 c1 j0 j1 => fm3 _ _ (by unfold ScT8 ScS; omega)⟩
                have sv : ∀ c, c ≠ 9 → Mx3 (sp + 4 + k) c = Mxa (sp + 4 + k) c := fun c z => by rw [fx3 _ _ (by unfold ScS9 ScQ; omega)]; exact ho2.1 k c (by omega) (by omega)
                have mv : ∀ c, 377 ≤ c → c ≤ 382 → Mm3 c l = Mma c l := fun c c0 c1 => by rw [fm3 _ _ (by unfold ScT8 ScS; omega)]; exact ho2.2 c l c0 c1 hl80.1 (by omega)
                have hm3 := MY.mv [] m dd' (k + 1) k2 (l + 1) l2 o4 hm
                rw [List.append_nil] at hm3
                refine LO.times (c2 := cc) (l1 := l2) (by rw [sv 0 (by decide), fxa _ 0 (by unfold ScSt ScQ; omega)]; exact b8) (by rw [mv 377 (by decide) (by decide)]; exact c377) (by rw [mv 382 (by decide) (by decide), sv 2 (by decide)]; exact c382) (by rw [sv 2 (by decide)]; exact c2) f9 hk2 hl2 f377 hm3 (ho.tr ((OldP.st rfl fxa (fma.mono (fun _ _ q => Or.inr q)) rs).tr ((ho2.sub (Int.le_refl _) (by omega) (Int.le_refl _) (by omega)).tr o3))) hl80.1 (by omega) ih2
end PM
