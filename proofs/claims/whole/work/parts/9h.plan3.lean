/-! plan(), alike -/
def S38 (a i : Int) : Prop := (380 ≤ a ∧ a ≤ 381) ∧ 0 ≤ i ∧ i < 80
def ScMY (a i : Int) : Prop := ScMW a i ∨ S38 a i
theorem exL_cg {B B1 : Mem} {a K : Int} (hB : ∀ x c, 0 ≤ x → x < K → B1 (a + 4 + x) c = B (a + 4 + x) c) : ∀ (n d : Nat) (i j : Int), 0 ≤ i → j ≤ K → XS B a n d i j → exL B1 a n i j = exL B a n i j
  | 0, _, _, _, _, _, h => h.elim
  | n + 1, d, i, j, i0, jK, h => by
    show (if j ≤ i then [] else if B1 (a + 4 + i) 0 = 7 then i :: exL B1 a n (i + 1) j else (List.replicate (B1 (a + 4 + i) 2).toNat (exL B1 a n (i + 1) (B1 (a + 4 + i) 9))).flatten ++ exL B1 a n (B1 (a + 4 + i) 9) j) = (if j ≤ i then [] else if B (a + 4 + i) 0 = 7 then i :: exL B a n (i + 1) j else (List.replicate (B (a + 4 + i) 2).toNat (exL B a n (i + 1) (B (a + 4 + i) 9))).flatten ++ exL B a n (B (a + 4 + i) 9) j)
    rcases h with h | ⟨h1, h2, h3, h4⟩ | ⟨h1, h2, h3, h4, d1, h5, h6, h7⟩
    · rw [if_pos (by omega), if_pos (by omega)]
    · have b : ∀ c, B1 (a + 4 + i) c = B (a + 4 + i) c := fun c => hB i c i0 (by omega)
      rw [b, b, b, if_neg (show ¬ j ≤ i by omega), if_pos h2, if_neg (show ¬ j ≤ i by omega), if_pos h2, exL_cg hB n d (i + 1) j (by omega) jK h4]
    · have b : ∀ c, B1 (a + 4 + i) c = B (a + 4 + i) c := fun c => hB i c i0 (by omega)
      rw [b, b, b, if_neg (show ¬ j ≤ i by omega), if_neg (show ¬ B (a + 4 + i) 0 = 7 by omega), if_neg (show ¬ j ≤ i by omega), if_neg (show ¬ B (a + 4 + i) 0 = 7 by omega), exL_cg hB n d1 (i + 1) _ (by omega) (by omega) h6, exL_cg hB n d _ j (by omega) jK h7]
section PJ
variable {A B Mx Mm : Mem}
theorem RR.mix (h : RR A B Mx Mm) {N : Mem} (hN : StB N) : ∃ A', RR A' B Mx (mxm S38 N Mm) := by
  have nA : ∀ a i, ¬ S38 a i → mxm S38 N A a i = A a i := fun a i z => mxm_out z
  have eA : ∀ a i, S38 a i → mxm S38 N A a i = N a i := fun a i z => mxm_in z
  refine ⟨mxm S38 N A, ?_⟩
  generalize hA1 : mxm S38 N A = A1 at nA eA
  have a388 : A1 388 = A 388 := funext fun i => nA _ _ (by unfold S38; omega)
  have sSA : ∀ a, SA B B a := fun a c i _ _ => rfl
  refine ⟨⟨h.ptr, h.tap.ext (nA _ _ (by unfold S38; omega)) (fun i => nA _ _ (by unfold S38; omega)) rfl (fun _ => rfl), h.flt.ext (nA _ _ (by unfold S38; omega)) (nA _ _ (by unfold S38; omega)) rfl rfl, ?_, ?_, ?_, ?_, ⟨?_, ?_⟩, ?_, ?_⟩, ?_, h.fx, ?_⟩
  · exact h.thg.ext h.ptr.1.1 (nA _ _ (by unfold S38; omega)) (fun t _ _ => ⟨nA _ _ (by unfold S38; omega), nA _ _ (by unfold S38; omega)⟩) (sSA _)
  · exact h.fld.ext a388 (nA _ _ (by unfold S38; omega)) (fun i => nA _ _ (by unfold S38; omega)) (nA _ _ (by unfold S38; omega)) (funext fun i => nA _ _ (by unfold S38; omega)) (fun i => nA _ _ (by unfold S38; omega)) (fun a i _ _ => rfl)
  · exact h.trs.ext (fun a i _ _ => nA _ _ (by unfold S38; omega)) (nA _ _ (by unfold S38; omega)) (fun t => nA _ _ (by unfold S38; omega)) (nA _ _ (by unfold S38; omega)) rfl (fun i j _ _ => rfl)
  · intro j j0 j3
    exact LwR.ext (h.ptr.law j0 j3) (nA _ _ (by unfold S38; omega)) ⟨fun j _ _ => nA _ _ (by unfold S38; omega), nA _ _ (by unfold S38; omega), nA _ _ (by unfold S38; omega), fun a j _ _ _ _ => nA _ _ (by unfold S38; omega), fun a j _ _ _ _ => nA _ _ (by unfold S38; omega)⟩ (sSA _) (h.lws j j0 j3)
  · exact h.pln.ext h.ptr.1.2.1 ⟨fun j _ _ => nA _ _ (by unfold S38; omega), nA _ _ (by unfold S38; omega), nA _ _ (by unfold S38; omega), nA _ _ (by unfold S38; omega), fun a j _ _ _ _ => nA _ _ (by unfold S38; omega)⟩ (sSA _) rfl rfl (fun _ => rfl)
  · intro a j a0 a1 j0 j1
    rw [eA a j (by unfold S38; omega)]; exact hN a j a0 a1 j0 j1
  · exact h.chr.ext (funext fun i => nA _ _ (by unfold S38; omega)) (fun _ => rfl) rfl
  · exact h.oct.ext (nA _ _ (by unfold S38; omega)) (fun i => nA _ _ (by unfold S38; omega)) rfl (fun _ => rfl)
  · intro a i hn
    by_cases z : S38 a i
    · rw [eA a i z]; exact mxm_in z
    · rw [nA a i z, mxm_out z]; exact h.fm a i hn
  · rw [a388]; exact h.lc
theorem rs8 (M : Mem) : f_X5_readStatements 8 M 0 = wl1 (b_X5_readStatements_2 (f_X5_readStatements 7) 0) FU M 0 := rfl
theorem pl_e {M Mb : Mem} (eb : f_X12_begins M = some (0, Mb)) : f_X12_plan M = wl0 b_X12_plan_11 FU (st Mb 376 0 0) := by
  unfold f_X12_plan
  rw [eb, cl_some, bm_e]
theorem RR.kn (h : RR A B Mx Mm) {M12 M0 : Mem} (f12 : Fr (ScH (B 1 10)) Mx M12) (g0 : ∀ i, i = 1 ∨ 5 ≤ i → M0 372 i = Mm 372 i ∧ M0 373 i = Mm 373 i) : Kn (B 1 8) (B 1 10) (A 372 1) M12 M0 := by
  have hs := h.ptr.1.2.2.1
  have ho := h.ptr.1.1
  have hne := h.ptr.2.1.2.1
  have ap := kd_apt ho hs hne
  have rk := kd_rg ho
  have rs := kd_rg hs
  have n203 : ∀ c, B 1 8 ≤ c → c ≤ B 1 8 + 43 → c ≠ 203 ∧ c ≠ 204 := by
    have := kd17 _ ho
    intro c c0 c1
    omega
  have kx : ∀ c i, B 1 8 ≤ c → c ≤ B 1 8 + 43 → M12 c i = B c i := fun c i c0 c1 => by
    have := n203 c c0 c1
    rw [f12 c i (by unfold ScH ScK ScG; omega)]
    exact h.fx c i (by unfold ScX; omega)
  obtain ⟨t1, t2, t3⟩ := h.thg
  refine ⟨⟨ho, hne⟩, ⟨(kx _ _ (by omega) (by omega)).trans t2, ?_, t1.1, t1.2⟩, fun t t0 t1' => ?_⟩
  · rw [(g0 1 (Or.inl rfl)).1]; exact h.rm (by unfold ScM; omega)
  · obtain ⟨-, y2, -, y4, y5⟩ := t3 t t0 t1'
    have e373 : ∀ u, 0 ≤ u → M0 373 (5 + u) = A 373 (5 + u) := fun u u0 => by
      rw [(g0 _ (Or.inr (by omega))).2]; exact h.rm (by unfold ScM; omega)
    have e2 : M12 (B 1 8 + 2) t = B (B 1 8 + 2) t := kx _ _ (by omega) (by omega)
    rw [e2, kx (B 1 8 + 4 + B (B 1 8 + 2) t) 1 (by omega) (by omega), e373 t t0]
    exact ⟨y2, y4, fun u u0 u1 => by rw [e373 u u0]; exact y5 u u0 u1⟩
theorem ScY_MY {M M' : Mem} (f : Fr ScY M M') : Fr ScMY M M' := f.mono (fun a i q => by unfold ScY ScS at q; unfold ScMY ScMW ScM S38; omega)
theorem plan_run (h : RR A B Mx Mm) : ∃ T M12 Mb, f_X5_takes Mx 2 (B 1 10) (B 1 8) = cl (f_X5_readStatements 8 M12 0) (fun r13 M14 => ok (r13 = 0 ∨ r13 = 1) (bm (st M14 (B 1 10) 6 r13) (fun M16 => ok (M16 (B 1 10) 6 = 0 ∨ M16 (B 1 10) 6 = 1) (some (M16 (B 1 10) 6, M16))))) ∧ f_X12_begins Mm = some (0, Mb) ∧ st Mb 376 0 0 337 1 = 0 ∧ Fr (ScW (B 1 10)) Mx M12 ∧ Fr ScMY Mm (st Mb 376 0 0) ∧ LO (B 3) (B 2 1) (B 1 10) (B 1 8) (A 372 1) M12 (st Mb 376 0 0) M12 (st Mb 376 0 0) T [] 0 0 0 6 (wl1 (b_X5_readStatements_2 (f_X5_readStatements 7) 0) FU M12 0) (wl0 b_X12_plan_11 FU (st Mb 376 0 0)) := by
  have hs := h.ptr.1.2.2.1
  obtain ⟨T, M12, hT, eT, x12, ⟨v3, v2, v1, vn⟩, f12⟩ := x_start h.xb hs 2 (B 1 8)
  obtain ⟨Mb, eb, q1, ⟨b1, b2, b3, b4, b5, b6, b7⟩, fb⟩ := m_begins Mm
  have mp : MP (B 3) (B 2 1) Mb T := begins_mp h.tap (h.rm (by unfold ScM; omega)) (fun i => h.rm (by unfold ScM; omega)) q1 fb hT
  have mcb : MC (B 3) (B 2 1) Mb T [] := ⟨mp, by rw [b5]; rfl, trivial⟩
  have mc0 : MC (B 3) (B 2 1) (st Mb 376 0 0) T [] := mcb.ot (by omega)
  have hd := x12.1.hd
  have hn := x12.2.1
  have g0 : ∀ a i, ¬ ScB a i → ¬ (a = 376 ∧ i = 0) → st Mb 376 0 0 a i = Mm a i := fun a i z1 z2 => by rw [st_ne z2]; exact fb a i z1
  have sb0 : StB (st Mb 376 0 0) := fun a j a0 a1 j0 j1 => by
    rw [g0 a j (by unfold ScB; omega) (by omega), h.rm (by unfold ScM; omega)]; exact h.stb a j a0 a1 j0 j1
  have hK : Kn (B 1 8) (B 1 10) (A 372 1) M12 (st Mb 376 0 0) := h.kn f12 (fun i hi => ⟨g0 _ _ (by unfold ScB; omega) (by omega), g0 _ _ (by unfold ScB; omega) (by omega)⟩)
  have hlen : ([] : List Int).length + T.length ≤ 901 := by
    rw [List.length_nil]; omega
  have hJ : JP (B 3) (B 2 1) (B 1 10) (B 1 8) M12 (st Mb 376 0 0) M12 (st Mb 376 0 0) T [] 0 0 0 := by
    refine ⟨⟨x12, mc0⟩, ⟨?_, ?_, ?_⟩, ⟨v3, v2⟩, ⟨v1, ?_, ?_⟩, ⟨st_at _ _ _ _, ?_, ?_⟩, hlen, Fr.rf _ _, Fr.rf _ _, sb0⟩
    · rw [st_neA (by decide)]; exact b7
    · decide
    · decide
    · rw [st_neA (by decide)]; exact b6
    · decide
    · decide
    · decide
  have hFU : FU = 1000000000 := rfl
  have hl := j_plan hK T.length 6 0 FU FU M12 (st Mb 376 0 0) T [] 0 0 0 rfl hJ (Nat.le_refl _) (by omega) (by omega) (Int.le_refl _) (Int.le_refl _)
  refine ⟨T, M12, Mb, eT, eb, ?_, ScH_W f12, ?_, hl⟩
  · rw [st_neA (by decide)]; exact q1.2.1
  · exact Fr.st (fb.mono (fun a i q => by unfold ScB at q; unfold ScMY ScMW ScM; omega)) (by unfold ScMY ScMW ScM; omega)
theorem plan_alike (h : RR A B Mx Mm) : ∃ r Mx1 Mm1, f_X5_takes Mx 2 (B 1 10) (B 1 8) = some (r, Mx1) ∧ f_X12_plan Mm = j_X12_plan_40 Mm1 ∧ Fr (ScW (B 1 10)) Mx Mx1 ∧ Fr ScMY Mm Mm1 ∧ Mm1 337 1 = 0 ∧ Mx1 4 4 = Mm1 337 5 ∧ Mx1 4 5 = Mm1 337 6 ∧ StB Mm1 ∧ ((r = 0 ∧ Mm1 337 5 ≠ 0) ∨ (r = 1 ∧ Mm1 337 5 = 0 ∧ ∃ (C1 : List Int) (k1 m : Nat) (l1 : Int) (Mx0 : Mem), Mx1 = st Mx0 (B 1 10) 6 1 ∧ (k1 ≤ 40 ∧ 0 ≤ l1 ∧ l1 ≤ 80 ∧ C1.length ≤ 900) ∧ (Mx0 (B 1 10) 1 = k1 ∧ Mm1 337 36 = k1 ∧ Mm1 376 0 = l1 ∧ Mm1 337 32 = (C1.length : Int)) ∧ Seg Mm1 360 0 C1 ∧ Seg Mx0 (B 1 10 + 3) 0 (C1.map mk) ∧ MY Mm1 Mx0 (B 1 10) (A 372 1) C1 m 6 0 k1 0 l1)) := by
  have hs := h.ptr.1.2.2.1
  have rs := kd_rg hs
  obtain ⟨T, M12, Mb, eT, eb, q1, f12, fB0, M3, M4, G1, em, q⟩ := plan_run h
  have n4 : (4 : Int) ≠ B 1 10 := by omega
  rcases q with ⟨er, g1, e, p, xe, me, fm, fx, sb⟩ | ⟨er, T1, c, k1, l1, hJ1, hE, hl1, hl2, hk1, hll, ho2, m, hm⟩
  · obtain ⟨G2, rfl⟩ : ∃ G2, G1 = G2 + 1 := ⟨G1 - 1, by omega⟩
    have e40 : wl0 b_X12_plan_11 (G2 + 1) M4 = j_X12_plan_40 M4 := by
      rw [wl0_s]
      unfold b_X12_plan_11
      rw [if_neg (by rw [me.1]; exact me.2.2)]
    refine ⟨0, st M3 (B 1 10) 6 0, M4, ?_, by rw [pl_e eb, em, e40], ?_, fB0.tr (ScY_MY fm), ?_, ?_, ?_, sb, Or.inl ⟨rfl, by rw [me.1]; exact me.2.2⟩⟩
    · rw [eT, rs8, er, cl_some, ok_t (Or.inl rfl), bm_e, st_at, ok_t (Or.inl rfl)]
    · exact Fr.st (f12.tr (ScG_W fx)) (by unfold ScW; omega)
    · rw [fm 337 1 (by unfold ScY ScS; omega)]; exact q1
    · rw [st_neA n4, xe.1, me.1]
    · rw [st_neA n4, xe.2.1, me.2.1]
  · obtain ⟨G2, rfl⟩ : ∃ G2, G1 = G2 + 1 := ⟨G1 - 1, by omega⟩
    rw [List.nil_append] at hJ1 hm
    obtain ⟨⟨x1, mc1⟩, ⟨d52, -, -⟩, -, ⟨d1, d36, d40⟩, ⟨d376, dl0, dlk⟩, d901, fm, fx, sb⟩ := hJ1
    have hz : hk T1 = 0 := by
      rcases hE with ⟨-, z⟩ | ⟨z, -⟩
      · exact z
      · omega
    have e40 : wl0 b_X12_plan_11 (G2 + 1) M4 = j_X12_plan_40 (lk M4 T1) := by rw [m_it mc1.1 d52 (by decide), if_pos ⟨hz, rfl⟩]
    have lf := lk_fr M4 T1
    have gl : ∀ a i, ¬ ScP a i → lk M4 T1 a i = M4 a i := fun a i z => lf a i z
    have ml := mc1.lo
    have hd1 := x1.1.hd
    refine ⟨1, st M3 (B 1 10) 6 1, lk M4 T1, ?_, by rw [pl_e eb, em, e40], ?_, (fB0.tr (ScY_MY fm)).tr (ScY_MY (ScP_Y lf)), ?_, ?_, ?_, sb.p lf, Or.inr ⟨rfl, ml.1.1, c, k1, m, l1, M3, rfl, ⟨d40, by omega, by omega, by omega⟩, ⟨d1, ?_, ?_, ml.2.1⟩, ml.2.2, x1.2.2.2.2.2.2.2.2.1, ?_⟩⟩
    · rw [eT, rs8, er, cl_some, ok_t (Or.inr rfl), bm_e, st_at, ok_t (Or.inr rfl)]
    · exact Fr.st (f12.tr (ScG_W fx)) (by unfold ScW; omega)
    · rw [gl _ _ (by unfold ScP; omega), fm 337 1 (by unfold ScY ScS; omega)]; exact q1
    · rw [st_neA n4, x1.2.2.2.2.2.2.2.2.2.1, ml.1.1]
    · rw [st_neA n4, x1.2.2.2.2.2.2.2.2.2.2, ml.1.2.2.2.2.2.2.2.2]
    · rw [gl _ _ (by unfold ScP; omega)]; exact d36
    · rw [gl _ _ (by unfold ScP; omega)]; exact d376
    · have oo : OldP (B 1 10) 0 k1 0 l1 M4 (lk M4 T1) M3 M3 := ⟨fun _ _ _ _ => rfl, fun c s c0 c1 s0 s1 => gl _ _ (by unfold ScP; omega)⟩
      have r := MY.mv [] m 6 0 k1 0 l1 oo hm
      rw [List.append_nil] at r
      exact r
theorem PtrB.swapP {B B1 : Mem} (h : PtrB B) (h8 : B1 1 8 = B 1 8) (h9 : B1 1 9 = B 1 10) (h10 : B1 1 10 = B 1 9) (h68 : ∀ j, B1 68 j = B 68 j) : PtrB B1 := by
  obtain ⟨⟨a1, a2, a3, a4, a5, a6⟩, ⟨b1, b2, b3⟩, c, d⟩ := h
  unfold PtrB
  rw [h8, h9, h10, h68, h68, h68]
  refine ⟨⟨a1, a3, a2, a4, a5, a6⟩, ⟨b2, b1, Ne.symm b3⟩, c, fun j j0 j1 => ?_⟩
  rw [h68]
  obtain ⟨d1, d2, d3⟩ := d j j0 j1
  exact ⟨d1, d3, d2⟩
end PJ
