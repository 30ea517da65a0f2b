/-! the reference's test() against the descent: facts, and all of it -/
def pLeaf (o : Int) (T : List Tok) : Ex := if isW T 13 then .ok ([17], T.tail)
    else bx (pSum 8 o T) fun c T1 => if cmpO T1 = 0 then er 1 (hq T1) else bx (pSum 8 o T1.tail) fun c2 T2 => .ok (c ++ c2 ++ [cmpO T1], T2)
def KD (F : Nat) : Int → Mem → Res := fun _ M => if M 337 5 = 0 then cl (f_X12_goesOnTest M) (KT F) else wl1 b_X12_test_2 F M 0
theorem kd_ok (F : Nat) : KOk (KD F) FU F := by
  intro r M h
  unfold KD
  rw [if_pos h]
  rfl
section TF
variable {b : Int → Int} {n : Int} {m bs o : Int} {M : Mem} {T : List Tok} {V C : List Int}
theorem me_code {k p : Int} (h : MEc m M k p) (hm : m < 900) (v : Int) : ∃ M1, f_X12_code M v = some (0, M1) ∧ MEc (m + 1) M1 k p ∧ Fr ScS M M1 := by
  obtain ⟨⟨h1, h2, h3⟩, h4, h5⟩ := h
  unfold f_X12_code
  rw [ok_t ⟨by omega, by omega⟩, bm_e, st_neA (by decide), ok_t ⟨by omega, by omega⟩, bm_e]
  refine ⟨_, rfl, ⟨⟨?_, ?_, h3⟩, ?_⟩, Fr.st (Fr.st (Fr.rf _ _) (by unfold ScS; omega)) (by unfold ScS; omega)⟩
  · rw [st_neI (by decide), st_neA (by decide)]; exact h1
  · rw [st_neI (by decide), st_neA (by decide)]; exact h2
  · rw [st_at]; omega
theorem m_leaf (hm : m ≤ 900) (h : MS b n M T V o C bs) (ho : 0 ≤ o ∧ o ≤ 6) (hV : VT V) (hB : ((C.length + V.length + T.length : Nat) : Int) ≤ m) : SumR b n m o bs V C M (f_X12_fact M) (pLeaf o T) := by
  have hd := h.tk.hd
  have hn := h.1.2.2.1
  unfold f_X12_fact pLeaf
  rcases m_takes h.1 (a := 352) (by decide) with ⟨c, M1, e1, q1, q2⟩ | ⟨c, e1⟩
  · have c' : isW T 13 := c
    obtain ⟨M2, e2, r1, r2, -⟩ := ms_code (h.go q1 q2) (by omega) 17
    rw [if_pos c', e1, cl_some, if_neg (by decide), e2, cl_some]
    exact ⟨M2, rfl, r1, (ScP_S q2).tr r2⟩
  · have c' : ¬ isW T 13 := c
    have fl := ScP_S (lk_fr M T)
    rw [if_neg c', e1, cl_some, if_pos rfl]
    have hs := m_sums hm h.lo ho hV.tp hB
    cases hy : pSum 8 o T with
    | error z =>
      obtain ⟨k, p⟩ := z
      rw [hy] at hs
      obtain ⟨M3, e3, me, f3⟩ := hs
      rw [e3, cl_some, if_neg (by rw [me.1.1]; exact me.1.2.2)]
      exact ⟨M3, rfl, me, fl.tr f3⟩
    | ok z =>
      obtain ⟨c0, T1⟩ := z
      rw [hy] at hs
      obtain ⟨M3, e3, m3, f3⟩ := hs
      obtain ⟨g1, g2, g3⟩ := sumG_rd ho.1 ho.2 _ _ _ h.tk hy
      have hd1 := g1.hd
      rw [e3, cl_some, if_pos m3.1.1, m_look m3.1, cl_some]
      have f4 : Fr ScS M (lk M3 T1) := (fl.tr f3).tr (ScP_S (lk_fr M3 T1))
      show SumR b n m o bs V C M _ (if cmpO T1 = 0 then er 1 (hq T1) else bx (pSum 8 o T1.tail) fun c2 T2 => .ok (c0 ++ c2 ++ [cmpO T1], T2))
      have lv := fun (s : Int) (s0 : 0 ≤ s) (s1 : ¬ isL s) (s2 : ¬ isD s) => lkv_s m3.1.2.2.2.2.2.1 s0 s1 s2
      have go : ∀ s v : Int, (s = 60 ∧ v = 11) ∨ (s = 62 ∧ v = 12) ∨ (s = 61 ∧ v = 13) → isS T1 s → cmpO T1 = v → SumR b n m o bs V C M (j_X12_fact_63 (lk M3 T1) s) (if cmpO T1 = 0 then er 1 (hq T1) else bx (pSum 8 o T1.tail) fun c2 T2 => .ok (c0 ++ c2 ++ [cmpO T1], T2)) := by
        intro s v hsv hs1 ev
        rw [if_neg (by rw [ev]; omega), ev]
        unfold j_X12_fact_63
        have na : 0 ≤ s ∧ ¬ isL s ∧ ¬ isD s := by rcases hsv with ⟨rfl, -⟩ | ⟨rfl, -⟩ | ⟨rfl, -⟩ <;> decide
        obtain ⟨p1, p2⟩ := m3.lo.next na.1 na.2.1 na.2.2 hs1
        obtain ⟨t1, t2⟩ := g1.tl (by omega)
        rw [lk_at, ok_t ⟨by omega, by omega⟩, bm_e]
        have hs2 := m_sums (m := m - 1) (by omega) p1 ho hV.tp (by simp at hB ⊢; omega)
        have code : ∀ (M0 : Mem) (R : Res), (f_X12_code M0 v = R) → (if s = 60 then (cl (f_X12_code M0 11) (fun r19 M20 => some (0, M20))) else (if s = 62 then (cl (f_X12_code M0 12) (fun r23 M24 => some (0, M24))) else (cl (f_X12_code M0 13) (fun r25 M26 => some (0, M26))))) = cl R (fun _ M20 => some (0, M20)) := by
          intro M0 R e
          rcases hsv with ⟨rfl, rfl⟩ | ⟨rfl, rfl⟩ | ⟨rfl, rfl⟩
          · rw [if_pos rfl, e]
          · rw [if_neg (by decide), if_pos rfl, e]
          · rw [if_neg (by decide), if_neg (by decide), e]
        cases hz : pSum 8 o T1.tail with
        | error z =>
          obtain ⟨k, p⟩ := z
          rw [hz] at hs2
          obtain ⟨M5, e5, me, f5⟩ := hs2
          obtain ⟨M6, e6, me6, f6⟩ := me_code me (by omega) v
          rw [e5, cl_some, code M5 _ e6, cl_some]
          rw [show m - 1 + 1 = m by omega] at me6
          exact ⟨M6, rfl, me6, ((f4.tr p2).tr f5).tr f6⟩
        | ok z =>
          obtain ⟨d, T2⟩ := z
          rw [hz] at hs2
          obtain ⟨M5, e5, m5, f5⟩ := hs2
          obtain ⟨v1, v2, v3⟩ := sumG_rd ho.1 ho.2 _ _ _ t1 hz
          obtain ⟨M6, e6, m6, f6, -⟩ := ms_code m5 (by simp at hB ⊢; omega) v
          rw [e5, cl_some, code M5 _ e6, cl_some]
          have ea : C ++ c0 ++ d ++ [v] = C ++ (c0 ++ d ++ [v]) := by simp
          rw [ea] at m6
          exact ⟨M6, rfl, m6, ((f4.tr p2).tr f5).tr f6⟩
      by_cases s0 : isS T1 60
      · have l0 := (lv 60 (by decide) (by decide) (by decide)).mpr s0
        rw [l0, if_pos rfl]
        exact go 60 11 (by decide) s0 (by unfold cmpO; rw [if_pos s0])
      rw [if_neg (fun q => s0 ((lv 60 (by decide) (by decide) (by decide)).mp q))]
      by_cases s1 : isS T1 62
      · have l0 := (lv 62 (by decide) (by decide) (by decide)).mpr s1
        rw [l0, if_pos rfl]
        exact go 62 12 (by decide) s1 (by unfold cmpO; rw [if_neg s0, if_pos s1])
      rw [if_neg (fun q => s1 ((lv 62 (by decide) (by decide) (by decide)).mp q))]
      by_cases s2 : isS T1 61
      · have l0 := (lv 61 (by decide) (by decide) (by decide)).mpr s2
        rw [l0, if_pos rfl]
        exact go 61 13 (by decide) s2 (by unfold cmpO; rw [if_neg s0, if_neg s1, if_pos s2])
      rw [if_neg (fun q => s2 ((lv 61 (by decide) (by decide) (by decide)).mp q)), m_fail m3.lo.1.1, cl_some, lk_at, if_pos (by unfold cmpO; rw [if_neg s0, if_neg s1, if_neg s2])]
      refine ⟨_, rfl, ⟨me_fail (by decide), ?_⟩, f4.tr (Fr.st (Fr.st (Fr.rf _ _) (by unfold ScS; omega)) (by unfold ScS; omega))⟩
      rw [st_neI (by decide), st_neI (by decide), m3.lo.2.2.2.2.2.1]
      simp at hB ⊢
      omega
theorem cl_cl (A : Res) (B K : Int → Mem → Res) : cl (cl A B) K = cl A (fun r M => cl (B r M) K) := by
  cases A with
  | none => rfl
  | some p => rfl
theorem cm_fact (hm : m ≤ 900) : ∀ (q : Nat) (o : Int), 0 ≤ o → o ≤ 6 → 7 ≤ q + o → ClF b n m bs o (pFact q o)
  | 0, o, o0, o6, o7 => by omega
  | q + 1, o, o0, o6, o7 => by
    intro Fu M T V C h hVT hB hF
    have hd := h.tk.hd
    have hn := h.1.2.2.1
    obtain ⟨F1, rfl⟩ : ∃ F1, Fu = F1 + 1 + 1 := ⟨Fu - 2, by omega⟩
    have fl := ScP_S (lk_fr M T)
    have step0 : TLp (F1 + 1 + 1) M = if isS T 91 then (cl (f_X12_opens (lk M T) 25 (hq T)) (fun r15 M16 => ok (in32 ((M16 337 2) + 1)) (bm (st M16 337 2 ((M16 337 2) + 1)) (fun M18 => wl1 b_X12_test_2 (F1 + 1) M18 1)))) else if isW T 12 then (cl (f_X12_opens (lk M T) 16 (hq T)) (fun r33 M34 => cl (f_X12_asks M34 351) (fun r35 M36 => wl1 b_X12_test_2 (F1 + 1) M36 1))) else cl (f_X12_fact (lk M T)) (fun r23 M24 => cl (f_X12_dropsNots M24) (KD (F1 + 1))) := by
      unfold TLp
      rw [wl1_s]
      unfold b_X12_test_2
      rw [if_neg (by decide), if_pos h.1.1, m_look h.1, cl_some, lk_at]
      by_cases c : isS T 91
      · rw [if_pos ((lkv_s h.1.2.2.2.2.2.1 (by decide) (by decide) (by decide)).mpr c), if_pos c]
      · rw [if_neg (fun q => c ((lkv_s h.1.2.2.2.2.2.1 (by decide) (by decide) (by decide)).mp q)), if_neg c, m_isHere h.lo.1 (by decide), cl_some, lk_lk, bI_ite, lk_at]
        show (if isW T 12 then _ else _) = _
        by_cases c2 : isW T 12
        · rw [if_pos c2, if_pos c2]
        · rw [if_neg c2, if_neg c2]
          rfl
    have bad : ∀ (M2 : Mem) (k p : Int), TLp (F1 + 1 + 1) M = wl1 b_X12_test_2 (F1 + 1) M2 1 → MEc m M2 k p → Fr ScS M M2 → RsF b n m bs o V C M (TLp (F1 + 1 + 1) M) (er k p) := by
      intro M2 k p e me f
      have hne : M2 337 5 ≠ 0 := by rw [me.1.1]; exact me.1.2.2
      rw [e, tl_bad hne]
      exact ⟨M2, rfl, me, f⟩
    unfold pFact
    by_cases c1 : isW T 12
    · have cs : ¬ isS T 91 := fun q => by have := q.1; have := c1.1; omega
      rw [if_pos c1]
      rw [if_neg cs, if_pos c1] at step0
      by_cases c6 : 6 ≤ o
      · rw [if_pos c6]
        have e6 : o = 6 := by omega
        subst e6
        have ea : f_X12_asks (st (st (lk M T) 337 5 4) 337 6 (hq T)) 351 = some (0, st (st (lk M T) 337 5 4) 337 6 (hq T)) := by
          unfold f_X12_asks
          rw [if_neg (by rw [(me_fail (by decide)).1]; decide)]
        rw [m_opens6 h.lo, cl_some, ea, cl_some] at step0
        refine bad _ _ _ step0 ⟨me_fail (by decide), ?_⟩ (fl.tr (Fr.st (Fr.st (Fr.rf _ _) (by unfold ScS; omega)) (by unfold ScS; omega)))
        rw [st_neI (by decide), st_neI (by decide), h.lo.2.2.2.2.2.1]
        omega
      · rw [if_neg c6]
        obtain ⟨t1, t2⟩ := h.tk.tl (by omega)
        obtain ⟨M2, e2, r1, r2, r3⟩ := m_opens h.lo (by omega) (by omega) (by omega) 16 (hq T)
        rw [e2, cl_some] at step0
        rcases m_asks r1.1 (a := 351) (by decide) with ⟨-, M3, e3, q1, q2⟩ | ⟨q, -⟩
        · rw [e3, cl_some] at step0
          have m3 := r1.go q1 q2
          have f3 := (fl.tr r2).tr (ScP_S q2)
          have hs := cm_fact hm q (o + 1) (by omega) (by omega) (by omega) (F1 + 1) M3 T.tail (16 :: V) C m3 (hVT.cons (by decide)) (by simp at hB ⊢; omega) (by omega)
          rw [step0]
          show RsF b n m bs o V C M (TLp (F1 + 1) M3) _
          cases hy : pFact q (o + 1) T.tail with
          | error z =>
            obtain ⟨k, p⟩ := z
            rw [hy] at hs
            obtain ⟨M4, e4, me, f4⟩ := hs
            exact ⟨M4, e4, me, f3.tr f4⟩
          | ok z =>
            obtain ⟨c, T1⟩ := z
            rw [hy] at hs
            obtain ⟨M4, D, K, G3, F3, e4, k4, h4, d4, l1, l2, f4⟩ := hs
            obtain ⟨g1, g2, g3⟩ := fctG_rd (by omega) (by omega) _ _ _ t1 hy
            obtain ⟨D', rfl⟩ : ∃ D', D = D' + 1 := ⟨D - 1, by omega⟩
            obtain ⟨u1, u2⟩ := ms_opn h4 (o + 1 - 1)
            obtain ⟨M5, e5, v1, v2⟩ := ms_drops u1 (by simp at hB ⊢; omega) (by omega)
            have e6 : wl0 b_X12_dropsNots_0 (D' + 1) M4 = wl0 b_X12_dropsNots_0 D' M5 := by
              rw [wl0_s]
              unfold b_X12_dropsNots_0
              rw [if_pos h4.1.1, ms_isOn h4 (by simp; omega) (by decide), cl_some, if_neg (by rw [bI_t (show tp (16 :: V) = 16 from rfl)]; decide), h4.2.2.2.1, ok_t ⟨by omega, by omega⟩, bm_e, e5, cl_some]
            rw [e4, e6]
            rw [show o + 1 - 1 = o by omega, List.append_assoc] at v1
            exact ⟨M5, D', K, G3, F3, rfl, k4, v1, by simp at d4; omega, l1, l2, ((f3.tr f4).tr u2).tr v2⟩
        · exact absurd c1 q
    rw [if_neg c1]
    by_cases c2 : isS T 91
    · rw [if_pos c2]
      rw [if_pos c2] at step0
      by_cases c6 : 6 ≤ o
      · rw [if_pos c6]
        have e6 : o = 6 := by omega
        subst e6
        rw [m_opens6 h.lo, cl_some, st_neI (by decide), st_neI (by decide), lk_at, ok_t ⟨by omega, by omega⟩, bm_e] at step0
        refine bad _ _ _ step0 ⟨⟨?_, ?_, by decide⟩, ?_⟩ (fl.tr (Fr.st (Fr.st (Fr.st (Fr.rf _ _) (by unfold ScS; omega)) (by unfold ScS; omega)) (by unfold ScS; omega)))
        · rw [st_neI (by decide), st_neI (by decide), st_at]
        · rw [st_neI (by decide), st_at]
        · rw [st_neI (by decide), st_neI (by decide), st_neI (by decide), h.lo.2.2.2.2.2.1]
          omega
      · rw [if_neg c6]
        obtain ⟨t1, t2⟩ := h.tk.tl (by omega)
        obtain ⟨M2, e2, r1, r2, r3⟩ := m_opens h.lo (by omega) (by omega) (by omega) 25 (hq T)
        rw [lk_at] at r3
        rw [e2, cl_some, r3, ok_t ⟨by omega, by omega⟩, bm_e] at step0
        obtain ⟨u1, u2⟩ := r1.next (by decide) (by decide) (by decide) c2
        have f3 := (fl.tr r2).tr u2
        have hF' := cm_fact hm q (o + 1) (by omega) (by omega) (by omega)
        have hBo := cm_both (P := pFact q) hm hF' (fctG_rd (by omega) (by omega))
        have hTe := cm_test (P := pFact q) hm hBo (bothG_rd ⟨by omega, by omega⟩)
        have hs := hTe (F1 + 1) _ T.tail (25 :: V) C u1 (hVT.cons (by decide)) (by simp at hB ⊢; omega) (by omega) (by show (25 : Int) ≠ 14 ∧ (25 : Int) ≠ 15 ∧ (25 : Int) ≠ 16; decide)
        rw [step0]
        show RsF b n m bs o V C M (TLp (F1 + 1) (st M2 337 2 (hq T + 1))) _
        cases hy : pTest (pFact q) (o + 1) T.tail with
        | error z =>
          obtain ⟨k, p⟩ := z
          rw [hy] at hs
          obtain ⟨M4, e4, me, f4⟩ := hs
          exact ⟨M4, e4, me, f3.tr f4⟩
        | ok z =>
          obtain ⟨c, T1⟩ := z
          rw [hy] at hs
          obtain ⟨M4, G3, F3, X, C1, e4, h4, ec, x4, ⟨a4, o4⟩, l1, l2, f4⟩ := hs
          obtain ⟨g1, g2, g3⟩ := testG_rd ⟨by omega, by omega⟩ _ _ _ t1 hy
          have hlc : C1.length + X.length = C.length + c.length := by
            have := congrArg List.length ec
            simpa using this
          have hl9 : C1.length + (X ++ (25 :: V)).length ≤ 900 := by simp at hB ⊢; omega
          have hin : (25 : Int) ∈ X ++ (25 :: V) := List.mem_append_right _ List.mem_cons_self
          obtain ⟨G', rfl⟩ : ∃ G', G3 = G' + 1 := ⟨G3 - 1, by omega⟩
          obtain ⟨F', rfl⟩ : ∃ F', F3 = F' + 1 := ⟨F3 - 1, by omega⟩
          rw [e4]
          show RsF b n m bs o V C M (TAf (G' + 1) (F' + 1) M4) (if isS T1 93 then .ok (c, T1.tail) else er 1 (hq T1))
          have hd1 := g1.hd
          by_cases c9 : isS T1 93
          · rw [if_pos c9]
            obtain ⟨w1, w2⟩ := h4.lo.next (by decide) (by decide) (by decide) c9
            obtain ⟨M5, e5, v1, v2⟩ := pop_sq (wl0 b_X12_goesOnTest_0 G') (by omega) X FU _ C1 w1 x4 hl9 (by have : FU = 1000000000 := rfl; simp at hl9; omega)
            have e6 : wl0 b_X12_goesOnTest_0 (G' + 1) M4 = cl (f_X12_dropsNots M5) (fun _ M64 => wl0 b_X12_goesOnTest_0 G' M64) := by
              rw [wl0_s]
              unfold b_X12_goesOnTest_0
              rw [if_pos h4.1.1, m_look h4.1, cl_some, if_pos ((lkv_s h4.1.2.2.2.2.2.1 (by decide) (by decide) (by decide)).mpr c9), ms_hasSq h4.lo (by omega), cl_some, if_neg (by rw [bI_t hin]; decide), lk_at, ok_t ⟨by omega, by omega⟩, bm_e]
              exact e5
            obtain ⟨t3, t4⟩ := g1.tl (by omega)
            rw [show o + 1 - 1 = o by omega, ec] at v1
            refine ⟨M5, FU, fun _ M64 => cl (wl0 b_X12_goesOnTest_0 G' M64) (KT (F' + 1)), G', F' + 1, ?_, fun r M' _ => rfl, v1, by have : FU = 1000000000 := rfl; omega, by omega, by omega, ((f3.tr f4).tr (ScP_S (lk_fr M4 T1))).tr (w2.tr v2)⟩
            unfold TAf
            rw [e6, cl_cl]
            rfl
          · rw [if_neg c9]
            have e6 := gt_end h4 (by omega) a4 (o4 (Or.inr rfl)) (fun q => c9 q.1) G'
            rw [if_pos hin] at e6
            rw [ta_0 e6, tl_bad (by rw [(me_fail (by decide)).1]; decide)]
            refine ⟨_, rfl, ⟨me_fail (by decide), ?_⟩, (f3.tr f4).tr ((ScP_S (lk_fr M4 T1)).tr (Fr.st (Fr.st (Fr.rf _ _) (by unfold ScS; omega)) (by unfold ScS; omega)))⟩
            rw [st_neI (by decide), st_neI (by decide), h4.lo.2.2.2.2.2.1]
            simp at hB
            omega
    rw [if_neg c2]
    rw [if_neg c2, if_neg c1] at step0
    have hs := m_leaf hm h.lo ⟨o0, o6⟩ hVT hB
    have hFU : FU = 1000000000 := rfl
    rw [step0]
    show RsF b n m bs o V C M _ (pLeaf o T)
    have hlf : ∀ c T1, pLeaf o T = .ok (c, T1) → Rs b n T c T1 := by
      intro c T1 hy
      have : pFact (q + 1) o T = .ok (c, T1) := by
        unfold pFact
        rw [if_neg c1, if_neg c2]
        exact hy
      exact fctG_rd o0 o6 _ _ _ h.tk this
    cases hy : pLeaf o T with
    | error z =>
      obtain ⟨k, p⟩ := z
      rw [hy] at hs
      obtain ⟨M4, e4, me, f4⟩ := hs
      have hne : M4 337 5 ≠ 0 := by rw [me.1.1]; exact me.1.2.2
      have e5 : f_X12_dropsNots M4 = some (0, M4) := dn_bad (D := 999999999) hne
      rw [e4, cl_some, e5, cl_some]
      unfold KD
      rw [if_neg hne, tl_bad hne]
      exact ⟨M4, rfl, me, fl.tr f4⟩
    | ok z =>
      obtain ⟨c, T1⟩ := z
      rw [hy] at hs
      obtain ⟨M4, e4, m4, f4⟩ := hs
      obtain ⟨g1, g2, g3⟩ := hlf c T1 hy
      rw [e4, cl_some]
      exact ⟨M4, FU, KD (F1 + 1), FU, F1 + 1, rfl, kd_ok _, m4, by omega, by omega, by omega, fl.tr f4⟩
/-- the reference's test() -/
theorem m_tst (hm : m ≤ 900) (h : MS b n M T [] 0 C bs) (hB : ((C.length + T.length : Nat) : Int) ≤ m) : SumR b n m 0 bs [] C M (f_X12_test M) (pTest (pFact 8) 0 T) := by
  have hFU : FU = 1000000000 := rfl
  have hF' := cm_fact (bs := bs) (b := b) (n := n) hm 8 0 (by decide) (by decide) (by decide)
  have hBo := cm_both (P := pFact 8) hm hF' (fctG_rd (by decide) (by decide))
  have hTe := cm_test (P := pFact 8) hm hBo (bothG_rd ⟨by decide, by decide⟩)
  have hd := h.tk.hd
  have hs := hTe FU M T [] C h (fun v hv => by cases hv) (by simp; omega) (by omega) (by decide)
  have e0 : f_X12_test M = TLp FU M := rfl
  rw [e0]
  cases hy : pTest (pFact 8) 0 T with
  | error z =>
    obtain ⟨k, p⟩ := z
    rw [hy] at hs
    exact hs
  | ok z =>
    obtain ⟨c, T1⟩ := z
    rw [hy] at hs
    obtain ⟨M4, G3, F3, X, C1, e4, h4, ec, x4, ⟨a4, o4⟩, l1, l2, f4⟩ := hs
    obtain ⟨g1, g2, g3⟩ := testG_rd ⟨by decide, by decide⟩ _ _ _ h.tk hy
    have hlc : C1.length + X.length = C.length + c.length := by
      have := congrArg List.length ec
      simpa using this
    rw [List.append_nil] at h4
    have hl9 : C1.length + X.length ≤ 900 := by omega
    have hin : (25 : Int) ∉ X := fun q => by have := x4 25 q; omega
    obtain ⟨G', rfl⟩ : ∃ G', G3 = G' + 1 := ⟨G3 - 1, by omega⟩
    obtain ⟨F', rfl⟩ : ∃ F', F3 = F' + 1 := ⟨F3 - 1, by omega⟩
    have e6 := gt_end h4 (by omega) a4 (o4 (Or.inr rfl)) (fun q => hin q.2) G'
    rw [if_neg hin] at e6
    obtain ⟨M5, e7, v1, v2⟩ := drop_110 X FU (lk M4 T1) C1 h4.lo hl9 (by omega)
    rw [e4, ta_0 e6, wl1_s]
    unfold b_X12_test_2
    rw [if_pos rfl, e7]
    rw [ec] at v1
    exact ⟨M5, rfl, v1, (f4.tr (ScP_S (lk_fr M4 T1))).tr v2⟩
end TF
