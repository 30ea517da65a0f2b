/-! the reference's sums() against the descent: brackets, and all of it -/
theorem lp_eq {F1 F2 F3 : Nat} {M M' : Mem} {x : Int} (e : wl1 b_X12_onePart_2 F1 M 1 = wl1 b_X12_onePart_2 F3 M' 1) : LpS F1 F2 M x = LpS F3 F2 M' x := by
  unfold LpS
  rw [e]
section SV
variable {b : Int → Int} {n : Int} {m bs x o : Int} {M : Mem} {T : List Tok} {V C : List Int}
theorem cm_br0 {P : Int → List Tok → Ex} (hm : m ≤ 900) (ho : 0 ≤ o ∧ o < 6) (h0 : 0 ≤ bs) (hS : ClS b n m bs x (o + 1) (P (o + 1))) (hG : RdG b n (P (o + 1))) {F1 F2 : Nat} (h : MS b n M T (20 :: V) (o + 1) C bs) (hb : bs ≤ V.length) (hB : ((C.length + (V.length + 1) + T.length : Nat) : Int) ≤ m) (hF1 : T.length < F1) (hF2 : T.length < F2) : RsA b n m bs x o V C M (LpS F1 F2 M x) (bx (P (o + 1) T) fun c T1 => if (0 : Int) = 0 then (if isS T1 41 then .ok (c, T1.tail) else er 1 (hq T1)) else (if isS T1 44 then bx (P (o + 1) T1.tail) fun c2 T2 => (if isS T2 41 then .ok (c ++ c2 ++ [0], T2.tail) else er 1 (hq T2)) else er 1 (hq T1))) := by
  have hs := hS F1 F2 M T (20 :: V) C h (by simp; omega) (by simp at hB ⊢; omega) hF1 hF2 (by show (20 : Int) ≠ 1 ∧ (20 : Int) ≠ 2 ∧ (20 : Int) ≠ 3 ∧ (20 : Int) ≠ 4; decide)
  cases hy : P (o + 1) T with
  | error z =>
    obtain ⟨k, p⟩ := z
    rw [hy] at hs
    exact hs
  | ok z =>
    obtain ⟨c, T1⟩ := z
    rw [hy] at hs
    obtain ⟨M1, G, F3, X, C1, e, r1, r2, r3, ⟨r4, r5⟩, r6, r7, f⟩ := hs
    obtain ⟨g1, g2, g3⟩ := hG _ _ _ h.tk hy
    have hlc : C1.length + X.length = C.length + c.length := by
      have := congrArg List.length r2
      simpa using this
    rw [e]
    show RsA b n m bs x o V C M (AfS G F3 M1 x) (if (0 : Int) = 0 then (if isS T1 41 then .ok (c, T1.tail) else er 1 (hq T1)) else (if isS T1 44 then bx (P (o + 1) T1.tail) fun c2 T2 => (if isS T2 41 then .ok (c ++ c2 ++ [0], T2.tail) else er 1 (hq T2)) else er 1 (hq T1)))
    rw [if_pos rfl]
    exact (br_fin hm (Or.inl rfl) ⟨by omega, by omega⟩ r1 h0 hb r3 r4 r5 (by simp at hB ⊢; omega) (by rw [show cls 20 = [] by decide, List.append_nil]; exact r2) r6 r7).tr f
theorem cm_br1 {P : Int → List Tok → Ex} (hm : m ≤ 900) (ho : 0 ≤ o ∧ o < 6) (h0 : 0 ≤ bs) (hS : ClS b n m bs x (o + 1) (P (o + 1))) (hG : RdG b n (P (o + 1))) {y w : Int} (hy : (y = 21 ∧ w = 5) ∨ (y = 22 ∧ w = 6)) {F1 F2 : Nat} (h : MS b n M T (y :: V) (o + 1) C bs) (hb : bs ≤ V.length) (hB : ((C.length + (V.length + 1) + T.length : Nat) : Int) ≤ m) (hF1 : T.length < F1) (hF2 : T.length < F2) : RsA b n m bs x o V C M (LpS F1 F2 M x) (bx (P (o + 1) T) fun c T1 => if w = 0 then (if isS T1 41 then .ok (c, T1.tail) else er 1 (hq T1)) else (if isS T1 44 then bx (P (o + 1) T1.tail) fun c2 T2 => (if isS T2 41 then .ok (c ++ c2 ++ [w], T2.tail) else er 1 (hq T2)) else er 1 (hq T1))) := by
  have hs := hS F1 F2 M T (y :: V) C h (by simp; omega) (by simp at hB ⊢; omega) hF1 hF2 (by show y ≠ 1 ∧ y ≠ 2 ∧ y ≠ 3 ∧ y ≠ 4; omega)
  cases hyy : P (o + 1) T with
  | error z =>
    obtain ⟨k, p⟩ := z
    rw [hyy] at hs
    exact hs
  | ok z =>
    obtain ⟨c, T1⟩ := z
    rw [hyy] at hs
    obtain ⟨M1, G, F3, X, C1, e, r1, r2, r3, ⟨r4, r5⟩, r6, r7, f⟩ := hs
    obtain ⟨g1, g2, g3⟩ := hG _ _ _ h.tk hyy
    have hlc : C1.length + X.length = C.length + c.length := by
      have := congrArg List.length r2
      simpa using this
    obtain ⟨G', rfl⟩ : ∃ G', G = G' + 1 := ⟨G - 1, by omega⟩
    obtain ⟨F', rfl⟩ : ∃ F', F3 = F' + 1 := ⟨F3 - 1, by omega⟩
    have e1 : (((y :: V).length : Nat) : Int) = V.length + 1 := by simp
    have hBt : Bt bs (y :: V) := Or.inr ⟨by omega, show isK y by rcases hy with ⟨rfl, -⟩ | ⟨rfl, -⟩ <;> decide⟩
    have hmk : mkv bs (y :: V) = y := by unfold mkv; rw [if_neg (by omega)]; rfl
    have hl9 : C1.length + (X ++ (y :: V)).length ≤ 900 := by simp at hB ⊢; omega
    have e3 := (goes_118 r1 h0 hBt r3 hl9 (Or.inr (by rw [hmk]; omega)) G').trans (g118_end r1 h0 hBt r3 hl9 r4 r5)
    rw [hmk] at e3
    have e4 : wl0 b_X12_goesOn_0 (G' + 1) M1 = j_X12_goesOn_322 (lk M1 T1) := by
      rcases hy with ⟨rfl, -⟩ | ⟨rfl, -⟩
      · rw [e3, if_pos rfl]
      · rw [e3, if_neg (by decide), if_pos rfl]
    rw [e]
    show RsA b n m bs x o V C M (AfS (G' + 1) (F' + 1) M1 x) (if w = 0 then _ else (if isS T1 44 then bx (P (o + 1) T1.tail) fun c2 T2 => (if isS T2 41 then .ok (c ++ c2 ++ [w], T2.tail) else er 1 (hq T2)) else er 1 (hq T1)))
    rw [if_neg (by omega)]
    rcases g322 r1 h0 hb (by omega) r3 hl9 with ⟨c4, M2, e5, q1, q2⟩ | ⟨c4, M2, e5, q1, q2, q3⟩
    · rw [if_pos c4, af_1 (e4.trans e5) q1.1.1]
      obtain ⟨t1, t2⟩ := g1.tl (by omega)
      have hs2 := hS FU F' M2 T1.tail ((y + 2) :: V) (C1 ++ X) q1 (by simp; omega) (by simp at hB ⊢; omega) (by have : FU = 1000000000 := rfl; simp at hB; omega) (by omega) (by show y + 2 ≠ 1 ∧ y + 2 ≠ 2 ∧ y + 2 ≠ 3 ∧ y + 2 ≠ 4; omega)
      cases hz : P (o + 1) T1.tail with
      | error z =>
        obtain ⟨k, p⟩ := z
        rw [hz] at hs2
        obtain ⟨M3, F4, a1, a2, a3⟩ := hs2
        exact ⟨M3, F4, a1, a2, (f.tr q2).tr a3⟩
      | ok z =>
        obtain ⟨d, T2⟩ := z
        rw [hz] at hs2
        obtain ⟨M3, G3, F4, X3, C3, a1, a2, a3, a4, ⟨a5, a6⟩, a7, a8, a9⟩ := hs2
        obtain ⟨v1, v2, v3⟩ := hG _ _ _ t1 hz
        have hlc3 : C3.length + X3.length = C1.length + X.length + d.length := by
          have := congrArg List.length a3
          simp at this
          omega
        rw [a1]
        show RsA b n m bs x o V C M (AfS G3 F4 M3 x) (if isS T2 41 then .ok (c ++ d ++ [w], T2.tail) else er 1 (hq T2))
        refine (br_fin hm (by omega) ⟨by omega, by omega⟩ a2 h0 hb a4 a5 a6 (by simp at hB ⊢; omega) ?_ a7 a8).tr ((f.tr q2).tr a9)
        have ew : cls (y + 2) = [w] := by
          rcases hy with ⟨rfl, rfl⟩ | ⟨rfl, rfl⟩ <;> decide
        rw [ew, a3, r2]
        simp
    · rw [if_neg c4, af_0 (e4.trans e5)]
      refine ⟨M2, F', rfl, ⟨q1, ?_⟩, f.tr q3⟩
      rw [q2]
      simp at hB
      omega
theorem cm_part {P : Int → List Tok → Ex} (hm : m ≤ 900) (ho : 0 ≤ o ∧ o ≤ 6) (h0 : 0 ≤ bs) (hS : o < 6 → ClS b n m bs x (o + 1) (P (o + 1))) (hG : o < 6 → RdG b n (P (o + 1))) : ClA b n m bs x o (pPart P o) := by
  intro F1 F2 M T V C h hb hB hF1 hF2
  have hd := h.tk.hd
  have hn := h.1.2.2.1
  obtain ⟨G1, rfl⟩ : ∃ G1, F1 = G1 + 1 + 1 := ⟨F1 - 2, by omega⟩
  obtain ⟨G2, rfl⟩ : ∃ G2, F2 = G2 + 1 := ⟨F2 - 1, by omega⟩
  have bad : ∀ (M2 : Mem) (k p : Int), wl1 b_X12_onePart_2 (G1 + 1 + 1) M 1 = wl1 b_X12_onePart_2 (G1 + 1) M2 1 → MEc m M2 k p → Fr ScS M M2 → RsA b n m bs x o V C M (LpS (G1 + 1 + 1) (G2 + 1) M x) (er k p) := by
    intro M2 k p e me f
    have hne : M2 337 5 ≠ 0 := by rw [me.1.1]; exact me.1.2.2
    rw [lp_bad (e.trans (one_bad hne)) hne]
    exact ⟨M2, G2, rfl, me, f⟩
  have step0 : wl1 b_X12_onePart_2 (G1 + 1 + 1) M 1 = if isS T 40 then (cl (f_X12_opens (lk M T) 20 (hq T)) (fun r44 M45 => ok (in32 ((M45 337 2) + 1)) (bm (st M45 337 2 ((M45 337 2) + 1)) (fun M47 => wl1 b_X12_onePart_2 (G1 + 1) M47 1)))) else if isW T 19 then j_X12_onePart_69 (wl1 b_X12_onePart_2 (G1 + 1)) (lk M T) 1 else if isW T 20 then j_X12_onePart_69 (wl1 b_X12_onePart_2 (G1 + 1)) (lk M T) 1 else wl1 b_X12_onePart_2 (G1 + 1) (lk M T) 0 := by
    rw [wl1_s]
    unfold b_X12_onePart_2
    rw [if_neg (by decide), if_pos h.1.1, m_look h.1, cl_some, lk_at]
    by_cases c : isS T 40
    · rw [if_pos ((lkv_s h.1.2.2.2.2.2.1 (by decide) (by decide) (by decide)).mpr c), if_pos c]
    · rw [if_neg (fun q => c ((lkv_s h.1.2.2.2.2.2.1 (by decide) (by decide) (by decide)).mp q)), if_neg c, m_isHere h.lo.1 (by decide), cl_some, lk_lk, bI_ite]
      show (if isW T 19 then _ else _) = _
      by_cases c2 : isW T 19
      · rw [if_pos c2, if_pos c2]
      · rw [if_neg c2, if_neg c2, m_isHere h.lo.1 (by decide), cl_some, lk_lk, bI_ite]
        rfl
  unfold pPart
  by_cases c1 : isS T 40
  · rw [if_pos c1]
    rw [if_pos c1] at step0
    unfold pBr
    rw [if_pos c1]
    by_cases c6 : 6 ≤ o
    · rw [if_pos c6]
      have e6 : o = 6 := by omega
      subst e6
      rw [m_opens6 h.lo, cl_some, st_neI (by decide), st_neI (by decide), lk_at, ok_t ⟨by omega, by omega⟩, bm_e] at step0
      refine bad _ _ _ step0 ⟨⟨?_, ?_, by decide⟩, ?_⟩ ((ScP_S (lk_fr M T)).tr (Fr.st (Fr.st (Fr.st (Fr.rf _ _) (by unfold ScS; omega)) (by unfold ScS; omega)) (by unfold ScS; omega)))
      · rw [st_neI (by decide), st_neI (by decide), st_at]
      · rw [st_neI (by decide), st_at]
      · rw [st_neI (by decide), st_neI (by decide), st_neI (by decide), h.lo.2.2.2.2.2.1]
        omega
    · rw [if_neg c6]
      obtain ⟨t1, t2⟩ := h.tk.tl (by omega)
      obtain ⟨M2, e2, r1, r2, r3⟩ := m_opens h.lo (by omega) (by omega) (by omega) 20 (hq T)
      rw [lk_at] at r3
      rw [e2, cl_some, r3, ok_t ⟨by omega, by omega⟩, bm_e] at step0
      obtain ⟨u1, u2⟩ := r1.next (by decide) (by decide) (by decide) c1
      rw [lp_eq step0]
      exact (cm_br0 hm ⟨ho.1, by omega⟩ h0 (hS (by omega)) (hG (by omega)) u1 hb (by omega) (by omega) (by omega)).tr (((ScP_S (lk_fr M T)).tr r2).tr u2)
  rw [if_neg c1]
  rw [if_neg c1] at step0
  have mm : ∀ (y w r : Int) (M1 : Mem), (y = 21 ∧ w = 5 ∧ r = 1) ∨ (y = 22 ∧ w = 6 ∧ r = 0) → hk T ≠ 0 → wl1 b_X12_onePart_2 (G1 + 1 + 1) M 1 = j_X12_onePart_90 (wl1 b_X12_onePart_2 (G1 + 1)) M1 1 r → MS b n M1 T.tail V o C bs → Fr ScS M M1 → RsA b n m bs x o V C M (LpS (G1 + 1 + 1) (G2 + 1) M x) (pBr P o w T.tail) := by
    intro y w r M1 hyw hz e1 m1 f1
    obtain ⟨t1, t2⟩ := h.tk.tl hz
    unfold pBr
    rcases one_mm hm m1 ho (by omega) (wl1 b_X12_onePart_2 (G1 + 1)) (r := r) (by omega) with ⟨d1, d2, M2, e2, r1, r2⟩ | ⟨d1, d2, M2, e2, r1, r2⟩ | ⟨d1, M2, e2, r1, r2⟩
    · rw [if_pos d1, if_neg (by omega), lp_eq (e1.trans e2)]
      obtain ⟨u1, u2⟩ := t1.tl (by omega)
      have e22 : 22 - r = y := by omega
      rw [e22] at r1
      exact (cm_br1 hm ⟨ho.1, d2⟩ h0 (hS d2) (hG d2) (by omega) r1 hb (by omega) (by omega) (by omega)).tr (f1.tr r2)
    · rw [if_pos d1, if_pos (by omega)]
      exact bad M2 _ _ (e1.trans e2) r1 (f1.tr r2)
    · rw [if_neg d1]
      exact bad M2 _ _ (e1.trans e2) r1 (f1.tr r2)
  by_cases c2 : isW T 19
  · rw [if_pos c2]
    rw [if_pos c2] at step0
    unfold j_X12_onePart_69 at step0
    rcases m_takes h.lo.1 (a := 358) (by decide) with ⟨-, M1, e1, q1, q2⟩ | ⟨q, -⟩
    · rw [e1, cl_some, if_neg (by decide)] at step0
      exact mm 21 5 1 M1 (by decide) (by omega) step0 (h.lo.go q1 q2) ((ScP_S (lk_fr M T)).tr (ScP_S q2))
    · exact absurd c2 q
  rw [if_neg c2]
  rw [if_neg c2] at step0
  by_cases c3 : isW T 20
  · rw [if_pos c3]
    rw [if_pos c3] at step0
    unfold j_X12_onePart_69 at step0
    rcases m_takes h.lo.1 (a := 358) (by decide) with ⟨q, -⟩ | ⟨-, e1⟩
    · exact absurd q c2
    · rw [e1, cl_some, if_pos rfl, lk_lk] at step0
      rcases m_asks h.lo.1 (a := 359) (by decide) with ⟨-, M1, e3, q1, q2⟩ | ⟨q, -⟩
      · rw [e3, cl_some] at step0
        exact mm 22 6 0 M1 (by decide) (by omega) step0 (h.lo.go q1 q2) ((ScP_S (lk_fr M T)).tr (ScP_S q2))
      · exact absurd c3 q
  rw [if_neg c3]
  rw [if_neg c3] at step0
  have step1 : wl1 b_X12_onePart_2 (G1 + 1) (lk M T) 0 = j_X12_onePart_146 (lk M T) := by
    rw [wl1_s]
    unfold b_X12_onePart_2
    rw [if_pos rfl]
  have fl := ScP_S (lk_fr M T)
  have hFU : T.length < FU := by have : FU = 1000000000 := rfl; omega
  rcases one_rest hm h.lo hB with ⟨p1, M2, e2, r1, r2⟩ | ⟨p1, ⟨v, T1, hy, M2, e2, r1, r2⟩ | ⟨k, p, hy, M2, e2, r1, r2⟩⟩
  · rw [if_neg p1, lp_end ((step0.trans step1).trans e2) r1.1.1]
    obtain ⟨t1, t2⟩ := h.tk.tl (by have := (telO_r p1).1; omega)
    exact ⟨M2, FU, G2 + 1, rfl, r1, by omega, by omega, fl.tr r2⟩
  · rw [if_pos p1, hy, lp_end ((step0.trans step1).trans e2) r1.1.1]
    have hl : T1.length < T.length := by
      unfold pNum at hy
      by_cases h5 : hk T = 6
      · rw [if_pos h5] at hy; cases hy
      rw [if_neg h5] at hy
      by_cases h6 : hk T = 3
      · rw [if_pos h6] at hy
        by_cases h7 : hv T < 0 ∨ 9999 < hv T
        · rw [if_pos h7] at hy; cases hy
        · rw [if_neg h7] at hy; cases hy
          have := (h.tk.tl (by omega)).2
          omega
      · rw [if_neg h6] at hy; cases hy
    exact ⟨M2, FU, G2 + 1, rfl, r1, by omega, by omega, fl.tr r2⟩
  · have hne : M2 337 5 ≠ 0 := by rw [r1.1.1]; exact r1.1.2.2
    rw [if_pos p1, hy, lp_bad ((step0.trans step1).trans e2) hne]
    exact ⟨M2, G2, rfl, r1, fl.tr r2⟩
theorem cm_prod {P : Int → List Tok → Ex} (hm : m ≤ 900) (hA : ClA b n m bs x o (pPart P o)) (hG : RdG b n (pPart P o)) : ClM b n m bs x o (pProd P o) := by
  intro F1 F2 M T V C h hb hB hF1 hF2 hV
  unfold pProd
  have hs := hA F1 F2 M T V C h hb hB hF1 hF2
  cases hy : pPart P o T with
  | error z =>
    obtain ⟨k, p⟩ := z
    rw [hy] at hs
    exact hs
  | ok z =>
    obtain ⟨c, T1⟩ := z
    rw [hy] at hs
    obtain ⟨M1, G, F3, e, r1, r2, r3, f⟩ := hs
    obtain ⟨g1, g2, g3⟩ := hG _ _ _ h.tk hy
    rw [e]
    exact (cm_mul hm hA hG hV hb T1.length G F3 M1 T1 [] (C ++ c) c r1 (by rw [List.append_nil]) (fun z hz => by cases hz) (Nat.le_refl _) r2 r3 (by simp at hB ⊢; omega)).tr f
theorem cm_sum (hm : m ≤ 900) (h0 : 0 ≤ bs) : ∀ (q : Nat) (o : Int), 0 ≤ o → o ≤ 6 → 7 ≤ q + o → ClS b n m bs x o (pSum q o)
  | 0, o, o0, o6, o7 => by omega
  | q + 1, o, o0, o6, o7 => by
    have hS : o < 6 → ClS b n m bs x (o + 1) (pSum q (o + 1)) := fun hz => cm_sum hm h0 q (o + 1) (by omega) (by omega) (by omega)
    have hGS : o < 6 → RdG b n (pSum q (o + 1)) := fun hz => sumG_rd (by omega) (by omega)
    have hA := cm_part hm ⟨o0, o6⟩ h0 hS hGS
    have hM := cm_prod hm hA (partG_rd ⟨o0, o6⟩)
    have hG : RdG b n (pProd (pSum q) o) := prodG_rd ⟨o0, o6⟩
    intro F1 F2 M T V C h hb hB hF1 hF2 hV
    show RsS b n m bs x o V C M (LpS F1 F2 M x) (bx (pProd (pSum q) o T) fun c T1 => pCh addO (pProd (pSum q) o) T1.length c T1)
    have hs := hM F1 F2 M T V C h hb hB hF1 hF2 hV.2.2
    cases hy : pProd (pSum q) o T with
    | error z =>
      obtain ⟨k, p⟩ := z
      rw [hy] at hs
      exact hs
    | ok z =>
      obtain ⟨c, T1⟩ := z
      rw [hy] at hs
      obtain ⟨M1, G, F3, X, C1, e, r1, r2, r3, r4, r5, r6, f⟩ := hs
      obtain ⟨g1, g2, g3⟩ := hG _ _ _ h.tk hy
      rw [e]
      exact (cm_add hm hM hG hV hb T1.length G F3 M1 T1 X C1 c r1 r2 (fun z hz => by have := r3 z hz; omega) r4 (Nat.le_refl _) r5 r6 (by simp at hB ⊢; omega)).tr f
theorem drop_all {V : List Int} {y : Int} : ∀ (X : List Int) (F : Nat) (M : Mem) (C : List Int), MS b n M T (X ++ V) o C V.length → C.length + (X ++ V).length ≤ 900 → X.length < F → ∃ M1, wl1 b_X12_sums_53 F M y = some (0, M1) ∧ MS b n M1 T V o (C ++ X) y ∧ Fr ScS M M1
  | [], F, M, C, h, hl, hF => by
    obtain ⟨G, rfl⟩ : ∃ G, F = G + 1 := ⟨F - 1, by simp at hF; omega⟩
    have h' : MS b n M T V o C V.length := h
    obtain ⟨u1, u2⟩ := ms_bas h' y
    refine ⟨_, ?_, by rw [List.append_nil]; exact u1, u2⟩
    rw [wl1_s]
    unfold b_X12_sums_53
    rw [if_pos h'.1.1, h'.2.1, h'.2.2.2.2.1, if_pos (Int.le_refl _)]
    rfl
  | x :: X, F, M, C, h, hl, hF => by
    obtain ⟨G, rfl⟩ : ∃ G, F = G + 1 := ⟨F - 1, by simp at hF; omega⟩
    have h' : MS b n M T (x :: (X ++ V)) o C V.length := h
    have hl2 : C.length + ((X ++ V).length + 1) ≤ 900 := by simpa using hl
    have e1 : (((x :: (X ++ V)).length : Nat) : Int) = X.length + V.length + 1 := by simp
    obtain ⟨M1, e2, q1, q2⟩ := ms_drops h' (by omega) (by omega)
    obtain ⟨M2, e3, r1, r2⟩ := drop_all X G M1 (C ++ [x]) q1 (by simp at hl2 ⊢; omega) (by simp at hF; omega)
    refine ⟨M2, ?_, by rw [List.append_assoc] at r1; exact r1, q2.tr r2⟩
    rw [wl1_s]
    unfold b_X12_sums_53
    rw [if_pos h'.1.1, h'.2.1, h'.2.2.2.2.1, if_neg (by omega), e2, cl_some]
    exact e3
def SumR (b : Int → Int) (n m o bs : Int) (V C : List Int) (M : Mem) (R : Res) : Ex → Prop
  | .ok (c, T1) => ∃ M1, R = some (0, M1) ∧ MS b n M1 T1 V o (C ++ c) bs ∧ Fr ScS M M1
  | .error (k, p) => ∃ M1, R = some (0, M1) ∧ MEc m M1 k p ∧ Fr ScS M M1
theorem m_sums (hm : m ≤ 900) (h : MS b n M T V o C bs) (ho : 0 ≤ o ∧ o ≤ 6) (hV : tp V ≠ 1 ∧ tp V ≠ 2 ∧ tp V ≠ 3 ∧ tp V ≠ 4) (hB : ((C.length + V.length + T.length : Nat) : Int) ≤ m) : SumR b n m o bs V C M (f_X12_sums M) (pSum 8 o T) := by
  obtain ⟨u1, u2⟩ := ms_bas h V.length
  have hFU : FU = 1000000000 := rfl
  have e0 : f_X12_sums M = LpS FU 999999999 (st M 337 51 V.length) bs := by
    unfold f_X12_sums
    show wl2 b_X12_sums_15 (999999999 + 1) (st M 337 51 (M 337 34)) (M 337 51) 1 = _
    rw [h.2.1, h.2.2.2.2.1]
    exact lp_go u1.1.1
  have hs := cm_sum (x := bs) hm (Int.natCast_nonneg V.length) 8 o ho.1 ho.2 (by omega) FU 999999999 _ T V C u1 (Int.le_refl _) hB (by omega) (by omega) hV
  rw [e0]
  cases hy : pSum 8 o T with
  | error z =>
    obtain ⟨k, p⟩ := z
    rw [hy] at hs
    obtain ⟨M1, F3, e, me, f⟩ := hs
    have hne : M1 337 5 ≠ 0 := by rw [me.1.1]; exact me.1.2.2
    rw [e, wl2_s]
    unfold b_X12_sums_15
    rw [if_pos rfl]
    show SumR b n m o bs V C M (wl1 b_X12_sums_53 (999999999 + 1) M1 bs) _
    rw [wl1_s]
    unfold b_X12_sums_53
    rw [if_neg hne, bm_e]
    refine ⟨_, rfl, ⟨⟨?_, ?_, me.1.2.2⟩, ?_⟩, (u2.tr f).tr (Fr.st (Fr.rf _ _) (by unfold ScS; omega))⟩
    · rw [st_neI (by decide)]; exact me.1.1
    · rw [st_neI (by decide)]; exact me.1.2.1
    · rw [st_neI (by decide)]; exact me.2
  | ok z =>
    obtain ⟨c, T1⟩ := z
    rw [hy] at hs
    obtain ⟨M1, G, F3, X, C1, e, r1, r2, r3, ⟨r4, r5⟩, r6, r7, f⟩ := hs
    obtain ⟨g1, g2, g3⟩ := sumG_rd ho.1 ho.2 _ _ _ h.tk hy
    have hlc : C1.length + X.length = C.length + c.length := by
      have := congrArg List.length r2
      simpa using this
    obtain ⟨G', rfl⟩ : ∃ G', G = G' + 1 := ⟨G - 1, by omega⟩
    obtain ⟨F', rfl⟩ : ∃ F', F3 = F' + 1 := ⟨F3 - 1, by omega⟩
    have hBt : Bt V.length V := Or.inl rfl
    have hmk : mkv V.length V = -1 := by unfold mkv; rw [if_pos rfl]
    have hl9 : C1.length + (X ++ V).length ≤ 900 := by simp at hB ⊢; omega
    have e3 := (goes_118 r1 (Int.natCast_nonneg _) hBt r3 hl9 (Or.inr (by rw [hmk]; decide)) G').trans (g118_end r1 (Int.natCast_nonneg _) hBt r3 hl9 r4 r5)
    rw [hmk, if_neg (by decide), if_neg (by decide), if_pos rfl] at e3
    rw [e, af_0 e3, wl2_s]
    unfold b_X12_sums_15
    rw [if_pos rfl]
    obtain ⟨M3, e4, q1, q2⟩ := drop_all (y := bs) X FU (lk M1 T1) C1 r1.lo hl9 (by simp at hB; omega)
    rw [r2] at q1
    exact ⟨M3, e4, q1, ((u2.tr f).tr (ScP_S (lk_fr M1 T1))).tr q2⟩
end SV
