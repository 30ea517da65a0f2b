/-! the reference's test() against the descent -/
def TLp (F : Nat) (M : Mem) : Res := wl1 b_X12_test_2 F M 1
def KT (F : Nat) : Int → Mem → Res := fun r M => if r = 0 then wl1 b_X12_test_2 F M 0 else wl1 b_X12_test_2 F M 1
def TAf (G F : Nat) (M : Mem) : Res := cl (wl0 b_X12_goesOnTest_0 G M) (KT F)
def KOk (K : Int → Mem → Res) (G F : Nat) : Prop := ∀ r M, M 337 5 = 0 → K r M = TAf G F M
theorem tl_110 {M : Mem} (h : M 337 5 ≠ 0) : wl0 b_X12_test_110 FU M = some (0, M) := by
  show wl0 b_X12_test_110 (999999999 + 1) M = _
  rw [wl0_s]
  unfold b_X12_test_110
  rw [if_neg h]
theorem tl_bad {F : Nat} {M : Mem} {y : Int} (h : M 337 5 ≠ 0) : wl1 b_X12_test_2 (F + 1) M y = some (0, M) := by
  rw [wl1_s]
  unfold b_X12_test_2
  by_cases c : y = 0
  · rw [if_pos c]; exact tl_110 h
  · rw [if_neg c, if_neg h]; exact tl_110 h
theorem dn_bad {D : Nat} {M : Mem} (h : M 337 5 ≠ 0) : wl0 b_X12_dropsNots_0 (D + 1) M = some (0, M) := by
  rw [wl0_s]
  unfold b_X12_dropsNots_0
  rw [if_neg h]
theorem Stk_mem {M : Mem} {a v : Int} : ∀ {V : List Int}, Stk M a V → (v ∈ V ↔ ∃ j : Int, (0 ≤ j ∧ j < V.length) ∧ M a j = v)
  | [], _ => by
    constructor
    · intro h; cases h
    · rintro ⟨j, hj, -⟩
      simp at hj
      omega
  | x :: V, h => by
    have ih := Stk_mem (v := v) h.2
    have e : (((x :: V).length : Nat) : Int) = V.length + 1 := by simp
    constructor
    · intro hv
      rcases List.mem_cons.mp hv with rfl | hv
      · exact ⟨V.length, ⟨by omega, by omega⟩, h.1⟩
      · obtain ⟨j, hj, e2⟩ := ih.mp hv
        exact ⟨j, ⟨by omega, by omega⟩, e2⟩
    · rintro ⟨j, hj, e2⟩
      by_cases c : j = V.length
      · rw [c, h.1] at e2
        rw [← e2]; exact List.mem_cons_self
      · exact List.mem_cons_of_mem _ (ih.mpr ⟨j, ⟨by omega, by omega⟩, e2⟩)
section TE
variable {b : Int → Int} {n : Int} {m bs o : Int} {M : Mem} {T : List Tok} {V C : List Int}
theorem ms_hasSq (h : MS b n M T V o C bs) (hV : V.length ≤ 1000) : f_X12_hasSquare M = some (bI (25 ∈ V), M) := by
  have key : Tt (f_X12_hasSquare M) (fun r M1 => r = bI (25 ∈ V) ∧ M1 = M) := by
    unfold f_X12_hasSquare
    refine tt_wl1 (fun M1 k => M = M1 ∧ 0 ≤ k ∧ k ≤ V.length ∧ ∀ j, 0 ≤ j → j < k → M 361 j ≠ 25) (fun _ k => (V.length - k).toNat) ?_ FU M 0 ⟨rfl, by decide, by omega, fun j _ _ => by omega⟩ (by have : FU = 1000000000 := rfl; omega)
    rintro w M1 k ⟨rfl, k0, k1, hk⟩ K
    unfold b_X12_hasSquare_2
    rw [h.2.1]
    refine tt_if (fun c => ?_) (fun c => ?_)
    · refine tt_ret ⟨?_, rfl⟩
      rw [bI_f]
      intro q
      obtain ⟨j, hj, e⟩ := (Stk_mem h.2.2.1).mp q
      exact hk j hj.1 (by omega) e
    · refine tt_ok ⟨by omega, by omega⟩ (tt_if (fun c2 => ?_) (fun c2 => ?_))
      · refine tt_ret ⟨?_, rfl⟩
        rw [bI_t ((Stk_mem h.2.2.1).mpr ⟨k, ⟨k0, by omega⟩, c2⟩)]
      · refine tt_bi (K _ _ ⟨rfl, by omega, by omega, fun j j0 j1 => ?_⟩ (by omega))
        by_cases e : j = k
        · rw [e]; exact c2
        · exact hk j j0 (by omega)
  obtain ⟨r, M1, e, rfl, rfl⟩ := key
  exact e
theorem push_and {W : List Int} (hW : tp W ≠ 14) : ∀ (X : List Int) (F : Nat) (M : Mem) (C : List Int), MS b n M T (X ++ W) o C bs → (∀ x ∈ X, x = 14) → C.length + (X ++ W).length ≤ 900 → X.length < F → ∃ M1, wl0 b_X12_goesOnTest_87 F M = some (1, M1) ∧ MS b n M1 T (14 :: W) o (C ++ X) bs ∧ Fr ScS M M1
  | [], F, M, C, h, hX, hl, hF => by
    obtain ⟨G, rfl⟩ : ∃ G, F = G + 1 := ⟨F - 1, by simp at hF; omega⟩
    have h' : MS b n M T W o C bs := h
    have hl' : C.length + W.length ≤ 900 := hl
    obtain ⟨p1, p2, -⟩ := ms_push h' 14
    refine ⟨_, ?_, by rw [List.append_nil]; exact p1, p2⟩
    rw [wl0_s]
    unfold b_X12_goesOnTest_87
    rw [ms_isOn h' (by omega) (by decide), cl_some, if_pos (bI_f hW), h'.2.1, ok_t ⟨by omega, by omega⟩, bm_e, st_neA (by decide), h'.2.1, ok_t ⟨by omega, by omega⟩]
    rfl
  | x :: X, F, M, C, h, hX, hl, hF => by
    obtain ⟨G, rfl⟩ : ∃ G, F = G + 1 := ⟨F - 1, by simp at hF; omega⟩
    have h' : MS b n M T (x :: (X ++ W)) o C bs := h
    have hl2 : C.length + ((X ++ W).length + 1) ≤ 900 := by simpa using hl
    have hln : (x :: (X ++ W)).length ≤ 1000 := by rw [List.length_cons]; omega
    obtain ⟨M1, e1, q1, q2⟩ := ms_drops h' (by omega) (by omega)
    obtain ⟨M2, e2, r1, r2⟩ := push_and hW X G M1 (C ++ [x]) q1 (fun y hy => hX y (List.mem_cons_of_mem _ hy)) (by simp at hl2 ⊢; omega) (by simp at hF; omega)
    refine ⟨M2, ?_, by rw [List.append_assoc] at r1; exact r1, q2.tr r2⟩
    rw [wl0_s]
    unfold b_X12_goesOnTest_87
    rw [ms_isOn h' hln (by decide), cl_some, if_neg (by rw [bI_t (show tp (x :: (X ++ W)) = 14 from hX x List.mem_cons_self)]; decide), e1, cl_some]
    exact e2
theorem push_or {W : List Int} (hW : tp W ≠ 14 ∧ tp W ≠ 15) : ∀ (X : List Int) (F : Nat) (M : Mem) (C : List Int), MS b n M T (X ++ W) o C bs → (∀ x ∈ X, x = 14 ∨ x = 15) → C.length + (X ++ W).length ≤ 900 → X.length < F → ∃ M1, wl0 b_X12_goesOnTest_137 F M = some (1, M1) ∧ MS b n M1 T (15 :: W) o (C ++ X) bs ∧ Fr ScS M M1
  | [], F, M, C, h, hX, hl, hF => by
    obtain ⟨G, rfl⟩ : ∃ G, F = G + 1 := ⟨F - 1, by simp at hF; omega⟩
    have h' : MS b n M T W o C bs := h
    have hl' : C.length + W.length ≤ 900 := hl
    obtain ⟨p1, p2, -⟩ := ms_push h' 15
    refine ⟨_, ?_, by rw [List.append_nil]; exact p1, p2⟩
    rw [wl0_s]
    unfold b_X12_goesOnTest_137
    rw [ms_isOn h' (by omega) (by decide), cl_some, if_pos (bI_f hW.1), ms_isOn h' (by omega) (by decide), cl_some, if_pos (bI_f hW.2), h'.2.1, ok_t ⟨by omega, by omega⟩, bm_e, st_neA (by decide), h'.2.1, ok_t ⟨by omega, by omega⟩]
    rfl
  | x :: X, F, M, C, h, hX, hl, hF => by
    obtain ⟨G, rfl⟩ : ∃ G, F = G + 1 := ⟨F - 1, by simp at hF; omega⟩
    have h' : MS b n M T (x :: (X ++ W)) o C bs := h
    have hl2 : C.length + ((X ++ W).length + 1) ≤ 900 := by simpa using hl
    have hln : (x :: (X ++ W)).length ≤ 1000 := by rw [List.length_cons]; omega
    obtain ⟨M1, e1, q1, q2⟩ := ms_drops h' (by omega) (by omega)
    obtain ⟨M2, e2, r1, r2⟩ := push_or hW X G M1 (C ++ [x]) q1 (fun y hy => hX y (List.mem_cons_of_mem _ hy)) (by simp at hl2 ⊢; omega) (by simp at hF; omega)
    refine ⟨M2, ?_, by rw [List.append_assoc] at r1; exact r1, q2.tr r2⟩
    have go : j_X12_goesOnTest_155 (wl0 b_X12_goesOnTest_137 G) M = some (1, M2) := by
      unfold j_X12_goesOnTest_155
      rw [e1, cl_some]; exact e2
    have hx := hX x List.mem_cons_self
    rw [wl0_s]
    unfold b_X12_goesOnTest_137
    rw [ms_isOn h' hln (by decide), cl_some]
    by_cases c : tp (x :: (X ++ W)) = 14
    · rw [if_neg (by rw [bI_t c]; decide)]; exact go
    rw [if_pos (bI_f c), ms_isOn h' hln (by decide), cl_some]
    have c5 : tp (x :: (X ++ W)) = 15 := hx.resolve_left c
    rw [if_neg (by rw [bI_t c5]; decide)]; exact go
/-- what waits above a [ is dropped, the [ too -/
theorem pop_sq (w0 : Mem → Res) (ho : -100 ≤ o ∧ o ≤ 100) : ∀ (X : List Int) (F : Nat) (M : Mem) (C : List Int), MS b n M T (X ++ (25 :: V)) o C bs → (∀ x ∈ X, x = 14 ∨ x = 15) → C.length + (X ++ (25 :: V)).length ≤ 900 → X.length < F → ∃ M1, wl0 (b_X12_goesOnTest_33 w0) F M = cl (f_X12_dropsNots M1) (fun _ M64 => w0 M64) ∧ MS b n M1 T V (o - 1) (C ++ X) bs ∧ Fr ScS M M1
  | [], F, M, C, h, hX, hl, hF => by
    obtain ⟨G, rfl⟩ : ∃ G, F = G + 1 := ⟨F - 1, by simp at hF; omega⟩
    have h' : MS b n M T (25 :: V) o C bs := h
    have hl' : C.length + (V.length + 1) ≤ 900 := by simpa using hl
    obtain ⟨r1, r2, r3, r4⟩ := h'.pop
    obtain ⟨u1, u2⟩ := ms_opn r1 (o - 1)
    have e35 : st M 337 34 (V.length : Int) 337 35 = o := by rw [st_neI (by decide)]; exact h'.2.2.2.1
    refine ⟨_, ?_, by rw [List.append_nil]; exact u1, r2.tr u2⟩
    rw [wl0_s]
    unfold b_X12_goesOnTest_33
    rw [ms_isOn h' (by rw [List.length_cons]; omega) (by decide), cl_some, if_neg (by rw [bI_t (show tp (25 :: V) = 25 from rfl)]; decide), r4, ok_t ⟨by omega, by omega⟩, bm_e, show (V.length : Int) + 1 - 1 = V.length by omega, e35, ok_t ⟨by omega, by omega⟩, bm_e]
  | x :: X, F, M, C, h, hX, hl, hF => by
    obtain ⟨G, rfl⟩ : ∃ G, F = G + 1 := ⟨F - 1, by simp at hF; omega⟩
    have h' : MS b n M T (x :: (X ++ (25 :: V))) o C bs := h
    have hl2 : C.length + ((X ++ (25 :: V)).length + 1) ≤ 900 := by simpa using hl
    have hln : (x :: (X ++ (25 :: V))).length ≤ 1000 := by rw [List.length_cons]; omega
    obtain ⟨M1, e1, q1, q2⟩ := ms_drops h' (by omega) (by omega)
    obtain ⟨M2, e2, r1, r2⟩ := pop_sq w0 ho X G M1 (C ++ [x]) q1 (fun y hy => hX y (List.mem_cons_of_mem _ hy)) (by simp at hl2 ⊢; omega) (by simp at hF; omega)
    refine ⟨M2, ?_, by rw [List.append_assoc] at r1; exact r1, q2.tr r2⟩
    have hx := hX x List.mem_cons_self
    rw [wl0_s]
    unfold b_X12_goesOnTest_33
    rw [ms_isOn h' hln (by decide), cl_some, if_pos (bI_f (show ¬ tp (x :: (X ++ (25 :: V))) = 25 by show ¬ x = 25; omega)), e1, cl_some]
    exact e2
theorem drop_110 : ∀ (X : List Int) (F : Nat) (M : Mem) (C : List Int), MS b n M T X o C bs → C.length + X.length ≤ 900 → X.length < F → ∃ M1, wl0 b_X12_test_110 F M = some (0, M1) ∧ MS b n M1 T [] o (C ++ X) bs ∧ Fr ScS M M1
  | [], F, M, C, h, hl, hF => by
    obtain ⟨G, rfl⟩ : ∃ G, F = G + 1 := ⟨F - 1, by simp at hF; omega⟩
    refine ⟨M, ?_, by rw [List.append_nil]; exact h, Fr.rf _ _⟩
    rw [wl0_s]
    unfold b_X12_test_110
    rw [if_pos h.1.1, h.2.1, if_pos (show ((([] : List Int).length : Nat) : Int) ≤ 0 by simp)]
  | x :: X, F, M, C, h, hl, hF => by
    obtain ⟨G, rfl⟩ : ∃ G, F = G + 1 := ⟨F - 1, by simp at hF; omega⟩
    have hl2 : C.length + (X.length + 1) ≤ 900 := by simpa using hl
    have e1 : (((x :: X).length : Nat) : Int) = X.length + 1 := by simp
    obtain ⟨M1, e2, q1, q2⟩ := ms_drops h (by omega) (by omega)
    obtain ⟨M2, e3, r1, r2⟩ := drop_110 X G M1 (C ++ [x]) q1 (by simp at hl2 ⊢; omega) (by simp at hF; omega)
    refine ⟨M2, ?_, by rw [List.append_assoc] at r1; exact r1, q2.tr r2⟩
    rw [wl0_s]
    unfold b_X12_test_110
    rw [if_pos h.1.1, h.2.1, if_neg (by omega), e2, cl_some]
    exact e3
def VT (V : List Int) : Prop := ∀ v ∈ V, v = 14 ∨ v = 15 ∨ v = 16 ∨ v = 25
theorem VT.tp (h : VT V) : tp V ≠ 1 ∧ tp V ≠ 2 ∧ tp V ≠ 3 ∧ tp V ≠ 4 := by
  cases V with
  | nil => decide
  | cons x W =>
    have := h x List.mem_cons_self
    show x ≠ 1 ∧ x ≠ 2 ∧ x ≠ 3 ∧ x ≠ 4
    omega
theorem VT.cons {x : Int} (h : VT V) (hx : x = 14 ∨ x = 15 ∨ x = 16 ∨ x = 25) : VT (x :: V) := by
  intro v hv
  rcases List.mem_cons.mp hv with rfl | hv
  · exact hx
  · exact h v hv
def RsF (b : Int → Int) (n m bs o : Int) (V C : List Int) (M : Mem) (R : Res) : Ex → Prop
  | .ok (c, T1) => ∃ M1 D K G F3, R = cl (wl0 b_X12_dropsNots_0 D M1) K ∧ KOk K G F3 ∧ MS b n M1 T1 V o (C ++ c) bs ∧ V.length < D ∧ T1.length < G ∧ T1.length < F3 ∧ Fr ScS M M1
  | .error (k, p) => ∃ M1, R = some (0, M1) ∧ MEc m M1 k p ∧ Fr ScS M M1
def RsT (b : Int → Int) (n m bs o : Int) (S : Int → Prop) (V C : List Int) (M : Mem) (R : Res) : Ex → Prop
  | .ok (c, T1) => ∃ M1 G F3 X C1, R = TAf G F3 M1 ∧ MS b n M1 T1 (X ++ V) o C1 bs ∧ C1 ++ X = C ++ c ∧ (∀ z ∈ X, S z) ∧ (andO T1 = 0 ∧ (S 15 → orO T1 = 0)) ∧ T1.length < G ∧ T1.length < F3 ∧ Fr ScS M M1
  | .error (k, p) => ∃ M1, R = some (0, M1) ∧ MEc m M1 k p ∧ Fr ScS M M1
def ClF (b : Int → Int) (n m bs o : Int) (P : List Tok → Ex) : Prop := ∀ (Fu : Nat) (M : Mem) (T : List Tok) (V C : List Int), MS b n M T V o C bs → VT V → ((C.length + V.length + T.length : Nat) : Int) ≤ m → T.length < Fu → RsF b n m bs o V C M (TLp Fu M) (P T)
def ClB (b : Int → Int) (n m bs o : Int) (P : List Tok → Ex) : Prop := ∀ (Fu : Nat) (M : Mem) (T : List Tok) (V C : List Int), MS b n M T V o C bs → VT V → ((C.length + V.length + T.length : Nat) : Int) ≤ m → T.length < Fu → tp V ≠ 14 ∧ tp V ≠ 16 → RsT b n m bs o (fun z => z = 14) V C M (TLp Fu M) (P T)
def ClT (b : Int → Int) (n m bs o : Int) (P : List Tok → Ex) : Prop := ∀ (Fu : Nat) (M : Mem) (T : List Tok) (V C : List Int), MS b n M T V o C bs → VT V → ((C.length + V.length + T.length : Nat) : Int) ≤ m → T.length < Fu → tp V ≠ 14 ∧ tp V ≠ 15 ∧ tp V ≠ 16 → RsT b n m bs o (fun z => z = 14 ∨ z = 15) V C M (TLp Fu M) (P T)
theorem RsF.tr {M0 : Mem} {R : Res} {y : Ex} (h : RsF b n m bs o V C M R y) (f : Fr ScS M0 M) : RsF b n m bs o V C M0 R y := by
  match y, h with
  | .ok (c, T1), ⟨M1, D, K, G, F3, e, h1, h2, h3, h4, h5, g⟩ => exact ⟨M1, D, K, G, F3, e, h1, h2, h3, h4, h5, f.tr g⟩
  | .error (k, p), ⟨M1, e, h1, g⟩ => exact ⟨M1, e, h1, f.tr g⟩
theorem RsT.tr {S : Int → Prop} {M0 : Mem} {R : Res} {y : Ex} (h : RsT b n m bs o S V C M R y) (f : Fr ScS M0 M) : RsT b n m bs o S V C M0 R y := by
  match y, h with
  | .ok (c, T1), ⟨M1, G, F3, X, C1, e, h1, h2, h3, h4, h5, h6, g⟩ => exact ⟨M1, G, F3, X, C1, e, h1, h2, h3, h4, h5, h6, f.tr g⟩
  | .error (k, p), ⟨M1, e, h1, g⟩ => exact ⟨M1, e, h1, f.tr g⟩
theorem ta_1 {G F : Nat} {M2 : Mem} (e : wl0 b_X12_goesOnTest_0 G M = some (1, M2)) : TAf G F M = TLp F M2 := by
  unfold TAf
  rw [e, cl_some]
  unfold KT
  rw [if_neg (by decide)]
  rfl
theorem ta_0 {G F : Nat} {M2 : Mem} (e : wl0 b_X12_goesOnTest_0 G M = some (0, M2)) : TAf G F M = wl1 b_X12_test_2 F M2 0 := by
  unfold TAf
  rw [e, cl_some]
  unfold KT
  rw [if_pos rfl]
theorem gt_76 (h : MS b n M T V o C bs) (hV : V.length ≤ 1000) (hs : ¬ (isS T 93 ∧ 25 ∈ V)) (G : Nat) : wl0 b_X12_goesOnTest_0 (G + 1) M = j_X12_goesOnTest_76 (lk M T) := by
  rw [wl0_s]
  unfold b_X12_goesOnTest_0
  rw [if_pos h.1.1, m_look h.1, cl_some]
  by_cases c : isS T 93
  · rw [if_pos ((lkv_s h.1.2.2.2.2.2.1 (by decide) (by decide) (by decide)).mpr c), ms_hasSq h.lo hV, cl_some, if_pos (bI_f (fun q => hs ⟨c, q⟩))]
  · rw [if_neg (fun q => c ((lkv_s h.1.2.2.2.2.2.1 (by decide) (by decide) (by decide)).mp q))]
theorem andO_n {T : List Tok} (h : andO T = 0) : ¬ isW T 11 := by
  intro c
  unfold andO at h
  rw [if_pos c] at h
  exact absurd h (by decide)
theorem orO_n {T : List Tok} (h : orO T = 0) : ¬ isW T 10 := by
  intro c
  unfold orO at h
  rw [if_pos c] at h
  exact absurd h (by decide)
theorem gt_and {X : List Int} (h : MS b n M T (X ++ V) o C bs) (hX : ∀ x ∈ X, x = 14) (hV : tp V ≠ 14) (hl : C.length + (X ++ V).length ≤ 900) (hm : andO T ≠ 0) (G : Nat) : ∃ M2, wl0 b_X12_goesOnTest_0 (G + 1) M = some (1, M2) ∧ MS b n M2 T.tail (andO T :: V) o (C ++ X) bs ∧ Fr ScS M M2 ∧ andO T = 14 := by
  have hW : isW T 11 := by
    unfold andO at hm
    by_cases c : isW T 11
    · exact c
    · rw [if_neg c] at hm; exact absurd rfl hm
  have hv : andO T = 14 := by unfold andO; rw [if_pos hW]
  rw [gt_76 h (by omega) (fun q => by have := q.1.1; have := hW.1; omega)]
  unfold j_X12_goesOnTest_76
  rcases m_takes h.lo.1 (a := 350) (by decide) with ⟨-, M1, e1, q1, q2⟩ | ⟨q, -⟩
  · obtain ⟨M2, e2, r1, r2⟩ := push_and hV X FU M1 C (h.lo.go q1 q2) hX hl (by have : FU = 1000000000 := rfl; simp at hl; omega)
    rw [e1, cl_some, if_neg (by decide), e2, hv]
    exact ⟨M2, rfl, r1, ((ScP_S (lk_fr M T)).tr (ScP_S q2)).tr r2, rfl⟩
  · exact absurd hW q
theorem gt_or {X : List Int} (h : MS b n M T (X ++ V) o C bs) (hX : ∀ x ∈ X, x = 14 ∨ x = 15) (hV : tp V ≠ 14 ∧ tp V ≠ 15) (hl : C.length + (X ++ V).length ≤ 900) (hm : orO T ≠ 0) (G : Nat) : ∃ M2, wl0 b_X12_goesOnTest_0 (G + 1) M = some (1, M2) ∧ MS b n M2 T.tail (orO T :: V) o (C ++ X) bs ∧ Fr ScS M M2 ∧ orO T = 15 := by
  have hW : isW T 10 := by
    unfold orO at hm
    by_cases c : isW T 10
    · exact c
    · rw [if_neg c] at hm; exact absurd rfl hm
  have hv : orO T = 15 := by unfold orO; rw [if_pos hW]
  rw [gt_76 h (by omega) (fun q => by have := q.1.1; have := hW.1; omega)]
  unfold j_X12_goesOnTest_76
  rcases m_takes h.lo.1 (a := 350) (by decide) with ⟨q, -⟩ | ⟨-, e0⟩
  · have := q.2
    have := hW.2
    omega
  rw [e0, cl_some, if_pos rfl, lk_lk]
  rcases m_takes h.lo.1 (a := 349) (by decide) with ⟨-, M1, e1, q1, q2⟩ | ⟨q, -⟩
  · obtain ⟨M2, e2, r1, r2⟩ := push_or hV X FU M1 C (h.lo.go q1 q2) hX hl (by have : FU = 1000000000 := rfl; simp at hl; omega)
    rw [e1, cl_some, if_neg (by decide), e2, hv]
    exact ⟨M2, rfl, r1, ((ScP_S (lk_fr M T)).tr (ScP_S q2)).tr r2, rfl⟩
  · exact absurd hW q
theorem gt_end (h : MS b n M T V o C bs) (hV : V.length ≤ 1000) (ha : andO T = 0) (hr : orO T = 0) (hs : ¬ (isS T 93 ∧ 25 ∈ V)) (G : Nat) : wl0 b_X12_goesOnTest_0 (G + 1) M = if 25 ∈ V then some (0, st (st (lk M T) 337 5 1) 337 6 (hq T)) else some (0, lk M T) := by
  rw [gt_76 h hV hs]
  unfold j_X12_goesOnTest_76
  rcases m_takes h.lo.1 (a := 350) (by decide) with ⟨q, -⟩ | ⟨-, e0⟩
  · exact absurd q (andO_n ha)
  rw [e0, cl_some, if_pos rfl, lk_lk]
  rcases m_takes h.lo.1 (a := 349) (by decide) with ⟨q, -⟩ | ⟨-, e0⟩
  · exact absurd q (orO_n hr)
  rw [e0, cl_some, if_pos rfl, lk_lk, if_pos h.lo.1.1, ms_hasSq h.lo hV, cl_some, bI_ite, m_fail h.lo.1.1, cl_some, lk_at]
theorem dn_end (h : MS b n M T V o C bs) (hV : V.length ≤ 1000) (ht : tp V ≠ 16) (D : Nat) : wl0 b_X12_dropsNots_0 (D + 1) M = some (0, M) := by
  rw [wl0_s]
  unfold b_X12_dropsNots_0
  rw [if_pos h.1.1, ms_isOn h hV (by decide), cl_some, if_pos (bI_f ht)]
theorem cm_and {P : List Tok → Ex} (hm : m ≤ 900) (hA : ClF b n m bs o P) (hG : RdG b n P) (hV : tp V ≠ 14 ∧ tp V ≠ 16) (hVT : VT V) : ∀ (mm G F : Nat) (M : Mem) (T : List Tok) (X C1 c : List Int), MS b n M T (X ++ V) o C1 bs → C1 ++ X = C ++ c → (∀ z ∈ X, z = 14) → T.length ≤ mm → T.length < G → T.length < F → (((C ++ c).length + V.length + T.length : Nat) : Int) ≤ m → RsT b n m bs o (fun z => z = 14) V C M (TAf G F M) (pCh andO P mm c T)
  | 0, G, F, M, T, X, C1, c, h, hc, hX, hmm, hG1, hF, hB => by
    have := h.tk.hd.2.1
    omega
  | mm + 1, G, F, M, T, X, C1, c, h, hc, hX, hmm, hG1, hF, hB => by
    have hlc : C1.length + X.length = C.length + c.length := by
      have := congrArg List.length hc
      simpa using this
    show RsT b n m bs o (fun z => z = 14) V C M (TAf G F M) (if andO T = 0 then (.ok (c, T) : Ex) else bx (P T.tail) fun c1 T1 => pCh andO P mm (c ++ c1 ++ [andO T]) T1)
    by_cases e : andO T = 0
    · rw [if_pos e]
      exact ⟨M, G, F, X, C1, rfl, h, hc, hX, ⟨e, fun q => absurd q (by decide)⟩, hG1, hF, Fr.rf _ _⟩
    · rw [if_neg e]
      obtain ⟨G', rfl⟩ : ∃ G', G = G' + 1 := ⟨G - 1, by omega⟩
      obtain ⟨F', rfl⟩ : ∃ F', F = F' + 1 := ⟨F - 1, by omega⟩
      obtain ⟨M2, e2, r1, r2, ev⟩ := gt_and h hX hV.1 (by simp at hB ⊢; omega) e G'
      obtain ⟨t1, t2⟩ := h.tk.tl (andO_r e).1
      rw [ta_1 e2]
      have hs := hA (F' + 1) M2 T.tail (andO T :: V) (C1 ++ X) r1 (hVT.cons (Or.inl ev)) (by simp at hB ⊢; omega) (by omega)
      cases hy : P T.tail with
      | error z =>
        obtain ⟨k, p⟩ := z
        rw [hy] at hs
        obtain ⟨M3, e3, h3, f3⟩ := hs
        exact ⟨M3, e3, h3, r2.tr f3⟩
      | ok z =>
        obtain ⟨c1, T1⟩ := z
        rw [hy] at hs
        obtain ⟨M3, D, K, G3, F3, e3, k3, h3, d3, l1, l2, f3⟩ := hs
        obtain ⟨g1, g2, g3⟩ := hG _ _ _ t1 hy
        obtain ⟨D', rfl⟩ : ∃ D', D = D' + 1 := ⟨D - 1, by omega⟩
        have e4 := dn_end h3 (by simp at hB ⊢; omega) (show tp (andO T :: V) ≠ 16 by show andO T ≠ 16; omega) D'
        rw [e3, e4, cl_some, k3 0 M3 h3.1.1]
        refine (cm_and hm hA hG hV hVT mm G3 F3 M3 T1 [andO T] (C1 ++ X ++ c1) (c ++ c1 ++ [andO T]) h3 ?_ ?_ (by omega) l1 l2 ?_).tr (r2.tr f3)
        · rw [hc]; simp
        · intro z hz
          rw [List.mem_singleton] at hz
          rw [hz]; exact ev
        · simp at hB ⊢; omega
theorem cm_both {P : Int → List Tok → Ex} (hm : m ≤ 900) (hA : ClF b n m bs o (P o)) (hG : RdG b n (P o)) : ClB b n m bs o (pBoth P o) := by
  intro Fu M T V C h hVT hB hF hV
  unfold pBoth
  have hs := hA Fu M T V C h hVT hB hF
  cases hy : P o T with
  | error z =>
    obtain ⟨k, p⟩ := z
    rw [hy] at hs
    exact hs
  | ok z =>
    obtain ⟨c, T1⟩ := z
    rw [hy] at hs
    obtain ⟨M3, D, K, G3, F3, e3, k3, h3, d3, l1, l2, f3⟩ := hs
    obtain ⟨g1, g2, g3⟩ := hG _ _ _ h.tk hy
    obtain ⟨D', rfl⟩ : ∃ D', D = D' + 1 := ⟨D - 1, by omega⟩
    have e4 := dn_end h3 (by omega) hV.2 D'
    rw [e3, e4, cl_some, k3 0 M3 h3.1.1]
    exact (cm_and hm hA hG hV hVT T1.length G3 F3 M3 T1 [] (C ++ c) c h3 (by rw [List.append_nil]) (fun z hz => by cases hz) (Nat.le_refl _) l1 l2 (by simp at hB ⊢; omega)).tr f3
theorem cm_or {P : List Tok → Ex} (hm : m ≤ 900) (hA : ClB b n m bs o P) (hG : RdG b n P) (hV : tp V ≠ 14 ∧ tp V ≠ 15 ∧ tp V ≠ 16) (hVT : VT V) : ∀ (mm G F : Nat) (M : Mem) (T : List Tok) (X C1 c : List Int), MS b n M T (X ++ V) o C1 bs → C1 ++ X = C ++ c → (∀ z ∈ X, z = 14 ∨ z = 15) → andO T = 0 → T.length ≤ mm → T.length < G → T.length < F → (((C ++ c).length + V.length + T.length : Nat) : Int) ≤ m → RsT b n m bs o (fun z => z = 14 ∨ z = 15) V C M (TAf G F M) (pCh orO P mm c T)
  | 0, G, F, M, T, X, C1, c, h, hc, hX, han, hmm, hG1, hF, hB => by
    have := h.tk.hd.2.1
    omega
  | mm + 1, G, F, M, T, X, C1, c, h, hc, hX, han, hmm, hG1, hF, hB => by
    have hlc : C1.length + X.length = C.length + c.length := by
      have := congrArg List.length hc
      simpa using this
    show RsT b n m bs o (fun z => z = 14 ∨ z = 15) V C M (TAf G F M) (if orO T = 0 then (.ok (c, T) : Ex) else bx (P T.tail) fun c1 T1 => pCh orO P mm (c ++ c1 ++ [orO T]) T1)
    by_cases e : orO T = 0
    · rw [if_pos e]
      exact ⟨M, G, F, X, C1, rfl, h, hc, hX, ⟨han, fun _ => e⟩, hG1, hF, Fr.rf _ _⟩
    · rw [if_neg e]
      obtain ⟨G', rfl⟩ : ∃ G', G = G' + 1 := ⟨G - 1, by omega⟩
      obtain ⟨F', rfl⟩ : ∃ F', F = F' + 1 := ⟨F - 1, by omega⟩
      obtain ⟨M2, e2, r1, r2, ev⟩ := gt_or h hX ⟨hV.1, hV.2.1⟩ (by simp at hB ⊢; omega) e G'
      obtain ⟨t1, t2⟩ := h.tk.tl (orO_r e).1
      rw [ta_1 e2]
      have hs := hA (F' + 1) M2 T.tail (orO T :: V) (C1 ++ X) r1 (hVT.cons (Or.inr (Or.inl ev))) (by simp at hB ⊢; omega) (by omega) (by show orO T ≠ 14 ∧ orO T ≠ 16; omega)
      cases hy : P T.tail with
      | error z =>
        obtain ⟨k, p⟩ := z
        rw [hy] at hs
        obtain ⟨M3, e3, h3, f3⟩ := hs
        exact ⟨M3, e3, h3, r2.tr f3⟩
      | ok z =>
        obtain ⟨c1, T1⟩ := z
        rw [hy] at hs
        obtain ⟨M3, G3, F3, X3, C3, e3, h3, ec, x3, ⟨a3, -⟩, l1, l2, f3⟩ := hs
        obtain ⟨g1, g2, g3⟩ := hG _ _ _ t1 hy
        rw [e3]
        refine (cm_or hm hA hG hV hVT mm G3 F3 M3 T1 (X3 ++ [orO T]) C3 (c ++ c1 ++ [orO T]) (by rw [List.append_assoc]; exact h3) ?_ ?_ a3 (by omega) l1 l2 ?_).tr (r2.tr f3)
        · rw [← List.append_assoc, ec, hc]; simp
        · intro z hz
          rcases List.mem_append.mp hz with hz | hz
          · exact Or.inl (x3 z hz)
          · rw [List.mem_singleton] at hz
            rw [hz]; exact Or.inr ev
        · simp at hB ⊢; omega
theorem cm_test {P : Int → List Tok → Ex} (hm : m ≤ 900) (hA : ClB b n m bs o (pBoth P o)) (hG : RdG b n (pBoth P o)) : ClT b n m bs o (pTest P o) := by
  intro Fu M T V C h hVT hB hF hV
  unfold pTest
  have hs := hA Fu M T V C h hVT hB hF ⟨hV.1, hV.2.2⟩
  cases hy : pBoth P o T with
  | error z =>
    obtain ⟨k, p⟩ := z
    rw [hy] at hs
    exact hs
  | ok z =>
    obtain ⟨c, T1⟩ := z
    rw [hy] at hs
    obtain ⟨M3, G3, F3, X3, C3, e3, h3, ec, x3, ⟨a3, -⟩, l1, l2, f3⟩ := hs
    obtain ⟨g1, g2, g3⟩ := hG _ _ _ h.tk hy
    rw [e3]
    exact (cm_or hm hA hG hV hVT T1.length G3 F3 M3 T1 X3 C3 c h3 ec (fun z hz => Or.inl (x3 z hz)) a3 (Nat.le_refl _) l1 l2 (by simp at hB ⊢; omega)).tr f3
end TE
