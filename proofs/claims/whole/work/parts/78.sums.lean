/-! the reference's sums() against the descent -/
def KG (F : Nat) (x : Int) : Int → Mem → Res := fun r M => if r = 0 then wl2 b_X12_sums_15 F M x 0 else wl2 b_X12_sums_15 F M x 1
def KS (F : Nat) (x : Int) : Int → Mem → Res := fun _ M => if M 337 5 = 0 then cl (f_X12_goesOn M) (KG F x) else wl2 b_X12_sums_15 F M x 0
def LpS (F1 F2 : Nat) (M : Mem) (x : Int) : Res := cl (wl1 b_X12_onePart_2 F1 M 1) (KS F2 x)
def AfS (G F : Nat) (M : Mem) (x : Int) : Res := cl (wl0 b_X12_goesOn_0 G M) (KG F x)
theorem lp_go {F : Nat} {M : Mem} {x : Int} (h : M 337 5 = 0) : wl2 b_X12_sums_15 (F + 1) M x 1 = LpS FU F M x := by
  rw [wl2_s]
  unfold b_X12_sums_15
  rw [if_neg (by decide), if_pos h]
  rfl
theorem lp_end {F1 F2 : Nat} {M M1 : Mem} {x : Int} (e : wl1 b_X12_onePart_2 F1 M 1 = some (0, M1)) (h : M1 337 5 = 0) : LpS F1 F2 M x = AfS FU F2 M1 x := by
  unfold LpS
  rw [e, cl_some]
  unfold KS
  rw [if_pos h]
  rfl
theorem lp_bad {F1 F2 : Nat} {M M1 : Mem} {x : Int} (e : wl1 b_X12_onePart_2 F1 M 1 = some (0, M1)) (h : M1 337 5 ≠ 0) : LpS F1 F2 M x = wl2 b_X12_sums_15 F2 M1 x 0 := by
  unfold LpS
  rw [e, cl_some]
  unfold KS
  rw [if_neg h]
theorem one_bad {F : Nat} {M : Mem} {y : Int} (h : M 337 5 ≠ 0) : wl1 b_X12_onePart_2 (F + 1) M y = some (0, M) := by
  rw [wl1_s]
  unfold b_X12_onePart_2
  have e : j_X12_onePart_146 M = some (0, M) := by unfold j_X12_onePart_146; rw [if_neg h]
  by_cases c : y = 0
  · rw [if_pos c, e]
  · rw [if_neg c, if_neg h, e]
section SU
variable {b : Int → Int} {n : Int} {m bs x o : Int} {M : Mem} {T : List Tok} {V C : List Int}
theorem m_opens (h : MS b n M T V o C bs) (ho : o < 6) (ho2 : -100 ≤ o) (hV : V.length < 1000) (v p : Int) : ∃ M2, f_X12_opens M v p = some (0, M2) ∧ MS b n M2 T (v :: V) (o + 1) C bs ∧ Fr ScS M M2 ∧ M2 337 2 = M 337 2 := by
  obtain ⟨u1, u2⟩ := ms_opn h (o + 1)
  obtain ⟨p1, p2, p3⟩ := ms_push u1 v
  unfold f_X12_opens
  rw [h.2.2.2.1, if_neg (by omega), ok_t ⟨by omega, by omega⟩, bm_e, u1.2.1, ok_t ⟨by omega, by omega⟩, bm_e, st_neA (show (337 : Int) ≠ 361 by decide), u1.2.1, ok_t ⟨by omega, by omega⟩, bm_e]
  exact ⟨_, rfl, p1, u2.tr p2, p3.trans (st_neI (by decide))⟩
theorem m_opens6 (h : MS b n M T V 6 C bs) (v p : Int) : f_X12_opens M v p = some (0, st (st M 337 5 4) 337 6 p) := by
  unfold f_X12_opens
  rw [h.2.2.2.1, if_pos rfl, m_fail h.1.1, cl_some]
def RsA (b : Int → Int) (n m bs x o : Int) (V C : List Int) (M : Mem) (R : Res) : Ex → Prop
  | .ok (c, T1) => ∃ M1 G F3, R = AfS G F3 M1 x ∧ MS b n M1 T1 V o (C ++ c) bs ∧ T1.length < G ∧ T1.length < F3 ∧ Fr ScS M M1
  | .error (k, p) => ∃ M1 F3, R = wl2 b_X12_sums_15 (F3 + 1) M1 x 0 ∧ MEc m M1 k p ∧ Fr ScS M M1
def RsM (b : Int → Int) (n m bs x o : Int) (V C : List Int) (M : Mem) (R : Res) : Ex → Prop
  | .ok (c, T1) => ∃ M1 G F3 X C1, R = AfS G F3 M1 x ∧ MS b n M1 T1 (X ++ V) o C1 bs ∧ C1 ++ X = C ++ c ∧ (∀ z ∈ X, z = 3 ∨ z = 4) ∧ mulO T1 = 0 ∧ T1.length < G ∧ T1.length < F3 ∧ Fr ScS M M1
  | .error (k, p) => ∃ M1 F3, R = wl2 b_X12_sums_15 (F3 + 1) M1 x 0 ∧ MEc m M1 k p ∧ Fr ScS M M1
def RsS (b : Int → Int) (n m bs x o : Int) (V C : List Int) (M : Mem) (R : Res) : Ex → Prop
  | .ok (c, T1) => ∃ M1 G F3 X C1, R = AfS G F3 M1 x ∧ MS b n M1 T1 (X ++ V) o C1 bs ∧ C1 ++ X = C ++ c ∧ (∀ z ∈ X, 1 ≤ z ∧ z ≤ 4) ∧ (mulO T1 = 0 ∧ addO T1 = 0) ∧ T1.length < G ∧ T1.length < F3 ∧ Fr ScS M M1
  | .error (k, p) => ∃ M1 F3, R = wl2 b_X12_sums_15 (F3 + 1) M1 x 0 ∧ MEc m M1 k p ∧ Fr ScS M M1
/-- the machine at a part, at a product, at a sum -/
def ClA (b : Int → Int) (n m bs x o : Int) (P : List Tok → Ex) : Prop := ∀ (F1 F2 : Nat) (M : Mem) (T : List Tok) (V C : List Int), MS b n M T V o C bs → bs ≤ V.length → ((C.length + V.length + T.length : Nat) : Int) ≤ m → T.length < F1 → T.length < F2 → RsA b n m bs x o V C M (LpS F1 F2 M x) (P T)
def ClM (b : Int → Int) (n m bs x o : Int) (P : List Tok → Ex) : Prop := ∀ (F1 F2 : Nat) (M : Mem) (T : List Tok) (V C : List Int), MS b n M T V o C bs → bs ≤ V.length → ((C.length + V.length + T.length : Nat) : Int) ≤ m → T.length < F1 → T.length < F2 → tp V ≠ 3 ∧ tp V ≠ 4 → RsM b n m bs x o V C M (LpS F1 F2 M x) (P T)
def ClS (b : Int → Int) (n m bs x o : Int) (P : List Tok → Ex) : Prop := ∀ (F1 F2 : Nat) (M : Mem) (T : List Tok) (V C : List Int), MS b n M T V o C bs → bs ≤ V.length → ((C.length + V.length + T.length : Nat) : Int) ≤ m → T.length < F1 → T.length < F2 → tp V ≠ 1 ∧ tp V ≠ 2 ∧ tp V ≠ 3 ∧ tp V ≠ 4 → RsS b n m bs x o V C M (LpS F1 F2 M x) (P T)
theorem RsA.tr {M0 : Mem} {R : Res} {y : Ex} (h : RsA b n m bs x o V C M R y) (f : Fr ScS M0 M) : RsA b n m bs x o V C M0 R y := by
  match y, h with
  | .ok (c, T1), ⟨M1, G, F3, e, h1, h2, h3, g⟩ => exact ⟨M1, G, F3, e, h1, h2, h3, f.tr g⟩
  | .error (k, p), ⟨M1, F3, e, h1, g⟩ => exact ⟨M1, F3, e, h1, f.tr g⟩
theorem RsM.tr {M0 : Mem} {R : Res} {y : Ex} (h : RsM b n m bs x o V C M R y) (f : Fr ScS M0 M) : RsM b n m bs x o V C M0 R y := by
  match y, h with
  | .ok (c, T1), ⟨M1, G, F3, X, C1, e, h1, h2, h3, h4, h5, h6, g⟩ => exact ⟨M1, G, F3, X, C1, e, h1, h2, h3, h4, h5, h6, f.tr g⟩
  | .error (k, p), ⟨M1, F3, e, h1, g⟩ => exact ⟨M1, F3, e, h1, f.tr g⟩
theorem RsS.tr {M0 : Mem} {R : Res} {y : Ex} (h : RsS b n m bs x o V C M R y) (f : Fr ScS M0 M) : RsS b n m bs x o V C M0 R y := by
  match y, h with
  | .ok (c, T1), ⟨M1, G, F3, X, C1, e, h1, h2, h3, h4, h5, h6, g⟩ => exact ⟨M1, G, F3, X, C1, e, h1, h2, h3, h4, h5, h6, f.tr g⟩
  | .error (k, p), ⟨M1, F3, e, h1, g⟩ => exact ⟨M1, F3, e, h1, f.tr g⟩
theorem af_1 {G F : Nat} {M2 : Mem} (e : wl0 b_X12_goesOn_0 G M = some (1, M2)) (h : M2 337 5 = 0) : AfS G (F + 1) M x = LpS FU F M2 x := by
  unfold AfS
  rw [e, cl_some]
  unfold KG
  rw [if_neg (by decide)]
  exact lp_go h
theorem af_0 {G F : Nat} {M2 : Mem} (e : wl0 b_X12_goesOn_0 G M = some (0, M2)) : AfS G F M x = wl2 b_X12_sums_15 F M2 x 0 := by
  unfold AfS
  rw [e, cl_some]
  unfold KG
  rw [if_pos rfl]
theorem go_118 (h : MS b n M T V o C bs) (hs : ¬ isS T 41) (G : Nat) : wl0 b_X12_goesOn_0 (G + 1) M = j_X12_goesOn_118 (lk M T) := by
  rw [wl0_s]
  unfold b_X12_goesOn_0
  rw [if_pos h.1.1, m_look h.1, cl_some, if_neg (fun q => hs ((lkv_s h.1.2.2.2.2.2.1 (by decide) (by decide) (by decide)).mp q))]
theorem mulO_41 {T : List Tok} (h : mulO T ≠ 0) : ¬ isS T 41 := by
  intro q
  apply h
  unfold mulO
  rw [if_neg (fun z => by have := z.2; have := q.2; omega), if_neg (fun z => by have := z.2; have := q.2; omega)]
theorem addO_41 {T : List Tok} (h : addO T ≠ 0) : ¬ isS T 41 := by
  intro q
  apply h
  unfold addO
  rw [if_neg (fun z => by have := z.2; have := q.2; omega), if_neg (fun z => by have := z.2; have := q.2; omega)]
theorem mulO_v {T : List Tok} (h : mulO T ≠ 0) : mulO T = 3 ∨ mulO T = 4 := by
  unfold mulO at h ⊢
  by_cases c : isS T 42
  · rw [if_pos c]; exact Or.inl rfl
  · rw [if_neg c] at h ⊢
    by_cases d : isS T 47
    · rw [if_pos d]; exact Or.inr rfl
    · rw [if_neg d] at h; exact absurd rfl h
theorem addO_v {T : List Tok} (h : addO T ≠ 0) : addO T = 1 ∨ addO T = 2 := by
  unfold addO at h ⊢
  by_cases c : isS T 43
  · rw [if_pos c]; exact Or.inl rfl
  · rw [if_neg c] at h ⊢
    by_cases d : isS T 45
    · rw [if_pos d]; exact Or.inr rfl
    · rw [if_neg d] at h; exact absurd rfl h
theorem cm_mul {P : List Tok → Ex} (hm : m ≤ 900) (hA : ClA b n m bs x o P) (hG : RdG b n P) (hV : tp V ≠ 3 ∧ tp V ≠ 4) (hb : bs ≤ V.length) : ∀ (mm G F : Nat) (M : Mem) (T : List Tok) (X C1 c : List Int), MS b n M T (X ++ V) o C1 bs → C1 ++ X = C ++ c → (∀ z ∈ X, z = 3 ∨ z = 4) → T.length ≤ mm → T.length < G → T.length < F → (((C ++ c).length + V.length + T.length : Nat) : Int) ≤ m → RsM b n m bs x o V C M (AfS G F M x) (pCh mulO P mm c T)
  | 0, G, F, M, T, X, C1, c, h, hc, hX, hmm, hG1, hF, hB => by
    have := h.tk.hd.2.1
    omega
  | mm + 1, G, F, M, T, X, C1, c, h, hc, hX, hmm, hG1, hF, hB => by
    have hlc : C1.length + X.length = C.length + c.length := by
      have := congrArg List.length hc
      simpa using this
    show RsM b n m bs x o V C M (AfS G F M x) (if mulO T = 0 then (.ok (c, T) : Ex) else bx (P T.tail) fun c1 T1 => pCh mulO P mm (c ++ c1 ++ [mulO T]) T1)
    by_cases e : mulO T = 0
    · rw [if_pos e]
      exact ⟨M, G, F, X, C1, rfl, h, hc, hX, e, hG1, hF, Fr.rf _ _⟩
    · rw [if_neg e]
      obtain ⟨G', rfl⟩ : ∃ G', G = G' + 1 := ⟨G - 1, by omega⟩
      obtain ⟨F', rfl⟩ : ∃ F', F = F' + 1 := ⟨F - 1, by omega⟩
      obtain ⟨M2, e2, r1, r2⟩ := g118_mul h hX hV (by simp at hB ⊢; omega) e
      obtain ⟨t1, t2⟩ := h.tk.tl (mulO_r e).1
      rw [af_1 ((go_118 h (mulO_41 e) G').trans e2) r1.1.1]
      have hs := hA FU F' M2 T.tail (mulO T :: V) (C1 ++ X) r1 (by simp; omega) (by simp at hB ⊢; omega) (by have : FU = 1000000000 := rfl; simp at hB; omega) (by omega)
      cases hy : P T.tail with
      | error z =>
        obtain ⟨k, p⟩ := z
        rw [hy] at hs
        obtain ⟨M3, F3, e3, h3, f3⟩ := hs
        exact ⟨M3, F3, e3, h3, r2.tr f3⟩
      | ok z =>
        obtain ⟨c1, T1⟩ := z
        rw [hy] at hs
        obtain ⟨M3, G3, F3, e3, h3, l1, l2, f3⟩ := hs
        obtain ⟨g1, g2, g3⟩ := hG _ _ _ t1 hy
        rw [e3]
        refine (cm_mul hm hA hG hV hb mm G3 F3 M3 T1 [mulO T] (C1 ++ X ++ c1) (c ++ c1 ++ [mulO T]) h3 ?_ ?_ (by omega) l1 l2 ?_).tr (r2.tr f3)
        · rw [hc]; simp
        · intro z hz
          rw [List.mem_singleton] at hz
          rw [hz]; exact mulO_v e
        · simp at hB ⊢; omega
theorem cm_add {P : List Tok → Ex} (hm : m ≤ 900) (hA : ClM b n m bs x o P) (hG : RdG b n P) (hV : tp V ≠ 1 ∧ tp V ≠ 2 ∧ tp V ≠ 3 ∧ tp V ≠ 4) (hb : bs ≤ V.length) : ∀ (mm G F : Nat) (M : Mem) (T : List Tok) (X C1 c : List Int), MS b n M T (X ++ V) o C1 bs → C1 ++ X = C ++ c → (∀ z ∈ X, 1 ≤ z ∧ z ≤ 4) → mulO T = 0 → T.length ≤ mm → T.length < G → T.length < F → (((C ++ c).length + V.length + T.length : Nat) : Int) ≤ m → RsS b n m bs x o V C M (AfS G F M x) (pCh addO P mm c T)
  | 0, G, F, M, T, X, C1, c, h, hc, hX, hmu, hmm, hG1, hF, hB => by
    have := h.tk.hd.2.1
    omega
  | mm + 1, G, F, M, T, X, C1, c, h, hc, hX, hmu, hmm, hG1, hF, hB => by
    have hlc : C1.length + X.length = C.length + c.length := by
      have := congrArg List.length hc
      simpa using this
    show RsS b n m bs x o V C M (AfS G F M x) (if addO T = 0 then (.ok (c, T) : Ex) else bx (P T.tail) fun c1 T1 => pCh addO P mm (c ++ c1 ++ [addO T]) T1)
    by_cases e : addO T = 0
    · rw [if_pos e]
      exact ⟨M, G, F, X, C1, rfl, h, hc, hX, ⟨hmu, e⟩, hG1, hF, Fr.rf _ _⟩
    · rw [if_neg e]
      obtain ⟨G', rfl⟩ : ∃ G', G = G' + 1 := ⟨G - 1, by omega⟩
      obtain ⟨F', rfl⟩ : ∃ F', F = F' + 1 := ⟨F - 1, by omega⟩
      obtain ⟨M2, e2, r1, r2⟩ := g118_add h hX hV (by simp at hB ⊢; omega) hmu e
      obtain ⟨t1, t2⟩ := h.tk.tl (addO_r e).1
      rw [af_1 ((go_118 h (addO_41 e) G').trans e2) r1.1.1]
      have hs := hA FU F' M2 T.tail (addO T :: V) (C1 ++ X) r1 (by simp; omega) (by simp at hB ⊢; omega) (by have : FU = 1000000000 := rfl; simp at hB; omega) (by omega) (by have := addO_v e; show addO T ≠ 3 ∧ addO T ≠ 4; omega)
      cases hy : P T.tail with
      | error z =>
        obtain ⟨k, p⟩ := z
        rw [hy] at hs
        obtain ⟨M3, F3, e3, h3, f3⟩ := hs
        exact ⟨M3, F3, e3, h3, r2.tr f3⟩
      | ok z =>
        obtain ⟨c1, T1⟩ := z
        rw [hy] at hs
        obtain ⟨M3, G3, F3, X3, C3, e3, h3, ec, x3, mu3, l1, l2, f3⟩ := hs
        obtain ⟨g1, g2, g3⟩ := hG _ _ _ t1 hy
        rw [e3]
        refine (cm_add hm hA hG hV hb mm G3 F3 M3 T1 (X3 ++ [addO T]) C3 (c ++ c1 ++ [addO T]) (by rw [List.append_assoc]; exact h3) ?_ ?_ mu3 (by omega) l1 l2 ?_).tr (r2.tr f3)
        · rw [← List.append_assoc, ec, hc]; simp
        · intro z hz
          rcases List.mem_append.mp hz with hz | hz
          · have := x3 z hz; omega
          · rw [List.mem_singleton] at hz
            have := addO_v e
            omega
        · simp at hB ⊢; omega
/-- a bracket's end -/
theorem br_fin {X C1 c : List Int} {y : Int} {G F : Nat} (hm : m ≤ 900) (hy : y = 20 ∨ y = 23 ∨ y = 24) (ho : 0 ≤ o ∧ o ≤ 6) (h : MS b n M T (X ++ (y :: V)) (o + 1) C1 bs) (h0 : 0 ≤ bs) (hb : bs ≤ V.length) (hX : ∀ z ∈ X, 1 ≤ z ∧ z ≤ 4) (hmu : mulO T = 0) (had : addO T = 0) (hB : ((C1.length + (X ++ (y :: V)).length + T.length : Nat) : Int) ≤ m) (hc : C1 ++ X ++ cls y = C ++ c) (hG : T.length < G) (hF : T.length < F) : RsA b n m bs x o V C M (AfS G F M x) (if isS T 41 then .ok (c, T.tail) else er 1 (hq T)) := by
  obtain ⟨G', rfl⟩ : ∃ G', G = G' + 1 := ⟨G - 1, by omega⟩
  obtain ⟨F', rfl⟩ : ∃ F', F = F' + 1 := ⟨F - 1, by omega⟩
  by_cases e : isS T 41
  · rw [if_pos e]
    obtain ⟨M2, e2, r1, r2⟩ := goes_close h h0 hb hy hX (by omega) (by omega) e G'
    obtain ⟨t1, t2⟩ := h.tk.tl (by omega)
    rw [hc, show o + 1 - 1 = o by omega] at r1
    refine ⟨M2, G', F' + 1, ?_, r1, by omega, by omega, r2⟩
    unfold AfS
    rw [e2]
  · rw [if_neg e]
    have e1 : (((y :: V).length : Nat) : Int) = V.length + 1 := by simp
    have hBt : Bt bs (y :: V) := Or.inr ⟨by omega, show isK y by rcases hy with rfl | rfl | rfl <;> decide⟩
    have hmk : mkv bs (y :: V) = y := by unfold mkv; rw [if_neg (by omega)]; rfl
    have e3 := (go_118 h e G').trans (g118_end h h0 hBt hX (by omega) hmu had)
    rw [hmk, if_neg (by omega), if_neg (by omega), if_neg (by omega)] at e3
    refine ⟨_, F', af_0 e3, ⟨me_fail (by decide), ?_⟩, (ScP_S (lk_fr M T)).tr (Fr.st (Fr.st (Fr.rf _ _) (by unfold ScS; omega)) (by unfold ScS; omega))⟩
    rw [st_neI (by decide), st_neI (by decide), h.lo.2.2.2.2.2.1]
    omega
/-- behind min or max -/
theorem one_mm (hm : m ≤ 900) (h : MS b n M T V o C bs) (ho : 0 ≤ o ∧ o ≤ 6) (hB : ((C.length + V.length + T.length : Nat) : Int) ≤ m) (w : Mem → Int → Res) {r : Int} (hr : r = 0 ∨ r = 1) : (isS T 40 ∧ o < 6 ∧ ∃ M2, j_X12_onePart_90 w M 1 r = w M2 1 ∧ MS b n M2 T.tail ((22 - r) :: V) (o + 1) C bs ∧ Fr ScS M M2) ∨ (isS T 40 ∧ o = 6 ∧ ∃ M2, j_X12_onePart_90 w M 1 r = w M2 1 ∧ MEc m M2 4 (hq T) ∧ Fr ScS M M2) ∨ (¬ isS T 40 ∧ ∃ M2, j_X12_onePart_90 w M 1 r = w M2 1 ∧ MEc m M2 1 (hq T) ∧ Fr ScS M M2) := by
  have hd := h.tk.hd
  unfold j_X12_onePart_90
  rw [m_look h.1, cl_some, lk_at]
  by_cases c : isS T 40
  · rw [if_pos ((lkv_s h.1.2.2.2.2.2.1 (by decide) (by decide) (by decide)).mpr c)]
    unfold j_X12_onePart_107
    rw [if_neg (by omega)]
    have e127 : (if r = 0 then j_X12_onePart_127 w (lk M T) 1 (hq T) 22 else j_X12_onePart_127 w (lk M T) 1 (hq T) 21) = j_X12_onePart_127 w (lk M T) 1 (hq T) (22 - r) := by
      rcases hr with rfl | rfl
      · rw [if_pos rfl]; rfl
      · rw [if_neg (by decide)]; rfl
    rw [e127]
    unfold j_X12_onePart_127
    by_cases c6 : o < 6
    · left
      obtain ⟨M2, e2, r1, r2, -⟩ := m_opens h.lo c6 (by omega) (by omega) (22 - r) (hq T)
      rw [e2, cl_some]
      unfold j_X12_onePart_132
      rcases m_asksSign r1.1 (c := 40) (by decide) (by decide) (by decide) with ⟨-, M3, e3, q1, q2⟩ | ⟨q, -⟩
      · rw [e3, cl_some]
        exact ⟨c, c6, M3, rfl, r1.go q1 q2, ((ScP_S (lk_fr M T)).tr r2).tr (ScP_S q2)⟩
      · exact absurd c q
    · right; left
      have e6 : o = 6 := by omega
      subst e6
      rw [m_opens6 h.lo, cl_some]
      unfold j_X12_onePart_132 f_X12_asksSign
      rw [if_neg (by rw [(me_fail (by decide)).1]; decide), cl_some]
      refine ⟨c, rfl, _, rfl, ⟨me_fail (by decide), ?_⟩, (ScP_S (lk_fr M T)).tr (Fr.st (Fr.st (Fr.rf _ _) (by unfold ScS; omega)) (by unfold ScS; omega))⟩
      rw [st_neI (by decide), st_neI (by decide), h.lo.2.2.2.2.2.1]
      omega
  · right; right
    rw [if_neg (fun q => c ((lkv_s h.1.2.2.2.2.2.1 (by decide) (by decide) (by decide)).mp q))]
    unfold j_X12_onePart_107
    rw [if_pos rfl]
    unfold j_X12_onePart_132
    rcases m_asksSign h.lo.1 (c := 40) (by decide) (by decide) (by decide) with ⟨q, -⟩ | ⟨-, M3, e3, q1, q2⟩
    · exact absurd q c
    · rw [e3, cl_some]
      refine ⟨c, M3, rfl, ⟨q1, ?_⟩, (ScP_S (lk_fr M T)).tr (ScP_S q2)⟩
      rw [q2 337 32 (by unfold ScP; omega), h.lo.2.2.2.2.2.1]
      omega
/-- a part that is no bracket -/
theorem one_rest (hm : m ≤ 900) (h : MS b n M T V o C bs) (hB : ((C.length + V.length + T.length : Nat) : Int) ≤ m) : (telO T ≠ 0 ∧ ∃ M2, j_X12_onePart_146 M = some (0, M2) ∧ MS b n M2 T.tail V o (C ++ [telO T]) bs ∧ Fr ScS M M2) ∨ (telO T = 0 ∧ ((∃ v T1, pNum 0 9999 T = .ok (v, T1) ∧ ∃ M2, j_X12_onePart_146 M = some (0, M2) ∧ MS b n M2 T1 V o (C ++ [1000 + v]) bs ∧ Fr ScS M M2) ∨ (∃ k p, pNum 0 9999 T = .error (k, p) ∧ ∃ M2, j_X12_onePart_146 M = some (0, M2) ∧ MEc m M2 k p ∧ Fr ScS M M2))) := by
  have hd := h.tk.hd
  unfold j_X12_onePart_146
  rw [if_pos h.1.1]
  have yes : ∀ (M1 : Mem) (v : Int), telO T = v → v ≠ 0 → v ≠ -1 → MP b n M1 T.tail → Fr ScP M M1 → (telO T ≠ 0 ∧ ∃ M2, j_X12_onePart_251 M1 v = some (0, M2) ∧ MS b n M2 T.tail V o (C ++ [telO T]) bs ∧ Fr ScS M M2) := by
    intro M1 v ev hv hv1 q1 q2
    obtain ⟨M2, e2, r1, r2, -⟩ := ms_code (h.go q1 q2) (by omega) v
    unfold j_X12_onePart_251
    rw [if_neg hv1, e2, cl_some, ev]
    exact ⟨hv, M2, rfl, r1, (ScP_S q2).tr r2⟩
  have tk : ∀ a w : Int, 339 ≤ a ∧ a ≤ 359 → a - 339 = w → ∀ M0, (M0 = M ∨ M0 = lk M T) → (isW T w ∧ ∃ M1, f_X12_takes M0 a = some (1, M1) ∧ MP b n M1 T.tail ∧ Fr ScP M M1) ∨ (¬ isW T w ∧ f_X12_takes M0 a = some (0, lk M T)) := by
    intro a w ha hw M0 hM
    subst hw
    rcases hM with rfl | rfl
    · exact m_takes h.1 ha
    · rcases m_takes h.lo.1 ha with ⟨c, M1, e, q1, q2⟩ | ⟨c, e⟩
      · exact Or.inl ⟨c, M1, e, q1, (lk_fr M T).tr q2⟩
      · exact Or.inr ⟨c, by rw [e, lk_lk]⟩
  rcases tk 353 14 (by decide) (by decide) M (Or.inl rfl) with ⟨c1, M1, e1, q1, q2⟩ | ⟨c1, e1⟩
  · rw [e1, cl_some, if_neg (by decide)]
    exact Or.inl (yes M1 7 (by unfold telO; rw [if_pos c1]) (by decide) (by decide) q1 q2)
  rw [e1, cl_some, if_pos rfl]
  rcases tk 354 15 (by decide) (by decide) _ (Or.inr rfl) with ⟨c2, M1, e1, q1, q2⟩ | ⟨c2, e1⟩
  · rw [e1, cl_some, if_neg (by decide)]
    exact Or.inl (yes M1 8 (by unfold telO; rw [if_neg c1, if_pos c2]) (by decide) (by decide) q1 q2)
  rw [e1, cl_some, if_pos rfl]
  rcases tk 355 16 (by decide) (by decide) _ (Or.inr rfl) with ⟨c3, M1, e1, q1, q2⟩ | ⟨c3, e1⟩
  · rw [e1, cl_some, if_neg (by decide)]
    exact Or.inl (yes M1 9 (by unfold telO; rw [if_neg c1, if_neg c2, if_pos c3]) (by decide) (by decide) q1 q2)
  rw [e1, cl_some, if_pos rfl]
  rcases tk 339 0 (by decide) (by decide) _ (Or.inr rfl) with ⟨c4, M1, e1, q1, q2⟩ | ⟨c4, e1⟩
  · rw [e1, cl_some, if_neg (by decide)]
    exact Or.inl (yes M1 10 (by unfold telO; rw [if_neg c1, if_neg c2, if_neg c3, if_pos c4]) (by decide) (by decide) q1 q2)
  rw [e1, cl_some, if_pos rfl]
  rcases tk 356 17 (by decide) (by decide) _ (Or.inr rfl) with ⟨c5, M1, e1, q1, q2⟩ | ⟨c5, e1⟩
  · rw [e1, cl_some, if_neg (by decide)]
    exact Or.inl (yes M1 18 (by unfold telO; rw [if_neg c1, if_neg c2, if_neg c3, if_neg c4, if_pos c5]) (by decide) (by decide) q1 q2)
  rw [e1, cl_some, if_pos rfl]
  rcases tk 357 18 (by decide) (by decide) _ (Or.inr rfl) with ⟨c6, M1, e1, q1, q2⟩ | ⟨c6, e1⟩
  · rw [e1, cl_some, if_neg (by decide)]
    exact Or.inl (yes M1 30 (by unfold telO; rw [if_neg c1, if_neg c2, if_neg c3, if_neg c4, if_neg c5, if_pos c6]) (by decide) (by decide) q1 q2)
  rw [e1, cl_some, if_pos rfl]
  right
  refine ⟨by unfold telO; rw [if_neg c1, if_neg c2, if_neg c3, if_neg c4, if_neg c5, if_neg c6], ?_⟩
  have hn := m_number h.lo.1 0 9999
  unfold j_X12_onePart_251
  rw [if_pos rfl]
  cases hy : pNum 0 9999 T with
  | error z =>
    obtain ⟨k, p⟩ := z
    rw [hy] at hn
    obtain ⟨r, M1, e2, r0, me, f⟩ := hn
    right
    have e32 : M1 337 32 = C.length := by rw [f 337 32 (by unfold ScP; omega)]; exact h.lo.2.2.2.2.2.1
    refine ⟨k, p, rfl, ?_⟩
    rw [e2, cl_some, ok_t ⟨by omega, by omega⟩]
    unfold f_X12_code
    rw [e32, ok_t ⟨by omega, by omega⟩, bm_e, st_neA (by decide), e32, ok_t ⟨by omega, by omega⟩, bm_e, cl_some]
    refine ⟨_, rfl, ⟨⟨?_, ?_, me.2.2⟩, ?_⟩, ?_⟩
    · rw [st_neI (by decide), st_neA (by decide)]; exact me.1
    · rw [st_neI (by decide), st_neA (by decide)]; exact me.2.1
    · rw [st_at]; omega
    · exact Fr.st (Fr.st ((ScP_S (lk_fr M T)).tr (ScP_S f)) (by unfold ScS; omega)) (by unfold ScS; omega)
  | ok z =>
    obtain ⟨v, T1⟩ := z
    rw [hy] at hn
    obtain ⟨M1, e2, q1, q2⟩ := hn
    left
    have hv : 0 ≤ v ∧ v ≤ 9999 := by
      unfold pNum at hy
      by_cases h5 : hk T = 6
      · rw [if_pos h5] at hy; cases hy
      rw [if_neg h5] at hy
      by_cases h6 : hk T = 3
      · rw [if_pos h6] at hy
        by_cases h7 : hv T < 0 ∨ 9999 < hv T
        · rw [if_pos h7] at hy; cases hy
        · rw [if_neg h7] at hy; cases hy; omega
      · rw [if_neg h6] at hy; cases hy
    refine ⟨v, T1, rfl, ?_⟩
    obtain ⟨M2, e3, r1, r2, -⟩ := ms_code (h.lo.go q1 q2) (by omega) (1000 + v)
    rw [e2, cl_some, ok_t ⟨by omega, by omega⟩, e3, cl_some]
    exact ⟨M2, rfl, r1, ((ScP_S (lk_fr M T)).tr (ScP_S q2)).tr r2⟩
end SU
