/-! the reference's reader of SUMS: its stack of what waits -/
def ScS (a i : Int) : Prop := a = 361 ∨ (a = 360 ∧ 0 ≤ i ∧ i < 900) ∨ (a = 337 ∧ (i = 2 ∨ i = 4 ∨ i = 5 ∨ i = 6 ∨ i = 30 ∨ i = 32 ∨ i = 34 ∨ i = 35 ∨ i = 51))
theorem ScP_S {M M1 : Mem} (f : Fr ScP M M1) : Fr ScS M M1 := f.mono (fun a i h => by unfold ScP at h; unfold ScS; omega)
/-- T lies ahead, V waits (its top first), o are open, C is the code so far, bs the base -/
def MS (b : Int → Int) (n : Int) (M : Mem) (T : List Tok) (V : List Int) (o : Int) (C : List Int) (bs : Int) : Prop := MP b n M T ∧ M 337 34 = (V.length : Int) ∧ Stk M 361 V ∧ M 337 35 = o ∧ M 337 51 = bs ∧ M 337 32 = (C.length : Int) ∧ Seg M 360 0 C
def MEc (m : Int) (M : Mem) (k p : Int) : Prop := ME M k p ∧ 0 ≤ M 337 32 ∧ M 337 32 ≤ m
def tp (V : List Int) : Int := V.headD 0
section MM
variable {b : Int → Int} {n : Int} {M M1 : Mem} {T T1 : List Tok} {V : List Int} {o bs : Int} {C : List Int}
theorem MS.go (h : MS b n M T V o C bs) (hp : MP b n M1 T1) (f : Fr ScP M M1) : MS b n M1 T1 V o C bs := by
  obtain ⟨h1, h2, h3, h4, h5, h6, h7⟩ := h
  refine ⟨hp, (f 337 34 (by unfold ScP; omega)).trans h2, h3.fr (fun i _ _ => f 361 i (by unfold ScP; omega)), (f 337 35 (by unfold ScP; omega)).trans h4, (f 337 51 (by unfold ScP; omega)).trans h5, (f 337 32 (by unfold ScP; omega)).trans h6, Seg.fr (fun i => f 360 i (by unfold ScP; omega)) h7⟩
theorem MS.lo (h : MS b n M T V o C bs) : MS b n (lk M T) T V o C bs := h.go h.1.lo (lk_fr M T)
theorem MS.tk (h : MS b n M T V o C bs) : Tk b n T := ⟨_, h.1.2.2.2.2.1, h.1.2.2.2.2.2.1⟩
theorem MS.next (h : MS b n M T V o C bs) {s : Int} (s0 : 0 ≤ s) (s1 : ¬ isL s) (s2 : ¬ isD s) (hs : isS T s) : MS b n (st M 337 2 (hq T + 1)) T.tail V o C bs ∧ Fr ScS M (st M 337 2 (hq T + 1)) := by
  rcases m_takesSign h.1 s0 s1 s2 with ⟨-, M2, e, q1, q2, q3, q4⟩ | ⟨q, -⟩
  · subst q4
    exact ⟨h.go q1 q2, ScP_S q2⟩
  · exact absurd hs q
theorem ms_code (h : MS b n M T V o C bs) (hC : C.length < 900) (v : Int) : ∃ M1, f_X12_code M v = some (0, M1) ∧ MS b n M1 T V o (C ++ [v]) bs ∧ Fr ScS M M1 ∧ M1 337 2 = M 337 2 := by
  obtain ⟨h1, h2, h3, h4, h5, h6, h7⟩ := h
  unfold f_X12_code
  rw [h6, ok_t ⟨by omega, by omega⟩, bm_e, st_neA (by decide), h6, ok_t ⟨by omega, by omega⟩, bm_e]
  refine ⟨_, rfl, ⟨h1.fr (fun i => ?_) ?_ ?_ ?_ ?_, ?_, h3.fr (fun i _ _ => ?_), ?_, ?_, ?_, ?_⟩, Fr.st (Fr.st (Fr.rf _ _) (by unfold ScS; omega)) (by unfold ScS; omega), ?_⟩
  · rw [st_neA (by decide), st_neA (by decide)]
  · rw [st_neI (by decide), st_neA (by decide)]
  · rw [st_neI (by decide), st_neA (by decide)]
  · rw [st_neI (by decide), st_neA (by decide)]
  · rw [st_neI (by decide), st_neA (by decide)]
  · rw [st_neI (by decide), st_neA (by decide)]; exact h2
  · rw [st_neA (by decide), st_neA (by decide)]
  · rw [st_neI (by decide), st_neA (by decide)]; exact h4
  · rw [st_neI (by decide), st_neA (by decide)]; exact h5
  · rw [st_at]; simp
  · rw [Seg.app]
    refine ⟨Seg.of (fun k k0 k1 => ?_) h7, ?_, trivial⟩
    · rw [st_neA (by decide), st_neI (by omega)]
    · rw [st_neA (by decide), Int.zero_add, st_at]
  · rw [st_neI (by decide), st_neA (by decide)]
theorem ms_push (h : MS b n M T V o C bs) (v : Int) : MS b n (st (st M 361 V.length v) 337 34 (V.length + 1)) T (v :: V) o C bs ∧ Fr ScS M (st (st M 361 V.length v) 337 34 (V.length + 1)) ∧ st (st M 361 V.length v) 337 34 (V.length + 1) 337 2 = M 337 2 := by
  obtain ⟨h1, h2, h3, h4, h5, h6, h7⟩ := h
  refine ⟨⟨h1.fr (fun i => ?_) ?_ ?_ ?_ ?_, ?_, ⟨?_, ?_⟩, ?_, ?_, ?_, Seg.fr (fun i => ?_) h7⟩, Fr.st (Fr.st (Fr.rf _ _) (by unfold ScS; omega)) (by unfold ScS; omega), ?_⟩
  · rw [st_neA (by decide), st_neA (by decide)]
  · rw [st_neI (by decide), st_neA (by decide)]
  · rw [st_neI (by decide), st_neA (by decide)]
  · rw [st_neI (by decide), st_neA (by decide)]
  · rw [st_neI (by decide), st_neA (by decide)]
  · rw [st_at]; simp
  · rw [st_neA (by decide), st_at]
  · have : Stk (st M 361 (V.length : Int) v) 361 V := h3.st (Int.le_refl _)
    exact this.fr (fun i _ _ => st_neA (by decide))
  · rw [st_neI (by decide), st_neA (by decide)]; exact h4
  · rw [st_neI (by decide), st_neA (by decide)]; exact h5
  · rw [st_neI (by decide), st_neA (by decide)]; exact h6
  · rw [st_neA (by decide), st_neA (by decide)]
  · rw [st_neI (by decide), st_neA (by decide)]
theorem MS.pop {x : Int} (h : MS b n M T (x :: V) o C bs) : MS b n (st M 337 34 V.length) T V o C bs ∧ Fr ScS M (st M 337 34 V.length) ∧ M 361 V.length = x ∧ M 337 34 = V.length + 1 := by
  obtain ⟨h1, h2, h3, h4, h5, h6, h7⟩ := h
  refine ⟨⟨h1.fr (fun i => ?_) ?_ ?_ ?_ ?_, ?_, h3.2.fr (fun i _ _ => ?_), ?_, ?_, ?_, Seg.fr (fun i => ?_) h7⟩, Fr.st (Fr.rf _ _) (by unfold ScS; omega), h3.1, by rw [h2]; simp⟩
  · rw [st_neA (by decide)]
  · rw [st_neI (by decide)]
  · rw [st_neI (by decide)]
  · rw [st_neI (by decide)]
  · rw [st_neI (by decide)]
  · rw [st_at]
  · rw [st_neA (by decide)]
  · rw [st_neI (by decide)]; exact h4
  · rw [st_neI (by decide)]; exact h5
  · rw [st_neI (by decide)]; exact h6
  · rw [st_neA (by decide)]
theorem ms_opn (h : MS b n M T V o C bs) (v : Int) : MS b n (st M 337 35 v) T V v C bs ∧ Fr ScS M (st M 337 35 v) := by
  obtain ⟨h1, h2, h3, h4, h5, h6, h7⟩ := h
  refine ⟨⟨h1.fr (fun i => ?_) ?_ ?_ ?_ ?_, ?_, h3.fr (fun i _ _ => ?_), st_at _ _ _ _, ?_, ?_, Seg.fr (fun i => ?_) h7⟩, Fr.st (Fr.rf _ _) (by unfold ScS; omega)⟩
  · rw [st_neA (by decide)]
  · rw [st_neI (by decide)]
  · rw [st_neI (by decide)]
  · rw [st_neI (by decide)]
  · rw [st_neI (by decide)]
  · rw [st_neI (by decide)]; exact h2
  · rw [st_neA (by decide)]
  · rw [st_neI (by decide)]; exact h5
  · rw [st_neI (by decide)]; exact h6
  · rw [st_neA (by decide)]
theorem ms_bas (h : MS b n M T V o C bs) (v : Int) : MS b n (st M 337 51 v) T V o C v ∧ Fr ScS M (st M 337 51 v) := by
  obtain ⟨h1, h2, h3, h4, h5, h6, h7⟩ := h
  refine ⟨⟨h1.fr (fun i => ?_) ?_ ?_ ?_ ?_, ?_, h3.fr (fun i _ _ => ?_), ?_, st_at _ _ _ _, ?_, Seg.fr (fun i => ?_) h7⟩, Fr.st (Fr.rf _ _) (by unfold ScS; omega)⟩
  · rw [st_neA (by decide)]
  · rw [st_neI (by decide)]
  · rw [st_neI (by decide)]
  · rw [st_neI (by decide)]
  · rw [st_neI (by decide)]
  · rw [st_neI (by decide)]; exact h2
  · rw [st_neA (by decide)]
  · rw [st_neI (by decide)]; exact h4
  · rw [st_neI (by decide)]; exact h6
  · rw [st_neA (by decide)]
theorem ms_drops {x : Int} (h : MS b n M T (x :: V) o C bs) (hC : C.length < 900) (hV : V.length < 1000) : ∃ M1, f_X12_drops M = some (0, M1) ∧ MS b n M1 T V o (C ++ [x]) bs ∧ Fr ScS M M1 := by
  obtain ⟨p1, p2, p3, p4⟩ := h.pop
  unfold f_X12_drops
  rw [p4, ok_t ⟨by omega, by omega⟩, bm_e, show (V.length : Int) + 1 - 1 = V.length by omega, st_at, ok_t ⟨by omega, by omega⟩, st_neA (by decide), p3]
  obtain ⟨M1, e1, q1, q2, -⟩ := ms_code p1 hC x
  rw [e1, cl_some]
  exact ⟨M1, rfl, q1, p2.tr q2⟩
theorem ms_isOn (h : MS b n M T V o C bs) (hV : V.length ≤ 1000) {x : Int} (hx : x ≠ 0) : f_X12_isOn M x = some (bI (tp V = x), M) := by
  unfold f_X12_isOn
  rw [h.2.1]
  cases V with
  | nil => rw [if_pos (show ((([] : List Int).length : Nat) : Int) ≤ 0 by simp), bI_f (show ¬ tp [] = x from fun q => hx q.symm)]
  | cons y W =>
    have e1 : (((y :: W).length : Nat) : Int) = W.length + 1 := by simp
    have hw : W.length + 1 ≤ 1000 := by simpa using hV
    rw [e1, if_neg (by omega), ok_t ⟨by omega, by omega⟩, ok_t ⟨by omega, by omega⟩, show (W.length : Int) + 1 - 1 = W.length by omega, h.2.2.1.1]
    by_cases e : y = x
    · rw [if_pos e, bI_t (show tp (y :: W) = x from e)]
    · rw [if_neg e, bI_f (show ¬ tp (y :: W) = x from e)]
abbrev isK (y : Int) : Prop := 20 ≤ y ∧ y ≤ 24
theorem m_isMark (M : Mem) (y : Int) : f_X12_isMark M y = some (bI (isK y), M) := by
  unfold f_X12_isMark
  by_cases h1 : y < 20
  · rw [if_pos h1, bI_f (show ¬ isK y from fun q => by have := q.1; omega)]
  · rw [if_neg h1]
    by_cases h2 : 24 < y
    · rw [if_pos h2, bI_f (show ¬ isK y from fun q => by have := q.2; omega)]
    · rw [if_neg h2, bI_t (show isK y from ⟨by omega, by omega⟩)]
/-- V1 is at the base, or a mark is its top -/
def Bt (bs : Int) (V1 : List Int) : Prop := (V1.length : Int) = bs ∨ (bs < V1.length ∧ isK (tp V1))
def mkv (bs : Int) (V1 : List Int) : Int := if (V1.length : Int) = bs then -1 else tp V1
theorem mark_aux (hbs : M 337 51 = bs ∧ 0 ≤ bs) {V1 : List Int} (hB : Bt bs V1) : ∀ (X : List Int) (F : Nat), (∀ x ∈ X, ¬ isK x) → Stk M 361 (X ++ V1) → (X ++ V1).length ≤ 1000 → X.length < F → wl1 b_X12_mark_7 F M ((X ++ V1).length - 1) = some (mkv bs V1, M)
  | [], F, hX, hs, hl, hF => by
    obtain ⟨G, rfl⟩ : ∃ G, F = G + 1 := ⟨F - 1, by simp at hF; omega⟩
    have hl' : V1.length ≤ 1000 := hl
    have e0 : ([] ++ V1 : List Int) = V1 := rfl
    rw [wl1_s, e0]
    rw [e0] at hs
    unfold b_X12_mark_7 mkv j_X12_mark_34
    rw [hbs.1]
    rcases hB with h | ⟨h1, h2⟩
    · rw [if_pos (by omega), if_pos (by omega), if_pos h]
    · cases V1 with
      | nil => simp at h1; omega
      | cons y W =>
        have e1 : (((y :: W).length : Nat) : Int) - 1 = W.length := by simp
        have e2 : (((y :: W).length : Nat) : Int) = W.length + 1 := by simp
        have hw : W.length + 1 ≤ 1000 := by simpa using hl'
        rw [e1, if_neg (by omega), ok_t ⟨by omega, by omega⟩, hs.1, m_isMark, cl_some, if_neg (by rw [bI_t (show isK y from h2)]; decide), if_neg (by omega), ok_t ⟨by omega, by omega⟩, if_neg (by omega), hs.1]
        rfl
  | x :: X, F, hX, hs, hl, hF => by
    obtain ⟨G, rfl⟩ : ∃ G, F = G + 1 := ⟨F - 1, by simp at hF; omega⟩
    have hl2 : (X ++ V1).length + 1 ≤ 1000 := by simpa using hl
    have e1 : ((((x :: X) ++ V1).length : Nat) : Int) - 1 = (X ++ V1).length := by simp
    have hb1 : bs ≤ V1.length := by rcases hB with h | ⟨h1, h2⟩ <;> omega
    have hb2 : V1.length ≤ (X ++ V1).length := by simp
    rw [wl1_s, e1]
    unfold b_X12_mark_7
    have e3 : M 361 ((X ++ V1).length : Int) = x := hs.1
    rw [hbs.1, if_neg (by omega), ok_t ⟨by omega, by omega⟩, e3, m_isMark, cl_some, if_pos (bI_f (hX x List.mem_cons_self))]
    show wl1 b_X12_mark_7 G M (((X ++ V1).length : Int) + -1) = _
    rw [show ((X ++ V1).length : Int) + -1 = (X ++ V1).length - 1 by omega]
    exact mark_aux hbs hB X G (fun y hy => hX y (List.mem_cons_of_mem _ hy)) hs.2 (by omega) (by simp at hF; omega)
theorem ms_mark {X V1 : List Int} (h : MS b n M T (X ++ V1) o C bs) (h0 : 0 ≤ bs) (hB : Bt bs V1) (hX : ∀ x ∈ X, ¬ isK x) (hl : (X ++ V1).length ≤ 1000) : f_X12_mark M = some (mkv bs V1, M) := by
  unfold f_X12_mark
  rw [h.2.1, ok_t ⟨by omega, by omega⟩]
  exact mark_aux ⟨h.2.2.2.2.1, h0⟩ hB X FU hX h.2.2.1 hl (by have : FU = 1000000000 := rfl; simp at hl; omega)
theorem dtm_aux {V1 : List Int} (h0 : 0 ≤ bs) (hB : Bt bs V1) : ∀ (X : List Int) (F : Nat) (M : Mem) (C : List Int), MS b n M T (X ++ V1) o C bs → (∀ x ∈ X, ¬ isK x) → C.length + (X ++ V1).length ≤ 900 → X.length < F → ∃ M1, wl0 b_X12_dropsToMark_0 F M = some (0, M1) ∧ MS b n M1 T V1 o (C ++ X) bs ∧ Fr ScS M M1
  | [], F, M, C, h, hX, hl, hF => by
    obtain ⟨G, rfl⟩ : ∃ G, F = G + 1 := ⟨F - 1, by simp at hF; omega⟩
    have h' : MS b n M T V1 o C bs := h
    have hl' : C.length + V1.length ≤ 900 := hl
    refine ⟨M, ?_, by rw [List.append_nil]; exact h', Fr.rf _ _⟩
    rw [wl0_s]
    unfold b_X12_dropsToMark_0
    rw [h'.2.1, h'.2.2.2.2.1]
    rcases hB with q | ⟨q1, q2⟩
    · rw [if_pos (by omega)]
    · cases V1 with
      | nil => simp at q1; omega
      | cons y W =>
        have e2 : (((y :: W).length : Nat) : Int) = W.length + 1 := by simp
        have hw : W.length + 1 ≤ 1000 := by simp at hl'; omega
        rw [if_neg (by omega), e2, ok_t ⟨by omega, by omega⟩, ok_t ⟨by omega, by omega⟩, show (W.length : Int) + 1 - 1 = W.length by omega, h'.2.2.1.1, m_isMark, cl_some, if_neg (by rw [bI_t (show isK y from q2)]; decide)]
  | x :: X, F, M, C, h, hX, hl, hF => by
    obtain ⟨G, rfl⟩ : ∃ G, F = G + 1 := ⟨F - 1, by simp at hF; omega⟩
    have h' : MS b n M T (x :: (X ++ V1)) o C bs := h
    have hl2 : C.length + ((X ++ V1).length + 1) ≤ 900 := by simpa using hl
    have hb1 : bs ≤ V1.length := by rcases hB with h | ⟨h1, h2⟩ <;> omega
    have hb2 : V1.length ≤ (X ++ V1).length := by simp
    obtain ⟨p1, p2, p3, p4⟩ := h'.pop
    obtain ⟨M1, e1, q1, q2⟩ := ms_drops h' (by omega) (by omega)
    obtain ⟨M2, e2, r1, r2⟩ := dtm_aux h0 hB X G M1 (C ++ [x]) q1 (fun y hy => hX y (List.mem_cons_of_mem _ hy)) (by simp at hl2 ⊢; omega) (by simp at hF; omega)
    refine ⟨M2, ?_, by rw [List.append_assoc] at r1; exact r1, q2.tr r2⟩
    rw [wl0_s]
    unfold b_X12_dropsToMark_0
    rw [p4, h'.2.2.2.2.1, if_neg (by omega), ok_t ⟨by omega, by omega⟩, ok_t ⟨by omega, by omega⟩, show ((X ++ V1).length : Int) + 1 - 1 = (X ++ V1).length by omega, p3, m_isMark, cl_some, if_pos (bI_f (hX x List.mem_cons_self)), e1, cl_some]
    exact e2
theorem ms_dtm {X V1 : List Int} (h : MS b n M T (X ++ V1) o C bs) (h0 : 0 ≤ bs) (hB : Bt bs V1) (hX : ∀ x ∈ X, ¬ isK x) (hl : C.length + (X ++ V1).length ≤ 900) : ∃ M1, f_X12_dropsToMark M = some (0, M1) ∧ MS b n M1 T V1 o (C ++ X) bs ∧ Fr ScS M M1 :=
  dtm_aux h0 hB X FU M C h hX hl (by have : FU = 1000000000 := rfl; simp at hl; omega)
/-- ops of a product that wait are dropped, the new one waits -/
theorem push_mul {v : Int} {W : List Int} (hW : tp W ≠ 3 ∧ tp W ≠ 4) : ∀ (X : List Int) (F : Nat) (M : Mem) (C : List Int), MS b n M T (X ++ W) o C bs → (∀ x ∈ X, x = 3 ∨ x = 4) → C.length + (X ++ W).length ≤ 900 → X.length < F → ∃ M1, wl1 b_X12_goesOn_158 F M v = some (1, M1) ∧ MS b n M1 T (v :: W) o (C ++ X) bs ∧ Fr ScS M M1
  | [], F, M, C, h, hX, hl, hF => by
    obtain ⟨G, rfl⟩ : ∃ G, F = G + 1 := ⟨F - 1, by simp at hF; omega⟩
    have h' : MS b n M T W o C bs := h
    have hl' : C.length + W.length ≤ 900 := hl
    obtain ⟨p1, p2, -⟩ := ms_push h' v
    refine ⟨_, ?_, by rw [List.append_nil]; exact p1, p2⟩
    rw [wl1_s]
    unfold b_X12_goesOn_158
    rw [ms_isOn h' (by omega) (by decide), cl_some, if_pos (bI_f hW.1), ms_isOn h' (by omega) (by decide), cl_some, if_pos (bI_f hW.2), h'.2.1, ok_t ⟨by omega, by omega⟩, bm_e, st_neA (by decide), h'.2.1, ok_t ⟨by omega, by omega⟩]
    rfl
  | x :: X, F, M, C, h, hX, hl, hF => by
    obtain ⟨G, rfl⟩ : ∃ G, F = G + 1 := ⟨F - 1, by simp at hF; omega⟩
    have h' : MS b n M T (x :: (X ++ W)) o C bs := h
    have hl2 : C.length + ((X ++ W).length + 1) ≤ 900 := by simpa using hl
    have hln : (x :: (X ++ W)).length ≤ 1000 := by rw [List.length_cons]; omega
    obtain ⟨M1, e1, q1, q2⟩ := ms_drops h' (by omega) (by omega)
    obtain ⟨M2, e2, r1, r2⟩ := push_mul hW X G M1 (C ++ [x]) q1 (fun y hy => hX y (List.mem_cons_of_mem _ hy)) (by simp at hl2 ⊢; omega) (by simp at hF; omega)
    refine ⟨M2, ?_, by rw [List.append_assoc] at r1; exact r1, q2.tr r2⟩
    have go : j_X12_goesOn_174 (wl1 b_X12_goesOn_158 G) M v = some (1, M2) := by
      unfold j_X12_goesOn_174
      rw [e1, cl_some]; exact e2
    rw [wl1_s]
    unfold b_X12_goesOn_158
    rw [ms_isOn h' hln (by decide), cl_some]
    by_cases c : tp (x :: (X ++ W)) = 3
    · rw [if_neg (by rw [bI_t c]; decide)]; exact go
    · rw [if_pos (bI_f c), ms_isOn h' hln (by decide), cl_some]
      have c4 : tp (x :: (X ++ W)) = 4 := by
        rcases hX x List.mem_cons_self with q | q
        · exact absurd q c
        · exact q
      rw [if_neg (by rw [bI_t c4]; decide)]; exact go
theorem push_add {v : Int} {W : List Int} (hW : tp W ≠ 1 ∧ tp W ≠ 2 ∧ tp W ≠ 3 ∧ tp W ≠ 4) : ∀ (X : List Int) (F : Nat) (M : Mem) (C : List Int), MS b n M T (X ++ W) o C bs → (∀ x ∈ X, 1 ≤ x ∧ x ≤ 4) → C.length + (X ++ W).length ≤ 900 → X.length < F → ∃ M1, wl1 b_X12_goesOn_243 F M v = some (1, M1) ∧ MS b n M1 T (v :: W) o (C ++ X) bs ∧ Fr ScS M M1
  | [], F, M, C, h, hX, hl, hF => by
    obtain ⟨G, rfl⟩ : ∃ G, F = G + 1 := ⟨F - 1, by simp at hF; omega⟩
    have h' : MS b n M T W o C bs := h
    have hl' : C.length + W.length ≤ 900 := hl
    obtain ⟨p1, p2, -⟩ := ms_push h' v
    refine ⟨_, ?_, by rw [List.append_nil]; exact p1, p2⟩
    rw [wl1_s]
    unfold b_X12_goesOn_243
    rw [ms_isOn h' (by omega) (by decide), cl_some, if_pos (bI_f hW.2.2.1), ms_isOn h' (by omega) (by decide), cl_some, if_pos (bI_f hW.2.2.2), ms_isOn h' (by omega) (by decide), cl_some, if_pos (bI_f hW.1), ms_isOn h' (by omega) (by decide), cl_some, if_pos (bI_f hW.2.1), h'.2.1, ok_t ⟨by omega, by omega⟩, bm_e, st_neA (by decide), h'.2.1, ok_t ⟨by omega, by omega⟩]
    rfl
  | x :: X, F, M, C, h, hX, hl, hF => by
    obtain ⟨G, rfl⟩ : ∃ G, F = G + 1 := ⟨F - 1, by simp at hF; omega⟩
    have h' : MS b n M T (x :: (X ++ W)) o C bs := h
    have hl2 : C.length + ((X ++ W).length + 1) ≤ 900 := by simpa using hl
    have hln : (x :: (X ++ W)).length ≤ 1000 := by rw [List.length_cons]; omega
    obtain ⟨M1, e1, q1, q2⟩ := ms_drops h' (by omega) (by omega)
    obtain ⟨M2, e2, r1, r2⟩ := push_add hW X G M1 (C ++ [x]) q1 (fun y hy => hX y (List.mem_cons_of_mem _ hy)) (by simp at hl2 ⊢; omega) (by simp at hF; omega)
    refine ⟨M2, ?_, by rw [List.append_assoc] at r1; exact r1, q2.tr r2⟩
    have go : j_X12_goesOn_275 (wl1 b_X12_goesOn_243 G) M v = some (1, M2) := by
      unfold j_X12_goesOn_275
      rw [e1, cl_some]; exact e2
    have hx := hX x List.mem_cons_self
    have ht : tp (x :: (X ++ W)) = x := rfl
    rw [wl1_s]
    unfold b_X12_goesOn_243
    rw [ms_isOn h' hln (by decide), cl_some, ht]
    by_cases c : x = 3
    · rw [if_neg (by rw [bI_t c]; decide)]; exact go
    rw [if_pos (bI_f c), ms_isOn h' hln (by decide), cl_some, ht]
    by_cases c4 : x = 4
    · rw [if_neg (by rw [bI_t c4]; decide)]; exact go
    rw [if_pos (bI_f c4), ms_isOn h' hln (by decide), cl_some, ht]
    by_cases c1 : x = 1
    · rw [if_neg (by rw [bI_t c1]; decide)]; exact go
    rw [if_pos (bI_f c1), ms_isOn h' hln (by decide), cl_some, ht]
    rw [if_neg (by rw [bI_t (show x = 2 by omega)]; decide)]; exact go
end MM
