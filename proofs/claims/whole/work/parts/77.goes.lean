/-! the reference's goesOn(), step by step -/
section GO
variable {b : Int → Int} {n : Int} {M M1 : Mem} {T T1 : List Tok} {V : List Int} {o bs : Int} {C : List Int}
theorem m_chr (h : MP b n M T) {s : Int} (s0 : 0 ≤ s) (s1 : ¬ isL s) (s2 : ¬ isD s) (hs : isS T s) : (0 ≤ hq T ∧ hq T < n) ∧ M 338 (hq T) = s := by
  obtain ⟨a0, a1, a2, a3, a4, a5, a6, a7⟩ := id h
  obtain ⟨l1, l2, l3, l4⟩ := a5.hd
  have hl := (lkv_s a5 s0 s1 s2).mpr hs
  unfold lkv at hl
  rw [if_neg (by have := hs.1; omega)] at hl
  rcases l4 with ⟨l4, l5⟩ | ⟨l4, -⟩
  · have := hs.1; omega
  · refine ⟨⟨by omega, l4⟩, ?_⟩
    rw [(a3 _ (by omega) l4).1]; exact hl
theorem ms_top {y : Int} (h : MS b n M T (y :: V) o C bs) (z : Int) : MS b n (st M 361 V.length z) T (z :: V) o C bs ∧ Fr ScS M (st M 361 V.length z) := by
  obtain ⟨h1, h2, h3, h4, h5, h6, h7⟩ := h
  refine ⟨⟨h1.fr (fun i => ?_) ?_ ?_ ?_ ?_, ?_, ⟨st_at _ _ _ _, ?_⟩, ?_, ?_, ?_, Seg.fr (fun i => ?_) h7⟩, Fr.st (Fr.rf _ _) (by unfold ScS; omega)⟩
  · rw [st_neA (by decide)]
  · rw [st_neA (by decide)]
  · rw [st_neA (by decide)]
  · rw [st_neA (by decide)]
  · rw [st_neA (by decide)]
  · rw [st_neA (by decide), h2]; simp
  · exact h3.2.st (Int.le_refl _)
  · rw [st_neA (by decide)]; exact h4
  · rw [st_neA (by decide)]; exact h5
  · rw [st_neA (by decide)]; exact h6
  · rw [st_neA (by decide)]
def cls (y : Int) : List Int := if y = 20 then [] else if y = 23 then [5] else [6]
theorem goes_close {X : List Int} {y : Int} (h : MS b n M T (X ++ (y :: V)) o C bs) (h0 : 0 ≤ bs) (hB : bs ≤ V.length) (hy : y = 20 ∨ y = 23 ∨ y = 24) (hX : ∀ x ∈ X, 1 ≤ x ∧ x ≤ 4) (hl : C.length + (X ++ (y :: V)).length ≤ 900) (ho : -100 ≤ o ∧ o ≤ 100) (hs : isS T 41) (G : Nat) : ∃ M2, wl0 b_X12_goesOn_0 (G + 1) M = wl0 b_X12_goesOn_0 G M2 ∧ MS b n M2 T.tail V (o - 1) (C ++ X ++ cls y) bs ∧ Fr ScS M M2 := by
  have hl2 : C.length + (X.length + (V.length + 1)) ≤ 900 := by simpa using hl
  have e1 : (((y :: V).length : Nat) : Int) = V.length + 1 := by simp
  have hK : ∀ x ∈ X, ¬ isK x := fun x hx q => by have := hX x hx; have := q.1; omega
  have hBt : Bt bs (y :: V) := Or.inr ⟨by omega, show isK y by rcases hy with rfl | rfl | rfl <;> decide⟩
  have hmk : mkv bs (y :: V) = y := by unfold mkv; rw [if_neg (by omega)]; rfl
  have hm := ms_mark h.lo h0 hBt hK (by simp; omega)
  rw [hmk] at hm
  obtain ⟨c1, c2⟩ := m_chr h.1 (by decide) (by decide) (by decide) hs
  have hn := h.1.2.2.1
  have tail : ∃ M2, j_X12_goesOn_43 (wl0 b_X12_goesOn_0 G) (lk M T) = wl0 b_X12_goesOn_0 G M2 ∧ MS b n M2 T.tail V (o - 1) (C ++ X ++ cls y) bs ∧ Fr ScS M M2 := by
    unfold j_X12_goesOn_43
    obtain ⟨p1, p2⟩ := h.lo.next (by decide) (by decide) (by decide) hs
    rw [lk_at, ok_t ⟨by omega, by omega⟩, bm_e]
    obtain ⟨M3, e3, q1, q2⟩ := ms_dtm p1 h0 hBt hK hl
    obtain ⟨r1, r2, r3, r4⟩ := q1.pop
    obtain ⟨u1, u2⟩ := ms_opn r1 (o - 1)
    have f3 : Fr ScS M (st (st M3 337 34 V.length) 337 35 (o - 1)) := (((ScP_S (lk_fr M T)).tr p2).tr q2).tr (r2.tr u2)
    have e35 : st M3 337 34 (V.length : Int) 337 35 = o := by rw [st_neI (by decide)]; exact q1.2.2.2.1
    rw [e3, cl_some, r4, ok_t ⟨by omega, by omega⟩, bm_e, show (V.length : Int) + 1 - 1 = V.length by omega, e35, ok_t ⟨by omega, by omega⟩, bm_e, u1.2.1, ok_t ⟨by omega, by omega⟩]
    have e361 : st (st M3 337 34 (V.length : Int)) 337 35 (o - 1) 361 V.length = y := by rw [st_neA (by decide), st_neA (by decide)]; exact r3
    rw [e361]
    rcases hy with rfl | rfl | rfl
    · rw [if_pos rfl]
      exact ⟨_, rfl, by rw [show cls 20 = [] by decide, List.append_nil]; exact u1, f3⟩
    · rw [if_neg (by decide), if_pos rfl]
      obtain ⟨M4, e4, v1, v2, -⟩ := ms_code u1 (by simp; omega) 5
      rw [e4, cl_some]
      exact ⟨M4, rfl, v1, f3.tr v2⟩
    · rw [if_neg (by decide), if_neg (by decide)]
      obtain ⟨M4, e4, v1, v2, -⟩ := ms_code u1 (by simp; omega) 6
      rw [e4, cl_some]
      exact ⟨M4, rfl, v1, f3.tr v2⟩
  rw [wl0_s]
  unfold b_X12_goesOn_0
  rw [if_pos h.1.1, m_look h.1, cl_some, if_pos ((lkv_s h.1.2.2.2.2.2.1 (by decide) (by decide) (by decide)).mpr hs), hm, cl_some]
  by_cases y1 : y = 20
  · rw [if_pos y1]; exact tail
  rw [if_neg y1, hm, cl_some]
  by_cases y2 : y = 23
  · rw [if_pos y2]; exact tail
  rw [if_neg y2, hm, cl_some, if_pos (show y = 24 by omega)]
  exact tail
/-- where no ) closes -/
theorem goes_118 {X V1 : List Int} (h : MS b n M T (X ++ V1) o C bs) (h0 : 0 ≤ bs) (hB : Bt bs V1) (hX : ∀ x ∈ X, 1 ≤ x ∧ x ≤ 4) (hl : C.length + (X ++ V1).length ≤ 900) (hs : ¬ isS T 41 ∨ (mkv bs V1 ≠ 20 ∧ mkv bs V1 ≠ 23 ∧ mkv bs V1 ≠ 24)) (G : Nat) : wl0 b_X12_goesOn_0 (G + 1) M = j_X12_goesOn_118 (lk M T) := by
  have hK : ∀ x ∈ X, ¬ isK x := fun x hx q => by have := hX x hx; have := q.1; omega
  have hm := ms_mark h.lo h0 hB hK (by omega)
  rw [wl0_s]
  unfold b_X12_goesOn_0
  rw [if_pos h.1.1, m_look h.1, cl_some]
  by_cases c : isS T 41
  · have hs2 := hs.resolve_left (fun q => q c)
    rw [if_pos ((lkv_s h.1.2.2.2.2.2.1 (by decide) (by decide) (by decide)).mpr c), hm, cl_some, if_neg hs2.1, hm, cl_some, if_neg hs2.2.1, hm, cl_some, if_neg hs2.2.2]
  · rw [if_neg (fun q => c ((lkv_s h.1.2.2.2.2.2.1 (by decide) (by decide) (by decide)).mp q))]
theorem g118_mul {X W : List Int} (h : MS b n M T (X ++ W) o C bs) (hX : ∀ x ∈ X, x = 3 ∨ x = 4) (hW : tp W ≠ 3 ∧ tp W ≠ 4) (hl : C.length + (X ++ W).length ≤ 900) (hm : mulO T ≠ 0) : ∃ M2, j_X12_goesOn_118 (lk M T) = some (1, M2) ∧ MS b n M2 T.tail (mulO T :: W) o (C ++ X) bs ∧ Fr ScS M M2 := by
  have hF : X.length < FU := by have : FU = 1000000000 := rfl; simp at hl; omega
  have hn := h.1.2.2.1
  unfold j_X12_goesOn_118
  rcases m_takesSign h.lo.1 (c := 42) (by decide) (by decide) (by decide) with ⟨c, M1, e1, q1, q2, q3, q4⟩ | ⟨c, e1⟩
  · obtain ⟨c1, c2⟩ := m_chr h.lo.1 (by decide) (by decide) (by decide) c
    have m1 : MS b n M1 T.tail (X ++ W) o C bs := h.lo.go q1 q2
    have e338 : M1 338 (hq T) = 42 := by rw [q4, st_neA (by decide)]; exact c2
    rw [e1, cl_some, if_neg (by decide)]
    unfold j_X12_goesOn_136
    rw [q3, ok_t ⟨by omega, by omega⟩, show hq T + 1 - 1 = hq T by omega, ok_t ⟨by omega, by omega⟩, e338, if_pos rfl]
    have hv : mulO T = 3 := by unfold mulO; rw [if_pos c]
    obtain ⟨M2, e2, r1, r2⟩ := push_mul (v := 3) hW X FU M1 C m1 hX hl hF
    exact ⟨M2, e2, by rw [hv]; exact r1, ((ScP_S (lk_fr M T)).tr (ScP_S q2)).tr r2⟩
  · rw [e1, cl_some, if_pos rfl, lk_lk]
    rcases m_takesSign h.lo.1 (c := 47) (by decide) (by decide) (by decide) with ⟨d, M1, e1, q1, q2, q3, q4⟩ | ⟨d, e1⟩
    · obtain ⟨c1, c2⟩ := m_chr h.lo.1 (by decide) (by decide) (by decide) d
      have m1 : MS b n M1 T.tail (X ++ W) o C bs := h.lo.go q1 q2
      have e338 : M1 338 (hq T) = 47 := by rw [q4, st_neA (by decide)]; exact c2
      rw [e1, cl_some, if_neg (by decide)]
      unfold j_X12_goesOn_136
      rw [q3, ok_t ⟨by omega, by omega⟩, show hq T + 1 - 1 = hq T by omega, ok_t ⟨by omega, by omega⟩, e338, if_neg (by decide)]
      have hv : mulO T = 4 := by unfold mulO; rw [if_neg c, if_pos d]
      obtain ⟨M2, e2, r1, r2⟩ := push_mul (v := 4) hW X FU M1 C m1 hX hl hF
      exact ⟨M2, e2, by rw [hv]; exact r1, ((ScP_S (lk_fr M T)).tr (ScP_S q2)).tr r2⟩
    · exfalso
      apply hm
      unfold mulO
      rw [if_neg c, if_neg d]
theorem mulO_n {T : List Tok} (h : mulO T = 0) : ¬ isS T 42 ∧ ¬ isS T 47 := by
  unfold mulO at h
  by_cases c : isS T 42
  · rw [if_pos c] at h; exact absurd h (by decide)
  · rw [if_neg c] at h
    by_cases d : isS T 47
    · rw [if_pos d] at h; exact absurd h (by decide)
    · exact ⟨c, d⟩
theorem addO_n {T : List Tok} (h : addO T = 0) : ¬ isS T 43 ∧ ¬ isS T 45 := by
  unfold addO at h
  by_cases c : isS T 43
  · rw [if_pos c] at h; exact absurd h (by decide)
  · rw [if_neg c] at h
    by_cases d : isS T 45
    · rw [if_pos d] at h; exact absurd h (by decide)
    · exact ⟨c, d⟩
theorem m_noSign (h : MP b n M T) {c : Int} (c0 : 0 ≤ c) (c1 : ¬ isL c) (c2 : ¬ isD c) (hn : ¬ isS T c) : f_X12_takesSign (lk M T) c = some (0, lk M T) := by
  rcases m_takesSign h.lo c0 c1 c2 with ⟨q, -⟩ | ⟨-, e⟩
  · exact absurd q hn
  · rw [e, lk_lk]
theorem g118_add {X W : List Int} (h : MS b n M T (X ++ W) o C bs) (hX : ∀ x ∈ X, 1 ≤ x ∧ x ≤ 4) (hW : tp W ≠ 1 ∧ tp W ≠ 2 ∧ tp W ≠ 3 ∧ tp W ≠ 4) (hl : C.length + (X ++ W).length ≤ 900) (hm : mulO T = 0) (ha : addO T ≠ 0) : ∃ M2, j_X12_goesOn_118 (lk M T) = some (1, M2) ∧ MS b n M2 T.tail (addO T :: W) o (C ++ X) bs ∧ Fr ScS M M2 := by
  have hF : X.length < FU := by have : FU = 1000000000 := rfl; simp at hl; omega
  have hn := h.1.2.2.1
  obtain ⟨n1, n2⟩ := mulO_n hm
  unfold j_X12_goesOn_118
  rw [m_noSign h.1 (by decide) (by decide) (by decide) n1, cl_some, if_pos rfl, m_noSign h.1 (by decide) (by decide) (by decide) n2, cl_some, if_pos rfl]
  rcases m_takesSign h.lo.1 (c := 43) (by decide) (by decide) (by decide) with ⟨c, M1, e1, q1, q2, q3, q4⟩ | ⟨c, e1⟩
  · obtain ⟨c1, c2⟩ := m_chr h.lo.1 (by decide) (by decide) (by decide) c
    have m1 : MS b n M1 T.tail (X ++ W) o C bs := h.lo.go q1 q2
    have e338 : M1 338 (hq T) = 43 := by rw [q4, st_neA (by decide)]; exact c2
    rw [e1, cl_some, if_neg (by decide)]
    unfold j_X12_goesOn_221
    rw [q3, ok_t ⟨by omega, by omega⟩, show hq T + 1 - 1 = hq T by omega, ok_t ⟨by omega, by omega⟩, e338, if_pos rfl]
    have hv : addO T = 1 := by unfold addO; rw [if_pos c]
    obtain ⟨M2, e2, r1, r2⟩ := push_add (v := 1) hW X FU M1 C m1 hX hl hF
    exact ⟨M2, e2, by rw [hv]; exact r1, ((ScP_S (lk_fr M T)).tr (ScP_S q2)).tr r2⟩
  · rw [e1, cl_some, if_pos rfl, lk_lk]
    rcases m_takesSign h.lo.1 (c := 45) (by decide) (by decide) (by decide) with ⟨d, M1, e1, q1, q2, q3, q4⟩ | ⟨d, e1⟩
    · obtain ⟨c1, c2⟩ := m_chr h.lo.1 (by decide) (by decide) (by decide) d
      have m1 : MS b n M1 T.tail (X ++ W) o C bs := h.lo.go q1 q2
      have e338 : M1 338 (hq T) = 45 := by rw [q4, st_neA (by decide)]; exact c2
      rw [e1, cl_some, if_neg (by decide)]
      unfold j_X12_goesOn_221
      rw [q3, ok_t ⟨by omega, by omega⟩, show hq T + 1 - 1 = hq T by omega, ok_t ⟨by omega, by omega⟩, e338, if_neg (by decide)]
      have hv : addO T = 2 := by unfold addO; rw [if_neg c, if_pos d]
      obtain ⟨M2, e2, r1, r2⟩ := push_add (v := 2) hW X FU M1 C m1 hX hl hF
      exact ⟨M2, e2, by rw [hv]; exact r1, ((ScP_S (lk_fr M T)).tr (ScP_S q2)).tr r2⟩
    · exfalso
      apply ha
      unfold addO
      rw [if_neg c, if_neg d]
/-- no sign goes on: to the mark -/
theorem g118_end {X V1 : List Int} (h : MS b n M T (X ++ V1) o C bs) (h0 : 0 ≤ bs) (hB : Bt bs V1) (hX : ∀ x ∈ X, 1 ≤ x ∧ x ≤ 4) (hl : C.length + (X ++ V1).length ≤ 900) (hm : mulO T = 0) (ha : addO T = 0) : j_X12_goesOn_118 (lk M T) = if mkv bs V1 = 21 then j_X12_goesOn_322 (lk M T) else if mkv bs V1 = 22 then j_X12_goesOn_322 (lk M T) else if mkv bs V1 = -1 then some (0, lk M T) else some (0, st (st (lk M T) 337 5 1) 337 6 (hq T)) := by
  obtain ⟨n1, n2⟩ := mulO_n hm
  obtain ⟨n3, n4⟩ := addO_n ha
  have hK : ∀ x ∈ X, ¬ isK x := fun x hx q => by have := hX x hx; have := q.1; omega
  have hmk := ms_mark h.lo h0 hB hK (by omega)
  unfold j_X12_goesOn_118
  rw [m_noSign h.1 (by decide) (by decide) (by decide) n1, cl_some, if_pos rfl, m_noSign h.1 (by decide) (by decide) (by decide) n2, cl_some, if_pos rfl, m_noSign h.1 (by decide) (by decide) (by decide) n3, cl_some, if_pos rfl, m_noSign h.1 (by decide) (by decide) (by decide) n4, cl_some, if_pos rfl, hmk, cl_some, hmk, cl_some, hmk, cl_some, if_pos h.lo.1.1, m_fail h.lo.1.1, cl_some, lk_at]
theorem g322 {X : List Int} {y : Int} (h : MS b n M T (X ++ (y :: V)) o C bs) (h0 : 0 ≤ bs) (hB : bs ≤ V.length) (hy : y = 21 ∨ y = 22) (hX : ∀ x ∈ X, 1 ≤ x ∧ x ≤ 4) (hl : C.length + (X ++ (y :: V)).length ≤ 900) : (isS T 44 ∧ ∃ M2, j_X12_goesOn_322 (lk M T) = some (1, M2) ∧ MS b n M2 T.tail ((y + 2) :: V) o (C ++ X) bs ∧ Fr ScS M M2) ∨ (¬ isS T 44 ∧ ∃ M2, j_X12_goesOn_322 (lk M T) = some (0, M2) ∧ ME M2 1 (hq T) ∧ M2 337 32 = C.length ∧ Fr ScS M M2) := by
  have hl2 : C.length + (X.length + (V.length + 1)) ≤ 900 := by simpa using hl
  have e1 : (((y :: V).length : Nat) : Int) = V.length + 1 := by simp
  have hK : ∀ x ∈ X, ¬ isK x := fun x hx q => by have := hX x hx; have := q.1; omega
  have hBt : Bt bs (y :: V) := Or.inr ⟨by omega, show isK y by rcases hy with rfl | rfl <;> decide⟩
  unfold j_X12_goesOn_322
  rcases m_asksSign h.lo.1 (c := 44) (by decide) (by decide) (by decide) with ⟨c, M1, e1, q1, q2⟩ | ⟨c, M1, e1, q1, q2⟩
  · left
    refine ⟨c, ?_⟩
    have m1 : MS b n M1 T.tail (X ++ (y :: V)) o C bs := h.lo.go q1 q2
    obtain ⟨M3, e3, r1, r2⟩ := ms_dtm m1 h0 hBt hK hl
    obtain ⟨p1, p2, p3, p4⟩ := r1.pop
    obtain ⟨u1, u2⟩ := ms_top r1 (y + 2)
    rw [e1, cl_some, if_pos q1.1, e3, cl_some, p4, ok_t ⟨by omega, by omega⟩, ok_t ⟨by omega, by omega⟩, show (V.length : Int) + 1 - 1 = V.length by omega, p3, ok_t ⟨by omega, by omega⟩, bm_e]
    exact ⟨_, rfl, u1, (((ScP_S (lk_fr M T)).tr (ScP_S q2)).tr r2).tr u2⟩
  · right
    refine ⟨c, M1, ?_, q1, ?_, (ScP_S (lk_fr M T)).tr (ScP_S q2)⟩
    · rw [e1, cl_some, if_neg (by rw [q1.1]; decide)]
    · rw [q2 337 32 (by unfold ScP; omega)]; exact h.lo.2.2.2.2.2.1
end GO
