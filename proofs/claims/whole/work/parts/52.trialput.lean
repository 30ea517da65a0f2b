/-! a TRIAL is put -/
section TP
variable {A B Mx Mm A1 B1 : Mem}
def puB (B : Mem) (n t s b so g sa su : Int) : Mem := st (st (st (st (st (st (st (st (st B (23 + n) 0 t) (23 + n) 1 s) (23 + n) 2 b) (23 + n) 3 so) (23 + n) 7 0) (23 + n) 8 (-1)) (23 + n) 4 g) (23 + n) 5 sa) (23 + n) 6 su
def puA (A : Mem) (n t s b so g sa su : Int) : Mem := st (st (st (st (st (st (st (st (st A 392 n t) 393 n s) 394 n b) 395 n so) 396 n g) 397 n sa) 400 n su) 398 n 0) 399 n (-1)
theorem x_put (M : Mem) {n t s b so g sa su : Int} (hs : sa = 0 ∨ sa = 1) : cl (f_X10_putShowing M (23 + n) t s b so) (fun _ M2 => f_X10_putAnswer M2 (23 + n) g sa su) = some (0, puB M n t s b so g sa su) := by
  unfold f_X10_putShowing f_X10_putAnswer
  simp only [bm_e, cl_some]
  rw [ok_t hs]; rfl
theorem m_put (M : Mem) {n t s b so g sa su : Int} (hn : 0 ≤ n ∧ n < 40) (hs : sa = 0 ∨ sa = 1) : f_X12_lays M n t s b so g sa su = some (0, puA M n t s b so g sa su) := by
  unfold f_X12_lays
  rw [ok_t hn]
  simp only [bm_e]
  rw [ok_t hs]; rfl
theorem puB_o {M : Mem} {n t s b so g sa su a i : Int} (h : a ≠ 23 + n) : puB M n t s b so g sa su a i = M a i := by
  unfold puB
  rw [st_neA h, st_neA h, st_neA h, st_neA h, st_neA h, st_neA h, st_neA h, st_neA h, st_neA h]
theorem puA_o {M : Mem} {n t s b so g sa su a i : Int} (h : ¬ (392 ≤ a ∧ a ≤ 400)) : puA M n t s b so g sa su a i = M a i := by
  unfold puA
  rw [st_neA (by omega), st_neA (by omega), st_neA (by omega), st_neA (by omega), st_neA (by omega), st_neA (by omega), st_neA (by omega), st_neA (by omega), st_neA (by omega)]
theorem puA_i {M : Mem} {n t s b so g sa su a i : Int} (h : i ≠ n) : puA M n t s b so g sa su a i = M a i := by
  unfold puA
  rw [st_neI h, st_neI h, st_neI h, st_neI h, st_neI h, st_neI h, st_neI h, st_neI h, st_neI h]
theorem puB_fr {S : Int → Int → Prop} {M M1 : Mem} (h : Fr S M M1) (n t s b so g sa su : Int) : Fr S (puB M n t s b so g sa su) (puB M1 n t s b so g sa su) := by
  unfold puB
  exact fr_st2 (fr_st2 (fr_st2 (fr_st2 (fr_st2 (fr_st2 (fr_st2 (fr_st2 (fr_st2 h _ _ _) _ _ _) _ _ _) _ _ _) _ _ _) _ _ _) _ _ _) _ _ _) _ _ _
theorem puA_fr {S : Int → Int → Prop} {M M1 : Mem} (h : Fr S M M1) (n t s b so g sa su : Int) : Fr S (puA M n t s b so g sa su) (puA M1 n t s b so g sa su) := by
  unfold puA
  exact fr_st2 (fr_st2 (fr_st2 (fr_st2 (fr_st2 (fr_st2 (fr_st2 (fr_st2 (fr_st2 h _ _ _) _ _ _) _ _ _) _ _ _) _ _ _) _ _ _) _ _ _) _ _ _) _ _ _
/-- a TRIAL more -/
theorem RR.more (h : RR A B Mx Mm) {n t s b so g sa su : Int} (en : A 337 79 = n) (hn : n < 40) (ht : isTh A t) (hs : 0 ≤ s ∧ s < 96) (hb : isBr b) (hso : 0 ≤ so ∧ so < A 374 (5 + t)) (hg : 0 ≤ g ∧ g < A 374 (5 + t)) (hsa : sa = 0 ∨ sa = 1) (hsu : 0 ≤ su ∧ su ≤ 9) : ∃ A1 B1, RR A1 B1 (st (puB Mx n t s b so g sa su) 21 1 (n + 1)) (st (puA Mm n t s b so g sa su) 337 79 (n + 1)) ∧ A1 337 79 = n + 1 ∧ B1 1 10 = B 1 10 ∧ (∀ a i, ¬ (392 ≤ a ∧ a ≤ 400) → ¬ (a = 337 ∧ i = 79) → A1 a i = A a i) ∧ (∀ a i, ¬ (21 ≤ a ∧ a ≤ 62) → B1 a i = B a i) := by
  obtain ⟨n1, n2, n3, n4⟩ := h.n79
  have n0 : 0 ≤ n := by omega
  have hsr := h.sr ht
  have hA : Fr SimA A (st (puA A n t s b so g sa su) 337 79 (n + 1)) := by
    intro a i hn2
    unfold SimA at hn2
    rw [st_ne (by omega), puA_o (by omega)]
  have hB : Fr SimB B (st (puB B n t s b so g sa su) 21 1 (n + 1)) := by
    intro a i hn2
    unfold SimB at hn2
    rw [st_neA (by omega), puB_o (by omega)]
  obtain ⟨c1, c2, c3, c4, c5⟩ := core_ext h hA hB
  have b10 : st (puB B n t s b so g sa su) 21 1 (n + 1) 1 10 = B 1 10 := by rw [st_neA (by decide), puB_o (by omega)]
  have e388 : st (puA A n t s b so g sa su) 337 79 (n + 1) 388 = A 388 := by funext i; rw [st_neA (by decide), puA_o (by decide)]
  have oA : ∀ a i, ¬ (392 ≤ a ∧ a ≤ 400) → ¬ (a = 337 ∧ i = 79) → st (puA A n t s b so g sa su) 337 79 (n + 1) a i = A a i := fun a i h1 h2 => by rw [st_ne h2, puA_o h1]
  have oB : ∀ a i, ¬ (21 ≤ a ∧ a ≤ 62) → st (puB B n t s b so g sa su) 21 1 (n + 1) a i = B a i := fun a i h1 => by rw [st_neA (by omega), puB_o (by omega)]
  refine ⟨st (puA A n t s b so g sa su) 337 79 (n + 1), st (puB B n t s b so g sa su) 21 1 (n + 1), ⟨⟨c1, h.tap.ext (oA _ _ (by decide) (by omega)) (fun i => oA _ _ (by decide) (by omega)) (oB _ _ (by decide)) (fun i => oB _ _ (by decide)), h.flt.ext (oA _ _ (by decide) (by omega)) (oA _ _ (by decide) (by omega)) (oB _ _ (by decide)) (oB _ _ (by decide)), c2, c3, ?_, c4, c5, h.chr.ext (funext fun i => oA _ _ (by decide) (by omega)) (fun i => oB _ _ (by decide)) (oB _ _ (by decide)), h.oct.ext (oA _ _ (by decide) (by omega)) (fun i => oA _ _ (by decide) (by omega)) (oB _ _ (by decide)) (fun i => oB _ _ (by decide))⟩, fr_st2 (puA_fr h.fm _ _ _ _ _ _ _ _) _ _ _, ?_, ?_⟩, st_at _ _ _ _, b10, oA, oB⟩
  · obtain ⟨u1, u2, u3⟩ := h.trs
    refine ⟨by rw [st_at]; omega, by rw [st_at, st_at], fun i i0 i1 => ?_⟩
    rw [st_at] at i1
    by_cases ei : i = n
    · subst ei
      have hb' : 0 ≤ b ∧ b ≤ 99 := hb
      have ht' : 0 ≤ t ∧ t < A 372 1 := ht
      constructor
      · unfold TrlA puA
        simp [st]
        omega
      · unfold TrlX puA puB
        have h21 : ¬ (23 + i = 21) := by omega
        simp [st, h21]
    · obtain ⟨v1, v2⟩ := u3 i i0 (by omega)
      exact ⟨v1.ext (fun a _ _ => by rw [st_ne (by omega), puA_i ei]) (oA _ _ (by decide) (by omega)) (fun t => oA _ _ (by decide) (by omega)), v2.ext (fun a _ _ => by rw [st_ne (by omega), puA_i ei]) (fun j => by rw [st_neA (by omega), puB_o (by omega)])⟩
  · rw [b10]
    exact fr_st2 (puB_fr h.fx _ _ _ _ _ _ _ _) _ _ _
  · rw [e388]
    intro q q0 q1
    rw [st_neA (by decide), st_neA (by decide), puB_o (by omega), puB_o (by omega)]
    exact h.lc q q0 q1
theorem J_trial (h : R Mx Mm) (a1 a2 a3 a4 a5 a6 : Int) {a7 : Int} (a8 : Int) (h7 : a7 = 0 ∨ a7 = 1) : Jt (f_X11_trial Mx a1 a2 a3 a4 a5 a6 a7 a8) (f_X12_trial Mm a1 a2 a3 a4 a5 a6 a7 a8) := by
  obtain ⟨A, B, h⟩ := h
  obtain ⟨n1, n2, n3, n4⟩ := h.n79
  by_cases hok : A 337 79 < 40 ∧ isShw A a1 a2 a3 a4 ∧ (0 ≤ a5 ∧ a5 < A 374 (5 + a1)) ∧ (0 ≤ a6 ∧ a6 < A 374 (5 + a1)) ∧ (0 ≤ a8 ∧ a8 ≤ 9)
  · obtain ⟨hn, s, v5, v6, v8⟩ := hok
    have hs0 := sh_sq s
    have hsr := h.sr s.1
    have hnt := h.nt s.1
    obtain ⟨-, ⟨u1, u2⟩, -⟩ := id s
    obtain ⟨A1, B1, h1, -⟩ := h.more (s := 12 * a3 + a2) (sa := a7) rfl hn s.1 hs0 s.2.2 v5 v6 h7 v8
    refine ⟨A 337 79 + 1, _, _, ?_, ?_, A1, B1, h1⟩
    · unfold f_X11_trial f_X0_nextFree
      rw [n2, if_neg (by omega), ok_t ⟨by omega, by omega⟩, cl_some, if_neg (by omega)]
      obtain ⟨q, e, hq⟩ := x_canShw h.ptr h.fx h.thg a1 a2 a3 a4
      rcases hq with ⟨rfl, -⟩ | ⟨rfl, hq⟩
      · rw [e, cl_some, if_neg (by decide)]
        unfold j_X11_trial_31
        rcases h.isSort2 s.1 a5 with ⟨-, -, e5, -⟩ | ⟨z, -⟩
        · rcases h.isSort2 s.1 a6 with ⟨-, -, e6, -⟩ | ⟨z, -⟩
          · rw [if_neg (by decide), e5, cl_some, if_neg (by decide), e6, cl_some, if_neg (by decide), if_neg (by omega), if_pos (by omega), xx_sqAt Mx s.2.1, cl_some, ok_t (kdTr _ (by omega))]
            have hp := x_put Mx (n := A 337 79) (t := a1) (s := 12 * a3 + a2) (b := a4) (so := a5) (g := a6) (su := a8) h7
            have e21 : puB Mx (A 337 79) a1 (12 * a3 + a2) a4 a5 a6 a7 a8 21 1 = A 337 79 := by rw [puB_o (by omega), n2]
            unfold f_X10_putShowing at hp ⊢
            simp only [bm_e, cl_some] at hp ⊢
            rw [hp, cl_some, e21, ok_t ⟨by omega, by omega⟩, st_at]
          · exact absurd v6 z
        · exact absurd v5 z
      · exact absurd s hq
    · unfold f_X12_trial
      rw [n1, if_neg (by omega)]
      obtain ⟨q, e, hq⟩ := m_isShw h.fm h.thg a1 a2 a3 a4
      rcases hq with ⟨rfl, -⟩ | ⟨rfl, hq⟩
      · obtain ⟨q9, e9, hq9⟩ := e_isIn Mm a8 0 9
        rcases hq9 with ⟨rfl, -⟩ | ⟨rfl, hq9⟩
        · have it : f_X12_isTrial Mm a1 a5 a6 a8 = some (1, Mm) := by
            unfold f_X12_isTrial
            obtain ⟨q', e', hq'⟩ := m_isTh h.fm h.thg a1
            rcases hq' with ⟨rfl, -⟩ | ⟨rfl, hq'⟩
            · rcases h.isSort2 s.1 a5 with ⟨-, -, -, e5⟩ | ⟨z, -⟩
              · rcases h.isSort2 s.1 a6 with ⟨-, -, -, e6⟩ | ⟨z, -⟩
                · rw [e', cl_some, if_neg (by decide), ok_t ⟨by omega, by omega⟩, ok_t ⟨by omega, by omega⟩, h.m374 s.1, ok_t ⟨by omega, by omega⟩, e5, cl_some, if_neg (by decide), h.m374 s.1, ok_t ⟨by omega, by omega⟩, e6, cl_some, if_neg (by decide), e9, cl_some, if_neg (by decide)]
                · exact absurd v6 z
              · exact absurd v5 z
            · exact absurd s.1 hq'
          have e79 : puA Mm (A 337 79) a1 (12 * a3 + a2) a4 a5 a6 a7 a8 337 79 = A 337 79 := by rw [puA_o (by decide), n1]
          rw [e, cl_some, if_neg (by decide), it, cl_some, if_neg (by decide), ok_t ⟨by omega, by omega⟩, ok_t ⟨by omega, by omega⟩, n1, m_put Mm ⟨by omega, by omega⟩ h7, cl_some, e79, ok_t ⟨by omega, by omega⟩, bm_e, st_at]
        · exact absurd v8 hq9
      · exact absurd s hq
  · refine h.J (r := -1) ?_ ?_
    · unfold f_X11_trial f_X0_nextFree
      have j0 : ∀ x, j_X11_trial_30 a1 a2 a3 a4 a5 a6 a7 a8 Mx x = some (-1, Mx) := by
        intro x; unfold j_X11_trial_30 j_X11_trial_31; rw [if_pos rfl]
      rw [n2]
      by_cases w : 40 ≤ A 337 79
      · rw [if_pos w, cl_some, if_pos rfl, j0]
      · rw [if_neg w, ok_t ⟨by omega, by omega⟩, cl_some, if_neg (by omega)]
        obtain ⟨q, e, hq⟩ := x_canShw h.ptr h.fx h.thg a1 a2 a3 a4
        rw [e, cl_some]
        rcases hq with ⟨rfl, s⟩ | ⟨rfl, hq⟩
        · rw [if_neg (by decide)]
          unfold j_X11_trial_31
          rw [if_neg (by decide)]
          rcases h.isSort2 s.1 a5 with ⟨z1, z2, e5, -⟩ | ⟨z, e5, -⟩
          · rw [e5, cl_some, if_neg (by decide)]
            rcases h.isSort2 s.1 a6 with ⟨z3, z4, e6, -⟩ | ⟨z, e6, -⟩
            · rw [e6, cl_some, if_neg (by decide)]
              by_cases w2 : a8 < 0
              · rw [if_pos w2]
              · rw [if_neg w2, if_neg]
                intro w3
                exact hok ⟨by omega, s, ⟨z1, z2⟩, ⟨z3, z4⟩, by omega, w3⟩
            · rw [e6, cl_some, if_pos rfl]
          · rw [e5, cl_some, if_pos rfl]
        · rw [if_pos rfl, j0]
    · unfold f_X12_trial
      rw [n1]
      by_cases w : A 337 79 = 40
      · rw [if_pos w]
      · rw [if_neg w]
        obtain ⟨q, e, hq⟩ := m_isShw h.fm h.thg a1 a2 a3 a4
        rw [e, cl_some]
        rcases hq with ⟨rfl, s⟩ | ⟨rfl, hq⟩
        · have hsr := h.sr s.1
          have hnt := h.nt s.1
          have it : f_X12_isTrial Mm a1 a5 a6 a8 = some (0, Mm) := by
            unfold f_X12_isTrial
            obtain ⟨q', e', hq'⟩ := m_isTh h.fm h.thg a1
            rcases hq' with ⟨rfl, -⟩ | ⟨rfl, hq'⟩
            · rw [e', cl_some, if_neg (by decide), ok_t ⟨by omega, by omega⟩, ok_t ⟨by omega, by omega⟩, h.m374 s.1, ok_t ⟨by omega, by omega⟩]
              rcases h.isSort2 s.1 a5 with ⟨z1, z2, -, e5⟩ | ⟨z, -, e5⟩
              · rw [e5, cl_some, if_neg (by decide), h.m374 s.1, ok_t ⟨by omega, by omega⟩]
                rcases h.isSort2 s.1 a6 with ⟨z3, z4, -, e6⟩ | ⟨z, -, e6⟩
                · rw [e6, cl_some, if_neg (by decide)]
                  obtain ⟨q9, e9, hq9⟩ := e_isIn Mm a8 0 9
                  rw [e9, cl_some]
                  rcases hq9 with ⟨rfl, hq9⟩ | ⟨rfl, hq9⟩
                  · exact absurd ⟨by omega, s, ⟨z1, z2⟩, ⟨z3, z4⟩, hq9.1, hq9.2⟩ hok
                  · rw [if_pos rfl]
                · rw [e6, cl_some, if_pos rfl]
              · rw [e5, cl_some, if_pos rfl]
            · exact absurd s.1 hq'
          rw [if_neg (by decide), it, cl_some, if_pos rfl]
        · rw [if_pos rfl]
end TP
