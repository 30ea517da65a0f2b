/-! a text begins: both readers side by side -/
def ScH (sp a i : Int) : Prop := ScK a i ∨ ScG sp a i ∨ (a = 4 ∧ 1 ≤ i ∧ i ≤ 10)
section SA2
variable {b : Int → Int} {n sp : Int} {M : Mem} {T : List Tok}
theorem x_step0 (h1 : Tk b n T) (hn : 0 ≤ n ∧ n ≤ 900) (hA : Arr M T) (h6 : M 4 6 = -1) (h41 : M 4 1 = sp) (hs : kd sp = 17) (h5 : M sp 5 = 0) (h44 : M 4 4 = 0 ∧ M 4 5 = -1) : ∃ M1, f_X5_step M = some (0, M1) ∧ XT b n sp M1 T [] ∧ Fr (ScQ sp) M M1 := by
  have ks := kd17 sp hs
  have hd := h1.hd
  obtain ⟨a0, a1⟩ := hA
  match T, h1, hd, a0, a1 with
  | [], h1, hd, _, _ => exact absurd hd.2.1 (by decide)
  | u :: U, h1, hd, a0, a1 =>
    have hl : ((u :: U).length : Int) = U.length + 1 := by simp
    have hl2 := hd.2.2.1
    obtain ⟨u1, u2, u3⟩ := a1 0 u rfl
    have ec : (((0 : Nat) : Int)) = 0 := rfl
    rw [ec] at u1 u2 u3
    have fin : ∀ w : Int, w = (if u.1 = 2 then u.2.1 else -1) → XT b n sp (st (st (st (st (st M 4 6 0) 4 7 u.1) 4 8 u.2.1) 4 9 u.2.2) 4 10 w) (u :: U) [] ∧ Fr (ScQ sp) M (st (st (st (st (st M 4 6 0) 4 7 u.1) 4 8 u.2.1) 4 9 u.2.2) 4 10 w) := by
      intro w hw
      have f : Fr (ScQ sp) M (st (st (st (st (st M 4 6 0) 4 7 u.1) 4 8 u.2.1) 4 9 u.2.2) 4 10 w) := Fr.st (Fr.st (Fr.st (Fr.st (Fr.st (Fr.rf _ _) (by unfold ScQ; omega)) (by unfold ScQ; omega)) (by unfold ScQ; omega)) (by unfold ScQ; omega)) (by unfold ScQ; omega)
      have e6 : st (st (st (st (st M 4 6 0) 4 7 u.1) 4 8 u.2.1) 4 9 u.2.2) 4 10 w 4 6 = 0 := by rw [st_neI (by decide), st_neI (by decide), st_neI (by decide), st_neI (by decide), st_at]
      have fo : ∀ a i, a ≠ 4 → st (st (st (st (st M 4 6 0) 4 7 u.1) 4 8 u.2.1) 4 9 u.2.2) 4 10 w a i = M a i := fun a i ha => by rw [st_neA ha, st_neA ha, st_neA ha, st_neA ha, st_neA ha]
      refine ⟨⟨h1, hn, ⟨?_, hs⟩, ⟨?_, ?_, ?_⟩, ?_, ⟨?_, ?_, ?_, ?_⟩, ?_, by simp, trivial, ?_, ?_⟩, f⟩
      · rw [st_neI (by decide), st_neI (by decide), st_neI (by decide), st_neI (by decide), st_neI (by decide)]; exact h41
      · rw [e6]; decide
      · rw [e6, fo 5 5 (by decide), a0]; omega
      · rw [fo 5 5 (by decide), a0]; omega
      · intro k t' hk'
        rw [e6, fo 7 _ (by decide), fo 8 _ (by decide), fo 9 _ (by decide), Int.zero_add]
        exact a1 k t' hk'
      · rw [st_neI (by decide), st_neI (by decide), st_neI (by decide), st_at]; rfl
      · rw [st_neI (by decide), st_neI (by decide), st_at]; rfl
      · rw [st_neI (by decide), st_at]; rfl
      · rw [st_at, hw]; rfl
      · rw [fo sp 5 (by omega), h5]; rfl
      · rw [st_neI (by decide), st_neI (by decide), st_neI (by decide), st_neI (by decide), st_neI (by decide)]; exact h44.1
      · rw [st_neI (by decide), st_neI (by decide), st_neI (by decide), st_neI (by decide), st_neI (by decide)]; exact h44.2
    have fu : f_X5_step M = some (0, st (st (st (st (st M 4 6 0) 4 7 u.1) 4 8 u.2.1) 4 9 u.2.2) 4 10 (if u.1 = 2 then u.2.1 else -1)) := by
      unfold f_X5_step j_X5_step_26
      rw [a0, h6, ok_t ⟨by omega, by omega⟩, if_neg (by omega), ok_t ⟨by omega, by omega⟩, bm_e, show (-1 : Int) + 1 = 0 by decide, st_at, ok_t ⟨by omega, by omega⟩, bm_e, st_neA (show (7 : Int) ≠ 4 by decide), u1, st_neI (show (6 : Int) ≠ 7 by decide), st_at, ok_t ⟨by omega, by omega⟩, bm_e, st_neA (show (8 : Int) ≠ 4 by decide), st_neA (show (8 : Int) ≠ 4 by decide), u2, st_neI (show (6 : Int) ≠ 8 by decide), st_neI (show (6 : Int) ≠ 7 by decide), st_at, ok_t ⟨by omega, by omega⟩, bm_e, st_neA (show (9 : Int) ≠ 4 by decide), st_neA (show (9 : Int) ≠ 4 by decide), st_neA (show (9 : Int) ≠ 4 by decide), u3]
      have e7 : st (st (st (st M 4 6 0) 4 7 u.1) 4 8 u.2.1) 4 9 u.2.2 4 7 = u.1 := by rw [st_neI (by decide), st_neI (by decide), st_at]
      have e8 : st (st (st (st M 4 6 0) 4 7 u.1) 4 8 u.2.1) 4 9 u.2.2 4 8 = u.2.1 := by rw [st_neI (by decide), st_at]
      rw [e7, e8]
      by_cases e : u.1 = 2
      · rw [if_pos e, if_pos e]; rfl
      · rw [if_neg e, if_neg e]; rfl
    exact ⟨_, fu, fin _ rfl⟩
/-- the class's takes(), up to the text -/
theorem x_start (hX : XB b n M) (hs : kd sp = 17) (s kn : Int) : ∃ T M12, Lx b n 0 T ∧ f_X5_takes M s sp kn = cl (f_X5_readStatements 8 M12 0) (fun r13 M14 => ok (r13 = 0 ∨ r13 = 1) (bm (st M14 sp 6 r13) (fun M16 => ok (M16 sp 6 = 0 ∨ M16 sp 6 = 1) (some (M16 sp 6, M16))))) ∧ XT b n sp M12 T [] ∧ (M12 4 3 = s ∧ M12 4 2 = kn ∧ M12 sp 1 = 0 ∧ M12 sp 3 = 0) ∧ Fr (ScH sp) M M12 := by
  have ks := kd17 sp hs
  have fK : ∀ {M1 M2 : Mem}, Fr (ScK) M1 M2 → Fr (ScH sp) M1 M2 := fun f => f.mono (fun a i q => Or.inl q)
  have fQ : ∀ {M1 M2 : Mem}, Fr (ScQ sp) M1 M2 → Fr (ScH sp) M1 M2 := fun f => f.mono (fun a i q => by unfold ScQ at q; unfold ScH ScG; omega)
  -- up to the Lexer
  obtain ⟨M8, hM8⟩ : ∃ M8, M8 = st (st (st (st (st (st (st (st M 4 3 s) 4 1 sp) 4 2 kn) 4 4 0) 4 5 (-1)) sp 1 0) sp 3 0) sp 5 0 := ⟨_, rfl⟩
  have f8 : Fr (ScH sp) M M8 := by
    rw [hM8]
    exact Fr.st (Fr.st (Fr.st (Fr.st (Fr.st (Fr.st (Fr.st (Fr.st (Fr.rf _ _) (by unfold ScH; omega)) (by unfold ScH; omega)) (by unfold ScH; omega)) (by unfold ScH; omega)) (by unfold ScH; omega)) (by unfold ScH ScG; omega)) (by unfold ScH ScG; omega)) (by unfold ScH ScG; omega)
  have v8 : M8 4 3 = s ∧ M8 4 1 = sp ∧ M8 4 2 = kn ∧ M8 4 4 = 0 ∧ M8 4 5 = -1 ∧ M8 sp 1 = 0 ∧ M8 sp 3 = 0 ∧ M8 sp 5 = 0 := by
    have n4 : (4 : Int) ≠ sp := by omega
    rw [hM8]
    refine ⟨?_, ?_, ?_, ?_, ?_, ?_, ?_, ?_⟩
    · rw [st_neA n4, st_neA n4, st_neA n4, st_neI (by decide), st_neI (by decide), st_neI (by decide), st_neI (by decide), st_at]
    · rw [st_neA n4, st_neA n4, st_neA n4, st_neI (by decide), st_neI (by decide), st_neI (by decide), st_at]
    · rw [st_neA n4, st_neA n4, st_neA n4, st_neI (by decide), st_neI (by decide), st_at]
    · rw [st_neA n4, st_neA n4, st_neA n4, st_neI (by decide), st_at]
    · rw [st_neA n4, st_neA n4, st_neA n4, st_at]
    · rw [st_neI (by decide), st_neI (by decide), st_at]
    · rw [st_neI (by decide), st_at]
    · rw [st_at]
  have X8 : XB b n M8 := by
    obtain ⟨a0, a1, a2⟩ := hX
    have nb : ∀ i, ¬ ScH sp 2 i := fun i q => by unfold ScH ScG ScK at q; omega
    have nb3 : ∀ i, ¬ ScH sp 3 i := fun i q => by unfold ScH ScG ScK at q; omega
    exact ⟨(f8 2 1 (nb 1)).trans a0, a1, fun i i0 i1 => by rw [f8 3 i (nb3 i)]; exact a2 i i0 i1⟩
  obtain ⟨T, M9, e9, hT, hA, f9⟩ := e_partTape X8
  have tk : Tk b n T := ⟨0, by decide, hT⟩
  have g9 : ∀ a i, ¬ ScK a i → M9 a i = M8 a i := fun a i q => f9 a i q
  have A10 : Arr (st M9 4 6 (-1)) T := by
    obtain ⟨z0, z1⟩ := hA
    refine ⟨by rw [st_neA (by decide)]; exact z0, fun k t hk => ?_⟩
    rw [st_neA (by decide), st_neA (by decide), st_neA (by decide)]; exact z1 k t hk
  obtain ⟨M12, e12, x12, f12⟩ := x_step0 (sp := sp) tk hX.2.1 A10 (st_at _ _ _ _) (by rw [st_neI (by decide), g9 4 1 (by unfold ScK; omega)]; exact v8.2.1) hs (by rw [st_neA (by omega), g9 sp 5 (by unfold ScK; omega)]; exact v8.2.2.2.2.2.2.2) ⟨by rw [st_neI (by decide), g9 4 4 (by unfold ScK; omega)]; exact v8.2.2.2.1, by rw [st_neI (by decide), g9 4 5 (by unfold ScK; omega)]; exact v8.2.2.2.2.1⟩
  refine ⟨T, M12, hT, ?_, x12, ⟨?_, ?_, ?_, ?_⟩, ?_⟩
  · unfold f_X5_takes f_X7_empty
    rw [bm_e, bm_e, bm_e, bm_e, bm_e, bm_e, bm_e, bm_e, cl_some, ← hM8, e9, cl_some, bm_e, e12, cl_some]
  · rw [f12 4 3 (by unfold ScQ; omega), st_neI (by decide), g9 4 3 (by unfold ScK; omega)]; exact v8.1
  · rw [f12 4 2 (by unfold ScQ; omega), st_neI (by decide), g9 4 2 (by unfold ScK; omega)]; exact v8.2.2.1
  · rw [f12 sp 1 (by unfold ScQ; omega), st_neA (by omega), g9 sp 1 (by unfold ScK; omega)]; exact v8.2.2.2.2.2.1
  · rw [f12 sp 3 (by unfold ScQ; omega), st_neA (by omega), g9 sp 3 (by unfold ScK; omega)]; exact v8.2.2.2.2.2.2.1
  · exact ((f8.tr (fK f9)).tr (Fr.st (Fr.rf _ _) (by unfold ScH; omega))).tr (fQ f12)
end SA2
