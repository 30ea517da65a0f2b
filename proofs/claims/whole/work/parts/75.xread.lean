/-! the class's Reader of SUMS and TESTS against the descent -/
def ScQ (sp a i : Int) : Prop := (a = 4 ∧ 4 ≤ i ∧ i ≤ 10) ∨ (a = sp ∧ i = 5) ∨ a = sp + 3
/-- the class reads: T lies ahead, C has been emitted -/
def XT (b : Int → Int) (n sp : Int) (M : Mem) (T : List Tok) (C : List Int) : Prop := Tk b n T ∧ (0 ≤ n ∧ n ≤ 900) ∧ (M 4 1 = sp ∧ kd sp = 17) ∧ (0 ≤ M 4 6 ∧ M 5 5 = M 4 6 + T.length ∧ M 5 5 ≤ 901) ∧ (∀ (k : Nat) (t : Tok), T[k]? = some t → M 7 (M 4 6 + k) = t.1 ∧ M 8 (M 4 6 + k) = t.2.1 ∧ M 9 (M 4 6 + k) = t.2.2) ∧ (M 4 7 = hk T ∧ M 4 8 = hv T ∧ M 4 9 = hq T ∧ M 4 10 = (if hk T = 2 then hv T else -1)) ∧ M sp 5 = (C.length : Int) ∧ C.length ≤ 900 ∧ Seg M (sp + 3) 0 (C.map mk) ∧ M 4 4 = 0 ∧ M 4 5 = -1
def XE (sp : Int) (M : Mem) (k p : Int) : Prop := M 4 4 = k ∧ M 4 5 = p ∧ (M 4 1 = sp ∧ kd sp = 17) ∧ 0 ≤ M sp 5 ∧ k ≠ 0
def XR (b : Int → Int) (n sp : Int) (M0 : Mem) (C : List Int) (o : Res) : Ex → Prop
  | .ok (c, T1) => ∃ M1, o = some (1, M1) ∧ XT b n sp M1 T1 (C ++ c) ∧ Fr (ScQ sp) M0 M1
  | .error (k, p) => ∃ M1, o = some (0, M1) ∧ XE sp M1 k p ∧ Fr (ScQ sp) M0 M1
def NumX (b : Int → Int) (n sp : Int) (M0 : Mem) (C : List Int) (o : Res) : Except (Int × Int) (Int × List Tok) → Prop
  | .ok (v, T1) => ∃ M1, o = some (v, M1) ∧ 0 ≤ v ∧ XT b n sp M1 T1 C ∧ Fr (ScQ sp) M0 M1
  | .error (k, p) => ∃ M1, o = some (-1, M1) ∧ XE sp M1 k p ∧ Fr (ScQ sp) M0 M1
section XX
variable {b : Int → Int} {n sp : Int} {M : Mem} {T : List Tok} {C : List Int}
theorem XT.ow (h : XT b n sp M T C) {w : Int} (hw : 0 ≤ w) : M 4 10 = w ↔ isW T w := by
  rw [h.2.2.2.2.2.1.2.2.2]
  unfold isW
  by_cases e : hk T = 2
  · rw [if_pos e]; exact ⟨fun q => ⟨e, q⟩, fun q => q.2⟩
  · rw [if_neg e]; exact ⟨fun q => by omega, fun q => absurd q.1 e⟩
theorem x_isSign (h : XT b n sp M T C) (c : Int) : f_X5_isSign M c = some (bI (isS T c), M) := by
  obtain ⟨k1, k2, -, -⟩ := h.2.2.2.2.2.1
  unfold f_X5_isSign isS
  rw [k1, k2]
  by_cases e : hk T = 4
  · rw [if_pos e]
    by_cases e2 : hv T = c
    · rw [if_pos e2, bI_t ⟨e, e2⟩]
    · rw [if_neg e2, bI_f (fun q => e2 q.2)]
  · rw [if_neg e, bI_f (fun q => e q.1)]
theorem x_step (h : XT b n sp M T C) (hz : hk T ≠ 0) : ∃ M1, f_X5_step M = some (0, M1) ∧ XT b n sp M1 T.tail C ∧ Fr (ScQ sp) M M1 := by
  obtain ⟨h1, h2, ⟨h3, hs⟩, ⟨h4, h5, h6⟩, h7, h8, h9, h10, h11, h44, h45⟩ := h
  obtain ⟨t1, t2⟩ := h1.tl hz
  have ks := kd17 sp hs
  match T, t1, t2, h5, h7 with
  | [], t1, _, _, _ => exact absurd t1.hd.2.1 (by decide)
  | [t], t1, _, _, _ =>
    have := t1.hd.2.1
    simp at this
  | t :: u :: U, t1, t2, h5, h7 =>
    have hu := h7 1 u rfl
    have hl : ((t :: u :: U).length : Int) = U.length + 2 := by simp; omega
    rw [hl] at h5
    obtain ⟨u1, u2, u3⟩ := hu
    have ec : (((1 : Nat) : Int)) = 1 := rfl
    rw [ec] at u1 u2 u3
    have f5 : ∀ (x : Mem) (i v : Int), st x 4 i v 5 5 = x 5 5 := fun x i v => st_neA (by decide)
    have fin : ∀ w : Int, w = (if u.1 = 2 then u.2.1 else -1) → XT b n sp (st (st (st (st (st M 4 6 (M 4 6 + 1)) 4 7 u.1) 4 8 u.2.1) 4 9 u.2.2) 4 10 w) (u :: U) C ∧ Fr (ScQ sp) M (st (st (st (st (st M 4 6 (M 4 6 + 1)) 4 7 u.1) 4 8 u.2.1) 4 9 u.2.2) 4 10 w) := by
      intro w hw
      have f : Fr (ScQ sp) M (st (st (st (st (st M 4 6 (M 4 6 + 1)) 4 7 u.1) 4 8 u.2.1) 4 9 u.2.2) 4 10 w) := Fr.st (Fr.st (Fr.st (Fr.st (Fr.st (Fr.rf _ _) (by unfold ScQ; omega)) (by unfold ScQ; omega)) (by unfold ScQ; omega)) (by unfold ScQ; omega)) (by unfold ScQ; omega)
      have e6 : st (st (st (st (st M 4 6 (M 4 6 + 1)) 4 7 u.1) 4 8 u.2.1) 4 9 u.2.2) 4 10 w 4 6 = M 4 6 + 1 := by rw [st_neI (by decide), st_neI (by decide), st_neI (by decide), st_neI (by decide), st_at]
      have fo : ∀ a i, a ≠ 4 → st (st (st (st (st M 4 6 (M 4 6 + 1)) 4 7 u.1) 4 8 u.2.1) 4 9 u.2.2) 4 10 w a i = M a i := fun a i ha => by rw [st_neA ha, st_neA ha, st_neA ha, st_neA ha, st_neA ha]
      refine ⟨⟨t1, h2, ⟨?_, hs⟩, ⟨?_, ?_, ?_⟩, ?_, ⟨?_, ?_, ?_, ?_⟩, ?_, h10, ?_, ?_, ?_⟩, f⟩
      · rw [st_neI (by decide), st_neI (by decide), st_neI (by decide), st_neI (by decide), st_neI (by decide)]; exact h3
      · rw [e6]; omega
      · rw [e6, fo 5 5 (by decide), h5]; simp; omega
      · rw [fo 5 5 (by decide)]; exact h6
      · intro k t' hk'
        have := h7 (k + 1) t' hk'
        rw [e6, fo 7 _ (by decide), fo 8 _ (by decide), fo 9 _ (by decide), show M 4 6 + 1 + (k : Int) = M 4 6 + ((k + 1 : Nat) : Int) by omega]
        exact this
      · rw [st_neI (by decide), st_neI (by decide), st_neI (by decide), st_at]; rfl
      · rw [st_neI (by decide), st_neI (by decide), st_at]; rfl
      · rw [st_neI (by decide), st_at]; rfl
      · rw [st_at, hw]; rfl
      · rw [fo sp 5 (by omega)]; exact h9
      · exact Seg.fr (fun i => fo (sp + 3) i (by omega)) h11
      · rw [st_neI (by decide), st_neI (by decide), st_neI (by decide), st_neI (by decide), st_neI (by decide)]; exact h44
      · rw [st_neI (by decide), st_neI (by decide), st_neI (by decide), st_neI (by decide), st_neI (by decide)]; exact h45
    have fu : f_X5_step M = some (0, st (st (st (st (st M 4 6 (M 4 6 + 1)) 4 7 u.1) 4 8 u.2.1) 4 9 u.2.2) 4 10 (if u.1 = 2 then u.2.1 else -1)) := by
      unfold f_X5_step j_X5_step_26
      rw [ok_t ⟨by omega, by omega⟩, if_neg (by omega), ok_t ⟨by omega, by omega⟩, bm_e, st_at, ok_t ⟨by omega, by omega⟩, bm_e, st_neA (show (7 : Int) ≠ 4 by decide), u1, st_neI (show (6 : Int) ≠ 7 by decide), st_at, ok_t ⟨by omega, by omega⟩, bm_e, st_neA (show (8 : Int) ≠ 4 by decide), st_neA (show (8 : Int) ≠ 4 by decide), u2, st_neI (show (6 : Int) ≠ 8 by decide), st_neI (show (6 : Int) ≠ 7 by decide), st_at, ok_t ⟨by omega, by omega⟩, bm_e, st_neA (show (9 : Int) ≠ 4 by decide), st_neA (show (9 : Int) ≠ 4 by decide), st_neA (show (9 : Int) ≠ 4 by decide), u3]
      have e7 : st (st (st (st M 4 6 (M 4 6 + 1)) 4 7 u.1) 4 8 u.2.1) 4 9 u.2.2 4 7 = u.1 := by rw [st_neI (by decide), st_neI (by decide), st_at]
      have e8 : st (st (st (st M 4 6 (M 4 6 + 1)) 4 7 u.1) 4 8 u.2.1) 4 9 u.2.2 4 8 = u.2.1 := by rw [st_neI (by decide), st_at]
      rw [e7, e8]
      by_cases e : u.1 = 2
      · rw [if_pos e, if_pos e]; rfl
      · rw [if_neg e, if_neg e]; rfl
    exact ⟨_, fu, fin _ rfl⟩
theorem x_emit (h : XT b n sp M T C) (hC : C.length < 900) (v : Int) : ∃ M1, f_X7_emit M (M 4 1) (mk v) = some (0, M1) ∧ XT b n sp M1 T (C ++ [v]) ∧ Fr (ScQ sp) M M1 := by
  obtain ⟨h1, h2, ⟨h3, hs⟩, ⟨h4, h5, h6⟩, h7, h8, h9, h10, h11, h44, h45⟩ := h
  have ks := kd17 sp hs
  unfold f_X7_emit
  rw [h3, h9, if_neg (by omega), ok_t ⟨by omega, by omega⟩, bm_e, st_neA (by omega), h9, ok_t ⟨by omega, by omega⟩, bm_e]
  have fo : ∀ a i, a ≠ sp → a ≠ sp + 3 → st (st M (sp + 3) C.length (mk v)) sp 5 (C.length + 1) a i = M a i := fun a i h1 h2 => by rw [st_neA h1, st_neA h2]
  refine ⟨_, rfl, ⟨h1, h2, ⟨?_, hs⟩, ⟨?_, ?_, ?_⟩, ?_, ⟨?_, ?_, ?_, ?_⟩, ?_, ?_, ?_, ?_, ?_⟩, Fr.st (Fr.st (Fr.rf _ _) (by unfold ScQ; omega)) (by unfold ScQ; omega)⟩
  · rw [fo 4 1 (by omega) (by omega)]; exact h3
  · rw [fo 4 6 (by omega) (by omega)]; exact h4
  · rw [fo 4 6 (by omega) (by omega), fo 5 5 (by omega) (by omega)]; exact h5
  · rw [fo 5 5 (by omega) (by omega)]; exact h6
  · intro k t hk'
    rw [fo 4 6 (by omega) (by omega), fo 7 _ (by omega) (by omega), fo 8 _ (by omega) (by omega), fo 9 _ (by omega) (by omega)]
    exact h7 k t hk'
  · rw [fo 4 7 (by omega) (by omega)]; exact h8.1
  · rw [fo 4 8 (by omega) (by omega)]; exact h8.2.1
  · rw [fo 4 9 (by omega) (by omega)]; exact h8.2.2.1
  · rw [fo 4 10 (by omega) (by omega)]; exact h8.2.2.2
  · rw [st_at]; simp
  · simp; omega
  · rw [List.map_append, Seg.app]
    refine ⟨Seg.of (fun k k0 k1 => ?_) h11, ?_, trivial⟩
    · rw [List.length_map] at k1
      rw [st_neA (by omega), st_neI (by omega)]
    · rw [st_neA (by omega), List.length_map, Int.zero_add, st_at]
  · rw [fo 4 4 (by omega) (by omega)]; exact h44
  · rw [fo 4 5 (by omega) (by omega)]; exact h45
theorem xe_emit {k p : Int} (h : XE sp M k p) (v : Int) : ∃ M1, f_X7_emit M (M 4 1) v = some (0, M1) ∧ XE sp M1 k p ∧ Fr (ScQ sp) M M1 := by
  obtain ⟨h1, h2, ⟨h3, hs⟩, h4, h5⟩ := h
  have ks := kd17 sp hs
  unfold f_X7_emit
  rw [h3]
  by_cases c : 900 ≤ M sp 5
  · rw [if_pos c]
    exact ⟨_, rfl, ⟨h1, h2, ⟨h3, hs⟩, h4, h5⟩, Fr.rf _ _⟩
  · rw [if_neg c, ok_t ⟨by omega, by omega⟩, bm_e, st_neA (by omega), ok_t ⟨by omega, by omega⟩, bm_e]
    have fo : ∀ a i, a ≠ sp → a ≠ sp + 3 → st (st M (sp + 3) (M sp 5) v) sp 5 (M sp 5 + 1) a i = M a i := fun a i h1 h2 => by rw [st_neA h1, st_neA h2]
    refine ⟨_, rfl, ⟨?_, ?_, ⟨?_, hs⟩, ?_, h5⟩, Fr.st (Fr.st (Fr.rf _ _) (by unfold ScQ; omega)) (by unfold ScQ; omega)⟩
    · rw [fo 4 4 (by omega) (by omega)]; exact h1
    · rw [fo 4 5 (by omega) (by omega)]; exact h2
    · rw [fo 4 1 (by omega) (by omega)]; exact h3
    · rw [st_at]; omega
theorem x_ref (h : XT b n sp M T C) {k : Int} (hk : k ≠ 0) (p : Int) : ∃ M1, f_X5_refused M k p = some (0, M1) ∧ XE sp M1 k p ∧ Fr (ScQ sp) M M1 := by
  obtain ⟨h1, h2, ⟨h3, hs⟩, ⟨h4, h5, h6⟩, h7, h8, h9, h10, h11⟩ := h
  have ks := kd17 sp hs
  unfold f_X5_refused
  rw [bm_e, bm_e]
  refine ⟨_, rfl, ⟨?_, ?_, ⟨?_, hs⟩, ?_, hk⟩, Fr.st (Fr.st (Fr.rf _ _) (by unfold ScQ; omega)) (by unfold ScQ; omega)⟩
  · rw [st_neI (by decide), st_at]
  · rw [st_at]
  · rw [st_neI (by decide), st_neI (by decide)]; exact h3
  · rw [st_neA (by omega), st_neA (by omega), h9]; omega
theorem x_num (h : XT b n sp M T C) {lo hi : Int} (hlo : 0 ≤ lo) : NumX b n sp M C (f_X5_takenNumber M lo hi) (pNum lo hi T) := by
  obtain ⟨k1, k2, k3, -⟩ := h.2.2.2.2.2.1
  have hb := h.1.hd.1
  have hn := h.2.1
  unfold f_X5_takenNumber pNum
  show NumX b n sp M C (if M 4 7 = 6 then _ else _) _
  rw [k1, k2, k3]
  by_cases e6 : hk T = 6
  · rw [if_pos e6, if_pos e6, ok_t ⟨by omega, by omega⟩]
    obtain ⟨M1, e, x1, f1⟩ := x_ref h (k := 1) (by decide) (hq T + 4)
    rw [e, cl_some]
    exact ⟨M1, rfl, x1, f1⟩
  rw [if_neg e6, if_neg e6]
  by_cases e3 : hk T = 3
  · rw [if_pos e3, if_pos e3]
    have bad : (hv T < lo ∨ hi < hv T) → NumX b n sp M C (j_X5_takenNumber_60 M) (if hv T < lo ∨ hi < hv T then .error (2, hq T) else .ok (hv T, T.tail)) := by
      intro q
      rw [if_pos q]
      unfold j_X5_takenNumber_60
      obtain ⟨M1, e, x1, f1⟩ := x_ref h (k := 2) (by decide) (M 4 9)
      rw [e, cl_some, ← k3]
      exact ⟨M1, rfl, x1, f1⟩
    by_cases c1 : hv T < lo
    · rw [if_pos c1]; exact bad (Or.inl c1)
    rw [if_neg c1]
    by_cases c2 : hv T ≤ hi
    · rw [if_pos c2, if_neg (show ¬ (hv T < lo ∨ hi < hv T) by omega)]
      obtain ⟨M1, e, x1, f1⟩ := x_step h (by omega)
      rw [e, cl_some]
      exact ⟨M1, rfl, by omega, x1, f1⟩
    · rw [if_neg c2]; exact bad (Or.inr (by omega))
  · rw [if_neg e3, if_neg e3]
    obtain ⟨M1, e, x1, f1⟩ := x_ref h (k := 1) (by decide) (hq T)
    rw [e, cl_some]
    exact ⟨M1, rfl, x1, f1⟩
theorem x_sign (h : XT b n sp M T C) (c : Int) : (isS T c ∧ ∃ M1, f_X5_readSign M c = some (1, M1) ∧ XT b n sp M1 T.tail C ∧ Fr (ScQ sp) M M1) ∨ (¬ isS T c ∧ ∃ M1, f_X5_readSign M c = some (0, M1) ∧ XE sp M1 1 (hq T) ∧ Fr (ScQ sp) M M1) := by
  unfold f_X5_readSign
  rw [x_isSign h, cl_some, bI_ite, h.2.2.2.2.2.1.2.2.1]
  by_cases e : isS T c
  · left
    obtain ⟨M1, e1, x1, f1⟩ := x_step h (by omega)
    rw [if_pos e, e1, cl_some]
    exact ⟨e, M1, rfl, x1, f1⟩
  · right
    obtain ⟨M1, e1, x1, f1⟩ := x_ref h (k := 1) (by decide) (hq T)
    rw [if_neg e, e1, cl_some, ok_t (Or.inl rfl)]
    exact ⟨e, M1, rfl, x1, f1⟩
theorem XR.tr {M0 : Mem} {o : Res} {x : Ex} (h : XR b n sp M C o x) (f : Fr (ScQ sp) M0 M) : XR b n sp M0 C o x := by
  match x, h with
  | .ok (c, T1), ⟨M1, e, q, g⟩ => exact ⟨M1, e, q, f.tr g⟩
  | .error (k, p), ⟨M1, e, q, g⟩ => exact ⟨M1, e, q, f.tr g⟩
theorem XR.eq {o o' : Res} {x : Ex} (h : XR b n sp M C o' x) (e : o = o') : XR b n sp M C o x := by rw [e]; exact h
/-- the class's reader S against the descent's P -/
def RdX (b : Int → Int) (n sp o : Int) (S : Mem → Int → Res) (P : List Tok → Ex) : Prop := ∀ (M : Mem) (T : List Tok) (C : List Int), XT b n sp M T C → C.length + T.length ≤ 900 → XR b n sp M C (S M o) (P T)
/-- its P keeps the room -/
def RdG (b : Int → Int) (n : Int) (P : List Tok → Ex) : Prop := ∀ T c T1, Tk b n T → P T = .ok (c, T1) → Rs b n T c T1
theorem x_br {S : Mem → Int → Res} {P : Int → List Tok → Ex} {o : Int} (ho : 0 ≤ o ∧ o ≤ 6) (hS : o < 6 → RdX b n sp (o + 1) S (P (o + 1))) (hG : o < 6 → RdG b n (P (o + 1))) {a2 w : Int} (hw : (a2 = -1 ∧ w = 0) ∨ (a2 = 19 ∧ w = 5) ∨ (a2 = 20 ∧ w = 6)) (h : XT b n sp M T C) (hB : C.length + T.length ≤ 900) : XR b n sp M C (f_X5_readBracket S M o a2) (pBr P o w T) := by
  have hw2 : w ≠ 0 → ixor a2 (-1) = mk w ∧ a2 ≠ -1 := by
    rcases hw with ⟨-, rfl⟩ | ⟨rfl, rfl⟩ | ⟨rfl, rfl⟩
    · intro q; exact absurd rfl q
    · intro _; exact ⟨by decide, by decide⟩
    · intro _; exact ⟨by decide, by decide⟩
  have hw3 : w = 0 → a2 = -1 := by
    rcases hw with ⟨q, -⟩ | ⟨-, rfl⟩ | ⟨-, rfl⟩
    · intro _; exact q
    · intro q; exact absurd q (by decide)
    · intro q; exact absurd q (by decide)
  have k3 := h.2.2.2.2.2.1.2.2.1
  unfold f_X5_readBracket pBr
  rw [x_isSign h, cl_some, bI_ite]
  by_cases c1 : isS T 40
  · rw [if_pos c1, if_pos c1]
    by_cases c2 : 6 ≤ o
    · rw [if_neg (by omega), if_pos c2, k3]
      obtain ⟨M1, e, x1, f1⟩ := x_ref h (k := 4) (by decide) (hq T)
      rw [e, cl_some, ok_t (Or.inl rfl)]
      exact ⟨M1, rfl, x1, f1⟩
    rw [if_pos (show o < 6 by omega), if_neg c2]
    obtain ⟨M1, e1, x1, f1⟩ := x_step h (by omega)
    obtain ⟨t1, t2⟩ := h.1.tl (by omega)
    rw [e1, cl_some, ok_t ⟨by omega, by omega⟩]
    have hs := hS (by omega) M1 T.tail C x1 (by omega)
    have er0 : ∀ (M2 : Mem) (k p : Int), XE sp M2 k p → Fr (ScQ sp) M M2 → XR b n sp M C (j_X5_readBracket_91 S M2 0) (er k p) := by
      intro M2 k p x2 f2
      unfold j_X5_readBracket_91
      rw [if_pos rfl]
      exact ⟨M2, rfl, x2, f2⟩
    have er1 : w ≠ 0 → ∀ (M2 : Mem) (k p : Int), XE sp M2 k p → Fr (ScQ sp) M M2 → XR b n sp M C (j_X5_readBracket_79 S a2 M2) (er k p) := by
      intro hz M2 k p x2 f2
      unfold j_X5_readBracket_79 j_X5_readBracket_80
      obtain ⟨M3, e3, x3, f3⟩ := xe_emit x2 (ixor a2 (-1))
      rw [ok_t (by rw [x2.2.2.1.1]; exact x2.2.2.1.2), e3, cl_some]
      exact er0 M3 k p x3 (f2.tr f3)
    cases hy : P (o + 1) T.tail with
    | error e =>
      obtain ⟨k, p⟩ := e
      rw [hy] at hs
      obtain ⟨M2, e2, x2, f2⟩ := hs
      rw [e2, cl_some]
      by_cases c3 : w = 0
      · rw [if_pos (hw3 c3)]; exact er0 M2 k p x2 (f1.tr f2)
      · rw [if_neg (hw2 c3).2, if_pos rfl]; exact er1 c3 M2 k p x2 (f1.tr f2)
    | ok y =>
      obtain ⟨c, T1⟩ := y
      rw [hy] at hs
      obtain ⟨M2, e2, x2, f2⟩ := hs
      obtain ⟨g1, g2, g3⟩ := hG (by omega) _ _ _ t1 hy
      rw [e2, cl_some]
      show XR b n sp M C _ (if w = 0 then _ else _)
      by_cases c3 : w = 0
      · rw [if_pos (hw3 c3), if_pos c3]
        unfold j_X5_readBracket_91
        rw [if_neg (by decide)]
        rcases x_sign x2 41 with ⟨c4, M3, e3, x3, f3⟩ | ⟨c4, M3, e3, x3, f3⟩
        · rw [e3, cl_some, if_neg (by decide), if_pos c4]
          exact ⟨M3, rfl, x3, (f1.tr f2).tr f3⟩
        · rw [e3, cl_some, if_pos rfl, if_neg c4]
          exact ⟨M3, rfl, x3, (f1.tr f2).tr f3⟩
      · rw [if_neg (hw2 c3).2, if_neg (by decide), if_neg c3]
        rcases x_sign x2 44 with ⟨c4, M3, e3, x3, f3⟩ | ⟨c4, M3, e3, x3, f3⟩
        · rw [e3, cl_some, if_neg (by decide), if_pos c4]
          obtain ⟨u1, u2⟩ := g1.tl (by omega)
          have hs2 := hS (by omega) M3 T1.tail (C ++ c) x3 (by simp; omega)
          cases hz : P (o + 1) T1.tail with
          | error e =>
            obtain ⟨k, p⟩ := e
            rw [hz] at hs2
            obtain ⟨M4, e4, x4, f4⟩ := hs2
            rw [e4, cl_some, if_pos rfl]
            exact er1 c3 M4 k p x4 (((f1.tr f2).tr f3).tr f4)
          | ok y =>
            obtain ⟨d, T2⟩ := y
            rw [hz] at hs2
            obtain ⟨M4, e4, x4, f4⟩ := hs2
            obtain ⟨v1, v2, v3⟩ := hG (by omega) _ _ _ u1 hz
            rw [e4, cl_some, if_neg (by decide)]
            unfold j_X5_readBracket_80
            rw [(hw2 c3).1, ok_t (by rw [x4.2.2.1.1]; exact x4.2.2.1.2)]
            obtain ⟨M5, e5, x5, f5⟩ := x_emit x4 (by simp; omega) w
            rw [e5, cl_some]
            unfold j_X5_readBracket_91
            rw [if_neg (by decide)]
            show XR b n sp M C _ (if isS T2 41 then _ else _)
            have ea : C ++ c ++ d ++ [w] = C ++ (c ++ d ++ [w]) := by simp
            rw [ea] at x5
            rcases x_sign x5 41 with ⟨c6, M6, e6, x6, f6⟩ | ⟨c6, M6, e6, x6, f6⟩
            · rw [e6, cl_some, if_neg (by decide), if_pos c6]
              exact ⟨M6, rfl, x6, ((((f1.tr f2).tr f3).tr f4).tr f5).tr f6⟩
            · rw [e6, cl_some, if_pos rfl, if_neg c6]
              exact ⟨M6, rfl, x6, ((((f1.tr f2).tr f3).tr f4).tr f5).tr f6⟩
        · rw [e3, cl_some, if_pos rfl, if_neg c4]
          exact er1 c3 M3 _ _ x3 ((f1.tr f2).tr f3)
  · rw [if_neg c1, if_neg c1, k3]
    obtain ⟨M1, e, x1, f1⟩ := x_ref h (k := 1) (by decide) (hq T)
    rw [e, cl_some, ok_t (Or.inl rfl)]
    exact ⟨M1, rfl, x1, f1⟩
theorem telO_m (h : XT b n sp M T C) : (telO T ≠ 0 ∧ f_X6_isPart M (M 4 10) = some (1, M) ∧ ixor (M 4 10) (-1) = mk (telO T)) ∨ (telO T = 0 ∧ f_X6_isPart M (M 4 10) = some (0, M)) := by
  have hw := h.2.2.2.2.2.1.2.2.2
  have yes : ∀ w c : Int, M 4 10 = w → telO T = c → c ≠ 0 → ixor w (-1) = mk c → (w = 0 ∨ (14 ≤ w ∧ w ≤ 18)) → (telO T ≠ 0 ∧ f_X6_isPart M (M 4 10) = some (1, M) ∧ ixor (M 4 10) (-1) = mk (telO T)) ∨ (telO T = 0 ∧ f_X6_isPart M (M 4 10) = some (0, M)) := by
    intro w c e1 e2 e3 e4 e5
    left
    rw [e1, e2]
    refine ⟨e3, ?_, e4⟩
    unfold f_X6_isPart
    rcases e5 with e5 | e5
    · rw [if_pos e5]
    · rw [if_neg (by omega), if_neg (by omega), if_neg (by omega)]
  have ow := fun w (hw : 0 ≤ w) => h.ow (w := w) hw
  by_cases h1 : isW T 14
  · exact yes 14 7 ((ow 14 (by decide)).mpr h1) (by unfold telO; rw [if_pos h1]) (by decide) (by decide) (by decide)
  by_cases h2 : isW T 15
  · exact yes 15 8 ((ow 15 (by decide)).mpr h2) (by unfold telO; rw [if_neg h1, if_pos h2]) (by decide) (by decide) (by decide)
  by_cases h3 : isW T 16
  · exact yes 16 9 ((ow 16 (by decide)).mpr h3) (by unfold telO; rw [if_neg h1, if_neg h2, if_pos h3]) (by decide) (by decide) (by decide)
  by_cases h4 : isW T 0
  · exact yes 0 10 ((ow 0 (by decide)).mpr h4) (by unfold telO; rw [if_neg h1, if_neg h2, if_neg h3, if_pos h4]) (by decide) (by decide) (by decide)
  by_cases h5 : isW T 17
  · exact yes 17 18 ((ow 17 (by decide)).mpr h5) (by unfold telO; rw [if_neg h1, if_neg h2, if_neg h3, if_neg h4, if_pos h5]) (by decide) (by decide) (by decide)
  by_cases h6 : isW T 18
  · exact yes 18 30 ((ow 18 (by decide)).mpr h6) (by unfold telO; rw [if_neg h1, if_neg h2, if_neg h3, if_neg h4, if_neg h5, if_pos h6]) (by decide) (by decide) (by decide)
  right
  refine ⟨by unfold telO; rw [if_neg h1, if_neg h2, if_neg h3, if_neg h4, if_neg h5, if_neg h6], ?_⟩
  have n1 : M 4 10 ≠ 14 := fun q => h1 ((ow 14 (by decide)).mp q)
  have n2 : M 4 10 ≠ 15 := fun q => h2 ((ow 15 (by decide)).mp q)
  have n3 : M 4 10 ≠ 16 := fun q => h3 ((ow 16 (by decide)).mp q)
  have n4 : M 4 10 ≠ 0 := fun q => h4 ((ow 0 (by decide)).mp q)
  have n5 : M 4 10 ≠ 17 := fun q => h5 ((ow 17 (by decide)).mp q)
  have n6 : M 4 10 ≠ 18 := fun q => h6 ((ow 18 (by decide)).mp q)
  unfold f_X6_isPart
  rw [if_neg n4]
  by_cases c1 : M 4 10 < 14
  · rw [if_pos c1]
  · rw [if_neg c1, if_pos (by omega)]
theorem x_part {S : Mem → Int → Res} {P : Int → List Tok → Ex} {o : Int} (ho : 0 ≤ o ∧ o ≤ 6) (hS : o < 6 → RdX b n sp (o + 1) S (P (o + 1))) (hG : o < 6 → RdG b n (P (o + 1))) : RdX b n sp o (f_X5_readPart S) (pPart P o) := by
  intro M T C h hB
  unfold f_X5_readPart pPart
  rw [x_isSign h, cl_some, bI_ite]
  by_cases c1 : isS T 40
  · rw [if_pos c1, if_pos c1]
    have hb := x_br ho hS hG (a2 := -1) (w := 0) (by decide) h hB
    refine hb.eq ?_
    have : ∃ r M1, f_X5_readBracket S M o (-1) = some (r, M1) ∧ (r = 0 ∨ r = 1) := by
      match pBr P o 0 T, hb with
      | .ok (c, T1), ⟨M1, e, q, g⟩ => exact ⟨1, M1, e, Or.inr rfl⟩
      | .error (k, p), ⟨M1, e, q, g⟩ => exact ⟨0, M1, e, Or.inl rfl⟩
    obtain ⟨r, M1, e, hr⟩ := this
    rw [e, cl_some, ok_t hr]
  rw [if_neg c1, if_neg c1]
  have mm : ∀ a w : Int, ((a = 19 ∧ w = 5) ∨ (a = 20 ∧ w = 6)) → isW T a → XR b n sp M C (j_X5_readPart_34 S o M) (pBr P o w T.tail) := by
    intro a w haw hz
    have e10 : M 4 10 = a := (h.ow (by omega)).mpr hz
    obtain ⟨M1, e1, x1, f1⟩ := x_step h (by omega)
    obtain ⟨t1, t2⟩ := h.1.tl (by omega)
    unfold j_X5_readPart_34
    show XR b n sp M C (cl (f_X5_step M) _) _
    rw [e1, cl_some, e10]
    have hb := x_br ho hS hG (a2 := a) (w := w) (Or.inr haw) x1 (by omega)
    refine (hb.tr f1).eq ?_
    have : ∃ r M2, f_X5_readBracket S M1 o a = some (r, M2) ∧ (r = 0 ∨ r = 1) := by
      match pBr P o w T.tail, hb with
      | .ok (c, T1), ⟨M1, e, q, g⟩ => exact ⟨1, M1, e, Or.inr rfl⟩
      | .error (k, p), ⟨M1, e, q, g⟩ => exact ⟨0, M1, e, Or.inl rfl⟩
    obtain ⟨r, M2, e, hr⟩ := this
    rw [e, cl_some, ok_t hr]
  by_cases c2 : isW T 19
  · rw [if_pos ((h.ow (by decide)).mpr c2), if_pos c2]
    exact mm 19 5 (by decide) c2
  rw [if_neg (fun q => c2 ((h.ow (by decide)).mp q)), if_neg c2]
  by_cases c3 : isW T 20
  · rw [if_pos ((h.ow (by decide)).mpr c3), if_pos c3]
    exact mm 20 6 (by decide) c3
  rw [if_neg (fun q => c3 ((h.ow (by decide)).mp q)), if_neg c3]
  have hT1 := h.1.hd.2.1
  rcases telO_m h with ⟨p1, p2, p3⟩ | ⟨p1, p2⟩
  · rw [if_neg p1, p2, cl_some, if_neg (by decide), p3, ok_t (by rw [h.2.2.1.1]; exact h.2.2.1.2)]
    obtain ⟨M1, e1, x1, f1⟩ := x_emit h (by omega) (telO T)
    rw [e1, cl_some]
    obtain ⟨M2, e2, x2, f2⟩ := x_step x1 (by have := (telO_r p1).1; omega)
    rw [e2, cl_some]
    exact ⟨M2, rfl, x2, f1.tr f2⟩
  · rw [if_pos p1, p2, cl_some, if_pos rfl]
    have hn := x_num h (lo := 0) (hi := 9999) (by decide)
    cases hy : pNum 0 9999 T with
    | error e =>
      obtain ⟨k, p⟩ := e
      rw [hy] at hn
      obtain ⟨M1, e1, x1, f1⟩ := hn
      rw [e1, cl_some, ok_t (by rw [x1.2.2.1.1]; exact x1.2.2.1.2)]
      obtain ⟨M2, e2, x2, f2⟩ := xe_emit x1 (-1)
      rw [e2, cl_some, if_pos rfl]
      exact ⟨M2, rfl, x2, f1.tr f2⟩
    | ok y =>
      obtain ⟨v, T1⟩ := y
      rw [hy] at hn
      obtain ⟨M1, e1, v0, x1, f1⟩ := hn
      rw [e1, cl_some, ok_t (by rw [x1.2.2.1.1]; exact x1.2.2.1.2)]
      have em : v = mk (1000 + v) := by unfold mk; rw [if_pos (by omega)]; omega
      obtain ⟨M2, e2, x2, f2⟩ := x_emit x1 (by omega) (1000 + v)
      rw [← em] at e2
      rw [e2, cl_some, if_neg (by omega)]
      exact ⟨M2, rfl, x2, f1.tr f2⟩
theorem x_chMul {S : Mem → Int → Res} {P : List Tok → Ex} {o : Int} (hP : RdX b n sp o (f_X5_readPart S) P) (hG : RdG b n P) : ∀ (m F : Nat) (M : Mem) (T : List Tok) (C c : List Int) (x3 : Int), XT b n sp M T (C ++ c) → (C ++ c).length + T.length ≤ 900 → T.length ≤ m → 0 ≤ x3 → x3 + T.length ≤ 901 → T.length < F → XR b n sp M C (wl2 (b_X5_readProduct_8 S o) F M 1 x3) (pCh mulO P m c T)
  | 0, F, M, T, C, c, x3, h, hB, hm, h0, h9, hF => by
    have := h.1.hd.2.1
    omega
  | m + 1, F, M, T, C, c, x3, h, hB, hm, h0, h9, hF => by
    obtain ⟨G, rfl⟩ : ∃ G, F = G + 1 := ⟨F - 1, by omega⟩
    have hT1 := h.1.hd.2.1
    rw [wl2_s]
    show XR b n sp M C _ (if mulO T = 0 then (.ok (c, T) : Ex) else bx (P T.tail) fun c1 T1 => pCh mulO P m (c ++ c1 ++ [mulO T]) T1)
    unfold b_X5_readProduct_8
    by_cases hx : 900 ≤ x3
    · have hz : hk T = 0 := by
        by_cases e : hk T = 0
        · exact e
        · have := h.1.tl e
          have := this.1.hd.2.1
          omega
      have hop : mulO T = 0 := by
        by_cases e : mulO T = 0
        · exact e
        · exact absurd hz (mulO_r e).1
      rw [if_pos hx, ok_t (Or.inr rfl), if_pos hop]
      exact ⟨M, rfl, h, Fr.rf _ _⟩
    rw [if_neg hx, if_neg (by decide)]
    have go : ∀ s v : Int, isS T s → mulO T = v → v ≠ 0 → ixor s (-1) = mk v → XR b n sp M C (j_X5_readProduct_37 S o (wl2 (b_X5_readProduct_8 S o) G) M x3) (if mulO T = 0 then (.ok (c, T) : Ex) else bx (P T.tail) fun c1 T1 => pCh mulO P m (c ++ c1 ++ [mulO T]) T1) := by
      intro s v hs ev hv ei
      rw [if_neg (by rw [ev]; exact hv), ev]
      unfold j_X5_readProduct_37
      show XR b n sp M C (cl (f_X5_step M) _) _
      rw [show M 4 8 = s from h.2.2.2.2.2.1.2.1.trans hs.2, ei]
      obtain ⟨M1, e1, x1, f1⟩ := x_step h (by omega)
      obtain ⟨t1, t2⟩ := h.1.tl (by omega)
      rw [e1, cl_some]
      have hs1 := hP M1 T.tail (C ++ c) x1 (by omega)
      cases hy : P T.tail with
      | error e =>
        obtain ⟨k, p⟩ := e
        rw [hy] at hs1
        obtain ⟨M2, e2, x2, f2⟩ := hs1
        obtain ⟨M3, e3, x3', f3⟩ := xe_emit x2 (mk v)
        rw [e2, cl_some, ok_t (by rw [x2.2.2.1.1]; exact x2.2.2.1.2), e3, cl_some, ok_t ⟨by omega, by omega⟩]
        obtain ⟨G', rfl⟩ : ∃ G', G = G' + 1 := ⟨G - 1, by omega⟩
        show XR b n sp M C (wl2 (b_X5_readProduct_8 S o) (G' + 1) M3 0 (x3 + 1)) _
        rw [wl2_s]
        unfold b_X5_readProduct_8
        have fin : XR b n sp M C (some (0, M3)) (er k p) := ⟨M3, rfl, x3', (f1.tr f2).tr f3⟩
        by_cases hx2 : 900 ≤ x3 + 1
        · rw [if_pos hx2, ok_t (Or.inl rfl)]; exact fin
        · rw [if_neg hx2, if_pos rfl, ok_t (Or.inl rfl)]; exact fin
      | ok y =>
        obtain ⟨c1, T1⟩ := y
        rw [hy] at hs1
        obtain ⟨M2, e2, x2, f2⟩ := hs1
        obtain ⟨g1, g2, g3⟩ := hG _ _ _ t1 hy
        obtain ⟨M3, e3, x3', f3⟩ := x_emit x2 (by simp at hB ⊢; omega) v
        rw [e2, cl_some, ok_t (by rw [x2.2.2.1.1]; exact x2.2.2.1.2), e3, cl_some, ok_t ⟨by omega, by omega⟩]
        have ea : C ++ c ++ c1 ++ [v] = C ++ (c ++ c1 ++ [v]) := by simp
        rw [ea] at x3'
        exact (x_chMul hP hG m G M3 T1 C (c ++ c1 ++ [v]) (x3 + 1) x3' (by simp at hB ⊢; omega) (by omega) (by omega) (by omega) (by omega)).tr ((f1.tr f2).tr f3)
    rw [x_isSign h, cl_some, bI_ite]
    by_cases s0 : isS T 42
    · rw [if_pos s0]
      exact go 42 3 s0 (by unfold mulO; rw [if_pos s0]) (by decide) (by decide)
    rw [if_neg s0]
    rw [x_isSign h, cl_some, bI_ite]
    by_cases s1 : isS T 47
    · rw [if_pos s1]
      exact go 47 4 s1 (by unfold mulO; rw [if_neg s0, if_pos s1]) (by decide) (by decide)
    rw [if_neg s1]
    rw [ok_t (Or.inr rfl), if_pos (by unfold mulO; rw [if_neg s0, if_neg s1])]
    exact ⟨M, rfl, h, Fr.rf _ _⟩
theorem x_chAdd {S : Mem → Int → Res} {P : List Tok → Ex} {o : Int} (hP : RdX b n sp o (f_X5_readProduct S) P) (hG : RdG b n P) : ∀ (m F : Nat) (M : Mem) (T : List Tok) (C c : List Int) (x3 : Int), XT b n sp M T (C ++ c) → (C ++ c).length + T.length ≤ 900 → T.length ≤ m → 0 ≤ x3 → x3 + T.length ≤ 901 → T.length < F → XR b n sp M C (wl2 (b_X5_readSum_8 S o) F M 1 x3) (pCh addO P m c T)
  | 0, F, M, T, C, c, x3, h, hB, hm, h0, h9, hF => by
    have := h.1.hd.2.1
    omega
  | m + 1, F, M, T, C, c, x3, h, hB, hm, h0, h9, hF => by
    obtain ⟨G, rfl⟩ : ∃ G, F = G + 1 := ⟨F - 1, by omega⟩
    have hT1 := h.1.hd.2.1
    rw [wl2_s]
    show XR b n sp M C _ (if addO T = 0 then (.ok (c, T) : Ex) else bx (P T.tail) fun c1 T1 => pCh addO P m (c ++ c1 ++ [addO T]) T1)
    unfold b_X5_readSum_8
    by_cases hx : 900 ≤ x3
    · have hz : hk T = 0 := by
        by_cases e : hk T = 0
        · exact e
        · have := h.1.tl e
          have := this.1.hd.2.1
          omega
      have hop : addO T = 0 := by
        by_cases e : addO T = 0
        · exact e
        · exact absurd hz (addO_r e).1
      rw [if_pos hx, ok_t (Or.inr rfl), if_pos hop]
      exact ⟨M, rfl, h, Fr.rf _ _⟩
    rw [if_neg hx, if_neg (by decide)]
    have go : ∀ s v : Int, isS T s → addO T = v → v ≠ 0 → ixor s (-1) = mk v → XR b n sp M C (j_X5_readSum_37 S o (wl2 (b_X5_readSum_8 S o) G) M x3) (if addO T = 0 then (.ok (c, T) : Ex) else bx (P T.tail) fun c1 T1 => pCh addO P m (c ++ c1 ++ [addO T]) T1) := by
      intro s v hs ev hv ei
      rw [if_neg (by rw [ev]; exact hv), ev]
      unfold j_X5_readSum_37
      show XR b n sp M C (cl (f_X5_step M) _) _
      rw [show M 4 8 = s from h.2.2.2.2.2.1.2.1.trans hs.2, ei]
      obtain ⟨M1, e1, x1, f1⟩ := x_step h (by omega)
      obtain ⟨t1, t2⟩ := h.1.tl (by omega)
      rw [e1, cl_some]
      have hs1 := hP M1 T.tail (C ++ c) x1 (by omega)
      cases hy : P T.tail with
      | error e =>
        obtain ⟨k, p⟩ := e
        rw [hy] at hs1
        obtain ⟨M2, e2, x2, f2⟩ := hs1
        obtain ⟨M3, e3, x3', f3⟩ := xe_emit x2 (mk v)
        rw [e2, cl_some, ok_t (by rw [x2.2.2.1.1]; exact x2.2.2.1.2), e3, cl_some, ok_t ⟨by omega, by omega⟩]
        obtain ⟨G', rfl⟩ : ∃ G', G = G' + 1 := ⟨G - 1, by omega⟩
        show XR b n sp M C (wl2 (b_X5_readSum_8 S o) (G' + 1) M3 0 (x3 + 1)) _
        rw [wl2_s]
        unfold b_X5_readSum_8
        have fin : XR b n sp M C (some (0, M3)) (er k p) := ⟨M3, rfl, x3', (f1.tr f2).tr f3⟩
        by_cases hx2 : 900 ≤ x3 + 1
        · rw [if_pos hx2, ok_t (Or.inl rfl)]; exact fin
        · rw [if_neg hx2, if_pos rfl, ok_t (Or.inl rfl)]; exact fin
      | ok y =>
        obtain ⟨c1, T1⟩ := y
        rw [hy] at hs1
        obtain ⟨M2, e2, x2, f2⟩ := hs1
        obtain ⟨g1, g2, g3⟩ := hG _ _ _ t1 hy
        obtain ⟨M3, e3, x3', f3⟩ := x_emit x2 (by simp at hB ⊢; omega) v
        rw [e2, cl_some, ok_t (by rw [x2.2.2.1.1]; exact x2.2.2.1.2), e3, cl_some, ok_t ⟨by omega, by omega⟩]
        have ea : C ++ c ++ c1 ++ [v] = C ++ (c ++ c1 ++ [v]) := by simp
        rw [ea] at x3'
        exact (x_chAdd hP hG m G M3 T1 C (c ++ c1 ++ [v]) (x3 + 1) x3' (by simp at hB ⊢; omega) (by omega) (by omega) (by omega) (by omega)).tr ((f1.tr f2).tr f3)
    rw [x_isSign h, cl_some, bI_ite]
    by_cases s0 : isS T 43
    · rw [if_pos s0]
      exact go 43 1 s0 (by unfold addO; rw [if_pos s0]) (by decide) (by decide)
    rw [if_neg s0]
    rw [x_isSign h, cl_some, bI_ite]
    by_cases s1 : isS T 45
    · rw [if_pos s1]
      exact go 45 2 s1 (by unfold addO; rw [if_neg s0, if_pos s1]) (by decide) (by decide)
    rw [if_neg s1]
    rw [ok_t (Or.inr rfl), if_pos (by unfold addO; rw [if_neg s0, if_neg s1])]
    exact ⟨M, rfl, h, Fr.rf _ _⟩
theorem x_chAnd {S : Mem → Int → Res} {P : List Tok → Ex} {o : Int} (hP : RdX b n sp o S P) (hG : RdG b n P) : ∀ (m F : Nat) (M : Mem) (T : List Tok) (C c : List Int) (x3 : Int), XT b n sp M T (C ++ c) → (C ++ c).length + T.length ≤ 900 → T.length ≤ m → 0 ≤ x3 → x3 + T.length ≤ 901 → T.length < F → XR b n sp M C (wl2 (b_X5_readBoth_8 S o) F M 1 x3) (pCh andO P m c T)
  | 0, F, M, T, C, c, x3, h, hB, hm, h0, h9, hF => by
    have := h.1.hd.2.1
    omega
  | m + 1, F, M, T, C, c, x3, h, hB, hm, h0, h9, hF => by
    obtain ⟨G, rfl⟩ : ∃ G, F = G + 1 := ⟨F - 1, by omega⟩
    have hT1 := h.1.hd.2.1
    rw [wl2_s]
    show XR b n sp M C _ (if andO T = 0 then (.ok (c, T) : Ex) else bx (P T.tail) fun c1 T1 => pCh andO P m (c ++ c1 ++ [andO T]) T1)
    unfold b_X5_readBoth_8
    by_cases hx : 900 ≤ x3
    · have hz : hk T = 0 := by
        by_cases e : hk T = 0
        · exact e
        · have := h.1.tl e
          have := this.1.hd.2.1
          omega
      have hop : andO T = 0 := by
        by_cases e : andO T = 0
        · exact e
        · exact absurd hz (andO_r e).1
      rw [if_pos hx, ok_t (Or.inr rfl), if_pos hop]
      exact ⟨M, rfl, h, Fr.rf _ _⟩
    rw [if_neg hx, if_neg (by decide)]
    have go : ∀ s v : Int, isW T s → andO T = v → v ≠ 0 → (-12) = mk v → XR b n sp M C (cl (f_X5_step M) (fun r11 M12 => cl (S M12 o) (fun r13 M14 => ok (kd (M14 4 1) = 17) (cl (f_X7_emit M14 (M14 4 1) ((-12))) (fun r16 M17 => ok (in32 (x3 + 1)) (bi (x3 + 1) (fun y19 => wl2 (b_X5_readBoth_8 S o) G M17 r13 y19))))))) (if andO T = 0 then (.ok (c, T) : Ex) else bx (P T.tail) fun c1 T1 => pCh andO P m (c ++ c1 ++ [andO T]) T1) := by
      intro s v hs ev hv ei
      rw [if_neg (by rw [ev]; exact hv), ev, ei]
      obtain ⟨M1, e1, x1, f1⟩ := x_step h (by omega)
      obtain ⟨t1, t2⟩ := h.1.tl (by omega)
      rw [e1, cl_some]
      have hs1 := hP M1 T.tail (C ++ c) x1 (by omega)
      cases hy : P T.tail with
      | error e =>
        obtain ⟨k, p⟩ := e
        rw [hy] at hs1
        obtain ⟨M2, e2, x2, f2⟩ := hs1
        obtain ⟨M3, e3, x3', f3⟩ := xe_emit x2 (mk v)
        rw [e2, cl_some, ok_t (by rw [x2.2.2.1.1]; exact x2.2.2.1.2), e3, cl_some, ok_t ⟨by omega, by omega⟩]
        obtain ⟨G', rfl⟩ : ∃ G', G = G' + 1 := ⟨G - 1, by omega⟩
        show XR b n sp M C (wl2 (b_X5_readBoth_8 S o) (G' + 1) M3 0 (x3 + 1)) _
        rw [wl2_s]
        unfold b_X5_readBoth_8
        have fin : XR b n sp M C (some (0, M3)) (er k p) := ⟨M3, rfl, x3', (f1.tr f2).tr f3⟩
        by_cases hx2 : 900 ≤ x3 + 1
        · rw [if_pos hx2, ok_t (Or.inl rfl)]; exact fin
        · rw [if_neg hx2, if_pos rfl, ok_t (Or.inl rfl)]; exact fin
      | ok y =>
        obtain ⟨c1, T1⟩ := y
        rw [hy] at hs1
        obtain ⟨M2, e2, x2, f2⟩ := hs1
        obtain ⟨g1, g2, g3⟩ := hG _ _ _ t1 hy
        obtain ⟨M3, e3, x3', f3⟩ := x_emit x2 (by simp at hB ⊢; omega) v
        rw [e2, cl_some, ok_t (by rw [x2.2.2.1.1]; exact x2.2.2.1.2), e3, cl_some, ok_t ⟨by omega, by omega⟩]
        have ea : C ++ c ++ c1 ++ [v] = C ++ (c ++ c1 ++ [v]) := by simp
        rw [ea] at x3'
        exact (x_chAnd hP hG m G M3 T1 C (c ++ c1 ++ [v]) (x3 + 1) x3' (by simp at hB ⊢; omega) (by omega) (by omega) (by omega) (by omega)).tr ((f1.tr f2).tr f3)
    by_cases s0 : isW T 11
    · rw [if_pos ((h.ow (by decide)).mpr s0)]
      exact go 11 14 s0 (by unfold andO; rw [if_pos s0]) (by decide) (by decide)
    rw [if_neg (fun q => s0 ((h.ow (by decide)).mp q))]
    rw [ok_t (Or.inr rfl), if_pos (by unfold andO; rw [if_neg s0])]
    exact ⟨M, rfl, h, Fr.rf _ _⟩
theorem x_chOr {S : Mem → Int → Res} {P : List Tok → Ex} {o : Int} (hP : RdX b n sp o (f_X5_readBoth S) P) (hG : RdG b n P) : ∀ (m F : Nat) (M : Mem) (T : List Tok) (C c : List Int) (x3 : Int), XT b n sp M T (C ++ c) → (C ++ c).length + T.length ≤ 900 → T.length ≤ m → 0 ≤ x3 → x3 + T.length ≤ 901 → T.length < F → XR b n sp M C (wl2 (b_X5_readTest_8 S o) F M 1 x3) (pCh orO P m c T)
  | 0, F, M, T, C, c, x3, h, hB, hm, h0, h9, hF => by
    have := h.1.hd.2.1
    omega
  | m + 1, F, M, T, C, c, x3, h, hB, hm, h0, h9, hF => by
    obtain ⟨G, rfl⟩ : ∃ G, F = G + 1 := ⟨F - 1, by omega⟩
    have hT1 := h.1.hd.2.1
    rw [wl2_s]
    show XR b n sp M C _ (if orO T = 0 then (.ok (c, T) : Ex) else bx (P T.tail) fun c1 T1 => pCh orO P m (c ++ c1 ++ [orO T]) T1)
    unfold b_X5_readTest_8
    by_cases hx : 900 ≤ x3
    · have hz : hk T = 0 := by
        by_cases e : hk T = 0
        · exact e
        · have := h.1.tl e
          have := this.1.hd.2.1
          omega
      have hop : orO T = 0 := by
        by_cases e : orO T = 0
        · exact e
        · exact absurd hz (orO_r e).1
      rw [if_pos hx, ok_t (Or.inr rfl), if_pos hop]
      exact ⟨M, rfl, h, Fr.rf _ _⟩
    rw [if_neg hx, if_neg (by decide)]
    have go : ∀ s v : Int, isW T s → orO T = v → v ≠ 0 → (-11) = mk v → XR b n sp M C (cl (f_X5_step M) (fun r11 M12 => cl (f_X5_readBoth S M12 o) (fun r13 M14 => ok (kd (M14 4 1) = 17) (cl (f_X7_emit M14 (M14 4 1) ((-11))) (fun r16 M17 => ok (in32 (x3 + 1)) (bi (x3 + 1) (fun y19 => wl2 (b_X5_readTest_8 S o) G M17 r13 y19))))))) (if orO T = 0 then (.ok (c, T) : Ex) else bx (P T.tail) fun c1 T1 => pCh orO P m (c ++ c1 ++ [orO T]) T1) := by
      intro s v hs ev hv ei
      rw [if_neg (by rw [ev]; exact hv), ev, ei]
      obtain ⟨M1, e1, x1, f1⟩ := x_step h (by omega)
      obtain ⟨t1, t2⟩ := h.1.tl (by omega)
      rw [e1, cl_some]
      have hs1 := hP M1 T.tail (C ++ c) x1 (by omega)
      cases hy : P T.tail with
      | error e =>
        obtain ⟨k, p⟩ := e
        rw [hy] at hs1
        obtain ⟨M2, e2, x2, f2⟩ := hs1
        obtain ⟨M3, e3, x3', f3⟩ := xe_emit x2 (mk v)
        rw [e2, cl_some, ok_t (by rw [x2.2.2.1.1]; exact x2.2.2.1.2), e3, cl_some, ok_t ⟨by omega, by omega⟩]
        obtain ⟨G', rfl⟩ : ∃ G', G = G' + 1 := ⟨G - 1, by omega⟩
        show XR b n sp M C (wl2 (b_X5_readTest_8 S o) (G' + 1) M3 0 (x3 + 1)) _
        rw [wl2_s]
        unfold b_X5_readTest_8
        have fin : XR b n sp M C (some (0, M3)) (er k p) := ⟨M3, rfl, x3', (f1.tr f2).tr f3⟩
        by_cases hx2 : 900 ≤ x3 + 1
        · rw [if_pos hx2, ok_t (Or.inl rfl)]; exact fin
        · rw [if_neg hx2, if_pos rfl, ok_t (Or.inl rfl)]; exact fin
      | ok y =>
        obtain ⟨c1, T1⟩ := y
        rw [hy] at hs1
        obtain ⟨M2, e2, x2, f2⟩ := hs1
        obtain ⟨g1, g2, g3⟩ := hG _ _ _ t1 hy
        obtain ⟨M3, e3, x3', f3⟩ := x_emit x2 (by simp at hB ⊢; omega) v
        rw [e2, cl_some, ok_t (by rw [x2.2.2.1.1]; exact x2.2.2.1.2), e3, cl_some, ok_t ⟨by omega, by omega⟩]
        have ea : C ++ c ++ c1 ++ [v] = C ++ (c ++ c1 ++ [v]) := by simp
        rw [ea] at x3'
        exact (x_chOr hP hG m G M3 T1 C (c ++ c1 ++ [v]) (x3 + 1) x3' (by simp at hB ⊢; omega) (by omega) (by omega) (by omega) (by omega)).tr ((f1.tr f2).tr f3)
    by_cases s0 : isW T 10
    · rw [if_pos ((h.ow (by decide)).mpr s0)]
      exact go 10 15 s0 (by unfold orO; rw [if_pos s0]) (by decide) (by decide)
    rw [if_neg (fun q => s0 ((h.ow (by decide)).mp q))]
    rw [ok_t (Or.inr rfl), if_pos (by unfold orO; rw [if_neg s0])]
    exact ⟨M, rfl, h, Fr.rf _ _⟩
theorem x_prod {S : Mem → Int → Res} {P : Int → List Tok → Ex} {o : Int} (hP : RdX b n sp o (f_X5_readPart S) (pPart P o)) (hG : RdG b n (pPart P o)) : RdX b n sp o (f_X5_readProduct S) (pProd P o) := by
  intro M T C h hB
  have hT1 := h.1.hd
  have hn := h.2.1
  unfold f_X5_readProduct pProd
  have hs := hP M T C h hB
  cases hy : pPart P o T with
  | error e =>
    obtain ⟨k, p⟩ := e
    rw [hy] at hs
    obtain ⟨M2, e2, x2, f2⟩ := hs
    rw [e2, cl_some]
    show XR b n sp M C (wl2 (b_X5_readProduct_8 S o) (999999999 + 1) M2 0 0) _
    rw [wl2_s]
    unfold b_X5_readProduct_8
    rw [if_neg (by decide), if_pos rfl, ok_t (Or.inl rfl)]
    exact ⟨M2, rfl, x2, f2⟩
  | ok y =>
    obtain ⟨c, T1⟩ := y
    rw [hy] at hs
    obtain ⟨M2, e2, x2, f2⟩ := hs
    obtain ⟨g1, g2, g3⟩ := hG _ _ _ h.1 hy
    rw [e2, cl_some]
    exact (x_chMul hP hG T1.length FU M2 T1 C c 0 x2 (by simp; omega) (Nat.le_refl _) (by decide) (by omega) (by have : FU = 1000000000 := rfl; omega)).tr f2
theorem sumG_rd {q : Nat} {o : Int} (h0 : 0 ≤ o) (h6 : o ≤ 6) : RdG b n (pSum q o) := fun T c T1 hT h => (pSum_ok q o T c T1 h0 h6 hT h).1
theorem prodG_rd {q : Nat} {o : Int} (ho : 0 ≤ o ∧ o ≤ 6) : RdG b n (pProd (pSum q) o) := fun T c T1 hT h => (pProd_ok (pSum_ok q) ho hT h).1
theorem partG_rd {q : Nat} {o : Int} (ho : 0 ≤ o ∧ o ≤ 6) : RdG b n (pPart (pSum q) o) := fun T c T1 hT h => (pPart_ok (pSum_ok q) ho hT h).1
theorem x_sumR : ∀ (q : Nat) (o : Int), 0 ≤ o → o ≤ 6 → 7 ≤ q + o → RdX b n sp o (f_X5_readSum q) (pSum q o)
  | 0, o, h0, h6, h7 => by omega
  | q + 1, o, h0, h6, h7 => by
    have hS : o < 6 → RdX b n sp (o + 1) (f_X5_readSum q) (pSum q (o + 1)) := fun hz => x_sumR q (o + 1) (by omega) (by omega) (by omega)
    have hGS : o < 6 → RdG b n (pSum q (o + 1)) := fun hz => sumG_rd (by omega) (by omega)
    have hPa := x_part ⟨h0, h6⟩ hS hGS
    have hP := x_prod (P := pSum q) hPa (partG_rd ⟨h0, h6⟩)
    have hG : RdG b n (pProd (pSum q) o) := prodG_rd ⟨h0, h6⟩
    intro M T C h hB
    have hT1 := h.1.hd
    have hn := h.2.1
    show XR b n sp M C (g_X5_readSum (f_X5_readSum q) M o) (bx (pProd (pSum q) o T) fun c T1 => pCh addO (pProd (pSum q) o) T1.length c T1)
    unfold g_X5_readSum
    have hs := hP M T C h hB
    cases hy : pProd (pSum q) o T with
    | error e =>
      obtain ⟨k, p⟩ := e
      rw [hy] at hs
      obtain ⟨M2, e2, x2, f2⟩ := hs
      rw [e2, cl_some]
      show XR b n sp M C (wl2 (b_X5_readSum_8 (f_X5_readSum q) o) (999999999 + 1) M2 0 0) _
      rw [wl2_s]
      unfold b_X5_readSum_8
      rw [if_neg (by decide), if_pos rfl, ok_t (Or.inl rfl)]
      exact ⟨M2, rfl, x2, f2⟩
    | ok y =>
      obtain ⟨c, T1⟩ := y
      rw [hy] at hs
      obtain ⟨M2, e2, x2, f2⟩ := hs
      obtain ⟨g1, g2, g3⟩ := hG _ _ _ h.1 hy
      rw [e2, cl_some]
      exact (x_chAdd hP hG T1.length FU M2 T1 C c 0 x2 (by simp; omega) (Nat.le_refl _) (by decide) (by omega) (by have : FU = 1000000000 := rfl; omega)).tr f2
theorem x_both {S : Mem → Int → Res} {P : Int → List Tok → Ex} {o : Int} (hP : RdX b n sp o S (P o)) (hG : RdG b n (P o)) : RdX b n sp o (f_X5_readBoth S) (pBoth P o) := by
  intro M T C h hB
  have hT1 := h.1.hd
  have hn := h.2.1
  unfold f_X5_readBoth pBoth
  have hs := hP M T C h hB
  cases hy : P o T with
  | error e =>
    obtain ⟨k, p⟩ := e
    rw [hy] at hs
    obtain ⟨M2, e2, x2, f2⟩ := hs
    rw [e2, cl_some]
    show XR b n sp M C (wl2 (b_X5_readBoth_8 S o) (999999999 + 1) M2 0 0) _
    rw [wl2_s]
    unfold b_X5_readBoth_8
    rw [if_neg (by decide), if_pos rfl, ok_t (Or.inl rfl)]
    exact ⟨M2, rfl, x2, f2⟩
  | ok y =>
    obtain ⟨c, T1⟩ := y
    rw [hy] at hs
    obtain ⟨M2, e2, x2, f2⟩ := hs
    obtain ⟨g1, g2, g3⟩ := hG _ _ _ h.1 hy
    rw [e2, cl_some]
    exact (x_chAnd hP hG T1.length FU M2 T1 C c 0 x2 (by simp; omega) (Nat.le_refl _) (by decide) (by omega) (by have : FU = 1000000000 := rfl; omega)).tr f2
theorem x_test {S : Mem → Int → Res} {P : Int → List Tok → Ex} {o : Int} (hP : RdX b n sp o (f_X5_readBoth S) (pBoth P o)) (hG : RdG b n (pBoth P o)) : RdX b n sp o (f_X5_readTest S) (pTest P o) := by
  intro M T C h hB
  have hT1 := h.1.hd
  have hn := h.2.1
  unfold f_X5_readTest pTest
  have hs := hP M T C h hB
  cases hy : pBoth P o T with
  | error e =>
    obtain ⟨k, p⟩ := e
    rw [hy] at hs
    obtain ⟨M2, e2, x2, f2⟩ := hs
    rw [e2, cl_some]
    show XR b n sp M C (wl2 (b_X5_readTest_8 S o) (999999999 + 1) M2 0 0) _
    rw [wl2_s]
    unfold b_X5_readTest_8
    rw [if_neg (by decide), if_pos rfl, ok_t (Or.inl rfl)]
    exact ⟨M2, rfl, x2, f2⟩
  | ok y =>
    obtain ⟨c, T1⟩ := y
    rw [hy] at hs
    obtain ⟨M2, e2, x2, f2⟩ := hs
    obtain ⟨g1, g2, g3⟩ := hG _ _ _ h.1 hy
    rw [e2, cl_some]
    exact (x_chOr hP hG T1.length FU M2 T1 C c 0 x2 (by simp; omega) (Nat.le_refl _) (by decide) (by omega) (by have : FU = 1000000000 := rfl; omega)).tr f2
theorem fctG_rd {q : Nat} {o : Int} (h0 : 0 ≤ o) (h6 : o ≤ 6) : RdG b n (pFact q o) := fun T c T1 hT h => (pFact_ok q o T c T1 h0 h6 hT h).1
theorem bothG_rd {q : Nat} {o : Int} (ho : 0 ≤ o ∧ o ≤ 6) : RdG b n (pBoth (pFact q) o) := fun T c T1 hT h => (pBoth_ok (pFact_ok q) ho hT h).1
theorem testG_rd {q : Nat} {o : Int} (ho : 0 ≤ o ∧ o ≤ 6) : RdG b n (pTest (pFact q) o) := fun T c T1 hT h => (pTest_ok (pFact_ok q) ho hT h).1
theorem x_fact : ∀ (q : Nat) (o : Int), 0 ≤ o → o ≤ 6 → 7 ≤ q + o → RdX b n sp o (f_X5_readFact q) (pFact q o)
  | 0, o, h0, h6, h7 => by omega
  | q + 1, o, h0, h6, h7 => by
    intro M T C h hB
    have k3 := h.2.2.2.2.2.1.2.2.1
    have hT1 := h.1.hd.2.1
    show XR b n sp M C (g_X5_readFact (f_X5_readFact q) M o) _
    unfold g_X5_readFact pFact
    by_cases c1 : isW T 12
    · rw [if_pos ((h.ow (by decide)).mpr c1), if_pos c1]
      unfold j_X5_readFact_18 j_X5_readFact_23
      rw [if_neg (by decide)]
      by_cases c2 : 6 ≤ o
      · rw [if_neg (by omega), if_pos c2, k3]
        obtain ⟨M1, e, x1, f1⟩ := x_ref h (k := 4) (by decide) (hq T)
        rw [e, cl_some, ok_t (Or.inl rfl)]
        exact ⟨M1, rfl, x1, f1⟩
      rw [if_pos (show o < 6 by omega), if_neg c2]
      unfold j_X5_readFact_44
      rw [if_pos ((h.ow (by decide)).mpr c1)]
      obtain ⟨M1, e1, x1, f1⟩ := x_step h (by omega)
      obtain ⟨t1, t2⟩ := h.1.tl (by omega)
      rw [e1, cl_some, ok_t ⟨by omega, by omega⟩]
      have hs := x_fact q (o + 1) (by omega) (by omega) (by omega) M1 T.tail C x1 (by omega)
      cases hy : pFact q (o + 1) T.tail with
      | error e =>
        obtain ⟨k, p⟩ := e
        rw [hy] at hs
        obtain ⟨M2, e2, x2, f2⟩ := hs
        obtain ⟨M3, e3, x3, f3⟩ := xe_emit x2 (-13)
        rw [e2, cl_some, ok_t (by rw [x2.2.2.1.1]; exact x2.2.2.1.2), e3, cl_some, ok_t (Or.inl rfl)]
        exact ⟨M3, rfl, x3, (f1.tr f2).tr f3⟩
      | ok y =>
        obtain ⟨c, T1⟩ := y
        rw [hy] at hs
        obtain ⟨M2, e2, x2, f2⟩ := hs
        obtain ⟨g1, g2, g3⟩ := fctG_rd (by omega) (by omega) _ _ _ t1 hy
        have u1 := g1.hd.2.1
        obtain ⟨M3, e3, x3, f3⟩ := x_emit x2 (by simp; omega) 16
        rw [show mk 16 = -13 by decide] at e3
        rw [e2, cl_some, ok_t (by rw [x2.2.2.1.1]; exact x2.2.2.1.2), e3, cl_some, ok_t (Or.inr rfl)]
        rw [List.append_assoc] at x3
        exact ⟨M3, rfl, x3, (f1.tr f2).tr f3⟩
    rw [if_neg (fun q => c1 ((h.ow (by decide)).mp q)), if_neg c1, x_isSign h, cl_some, bI_ite]
    by_cases c2 : isS T 91
    · rw [if_pos c2, if_pos c2]
      unfold j_X5_readFact_18 j_X5_readFact_23
      rw [if_neg (by decide)]
      by_cases c3 : 6 ≤ o
      · rw [if_neg (by omega), if_pos c3, k3]
        obtain ⟨M1, e, x1, f1⟩ := x_ref h (k := 4) (by decide) (hq T)
        rw [e, cl_some, ok_t (Or.inl rfl)]
        exact ⟨M1, rfl, x1, f1⟩
      rw [if_pos (show o < 6 by omega), if_neg c3]
      unfold j_X5_readFact_44
      rw [if_neg (fun q => c1 ((h.ow (by decide)).mp q)), if_neg (by decide)]
      obtain ⟨M1, e1, x1, f1⟩ := x_step h (by omega)
      obtain ⟨t1, t2⟩ := h.1.tl (by omega)
      rw [e1, cl_some, ok_t ⟨by omega, by omega⟩]
      have hF := x_fact q (o + 1) (by omega) (by omega) (by omega)
      have hBo := x_both (P := pFact q) hF (fctG_rd (by omega) (by omega))
      have hTe := x_test (P := pFact q) hBo (bothG_rd ⟨by omega, by omega⟩)
      have hs := hTe M1 T.tail C x1 (by omega)
      cases hy : pTest (pFact q) (o + 1) T.tail with
      | error e =>
        obtain ⟨k, p⟩ := e
        rw [hy] at hs
        obtain ⟨M2, e2, x2, f2⟩ := hs
        rw [e2, cl_some, if_pos rfl]
        exact ⟨M2, rfl, x2, f1.tr f2⟩
      | ok y =>
        obtain ⟨c, T1⟩ := y
        rw [hy] at hs
        obtain ⟨M2, e2, x2, f2⟩ := hs
        rw [e2, cl_some, if_neg (by decide)]
        show XR b n sp M C _ (if isS T1 93 then _ else _)
        rcases x_sign x2 93 with ⟨c4, M3, e3, x3, f3⟩ | ⟨c4, M3, e3, x3, f3⟩
        · rw [e3, cl_some, if_neg (by decide), if_pos c4]
          exact ⟨M3, rfl, x3, (f1.tr f2).tr f3⟩
        · rw [e3, cl_some, if_pos rfl, if_neg c4]
          exact ⟨M3, rfl, x3, (f1.tr f2).tr f3⟩
    rw [if_neg c2, if_neg c2]
    unfold j_X5_readFact_23
    rw [if_pos rfl]
    unfold j_X5_readFact_44
    rw [if_neg (fun q => c1 ((h.ow (by decide)).mp q)), if_pos rfl]
    by_cases c3 : isW T 13
    · rw [if_pos ((h.ow (by decide)).mpr c3), if_pos c3]
      obtain ⟨M1, e1, x1, f1⟩ := x_step h (by omega)
      obtain ⟨t1, t2⟩ := h.1.tl (by omega)
      obtain ⟨M2, e2, x2, f2⟩ := x_emit x1 (by omega) 17
      rw [show mk 17 = 1 by decide] at e2
      rw [e1, cl_some, ok_t (by rw [x1.2.2.1.1]; exact x1.2.2.1.2), e2, cl_some]
      exact ⟨M2, rfl, x2, f1.tr f2⟩
    rw [if_neg (fun q => c3 ((h.ow (by decide)).mp q)), if_neg c3]
    have hs := x_sumR 8 o h0 h6 (by omega) M T C h hB
    cases hy : pSum 8 o T with
    | error e =>
      obtain ⟨k, p⟩ := e
      rw [hy] at hs
      obtain ⟨M2, e2, x2, f2⟩ := hs
      rw [e2, cl_some, if_pos rfl]
      exact ⟨M2, rfl, x2, f2⟩
    | ok y =>
      obtain ⟨c, T1⟩ := y
      rw [hy] at hs
      obtain ⟨M2, e2, x2, f2⟩ := hs
      obtain ⟨g1, g2, g3⟩ := sumG_rd h0 h6 _ _ _ h.1 hy
      rw [e2, cl_some, if_neg (by decide)]
      show XR b n sp M C (cl (f_X5_isSign M2 60) _) (if cmpO T1 = 0 then er 1 (hq T1) else bx (pSum 8 o T1.tail) fun c2 T2 => .ok (c ++ c2 ++ [cmpO T1], T2))
      have go : ∀ s v : Int, isS T1 s → cmpO T1 = v → v ≠ 0 → ixor s (-1) = mk v → XR b n sp M C (j_X5_readFact_184 (f_X5_readFact q) o M2 (M2 4 8)) (if cmpO T1 = 0 then er 1 (hq T1) else bx (pSum 8 o T1.tail) fun c2 T2 => .ok (c ++ c2 ++ [cmpO T1], T2)) := by
        intro s v hs ev hv ei
        rw [if_neg (by rw [ev]; exact hv), ev, show M2 4 8 = s from x2.2.2.2.2.2.1.2.1.trans hs.2]
        unfold j_X5_readFact_184
        obtain ⟨M3, e3, x3, f3⟩ := x_step x2 (by omega)
        obtain ⟨t1, t2⟩ := g1.tl (by omega)
        rw [e3, cl_some, ei]
        have hs2 := x_sumR 8 o h0 h6 (by omega) M3 T1.tail (C ++ c) x3 (by simp; omega)
        cases hz : pSum 8 o T1.tail with
        | error e =>
          obtain ⟨k, p⟩ := e
          rw [hz] at hs2
          obtain ⟨M4, e4, x4, f4⟩ := hs2
          obtain ⟨M5, e5, x5, f5⟩ := xe_emit x4 (mk v)
          rw [e4, cl_some, ok_t (by rw [x4.2.2.1.1]; exact x4.2.2.1.2), e5, cl_some, ok_t (Or.inl rfl)]
          exact ⟨M5, rfl, x5, ((f2.tr f3).tr f4).tr f5⟩
        | ok y =>
          obtain ⟨d, T2⟩ := y
          rw [hz] at hs2
          obtain ⟨M4, e4, x4, f4⟩ := hs2
          obtain ⟨v1, v2, v3⟩ := sumG_rd h0 h6 _ _ _ t1 hz
          obtain ⟨M5, e5, x5, f5⟩ := x_emit x4 (by simp; omega) v
          rw [e4, cl_some, ok_t (by rw [x4.2.2.1.1]; exact x4.2.2.1.2), e5, cl_some, ok_t (Or.inr rfl)]
          have ea : C ++ c ++ d ++ [v] = C ++ (c ++ d ++ [v]) := by simp
          rw [ea] at x5
          exact ⟨M5, rfl, x5, ((f2.tr f3).tr f4).tr f5⟩
      rw [x_isSign x2, cl_some, bI_ite]
      by_cases s0 : isS T1 60
      · rw [if_pos s0]
        exact go 60 11 s0 (by unfold cmpO; rw [if_pos s0]) (by decide) (by decide)
      rw [if_neg s0, x_isSign x2, cl_some, bI_ite]
      by_cases s1 : isS T1 62
      · rw [if_pos s1]
        exact go 62 12 s1 (by unfold cmpO; rw [if_neg s0, if_pos s1]) (by decide) (by decide)
      rw [if_neg s1, x_isSign x2, cl_some, bI_ite]
      by_cases s2 : isS T1 61
      · rw [if_pos s2]
        exact go 61 13 s2 (by unfold cmpO; rw [if_neg s0, if_neg s1, if_pos s2]) (by decide) (by decide)
      rw [if_neg s2, if_pos (by unfold cmpO; rw [if_neg s0, if_neg s1, if_neg s2])]
      obtain ⟨M3, e3, x3, f3⟩ := x_ref x2 (k := 1) (by decide) (M2 4 9)
      rw [e3, cl_some, ok_t (Or.inl rfl)]
      rw [x2.2.2.2.2.2.1.2.2.1] at x3
      exact ⟨M3, rfl, x3, f2.tr f3⟩
theorem x_tst (o : Int) (h0 : 0 ≤ o) (h6 : o ≤ 6) : RdX b n sp o (f_X5_readTest (f_X5_readFact 8)) (pTest (pFact 8) o) :=
  x_test (P := pFact 8) (x_both (P := pFact 8) (x_fact 8 o h0 h6 (by omega)) (fctG_rd h0 h6)) (bothG_rd ⟨h0, h6⟩)
end XX
