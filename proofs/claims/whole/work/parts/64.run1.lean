/-! RUN: one SHOWING of THE PLAN, alike -/
theorem lit_0 (g : Int → Int) (s : Int) : lit g s 0 = 0 := by
  have key : ∀ n : Nat, lmx g s 0 n = 0 := by
    intro n
    induction n with
    | zero => rfl
    | succ n ih =>
      show max (lmx g s 0 n) (lst g s 0 n) = 0
      have e : lst g s 0 n = 0 := by
        unfold lst
        split
        · rfl
        · rw [Int.zero_mul, Int.zero_ediv]
      rw [ih, e]; rfl
  exact key 96
def eRn (g : Int → Int) (t s z : Int) : Int → Int := fun k => if k = 16 then z else env g t s 0 k
theorem eRn_ok {g : Int → Int} (hg : SgOk g) {t s z : Int} (ht : 0 ≤ t ∧ t ≤ 1000) (hs : 0 ≤ s ∧ s < 96) (hz : 0 ≤ z ∧ z ≤ 40) : EnvOk (eRn g t s z) := by
  intro k
  have := env_ok hg (b := 0) ht hs ⟨by decide, by decide⟩ k
  unfold eRn
  split
  · omega
  · exact this
def brR (A : Mem) (t s z q : Int) : Int := clp (val (eRn (A 388) t s z) (cod A (A 380 q) (A 381 q))) 0 99
def SBr (a _i : Int) : Prop := a = 11 ∨ a = 12 ∨ a = 19 ∨ a = 20
section RU
variable {A B Mx Mm : Mem}
theorem RR.sa9 (h : RR A B Mx Mm) : SA B Mx (B 1 9) := SA.of h.fx h.ptr.1.2.1 h.ptr.1.2.2.1 h.ptr.2.1.2.2
theorem RR.x_bright (h : RR A B Mx Mm) {i q z s : Int} (hi : 0 ≤ i ∧ i < 40) (hS : ShwR A B (B 1 9) i q) (es : A 379 q = s) (hs : 0 ≤ s ∧ s < 96) (hz : 0 ≤ z ∧ z ≤ 40) : ∃ M1, f_X11_brightOf Mx (B 1 9 + 4 + i) s z = some (brR A (A 378 q) s z q, M1) ∧ Fr SBr Mx M1 ∧ Lcache (A 388) M1 := by
  have hk := h.ptr.1.2.1
  have kk := kd17 _ hk
  obtain ⟨b1, b2, b3, b4, b5, b6, b7⟩ := hS
  have ht5 := h.thg.1
  have sa := h.sa9
  obtain ⟨M2, p1, p2, p3, p4⟩ := x_shows h.sg h.xg h.lc (t := A 378 q) (b := 0) hs ⟨by decide, by decide⟩
  have f2 : Fr SBr Mx (st M2 11 16 z) := (p3.mono (fun a i q => by unfold ScF at q; unfold SBr; omega)).st (Or.inl rfl)
  have sa2 : SA B (st M2 11 16 z) (B 1 9) := sa.tr (fun c j h1 h2 => f2 c j (by unfold SBr; omega))
  have e2 : EnvX (st M2 11 16 z) (eRn (A 388) (A 378 q) s z) := by
    obtain ⟨u1, u2, u3, u4, u5, u6⟩ := p2
    exact ⟨by rw [st_neI (by decide), u1]; rfl, by rw [st_neI (by decide), u2]; rfl, by rw [st_at]; rfl, by rw [st_neI (by decide), u4]; rfl, by rw [st_neI (by decide), u5]; rfl, by rw [st_neI (by decide), u6]; rfl⟩
  obtain ⟨M3, r1, r2⟩ := x_reckon (eRn_ok h.sg (by omega) hs hz) e2 hk sa2 b6 b7
  have lc2 : Lcache (A 388) (st M2 11 16 z) := lc_st p4 (by omega)
  refine ⟨M3, ?_, f2.tr (r2.mono (fun a i q => by unfold ScR at q; unfold SBr; omega)), lc_fr r2 (fun i => by unfold ScR; omega) lc2⟩
  unfold f_X11_brightOf
  rw [sa _ 2 (by omega) (by omega), b2, p1, cl_some, bm_e, f2 1 9 (by unfold SBr; omega), h.rx (a := 1) (i := 9) (by omega) (by omega), ok_t hk, sa2 (B 1 9 + 4 + i) 6 (by omega) (by omega), sa2 (B 1 9 + 4 + i) 7 (by omega) (by omega), r1, cl_some, e_clamped _ _ _ _ (by decide), cl_some]
  rfl
def SMr (a i : Int) : Prop := a = 387 ∨ (a = 337 ∧ (i = 64 ∨ (67 ≤ i ∧ i ≤ 73)))
/-- the model's, up to its LIGHT -/
theorem RR.m_bright (h : RR A B Mx Mm) {k i q z s : Int} (hq : 80 ≤ q ∧ q < 160) (hS : ShwR A B (B 1 9) i q) (es : A 379 q = s) (hs : 0 ≤ s ∧ s < 96) (hz : 0 ≤ z ∧ z ≤ 40) : ∃ M1, f_X12_runShowing Mm k q z = j_X12_runShowing_107 k M1 (A 378 q) s (brR A (A 378 q) s z q) ∧ Fr SMr Mm M1 ∧ M1 337 64 = Mm 337 64 := by
  obtain ⟨b1, b2, b3, b4, b5, b6, b7⟩ := hS
  have ht5 := h.thg.1
  have e378 : Mm 378 q = A 378 q := h.rm (by unfold ScM; omega)
  have e379 : Mm 379 q = s := (h.rm (by unfold ScM; omega)).trans es
  unfold f_X12_runShowing
  rw [ok_t ⟨by omega, by omega⟩, e378, bi_e, e379, bi_e, ok_t hs.1, bm_e, bm_e, bm_e, ok_t hs, bm_e, bm_e, bm_e]
  rw [st_neA (by decide), st_neA (by decide), st_neA (by decide), h.mg s hs.1 hs.2]
  generalize hM : st (st (st (st (st (st Mm 337 68 (s % 12)) 337 69 (s / 12)) 337 70 z) 337 71 (A 388 s)) 337 72 0) 337 73 (A 378 q) = M11
  have fE : Fr ScE Mm M11 := by
    rw [← hM]
    exact (((((((Fr.rf _ _).st ⟨rfl, by decide, by decide⟩).st ⟨rfl, by decide, by decide⟩).st ⟨rfl, by decide, by decide⟩).st ⟨rfl, by decide, by decide⟩).st ⟨rfl, by decide, by decide⟩).st ⟨rfl, by decide, by decide⟩)
  have hE : EnvM M11 (eRn (A 388) (A 378 q) s z) := by
    rw [← hM]
    refine ⟨?_, ?_, ?_, ?_, ?_, ?_⟩
    · rw [st_neI (by decide), st_neI (by decide), st_neI (by decide), st_neI (by decide), st_neI (by decide), st_at]; rfl
    · rw [st_neI (by decide), st_neI (by decide), st_neI (by decide), st_neI (by decide), st_at]; rfl
    · rw [st_neI (by decide), st_neI (by decide), st_neI (by decide), st_at]; rfl
    · rw [st_neI (by decide), st_neI (by decide), st_at]; rfl
    · rw [st_neI (by decide), st_at]; exact (lit_0 _ _).symm
    · rw [st_at]; rfl
  have fM : Fr ScM A M11 := h.fm.tr (fE.mono (fun a i q => by unfold ScE at q; unfold ScM; omega))
  have he := eRn_ok h.sg (t := A 378 q) (by omega) hs hz
  obtain ⟨M13, r1, r2⟩ := m_tells he hE fM (p := 5) (by omega) b6
  have hv := val_N he b6
  rw [fM 380 q (by unfold ScM; omega), fM 381 q (by unfold ScM; omega), r1, cl_some]
  refine ⟨M13, ?_, (fE.mono (fun a i q => by unfold ScE at q; unfold SMr; omega)).tr (r2.mono (fun a i q => by unfold ScT at q; unfold SMr; omega)), (r2 337 64 (by unfold ScT; omega)).trans (fE 337 64 (by unfold ScE; omega))⟩
  unfold brR clp
  generalize val (eRn (A 388) (A 378 q) s z) (cod A (A 380 q) (A 381 q)) = v at *
  by_cases w1 : 0 ≤ v
  · rw [if_pos w1, if_neg (show ¬ v < 0 by omega)]
    by_cases w2 : v ≤ 99
    · rw [if_pos w2, if_neg (show ¬ 99 < v by omega), ok_t ⟨by omega, by omega⟩]
    · rw [if_neg w2, if_pos (show 99 < v by omega)]
  · rw [if_neg w1, if_pos (show v < 0 by omega)]
def STr (n a i : Int) : Prop := (a = 23 + n ∧ 0 ≤ i ∧ i ≤ 8) ∨ (a = 21 ∧ i = 1) ∨ a = 67 ∨ a = 12
theorem RR.more2 (h : RR A B Mx Mm) {Mx1 : Mem} {n t s b so g sa su : Int} (en : A 337 79 = n) (hn : n < 40) (ht : isTh A t) (hs : 0 ≤ s ∧ s < 96) (hb : isBr b) (hso : 0 ≤ so ∧ so < A 374 (5 + t)) (hg : 0 ≤ g ∧ g < A 374 (5 + t)) (hsa : sa = 0 ∨ sa = 1) (hsu : 0 ≤ su ∧ su ≤ 9) (fx : Fr (STr n) Mx Mx1) (v0 : Mx1 (23 + n) 0 = t) (v1 : Mx1 (23 + n) 1 = s) (v2 : Mx1 (23 + n) 2 = b) (v3 : Mx1 (23 + n) 3 = so) (v4 : Mx1 (23 + n) 4 = g) (v5 : Mx1 (23 + n) 5 = sa) (v6 : Mx1 (23 + n) 6 = su) (v7 : Mx1 (23 + n) 7 = 0) (v8 : Mx1 (23 + n) 8 = -1) (v21 : Mx1 21 1 = n + 1) : ∃ A1 B1, RR A1 B1 Mx1 (st (puA Mm n t s b so g sa su) 337 79 (n + 1)) ∧ A1 337 79 = n + 1 ∧ B1 1 10 = B 1 10 ∧ (∀ a i, ¬ (392 ≤ a ∧ a ≤ 400) → ¬ (a = 337 ∧ i = 79) → A1 a i = A a i) ∧ (∀ a i, ¬ (21 ≤ a ∧ a ≤ 62) → B1 a i = B a i) := by
  obtain ⟨n1, n2, n3, n4⟩ := h.n79
  have fs : Fr (fun a _ => a = 67 ∨ a = 12) Mx (mxm (fun a _ => a = 67 ∨ a = 12) Mx1 Mx) := mxm_sim (fun _ _ q => q)
  have h1 : RR A B (mxm (fun a _ => a = 67 ∨ a = 12) Mx1 Mx) Mm := h.nx (fs.mono (fun a i q => by unfold ScX; omega)) (Fr.rf _ _) (lc_fr fs (fun i => by omega) h.lc)
  have e : Mx1 = st (puB (mxm (fun a _ => a = 67 ∨ a = 12) Mx1 Mx) n t s b so g sa su) 21 1 (n + 1) := by
    funext a i
    by_cases w1 : a = 21 ∧ i = 1
    · obtain ⟨rfl, rfl⟩ := w1
      rw [st_at, v21]
    · rw [st_ne w1]
      by_cases w2 : a = 23 + n
      · rw [w2]
        by_cases w3 : 0 ≤ i ∧ i ≤ 8
        · have : i = 0 ∨ i = 1 ∨ i = 2 ∨ i = 3 ∨ i = 4 ∨ i = 5 ∨ i = 6 ∨ i = 7 ∨ i = 8 := by omega
          unfold puB
          rcases this with rfl | rfl | rfl | rfl | rfl | rfl | rfl | rfl | rfl
          · rw [v0]; simp [st]
          · rw [v1]; simp [st]
          · rw [v2]; simp [st]
          · rw [v3]; simp [st]
          · rw [v4]; simp [st]
          · rw [v5]; simp [st]
          · rw [v6]; simp [st]
          · rw [v7]; simp [st]
          · rw [v8]; simp [st]
        · unfold puB
          rw [st_neI (by omega), st_neI (by omega), st_neI (by omega), st_neI (by omega), st_neI (by omega), st_neI (by omega), st_neI (by omega), st_neI (by omega), st_neI (by omega), mxm_out (by omega)]
          exact fx _ _ (by unfold STr; omega)
      · rw [puB_o w2]
        by_cases w3 : a = 67 ∨ a = 12
        · rw [mxm_in w3]
        · rw [mxm_out w3]; exact fx _ _ (by unfold STr; omega)
  obtain ⟨A1, B1, r1, r2, r3, r4, r5⟩ := h1.more (s := s) en hn ht hs hb hso hg hsa hsu
  exact ⟨A1, B1, by rw [e]; exact r1, r2, r3, r4, r5⟩
end RU
