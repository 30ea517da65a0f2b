/-! LINES, what he SAYS, what is shown -/
theorem m_ruled {A M : Mem} {e : Int → Int} (he : EnvOk e) (hE : EnvM M e) (hF : Fr ScM A M) {p : Int} (hp : 1 ≤ p ∧ p < 5) (hL : RulA A p) {mo wo : Int} (hmo : 0 ≤ mo ∧ mo ≤ 1000) : ∃ M1, f_X12_ruled M p mo wo = some ((match rul A e p with | some v => clp v 0 mo | none => wo), M1) ∧ Fr ScT M M1 := by
  have hw := hL.1
  have main : ∀ (n : Nat) (F : Nat) (M1 : Mem) (j : Int), Fr ScT M M1 → 0 ≤ j → j + n = A 362 p → n < F → Tt (wl1 (b_X12_ruled_6 p mo wo) F M1 (40 * p + j)) (fun r M2 => r = (match rulN A e p n j with | some v => clp v 0 mo | none => wo) ∧ Fr ScT M M2) := by
    intro n
    induction n with
    | zero =>
      intro F M1 j f1 hj hn hF2
      obtain ⟨F, rfl⟩ : ∃ G, F = G + 1 := ⟨F - 1, by omega⟩
      have hF1 : Fr ScM A M1 := hF.tr (f1.mono (fun _ _ => ScT_M))
      rw [wl1_s]
      unfold b_X12_ruled_6
      refine tt_ok ⟨by omega, by omega⟩ (tt_ok ⟨by omega, by omega⟩ ?_)
      rw [hF1 362 p (by unfold ScM; omega)]
      exact tt_ok ⟨by omega, by omega⟩ (tt_ip (by omega) (tt_ret ⟨rfl, f1⟩))
    | succ n ih =>
      intro F M1 j f1 hj hn hF2
      obtain ⟨F, rfl⟩ : ∃ G, F = G + 1 := ⟨F - 1, by omega⟩
      have hF1 : Fr ScM A M1 := hF.tr (f1.mono (fun _ _ => ScT_M))
      obtain ⟨t1, t2⟩ := hL.2 j hj (by omega)
      rw [wl1_s]
      unfold b_X12_ruled_6
      refine tt_ok ⟨by omega, by omega⟩ (tt_ok ⟨by omega, by omega⟩ ?_)
      rw [hF1 362 p (by unfold ScM; omega)]
      refine tt_ok ⟨by omega, by omega⟩ (tt_in (by omega) (tt_ok ⟨by omega, by omega⟩ ?_))
      rw [hF1 364 (40 * p + j) (by unfold ScM; omega), hF1 365 (40 * p + j) (by unfold ScM; omega)]
      obtain ⟨M2, q2, f2⟩ := m_tells he (hE.fr f1) hF1 (p := p) (by omega) t2
      refine tt_cq q2 ?_
      have hF2' : Fr ScM A M2 := hF1.tr (f2.mono (fun _ _ => ScT_M))
      show Tt _ (fun r M2 => r = (match (if val e (cod A (A 364 (40 * p + j)) (A 365 (40 * p + j))) = 1 then some (val e (cod A (A 363 (40 * p + j)) (A 364 (40 * p + j)))) else rulN A e p n (j + 1)) with | some v => clp v 0 mo | none => wo) ∧ Fr ScT M M2)
      refine tt_if (fun h => ?_) (fun h => ?_)
      · rw [if_pos h, hF2' 363 (40 * p + j) (by unfold ScM; omega), hF2' 364 (40 * p + j) (by unfold ScM; omega)]
        obtain ⟨M3, q3, f3⟩ := m_tells he (hE.fr (f1.tr f2)) hF2' (p := p) (by omega) t1
        refine tt_cq q3 ?_
        have hv := val_N he t1
        have f4 := (f1.tr f2).tr f3
        refine tt_if (fun a1 => tt_if (fun a2 => ?_) (fun a2 => ?_)) (fun a1 => ?_)
        · exact tt_ok ⟨by omega, by omega⟩ (tt_ret ⟨(clp_id a1 a2).symm, f4⟩)
        · refine tt_ret ⟨?_, f4⟩
          show mo = clp _ 0 mo
          unfold clp; rw [if_neg (by omega), if_pos (by omega)]
        · refine tt_ret ⟨?_, f4⟩
          show 0 = clp _ 0 mo
          unfold clp; rw [if_pos (by omega)]
      · rw [if_neg h]
        refine tt_bi ?_
        have := ih F M2 (j + 1) (f1.tr f2) (by omega) (by omega) (by omega)
        rw [show 40 * p + (j + 1) = 40 * p + j + 1 by omega] at this
        exact this
  have q : Tt (f_X12_ruled M p mo wo) (fun r M2 => r = (match rul A e p with | some v => clp v 0 mo | none => wo) ∧ Fr ScT M M2) := by
    unfold f_X12_ruled
    refine tt_ok ⟨by omega, by omega⟩ (tt_bi ?_)
    have := main (A 362 p).toNat FU M 0 (Fr.rf _ _) (by omega) (by omega) (by unfold FU; omega)
    rw [show 40 * p + 0 = 40 * p by omega] at this
    exact this
  obtain ⟨r, M1, q1, rfl, q2⟩ := q
  exact ⟨M1, q1, q2⟩
theorem x_first {A B M : Mem} {e : Int → Int} (he : EnvOk e) (hE : EnvX M e) {a p wd wo : Int} (hka : kd a = 17) (hS : SA B M a) (hL : RulA A p) (hX : RulX A B a p wd) : ∃ M1, f_X7_firstSum M a wd wo = some ((match rul A e p with | some v => v | none => wo), M1) ∧ Fr ScR M M1 := by
  have hk := kd17 a hka
  have hw := hL.1
  obtain ⟨hsz, hlin⟩ := hX
  have main : ∀ (n : Nat) (F : Nat) (M1 : Mem) (i j : Int), Fr ScR M M1 → 0 ≤ i → i + n = B a 1 → 0 ≤ j → j ≤ A 362 p → LinX A B a p wd n i j → n < F → Tt (wl1 (b_X7_firstSum_3 a wd wo) F M1 i) (fun r M2 => r = (match rulN A e p (A 362 p - j).toNat j with | some v => v | none => wo) ∧ Fr ScR M M2) := by
    intro n
    induction n with
    | zero =>
      intro F M1 i j f1 hi hn hj hj2 hl hF2
      obtain ⟨F, rfl⟩ : ∃ G, F = G + 1 := ⟨F - 1, by omega⟩
      have hS1 := hS.r hka f1
      have ej : j = A 362 p := hl
      rw [wl1_s]
      unfold b_X7_firstSum_3
      rw [hS1 a 1 (by omega) (by omega)]
      refine tt_ip (by omega) (tt_ret ⟨?_, f1⟩)
      rw [ej, show (A 362 p - A 362 p).toNat = 0 by omega]; rfl
    | succ n ih =>
      intro F M1 i j f1 hi hn hj hj2 hl hF2
      obtain ⟨F, rfl⟩ : ∃ G, F = G + 1 := ⟨F - 1, by omega⟩
      have hS1 := hS.r hka f1
      rw [wl1_s]
      unfold b_X7_firstSum_3
      rw [hS1 a 1 (by omega) (by omega)]
      refine tt_in (by omega) (tt_ok ⟨by omega, by omega⟩ ?_)
      rw [hS1 (a + 4 + i) 0 (by omega) (by omega)]
      rcases hl with ⟨l1, l2, l3, l4, l5⟩ | ⟨l1, l5⟩
      · refine tt_ip l1 ?_
        rw [hS1 (a + 4 + i) 7 (by omega) (by omega), hS1 (a + 4 + i) 8 (by omega) (by omega)]
        obtain ⟨t1, t2⟩ := hL.2 j hj l2
        obtain ⟨M2, q2, f2⟩ := x_reckon he (hE.fr f1) hka hS1 t2 l4
        refine tt_cq q2 ?_
        have hB := val_B he t2
        have hS2 := hS1.r hka f2
        have en : (A 362 p - j).toNat = (A 362 p - (j + 1)).toNat + 1 := by omega
        rw [en]
        show Tt _ (fun r M2 => r = (match (if val e (cod A (A 364 (40 * p + j)) (A 365 (40 * p + j))) = 1 then some (val e (cod A (A 363 (40 * p + j)) (A 364 (40 * p + j)))) else rulN A e p (A 362 p - (j + 1)).toNat (j + 1)) with | some v => v | none => wo) ∧ Fr ScR M M2)
        refine tt_if (fun h => ?_) (fun h => ?_)
        · rw [if_neg (by omega)]
          exact tt_bi (ih F M2 (i + 1) (j + 1) (f1.tr f2) (by omega) (by omega) (by omega) (by omega) l5 (by omega))
        · rw [if_pos (by omega), hS2 (a + 4 + i) 6 (by omega) (by omega), hS2 (a + 4 + i) 7 (by omega) (by omega)]
          obtain ⟨M3, q3, f3⟩ := x_reckon he (hE.fr (f1.tr f2)) hka hS2 t1 l3
          exact tt_cq q3 (tt_ret ⟨rfl, (f1.tr f2).tr f3⟩)
      · refine tt_in l1 ?_
        exact tt_bi (ih F M1 (i + 1) j f1 (by omega) (by omega) hj hj2 l5 (by omega))
  have q : Tt (f_X7_firstSum M a wd wo) (fun r M2 => r = (match rul A e p with | some v => v | none => wo) ∧ Fr ScR M M2) := by
    unfold f_X7_firstSum
    have := main (B a 1).toNat FU M 0 0 (Fr.rf _ _) (by omega) (by omega) (by omega) (by omega) hlin (by unfold FU; omega)
    rw [show A 362 p - 0 = A 362 p by omega] at this
    exact this
  obtain ⟨r, M1, q1, rfl, q2⟩ := q
  exact ⟨M1, q1, q2⟩
theorem m_line {A M : Mem} {e : Int → Int} (he : EnvOk e) (hE : EnvM M e) (hF : Fr ScM A M) {k : Int} (hk : 0 ≤ k ∧ k < 3) (hL : RulA A (2 + k)) : ∃ M1, f_X12_lineOf M k = some (linV A e (2 + k), M1) ∧ Fr ScT M M1 := by
  obtain ⟨M1, q1, f1⟩ := m_ruled he hE hF (p := 2 + k) (by omega) hL (mo := 101) (wo := 101) (by omega)
  refine ⟨M1, ?_, f1⟩
  unfold f_X12_lineOf
  rw [ok_t ⟨by omega, by omega⟩, q1, cl_some]
  rfl
theorem x_line {A B M : Mem} {e : Int → Int} (he : EnvOk e) (hE : EnvX M e) {a p : Int} (hka : kd a = 17) (hS : SA B M a) (hL : RulA A p) (hX : RulX A B a p 6) : ∃ M1, f_X7_lineBy M a = some (linV A e p, M1) ∧ Fr ScR M M1 := by
  obtain ⟨M1, q1, f1⟩ := x_first he hE hka hS hL hX (wo := 101)
  refine ⟨M1, ?_, f1⟩
  unfold f_X7_lineBy
  rw [q1, cl_some, e_clamped _ _ _ _ (by decide), cl_some]
  unfold linV
  cases rul A e p with
  | none => rfl
  | some v => rfl
/-- he SAYS that he saw -/
def say (A : Mem) (e : Int → Int) (p : Int) : Int := bI (linV A e p ≤ crd A e p 1)
theorem m_says {A M : Mem} {e : Int → Int} (he : EnvOk e) (hE : EnvM M e) (hF : Fr ScM A M) {k : Int} (hk : 0 ≤ k ∧ k < 3) (hL : LawA A (2 + k)) (hR : RulA A (2 + k)) : ∃ M1, f_X12_isSaid M k = some (say A e (2 + k), M1) ∧ Fr ScT M M1 := by
  obtain ⟨M1, q1, f1⟩ := m_crd he hE hF hk hL 1
  obtain ⟨M2, q2, f2⟩ := m_line he (hE.fr f1) (hF.tr (f1.mono (fun _ _ => ScT_M))) hk hR
  refine ⟨M2, ?_, f1.tr f2⟩
  unfold f_X12_isSaid say
  rw [q1, cl_some, q2, cl_some]
  by_cases h : crd A e (2 + k) 1 < linV A e (2 + k)
  · rw [if_pos h, bI_f (by omega)]
  · rw [if_neg h, bI_t (by omega)]
theorem x_says {A B M : Mem} {e : Int → Int} (he : EnvOk e) (hE : EnvX M e) {a p : Int} (hka : kd a = 17) (hS : SA B M a) (hL : LawA A p) (hX : LawX A B a p) (hR : RulA A p) (hRX : RulX A B a p 6) : ∃ M1, f_X7_saysBy M a = some (say A e p, M1) ∧ Fr ScR M M1 := by
  obtain ⟨M1, q1, f1⟩ := x_crd he hE hka hS hL hX 1
  obtain ⟨M2, q2, f2⟩ := x_line he (hE.fr f1) hka (hS.r hka f1) hR hRX
  refine ⟨M2, ?_, f1.tr f2⟩
  unfold f_X7_saysBy say
  rw [q1, cl_some, q2, cl_some]
  by_cases h : crd A e p 1 < linV A e p
  · rw [if_pos h, bI_f (by omega)]
  · rw [if_neg h, bI_t (by omega)]
/-- a SHOWING as the SUMS see it -/
def env (g : Int → Int) (t s b : Int) : Int → Int := fun k => if k = 14 then s % 12 else if k = 15 then s / 12 else if k = 16 then b else if k = 0 then g s else if k = 17 then lit g s b else if k = 18 then t else 0
theorem env_ok {g : Int → Int} (hg : SgOk g) {t s b : Int} (ht : 0 ≤ t ∧ t ≤ 1000) (hs : 0 ≤ s ∧ s < 96) (hb : 0 ≤ b ∧ b ≤ 99) : EnvOk (env g t s b) := by
  intro k
  have h1 := hg s hs.1 hs.2
  have h2 := lit_rng hg hs hb
  unfold env
  split
  · omega
  · split
    · omega
    · split
      · omega
      · split
        · omega
        · split
          · omega
          · split <;> omega
def ScE (a i : Int) : Prop := a = 337 ∧ 68 ≤ i ∧ i ≤ 73
def ScF (a _i : Int) : Prop := a = 11 ∨ a = 19 ∨ a = 20
theorem m_shows {g : Int → Int} (hg : SgOk g) {M : Mem} (hM : ∀ s, 0 ≤ s → s < 96 → M 388 s = g s) {t s b : Int} (hs : 0 ≤ s ∧ s < 96) (hb : 0 ≤ b ∧ b ≤ 99) : ∃ M1, f_X12_shows M t s b = some (0, M1) ∧ EnvM M1 (env g t s b) ∧ Fr ScE M M1 := by
  have q : Tt (f_X12_shows M t s b) (fun r M1 => r = 0 ∧ EnvM M1 (env g t s b) ∧ Fr ScE M M1) := by
    unfold f_X12_shows
    refine tt_ok hs.1 (tt_bm (tt_bm (tt_bm (tt_ok hs (tt_bm ?_)))))
    rw [st_neA (by decide), st_neA (by decide), st_neA (by decide), hM s hs.1 hs.2]
    refine tt_cq (m_light hg (fun u u1 u2 => ?_) hs hb) (tt_bm (tt_bm (tt_ret ⟨rfl, ?_, ?_⟩)))
    · rw [st_neA (by decide), st_neA (by decide), st_neA (by decide), st_neA (by decide)]; exact hM u u1 u2
    · unfold EnvM
      refine ⟨?_, ?_, ?_, ?_, ?_, ?_⟩ <;> simp [st, env]
    · refine Fr.st (Fr.st (Fr.st (Fr.st (Fr.st (Fr.st (Fr.rf _ _) ?_) ?_) ?_) ?_) ?_) ?_ <;> exact ⟨rfl, by omega, by omega⟩
  obtain ⟨r, M1, q1, rfl, q2, q3⟩ := q
  exact ⟨M1, q1, q2, q3⟩
theorem x_shows {g : Int → Int} (hg : SgOk g) {M : Mem} (hM : ∀ s, 0 ≤ s → s < 96 → M 14 s = g s) (hL : Lcache g M) {t s b : Int} (hs : 0 ≤ s ∧ s < 96) (hb : 0 ≤ b ∧ b ≤ 99) : ∃ M1, f_X11_putShowing M t s b = some (0, M1) ∧ EnvX M1 (env g t s b) ∧ Fr ScF M M1 ∧ Lcache g M1 := by
  have q : Tt (f_X11_putShowing M t s b) (fun r M1 => r = 0 ∧ EnvX M1 (env g t s b) ∧ Fr ScF M M1 ∧ Lcache g M1) := by
    unfold f_X11_putShowing f_X6_putSquare
    refine tt_cl (tt_ok hs.1 (tt_bm (tt_bm (tt_ret (tt_ok hs (tt_bm (tt_bm ?_)))))))
    rw [st_neA (by decide), st_neA (by decide), hM s hs.1 hs.2]
    obtain ⟨M0, e0⟩ : ∃ M0, M0 = st (st (st (st M 11 14 (s % 12)) 11 15 (s / 12)) 11 0 (g s)) 11 16 b := ⟨_, rfl⟩
    rw [← e0]
    have f0 : ∀ a i, a ≠ 11 → M0 a i = M a i := by
      intro a i ha
      rw [e0, st_neA ha, st_neA ha, st_neA ha, st_neA ha]
    have L0 : Lcache g M0 := by
      intro u u1 u2
      rw [f0 20 u (by decide), f0 19 u (by decide)]
      exact hL u u1 u2
    obtain ⟨M1, q1, f1, L1⟩ := x_light hg (M := M0) (fun u u1 u2 => (f0 14 u (by decide)).trans (hM u u1 u2)) L0 hs hb
    have g1 : ∀ i, M1 11 i = M0 11 i := fun i => f1 11 i (by unfold ScL; omega)
    refine tt_cq q1 (tt_bm (tt_bm (tt_ret ⟨rfl, ?_, ?_, ?_⟩)))
    · unfold EnvX
      refine ⟨?_, ?_, ?_, ?_, ?_, ?_⟩ <;> simp [st, env, g1, e0]
    · intro a i ha
      have h11 : a ≠ 11 := fun q => ha (Or.inl q)
      rw [st_neA h11, st_neA h11, f1 a i (by unfold ScL; unfold ScF at ha; omega), f0 a i h11]
    · intro u u1 u2
      rw [st_neA (by decide), st_neA (by decide), st_neA (by decide), st_neA (by decide)]
      exact L1 u u1 u2
  obtain ⟨r, M1, q1, rfl, q2, q3, q4⟩ := q
  exact ⟨M1, q1, q2, q3, q4⟩
