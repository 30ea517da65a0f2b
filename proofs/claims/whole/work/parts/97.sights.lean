/-! SIGHT of each SQUARE, alike -/
def env0 (s : Int) : Int → Int := fun k => if k = 14 then s % 12 else if k = 15 then s / 12 else 0
theorem env0_ok {s : Int} (h : isQ s) : EnvOk (env0 s) := by
  intro k
  obtain ⟨h0, h1⟩ := h
  unfold env0
  split
  · omega
  · split <;> omega
def sgv (A : Mem) (d s : Int) : Int := if s = d then 0 else (match rul A (env0 s) 1 with | some v => clp v 0 9 | none => 0)
theorem sgv_rng (A : Mem) (d s : Int) : 0 ≤ sgv A d s ∧ sgv A d s ≤ 9 := by
  unfold sgv
  split
  · decide
  · split
    · exact clp_rng (by decide)
    · decide
theorem rulN_ext {A A1 : Mem} {e : Int → Int} {p : Int} (hA : PlA A A1 p) (hR : RulA A p) : ∀ (n : Nat) (j : Int), 0 ≤ j → j + n ≤ A 362 p → rulN A1 e p n j = rulN A e p n j
  | 0, _, _, _ => rfl
  | n + 1, j, j0, h => by
    obtain ⟨a1, a2, a3, a4, a5⟩ := hA
    obtain ⟨⟨r1, r2⟩, r3⟩ := id hR
    obtain ⟨s1, s2⟩ := r3 j j0 (by omega)
    have c1 := (SegT.ext (A1 := A1) a1 s1).2
    have c2 := (SegT.ext (A1 := A1) a1 s2).2
    show (if val e (cod A1 (A1 364 (40 * p + j)) (A1 365 (40 * p + j))) = 1 then some (val e (cod A1 (A1 363 (40 * p + j)) (A1 364 (40 * p + j)))) else rulN A1 e p n (j + 1)) = (if val e (cod A (A 364 (40 * p + j)) (A 365 (40 * p + j))) = 1 then some (val e (cod A (A 363 (40 * p + j)) (A 364 (40 * p + j)))) else rulN A e p n (j + 1))
    rw [a4 363 _ (by decide) (by decide) (by omega) (by omega), a4 364 _ (by decide) (by decide) (by omega) (by omega), a4 365 _ (by decide) (by decide) (by omega) (by omega), c1, c2, rulN_ext ⟨a1, a2, a3, a4, a5⟩ hR n (j + 1) (by omega) (by omega)]
theorem rul_ext {A A1 : Mem} {e : Int → Int} {p : Int} (hA : PlA A A1 p) (hR : RulA A p) : rul A1 e p = rul A e p := by
  unfold rul
  rw [hA.2.1]
  have := hR.1
  exact rulN_ext hA hR _ 0 (by decide) (by omega)
def ScSx (a i : Int) : Prop := a = 11 ∨ a = 12 ∨ (a = 14 ∧ 0 ≤ i ∧ i < 96) ∨ (a = 15 ∧ 0 ≤ i ∧ i < 96) ∨ (a = 20 ∧ 0 ≤ i ∧ i < 96) ∨ (a = 13 ∧ i = 10)
def ScSm (a i : Int) : Prop := (a = 337 ∧ ((67 ≤ i ∧ i ≤ 73))) ∨ a = 387 ∨ (a = 388 ∧ 0 ≤ i ∧ i < 96)
theorem x_sqr (M : Mem) {s : Int} (hs : isQ s) : f_X6_putSquare M s = some (0, st (st M 11 14 (s % 12)) 11 15 (s / 12)) := by
  unfold f_X6_putSquare
  rw [ok_t hs.1, bm_e, bm_e]
theorem x_noth (M : Mem) : ∃ M1, f_X6_putNothing M = some (0, M1) ∧ (∀ k, 0 ≤ k → k < 21 → M1 11 k = 0) ∧ ∀ a i, a ≠ 11 → M1 a i = M a i := by
  have key : Tt (f_X6_putNothing M) (fun r M1 => r = 0 ∧ (∀ k, 0 ≤ k → k < 21 → M1 11 k = 0) ∧ ∀ a i, a ≠ 11 → M1 a i = M a i) := by
    unfold f_X6_putNothing
    refine tt_wl1 (fun M1 x => 0 ≤ x ∧ x ≤ 21 ∧ (∀ k, 0 ≤ k → k < x → M1 11 k = 0) ∧ ∀ a i, a ≠ 11 → M1 a i = M a i) (fun _ x => (21 - x).toNat) ?_ FU M 0 ⟨by decide, by decide, fun k _ _ => by omega, fun _ _ _ => rfl⟩ (by have : FU = 1000000000 := rfl; omega)
    rintro w M1 x ⟨x0, x1, h1, h2⟩ K
    unfold b_X6_putNothing_2
    refine tt_if (fun c => tt_ret ⟨rfl, fun k k0 k1 => h1 k k0 (by omega), h2⟩) (fun c => ?_)
    refine tt_ok ⟨by omega, by omega⟩ (tt_bm (tt_bi (K _ _ ⟨by omega, by omega, fun k k0 k1 => ?_, fun a i ha => by rw [st_neA ha]; exact h2 a i ha⟩ (by omega))))
    by_cases e : k = x
    · rw [e, st_at]
    · rw [st_neI e]; exact h1 k k0 (by omega)
  obtain ⟨r, M1, e, rfl, q⟩ := key
  exact ⟨M1, e, q⟩
theorem x_discOf {M : Mem} {a : Int} {k : Nat} (h1 : M a 1 = k ∧ k ≤ 40) (hd : dscR M a k) : f_X3_discOf M a = some (dscN M a k, M) := by
  have key : Tt (f_X3_discOf M a) (fun r M1 => r = dscN M a k ∧ M1 = M) := by
    unfold f_X3_discOf
    refine tt_wl2 (fun M1 x j => M = M1 ∧ 0 ≤ j ∧ j ≤ k ∧ x = dscN M a j.toNat) (fun _ _ j => (k - j).toNat) ?_ FU M 95 0 ⟨rfl, by decide, by omega, rfl⟩ (by have : FU = 1000000000 := rfl; omega)
    rintro w M1 x j ⟨rfl, j0, j1, rfl⟩ K
    unfold b_X3_discOf_5
    rw [h1.1]
    have en : (j + 1).toNat = j.toNat + 1 := by omega
    have ej : ((j.toNat : Nat) : Int) = j := by omega
    have es : dscN M a (j + 1).toNat = if M (a + 4 + j) 0 = 1 then 12 * M (a + 4 + j) 4 + M (a + 4 + j) 3 else dscN M a j.toNat := by
      rw [en]
      show (if M (a + 4 + ((j.toNat : Nat) : Int)) 0 = 1 then _ else _) = _
      rw [ej]
    refine tt_if (fun c => ?_) (fun c => ?_)
    · have : j = k := by omega
      subst this
      exact tt_ret ⟨rfl, rfl⟩
    · refine tt_ok ⟨by omega, by omega⟩ (tt_if (fun c2 => ?_) (fun c2 => ?_))
      · obtain ⟨⟨z0, z1⟩, z2, z3⟩ := hd j j0 (by omega) c2
        refine tt_cq (xx_sqAt M ⟨⟨by omega, by omega⟩, by omega, by omega⟩) (tt_bi (K _ _ _ ⟨rfl, by omega, by omega, ?_⟩ (by omega)))
        rw [es, if_pos c2]
      · refine tt_bi (K _ _ _ ⟨rfl, by omega, by omega, ?_⟩ (by omega))
        rw [es, if_neg c2]
  obtain ⟨r, M1, e, rfl, rfl⟩ := key
  exact e
section SG
variable {A B : Mem} {d a : Int}
/-- the class: up to the PIECES -/
def SGx (A : Mem) (d a : Int) (X0 M : Mem) (x : Int) : Prop := (∀ t, 0 ≤ t → t < x → M 14 t = sgv A d t ∧ M 15 t = -1 ∧ M 20 t = 0) ∧ M 13 10 = cnt (sgv A d) x.toNat ∧ M 13 11 = d ∧ (M 11 16 = 0 ∧ M 11 0 = 0 ∧ M 11 17 = 0 ∧ M 11 18 = 0) ∧ Fr ScSx X0 M
theorem x_sights {X0 M : Mem} (hka : kd a = 17) (hL : RulA A 1) (hX : RulX A X0 a 1 0) (h : SGx A d a X0 M 0) : ∃ M1, wl1 (b_X3_build_19 a) FU M 0 = cl (f_X3_partPieces M1) (fun _ M10 => some (0, M10)) ∧ SGx A d a X0 M1 96 := by
  have ks := kd17 a hka
  have key : ∀ (n F : Nat) (M : Mem) (x : Int), 96 - x = n → 0 ≤ x → SGx A d a X0 M x → n < F → ∃ M1, wl1 (b_X3_build_19 a) F M x = cl (f_X3_partPieces M1) (fun _ M10 => some (0, M10)) ∧ SGx A d a X0 M1 96 := by
    intro n
    induction n with
    | zero =>
      intro F M x hx x0 h hF
      obtain ⟨G, rfl⟩ : ∃ G, F = G + 1 := ⟨F - 1, by omega⟩
      have e : x = 96 := by omega
      subst e
      refine ⟨M, ?_, h⟩
      rw [wl1_s]
      unfold b_X3_build_19
      rw [if_pos (by decide)]
    | succ n ih =>
      intro F M x hx x0 h hF
      obtain ⟨G, rfl⟩ : ∃ G, F = G + 1 := ⟨F - 1, by omega⟩
      have qx : isQ x := ⟨x0, by omega⟩
      have o96 : 0 ≤ x ∧ x < 96 := ⟨x0, by omega⟩
      obtain ⟨h1, h2, h3, ⟨h4, h5, h6, h7⟩, h8⟩ := h
      rw [wl1_s]
      show ∃ M1, b_X3_build_19 a (wl1 (b_X3_build_19 a) G) M x = _ ∧ _
      have ih' := fun M' (h' : SGx A d a X0 M' (x + 1)) => ih G M' (x + 1) (by omega) (by omega) h' (by omega)
      generalize wl1 (b_X3_build_19 a) G = w at ih' ⊢
      have rc := cnt_rng (sgv A d) x.toNat
      have n96 : ¬ 96 ≤ x := by omega
      unfold b_X3_build_19
      rw [if_neg n96, x_sqr M qx, cl_some]
      have nx : ∀ (M2 : Mem) (v : Int), v = sgv A d x → (∀ b i, b ≠ 11 → b ≠ 12 → M2 b i = M b i) → (M2 11 16 = 0 ∧ M2 11 0 = 0 ∧ M2 11 17 = 0 ∧ M2 11 18 = 0) → ∃ M1, j_X3_build_60 a w M2 x v x = cl (f_X3_partPieces M1) (fun _ M10 => some (0, M10)) ∧ SGx A d a X0 M1 96 := by
        intro M2 v hv ho h11
        have g2 := sgv_rng A d x
        have en : (x + 1).toNat = x.toNat + 1 := by omega
        have ex : ((x.toNat : Nat) : Int) = x := by omega
        have ec : cnt (sgv A d) (x + 1).toNat = cnt (sgv A d) x.toNat + (if 0 < v then 1 else 0) := by
          rw [en, hv]
          show cnt (sgv A d) x.toNat + (if 0 < sgv A d ((x.toNat : Nat) : Int) then 1 else 0) = _
          rw [ex]
        have go : ∀ s0 : Int, s0 = (if 0 < v then 1 else 0) → ∃ M1, j_X3_build_80 a w (st M2 14 x v) x s0 (st M2 14 x v 13 10) = cl (f_X3_partPieces M1) (fun _ M10 => some (0, M10)) ∧ SGx A d a X0 M1 96 := by
          intro s0 hs0
          have hs1 : 0 ≤ s0 ∧ s0 ≤ 1 := by rw [hs0]; split <;> decide
          unfold j_X3_build_80
          rw [st_neA (show (13 : Int) ≠ 14 by decide), ho 13 10 (by decide) (by decide), h2, ok_t ⟨by omega, by omega⟩, bm_e, ok_t o96, bm_e, bm_e]
          refine ih' _ ⟨fun t t0 t1 => ?_, ?_, ?_, ?_, ?_⟩
          · by_cases e : t = x
            · rw [e, st_neA (by decide), st_neA (by decide), st_neA (by decide), st_at, st_at, st_neA (by decide), st_at]
              exact ⟨hv, rfl, rfl⟩
            · rw [st_neA (by decide), st_neA (by decide), st_neA (by decide), st_neI e, st_neI e, st_neA (by decide), st_neA (by decide), st_neA (by decide), st_neA (by decide), st_neI e, st_neA (by decide), st_neA (by decide), ho 14 t (by decide) (by decide), ho 15 t (by decide) (by decide), ho 20 t (by decide) (by decide)]
              exact h1 t t0 (by omega)
          · rw [st_neA (by decide), st_neA (by decide), st_at, ec, hs0]
          · rw [st_neA (by decide), st_neA (by decide), st_neI (by decide), st_neA (by decide), ho 13 11 (by decide) (by decide)]; exact h3
          · have e11 : ∀ i, st (st (st (st M2 14 x v) 13 10 (cnt (sgv A d) x.toNat + s0)) 20 x 0) 15 x (-1) 11 i = M2 11 i := fun i => by
              rw [st_neA (by decide), st_neA (by decide), st_neA (by decide), st_neA (by decide)]
            rw [e11, e11, e11, e11]; exact h11
          · have f2 : Fr ScSx X0 M2 := by
              intro b i hn
              rw [ho b i (fun z => hn (by unfold ScSx; omega)) (fun z => hn (by unfold ScSx; omega))]
              exact h8 b i hn
            exact Fr.st (Fr.st (Fr.st (Fr.st f2 (by unfold ScSx; omega)) (by unfold ScSx; omega)) (by unfold ScSx; omega)) (by unfold ScSx; omega)
        unfold j_X3_build_60
        rw [ok_t o96, bm_e, ok_t o96, st_at]
        by_cases c : v ≤ 0
        · rw [if_pos c]; exact go 0 (by rw [if_neg (by omega)])
        · rw [if_neg c]; exact go 1 (by rw [if_pos (by omega)])
      have h3' : st (st M 11 14 (x % 12)) 11 15 (x / 12) 13 11 = d := by rw [st_neA (by decide), st_neA (by decide)]; exact h3
      have g11 : ∀ i, i ≠ 14 → i ≠ 15 → st (st M 11 14 (x % 12)) 11 15 (x / 12) 11 i = M 11 i := fun i i0 i1 => by rw [st_neI i1, st_neI i0]
      rw [h3']
      by_cases c : x = d
      · rw [if_pos c]
        refine nx _ 0 (by unfold sgv; rw [if_pos c]) (fun b i b1 b2 => by rw [st_neA b1, st_neA b1]) ?_
        rw [g11 16 (by decide) (by decide), g11 0 (by decide) (by decide), g11 17 (by decide) (by decide), g11 18 (by decide) (by decide)]
        exact ⟨h4, h5, h6, h7⟩
      · rw [if_neg c]
        have hS : SA X0 (st (st M 11 14 (x % 12)) 11 15 (x / 12)) a := by
          intro b i b0 b1
          rw [st_neA (by omega), st_neA (by omega)]
          exact h8 b i (by unfold ScSx; omega)
        have hE : EnvX (st (st M 11 14 (x % 12)) 11 15 (x / 12)) (env0 x) := by
          refine ⟨?_, ?_, ?_, ?_, ?_, ?_⟩
          · rw [st_neI (by decide), st_at]; rfl
          · rw [st_at]; rfl
          · rw [g11 16 (by decide) (by decide)]; exact h4
          · rw [g11 0 (by decide) (by decide)]; exact h5
          · rw [g11 17 (by decide) (by decide)]; exact h6
          · rw [g11 18 (by decide) (by decide)]; exact h7
        obtain ⟨M3, e3, f3⟩ := x_first (wo := 0) (env0_ok qx) hE hka hS hL hX
        rw [e3, cl_some, e_clamped _ _ _ _ (by decide), cl_some]
        refine nx M3 _ ?_ (fun b i b1 b2 => by rw [f3 b i (by unfold ScR; omega), st_neA b1, st_neA b1]) ?_
        · unfold sgv
          rw [if_neg c]
          cases rul A (env0 x) 1 with
          | none => decide
          | some v => rfl
        · rw [f3 11 16 (by unfold ScR; omega), f3 11 0 (by unfold ScR; omega), f3 11 17 (by unfold ScR; omega), f3 11 18 (by unfold ScR; omega), g11 16 (by decide) (by decide), g11 0 (by decide) (by decide), g11 17 (by decide) (by decide), g11 18 (by decide) (by decide)]
          exact ⟨h4, h5, h6, h7⟩
  exact key 96 FU M 0 (by decide) (by decide) h (by have : FU = 1000000000 := rfl; omega)
/-- the reference: up to the PIECES -/
def SGm (A : Mem) (d : Int) (M0 M : Mem) (x : Int) : Prop := (∀ t, 0 ≤ t → t < x → M 388 t = sgv A d t) ∧ (M 337 70 = 0 ∧ M 337 71 = 0 ∧ M 337 72 = 0 ∧ M 337 73 = 0) ∧ Fr ScSm M0 M
theorem m_sights {M0 M : Mem} (hL : RulA A 1) (hA : PlA A M0 1) (hd : M0 375 1 = d) (h : SGm A d M0 M 0) : ∃ M1, wl1 (b_X12_tellsSight_22) FU M 0 = cl (f_X12_tellsPieces M1) (fun _ M8 => some (0, M8)) ∧ SGm A d M0 M1 96 := by
  have key : ∀ (n F : Nat) (M : Mem) (x : Int), 96 - x = n → 0 ≤ x → SGm A d M0 M x → n < F → ∃ M1, wl1 (b_X12_tellsSight_22) F M x = cl (f_X12_tellsPieces M1) (fun _ M8 => some (0, M8)) ∧ SGm A d M0 M1 96 := by
    intro n
    induction n with
    | zero =>
      intro F M x hx x0 h hF
      obtain ⟨G, rfl⟩ : ∃ G, F = G + 1 := ⟨F - 1, by omega⟩
      have e : x = 96 := by omega
      subst e
      refine ⟨M, ?_, h⟩
      rw [wl1_s]
      unfold b_X12_tellsSight_22
      rw [if_pos (by decide)]
    | succ n ih =>
      intro F M x hx x0 h hF
      obtain ⟨G, rfl⟩ : ∃ G, F = G + 1 := ⟨F - 1, by omega⟩
      have qx : isQ x := ⟨x0, by omega⟩
      obtain ⟨h1, ⟨h4, h5, h6, h7⟩, h8⟩ := h
      rw [wl1_s]
      show ∃ M1, b_X12_tellsSight_22 (wl1 (b_X12_tellsSight_22) G) M x = _ ∧ _
      have ih' := fun M' (h' : SGm A d M0 M' (x + 1)) => ih G M' (x + 1) (by omega) (by omega) h' (by omega)
      generalize wl1 (b_X12_tellsSight_22) G = w at ih' ⊢
      have n96 : ¬ 96 ≤ x := by omega
      unfold b_X12_tellsSight_22
      rw [if_neg n96, ok_t x0, bm_e, bm_e]
      obtain ⟨M2, hM2⟩ : ∃ M2, M2 = st (st M 337 68 (x % 12)) 337 69 (x / 12) := ⟨_, rfl⟩
      rw [← hM2]
      have v2 : ∀ b i, ¬ (b = 337 ∧ (i = 68 ∨ i = 69)) → M2 b i = M b i := fun b i hn => by rw [hM2, st_ne (by omega), st_ne (by omega)]
      have f2 : Fr ScSm M0 M2 := by rw [hM2]; exact Fr.st (Fr.st h8 (by unfold ScSm; omega)) (by unfold ScSm; omega)
      have nx : ∀ (M3 : Mem) (v : Int), v = sgv A d x → (∀ b i, ¬ ScT b i → M3 b i = M2 b i) → ∃ M1, w (st M3 388 x v) (x + 1) = cl (f_X12_tellsPieces M1) (fun _ M8 => some (0, M8)) ∧ SGm A d M0 M1 96 := by
        intro M3 v hv ho
        refine ih' _ ⟨fun t t0 t1 => ?_, ⟨?_, ?_, ?_, ?_⟩, ?_⟩
        · by_cases e : t = x
          · rw [e, st_at]; exact hv
          · rw [st_neI e, ho 388 t (by unfold ScT; omega), v2 _ _ (by omega)]; exact h1 t t0 (by omega)
        · rw [st_neA (by decide), ho _ _ (by unfold ScT; omega), v2 _ _ (by omega)]; exact h4
        · rw [st_neA (by decide), ho _ _ (by unfold ScT; omega), v2 _ _ (by omega)]; exact h5
        · rw [st_neA (by decide), ho _ _ (by unfold ScT; omega), v2 _ _ (by omega)]; exact h6
        · rw [st_neA (by decide), ho _ _ (by unfold ScT; omega), v2 _ _ (by omega)]; exact h7
        · have f3 : Fr ScSm M0 M3 := by
            intro b i hn
            rw [ho b i (fun z => hn (by unfold ScT at z; unfold ScSm; omega))]
            exact f2 b i hn
          exact Fr.st f3 (by unfold ScSm; omega)
      have h375 : M2 375 1 = d := (f2 375 1 (by unfold ScSm; omega)).trans hd
      rw [h375]
      by_cases c : x = d
      · rw [if_pos c, bm_e, ok_t ⟨by omega, by omega⟩]
        exact nx M2 0 (by unfold sgv; rw [if_pos c]) (fun b i _ => rfl)
      · rw [if_neg c]
        have hE : EnvM M2 (env0 x) := by
          refine ⟨?_, ?_, ?_, ?_, ?_, ?_⟩
          · rw [hM2, st_neI (by decide), st_at]; rfl
          · rw [hM2, st_at]; rfl
          · rw [v2 _ _ (by omega)]; exact h4
          · rw [v2 _ _ (by omega)]; exact h5
          · rw [v2 _ _ (by omega)]; exact h6
          · rw [v2 _ _ (by omega)]; exact h7
        have hP : PlA A M2 1 := by
          obtain ⟨a1, a2, a3, a4, a5⟩ := hA
          refine ⟨fun j j0 j1 => ?_, ?_, ?_, fun c j c0 c1 j0 j1 => ?_, fun c j c0 c1 j0 j1 => ?_⟩
          · rw [f2 360 j (by unfold ScSm; omega)]; exact a1 j j0 j1
          · rw [f2 362 1 (by unfold ScSm; omega)]; exact a2
          · rw [f2 366 1 (by unfold ScSm; omega)]; exact a3
          · rw [f2 c j (by unfold ScSm; omega)]; exact a4 c j c0 c1 j0 j1
          · rw [f2 c j (by unfold ScSm; omega)]; exact a5 c j c0 c1 j0 j1
        obtain ⟨M3, e3, f3⟩ := m_ruled (A := M2) (env0_ok qx) hE (Fr.rf _ _) (p := 1) (by decide) (hL.ext hP) (mo := 9) (wo := 0) (by decide)
        rw [e3, cl_some, bm_e, ok_t ⟨by omega, by omega⟩]
        refine nx M3 _ ?_ (fun b i hn => f3 b i hn)
        unfold sgv
        rw [if_neg c, rul_ext hP hL]
        cases rul A (env0 x) 1 <;> rfl
  exact key 96 FU M 0 (by decide) (by decide) h (by have : FU = 1000000000 := rfl; omega)
end SG
