/-! LAWS: what a WAY CARRIES, KNOWN, the LINE: alike -/
def ScM (a i : Int) : Prop := a = 361 ∨ (383 ≤ a ∧ a ≤ 385) ∨ a = 387 ∨ a = 401 ∨ a = 402 ∨ a = 404 ∨ a = 405 ∨ (a = 337 ∧ ((2 ≤ i ∧ i ≤ 6) ∨ i = 30 ∨ i = 32 ∨ (34 ≤ i ∧ i ≤ 36) ∨ i = 51 ∨ i = 52 ∨ i = 64 ∨ (67 ≤ i ∧ i ≤ 73))) ∨ (a = 360 ∧ i < 900) ∨ ((a = 362 ∨ a = 366 ∨ a = 372 ∨ a = 375 ∨ a = 376) ∧ i = 0) ∨ (363 ≤ a ∧ a ≤ 365 ∧ i < 40) ∨ (((367 ≤ a ∧ a ≤ 371) ∨ a = 373 ∨ a = 374) ∧ i < 5) ∨ (((377 ≤ a ∧ a ≤ 379) ∨ a = 382) ∧ i < 80)
def ScX (sp a i : Int) : Prop := (sp ≤ a ∧ a ≤ sp + 43) ∨ (7 ≤ a ∧ a ≤ 9) ∨ a = 11 ∨ a = 12 ∨ (18 ≤ a ∧ a ≤ 20) ∨ (65 ≤ a ∧ a ≤ 67) ∨ a = 203 ∨ a = 204 ∨ (a = 5 ∧ i = 5) ∨ (a = 4 ∧ (i = 1 ∨ i = 2 ∨ i = 3 ∨ (6 ≤ i ∧ i ≤ 10))) ∨ (a = 13 ∧ i = 7)
theorem kd17 : ∀ a, kd a = 17 → a = 69 ∨ a = 113 ∨ a = 157 ∨ a = 205 ∨ a = 249 ∨ a = 293 := kd_all 17 (by decide) (by decide +kernel)
/-- a SCRIPT's cells are as they were -/
def SA (B M : Mem) (a : Int) : Prop := ∀ c i, a ≤ c → c ≤ a + 43 → M c i = B c i
theorem SA.of {B M : Mem} {a sp : Int} (h : Fr (ScX sp) B M) (ha : kd a = 17) (hs : kd sp = 17) (hn : a ≠ sp) : SA B M a := by
  intro c i h1 h2
  have q1 := kd17 a ha
  have q2 := kd17 sp hs
  exact h c i (by unfold ScX; omega)
theorem SA.tr {B M M1 : Mem} {a : Int} (h : SA B M a) (hf : ∀ c i, a ≤ c → c ≤ a + 43 → M1 c i = M c i) : SA B M1 a := fun c i h1 h2 => (hf c i h1 h2).trans (h c i h1 h2)
def cod (A : Mem) (i j : Int) : List Int := (List.range (j - i).toNat).map (fun n : Nat => A 360 (i + (n : Int)))
theorem cod_len (A : Mem) {i j : Int} (h : i ≤ j) : ((cod A i j).length : Int) = j - i := by unfold cod; simp; omega
theorem seg_map {M : Mem} {a : Int} (f : Nat → Int) : ∀ (n : Nat) (i : Int), (∀ k : Nat, k < n → M a (i + k) = f k) → Seg M a i ((List.range n).map f)
  | 0, _, _ => trivial
  | n + 1, i, h => by
    rw [List.range_succ, List.map_append]
    rw [Seg.app]
    refine ⟨seg_map f n i (fun k hk => h k (by omega)), ?_, trivial⟩
    have := h n (by omega)
    simpa using this
theorem cod_seg {A M : Mem} {i j : Int} (h : ∀ k, i ≤ k → k < j → M 360 k = A 360 k) : Seg M 360 i (cod A i j) := by
  unfold cod
  exact seg_map (fun n : Nat => A 360 (i + (n : Int))) _ i (fun k hk => h _ (by omega) (by omega))
def SegT (A : Mem) (p i j : Int) (t : Bool) : Prop := 900 * p ≤ i ∧ i ≤ j ∧ j ≤ 900 * p + 900 ∧ trn (cod A i j) [] = some [t]
def SegX (A B : Mem) (ca x y i j : Int) : Prop := 0 ≤ x ∧ y ≤ 900 ∧ y - x = j - i ∧ Seg B ca x ((cod A i j).map mk)
theorem m_tells {A M : Mem} {e : Int → Int} (he : EnvOk e) (hE : EnvM M e) (hF : Fr ScM A M) {p i j : Int} (hp : 1 ≤ p ∧ p ≤ 5) {t : Bool} (h : SegT A p i j t) : ∃ M1, f_X12_tells M i j = some (val e (cod A i j), M1) ∧ Fr ScT M M1 :=
  e_tells he hE h.2.2.2 (cod_seg (fun k h1 _ => hF 360 k (by unfold ScM; have := h.1; omega))) (by have := h.1; omega) (by rw [cod_len A h.2.1]; omega) (by have := h.2.2.1; omega)
theorem x_reckon {A B M : Mem} {e : Int → Int} (he : EnvOk e) (hE : EnvX M e) {a : Int} (hka : kd a = 17) (hS : SA B M a) {x y p i j : Int} {t : Bool} (h : SegT A p i j t) (hX : SegX A B (a + 3) x y i j) : ∃ M1, f_X6_reckon M (a + 3) x y = some (val e (cod A i j), M1) ∧ Fr ScR M M1 := by
  have hk := kd17 a hka
  refine e_reckon he hE h.2.2.2 (by omega) (Seg.fr (fun k => hS (a + 3) k (by omega) (by omega)) hX.2.2.2) hX.1 ?_ hX.2.1
  rw [cod_len A h.2.1]; have := hX.2.2.1; omega
theorem ScT_M {a i : Int} (h : ScT a i) : ScM a i := by
  unfold ScT at h; unfold ScM; omega
theorem SA.r {B M M1 : Mem} {a : Int} (hka : kd a = 17) (h : SA B M a) (hf : Fr ScR M M1) : SA B M1 a := by
  have hk := kd17 a hka
  exact h.tr (fun c i h1 h2 => hf c i (by unfold ScR; omega))
theorem val_N {e : Int → Int} (he : EnvOk e) {A : Mem} {p i j : Int} (h : SegT A p i j false) : -1000000 ≤ val e (cod A i j) ∧ val e (cod A i j) ≤ 1000000 := by simpa using (val_of he h.2.2.2).2
theorem val_B {e : Int → Int} (he : EnvOk e) {A : Mem} {p i j : Int} (h : SegT A p i j true) : val e (cod A i j) = 0 ∨ val e (cod A i j) = 1 := by simpa using (val_of he h.2.2.2).2
/-- a LAW in the reference's cells -/
def LawA (A : Mem) (p : Int) : Prop :=
  (0 ≤ A 366 p ∧ A 366 p ≤ 5) ∧ (∀ j, 0 ≤ j → j < A 366 p → (A 368 (5 * p + j) = 0 ∨ A 368 (5 * p + j) = 1) ∧ SegT A p (A 369 (5 * p + j)) (A 370 (5 * p + j)) false ∧ SegT A p (A 370 (5 * p + j)) (A 371 (5 * p + j)) true)
def RulA (A : Mem) (p : Int) : Prop := (0 ≤ A 362 p ∧ A 362 p ≤ 40) ∧ ∀ j, 0 ≤ j → j < A 362 p → SegT A p (A 363 (40 * p + j)) (A 364 (40 * p + j)) false ∧ SegT A p (A 364 (40 * p + j)) (A 365 (40 * p + j)) true
def NR (m c : Int) : Prop := ∃ n : Nat, 1 ≤ n ∧ n ≤ 6 ∧ c = m * 27 ^ (6 - n) ∧ 27 ^ (n - 1) ≤ m ∧ m < 27 ^ n ∧ m % 27 ≠ 0
def WayX (A B : Mem) (a p j : Int) : Prop := (0 ≤ B (a + 2) j ∧ B (a + 2) j < 40) ∧ B (a + 4 + B (a + 2) j) 5 = A 368 (5 * p + j) ∧ NR (A 367 (5 * p + j)) (B (a + 4 + B (a + 2) j) 1) ∧ SegX A B (a + 3) (B (a + 4 + B (a + 2) j) 6) (B (a + 4 + B (a + 2) j) 7) (A 369 (5 * p + j)) (A 370 (5 * p + j)) ∧ SegX A B (a + 3) (B (a + 4 + B (a + 2) j) 7) (B (a + 4 + B (a + 2) j) 8) (A 370 (5 * p + j)) (A 371 (5 * p + j))
def LawX (A B : Mem) (a p : Int) : Prop := B a 3 = A 366 p ∧ ∀ j, 0 ≤ j → j < A 366 p → WayX A B a p j
def LinX (A B : Mem) (a p wd : Int) : Nat → Int → Int → Prop
  | 0, _, j => j = A 362 p
  | n + 1, i, j => (B (a + 4 + i) 0 = wd ∧ j < A 362 p ∧ SegX A B (a + 3) (B (a + 4 + i) 6) (B (a + 4 + i) 7) (A 363 (40 * p + j)) (A 364 (40 * p + j)) ∧ SegX A B (a + 3) (B (a + 4 + i) 7) (B (a + 4 + i) 8) (A 364 (40 * p + j)) (A 365 (40 * p + j)) ∧ LinX A B a p wd n (i + 1) (j + 1)) ∨ (B (a + 4 + i) 0 ≠ wd ∧ LinX A B a p wd n (i + 1) j)
def RulX (A B : Mem) (a p wd : Int) : Prop := (0 ≤ B a 1 ∧ B a 1 ≤ 40) ∧ LinX A B a p wd (B a 1).toNat 0 0
/-- what WAY j CARRIES -/
def wayV (A : Mem) (e : Int → Int) (p j : Int) : Int := if e 16 = 0 then 0 else if val e (cod A (A 370 (5 * p + j)) (A 371 (5 * p + j))) = 1 then clp (val e (cod A (A 369 (5 * p + j)) (A 370 (5 * p + j)))) 0 100 else 0
theorem wayV_rng (A : Mem) (e : Int → Int) (p j : Int) : 0 ≤ wayV A e p j ∧ wayV A e p j ≤ 100 := by
  unfold wayV
  split
  · omega
  · split
    · exact clp_rng (by decide)
    · omega
def crdN (A : Mem) (e : Int → Int) (p : Int) (kn : Int) : Nat → Int
  | 0 => 0
  | n + 1 => max (crdN A e p kn n) (if kn ≠ 0 ∧ A 368 (5 * p + n) = 0 then 0 else wayV A e p n)
/-- CARRIED (kn 0), KNOWN (kn 1) -/
def crd (A : Mem) (e : Int → Int) (p : Int) (kn : Int) : Int := crdN A e p kn (A 366 p).toNat
theorem crdN_rng (A : Mem) (e : Int → Int) (p kn : Int) : ∀ n, 0 ≤ crdN A e p kn n ∧ crdN A e p kn n ≤ 100
  | 0 => ⟨Int.le_refl 0, show (0 : Int) ≤ 100 by decide⟩
  | n + 1 => by
    have h1 := crdN_rng A e p kn n
    have h2 := wayV_rng A e p n
    show 0 ≤ max _ _ ∧ max _ _ ≤ 100
    split <;> omega
theorem crd_rng (A : Mem) (e : Int → Int) (p kn : Int) : 0 ≤ crd A e p kn ∧ crd A e p kn ≤ 100 := crdN_rng A e p kn _
def rulN (A : Mem) (e : Int → Int) (p : Int) : Nat → Int → Option Int
  | 0, _ => none
  | n + 1, j => if val e (cod A (A 364 (40 * p + j)) (A 365 (40 * p + j))) = 1 then some (val e (cod A (A 363 (40 * p + j)) (A 364 (40 * p + j)))) else rulN A e p n (j + 1)
def rul (A : Mem) (e : Int → Int) (p : Int) : Option Int := rulN A e p (A 362 p).toNat 0
def linV (A : Mem) (e : Int → Int) (p : Int) : Int := match rul A e p with
  | some v => clp v 0 101
  | none => 101
theorem linV_rng (A : Mem) (e : Int → Int) (p : Int) : 0 ≤ linV A e p ∧ linV A e p ≤ 101 := by
  unfold linV
  split
  · exact clp_rng (by decide)
  · omega
theorem m_way {A M : Mem} {e : Int → Int} (he : EnvOk e) (hE : EnvM M e) (hF : Fr ScM A M) {k j : Int} (hk : 0 ≤ k ∧ k < 3) (hL : LawA A (2 + k)) (hj : 0 ≤ j ∧ j < A 366 (2 + k)) : ∃ M1, f_X12_carriedBy M k j = some (wayV A e (2 + k) j, M1) ∧ Fr ScT M M1 := by
  obtain ⟨hw, hall⟩ := hL
  obtain ⟨-, h1, h2⟩ := hall j hj.1 hj.2
  have g : ∀ a : Int, 369 ≤ a → a ≤ 371 → ∀ M' : Mem, Fr ScM A M' → M' a (5 * (2 + k) + j) = A a (5 * (2 + k) + j) := fun a a1 a2 M' hf => hf a _ (by unfold ScM; omega)
  unfold f_X12_carriedBy wayV
  rw [ok_t ⟨by omega, by omega⟩, ok_t ⟨by omega, by omega⟩, ok_t ⟨by omega, by omega⟩]
  show ∃ M1, (if M 337 70 = 0 then _ else _) = _ ∧ _
  rw [hE.2.2.1]
  by_cases h0 : e 16 = 0
  · rw [if_pos h0, if_pos h0]; exact ⟨M, rfl, Fr.rf _ _⟩
  · rw [if_neg h0, if_neg h0, ok_t ⟨by omega, by omega⟩, g 370 (by omega) (by omega) M hF, g 371 (by omega) (by omega) M hF]
    obtain ⟨M1, q1, f1⟩ := m_tells he hE hF (p := 2 + k) (by omega) h2
    rw [q1, cl_some]
    by_cases h3 : val e (cod A (A 370 (5 * (2 + k) + j)) (A 371 (5 * (2 + k) + j))) = 1
    · rw [if_pos h3, if_pos h3]
      have hF1 : Fr ScM A M1 := hF.tr (f1.mono (fun _ _ => ScT_M))
      rw [g 369 (by omega) (by omega) M1 hF1, g 370 (by omega) (by omega) M1 hF1]
      obtain ⟨M2, q2, f2⟩ := m_tells he (hE.fr f1) hF1 (p := 2 + k) (by omega) h1
      rw [q2, cl_some]
      have hv := val_N he h1
      refine ⟨M2, ?_, f1.tr f2⟩
      unfold clp
      by_cases a1 : 0 ≤ val e (cod A (A 369 (5 * (2 + k) + j)) (A 370 (5 * (2 + k) + j)))
      · rw [if_pos a1]
        by_cases a2 : val e (cod A (A 369 (5 * (2 + k) + j)) (A 370 (5 * (2 + k) + j))) ≤ 100
        · rw [if_pos a2, ok_t ⟨by omega, by omega⟩, if_neg (by omega), if_neg (by omega)]
        · rw [if_neg a2, if_neg (by omega), if_pos (by omega)]
      · rw [if_neg a1, if_pos (by omega)]
    · rw [if_neg h3, if_neg h3]
      exact ⟨M1, rfl, f1⟩
theorem x_way {A B M : Mem} {e : Int → Int} (he : EnvOk e) (hE : EnvX M e) {a p j : Int} (hka : kd a = 17) (hS : SA B M a) (hL : LawA A p) (hX : LawX A B a p) (hj : 0 ≤ j ∧ j < A 366 p) : ∃ M1, f_X7_carriedBy M a (a + 4 + B (a + 2) j) = some (wayV A e p j, M1) ∧ Fr ScR M M1 := by
  have hk := kd17 a hka
  obtain ⟨hw, hall⟩ := hL
  obtain ⟨-, h1, h2⟩ := hall j hj.1 hj.2
  obtain ⟨hb, -, -, x1, x2⟩ := hX.2 j hj.1 hj.2
  have g : ∀ (i : Int) (M' : Mem), SA B M' a → M' (a + 4 + B (a + 2) j) i = B (a + 4 + B (a + 2) j) i := fun i M' hf => hf _ _ (by omega) (by omega)
  unfold f_X7_carriedBy wayV
  rw [if_neg (by omega), hE.2.2.1]
  by_cases h0 : e 16 = 0
  · rw [if_pos h0, if_pos h0]; exact ⟨M, rfl, Fr.rf _ _⟩
  · rw [if_neg h0, if_neg h0, ok_t (kdSt a hka _ hb), g 7 M hS, g 8 M hS]
    obtain ⟨M1, q1, f1⟩ := x_reckon he hE hka hS h2 x2
    rw [q1, cl_some]
    have hB := val_B he h2
    by_cases h3 : val e (cod A (A 370 (5 * p + j)) (A 371 (5 * p + j))) = 1
    · rw [if_neg (by omega), if_pos h3]
      have hS1 := hS.r hka f1
      rw [g 6 M1 hS1, g 7 M1 hS1]
      obtain ⟨M2, q2, f2⟩ := x_reckon he (hE.fr f1) hka hS1 h1 x1
      rw [q2, cl_some, e_clamped _ _ _ _ (by decide), cl_some]
      exact ⟨M2, rfl, f1.tr f2⟩
    · rw [if_pos (by omega), if_neg h3]
      exact ⟨M1, rfl, f1⟩
theorem m_crd {A M : Mem} {e : Int → Int} (he : EnvOk e) (hE : EnvM M e) (hF : Fr ScM A M) {k : Int} (hk : 0 ≤ k ∧ k < 3) (hL : LawA A (2 + k)) (kn : Int) : ∃ M1, f_X12_carried M k kn = some (crd A e (2 + k) kn, M1) ∧ Fr ScT M M1 := by
  have hw := hL.1
  have q : Tt (f_X12_carried M k kn) (fun r M1 => r = crd A e (2 + k) kn ∧ Fr ScT M M1) := by
    unfold f_X12_carried
    refine tt_wl2 (fun M1 x w => Fr ScT M M1 ∧ 0 ≤ w ∧ w ≤ A 366 (2 + k) ∧ x = crdN A e (2 + k) kn w.toNat) (fun _ _ w => (5 - w).toNat) ?_ FU M 0 0 ⟨Fr.rf _ _, by omega, by omega, rfl⟩ (by unfold FU; omega)
    rintro w M1 x j ⟨f1, h1, h2, rfl⟩ K
    have hF1 : Fr ScM A M1 := hF.tr (f1.mono (fun _ _ => ScT_M))
    have hn : (j + 1).toNat = j.toNat + 1 := by omega
    have hj : ((j.toNat : Nat) : Int) = j := by omega
    unfold b_X12_carried_5
    refine tt_ok ⟨by omega, by omega⟩ (tt_ok ⟨by omega, by omega⟩ ?_)
    rw [hF1 366 (2 + k) (by unfold ScM; omega)]
    refine tt_if (fun h => ?_) (fun h => ?_)
    · refine tt_ret ⟨?_, f1⟩
      have : j = A 366 (2 + k) := by omega
      subst this; rfl
    · have fin : ∀ (M2 : Mem) (s : Int), Fr ScT M M2 → s = (if kn ≠ 0 ∧ A 368 (5 * (2 + k) + j) = 0 then 0 else wayV A e (2 + k) j) → Tt (j_X12_carried_49 k kn w M2 (crdN A e (2 + k) kn j.toNat) j s) (fun r M1 => r = crd A e (2 + k) kn ∧ Fr ScT M M1) := by
        intro M2 s f2 hs
        unfold j_X12_carried_49
        refine tt_if (fun h5 => ?_) (fun h5 => ?_)
        · refine tt_ok ⟨by omega, by omega⟩ (tt_bi (K M2 _ (j + 1) ⟨f2, by omega, by omega, ?_⟩ (by omega)))
          rw [hn]
          show _ = max (crdN A e (2 + k) kn j.toNat) (if kn ≠ 0 ∧ A 368 (5 * (2 + k) + ((j.toNat : Nat) : Int)) = 0 then 0 else wayV A e (2 + k) ((j.toNat : Nat) : Int))
          rw [hj, ← hs]; omega
        · refine tt_ok ⟨by omega, by omega⟩ (tt_bi (K M2 _ (j + 1) ⟨f2, by omega, by omega, ?_⟩ (by omega)))
          rw [hn]
          show _ = max (crdN A e (2 + k) kn j.toNat) (if kn ≠ 0 ∧ A 368 (5 * (2 + k) + ((j.toNat : Nat) : Int)) = 0 then 0 else wayV A e (2 + k) ((j.toNat : Nat) : Int))
          rw [hj, ← hs]; omega
      have go : ¬ (kn ≠ 0 ∧ A 368 (5 * (2 + k) + j) = 0) → Tt (j_X12_carried_42 k kn w M1 (crdN A e (2 + k) kn j.toNat) j) (fun r M1 => r = crd A e (2 + k) kn ∧ Fr ScT M M1) := by
        intro h5
        unfold j_X12_carried_42
        obtain ⟨M2, q2, f2⟩ := m_way he (hE.fr f1) hF1 hk hL ⟨h1, by omega⟩
        refine tt_cq q2 (fin M2 _ (f1.tr f2) ?_)
        rw [if_neg h5]
      refine tt_if (fun h5 => ?_) (fun h5 => ?_)
      · exact go (by omega)
      · refine tt_ok ⟨by omega, by omega⟩ (tt_ok ⟨by omega, by omega⟩ (tt_ok ⟨by omega, by omega⟩ ?_))
        rw [hF1 368 (5 * (2 + k) + j) (by unfold ScM; omega)]
        refine tt_if (fun h6 => ?_) (fun h6 => ?_)
        · exact fin M1 0 f1 (by rw [if_pos ⟨h5, h6⟩])
        · exact go (by omega)
  obtain ⟨r, M1, q1, rfl, q2⟩ := q
  exact ⟨M1, q1, q2⟩
theorem x_crd {A B M : Mem} {e : Int → Int} (he : EnvOk e) (hE : EnvX M e) {a p : Int} (hka : kd a = 17) (hS : SA B M a) (hL : LawA A p) (hX : LawX A B a p) (kn : Int) : ∃ M1, f_X7_carriedMost M a kn = some (crd A e p kn, M1) ∧ Fr ScR M M1 := by
  have hk := kd17 a hka
  have hw := hL.1
  have q : Tt (f_X7_carriedMost M a kn) (fun r M1 => r = crd A e p kn ∧ Fr ScR M M1) := by
    unfold f_X7_carriedMost
    refine tt_wl2 (fun M1 x w => Fr ScR M M1 ∧ 0 ≤ w ∧ w ≤ A 366 p ∧ x = crdN A e p kn w.toNat) (fun _ _ w => (5 - w).toNat) ?_ FU M 0 0 ⟨Fr.rf _ _, by omega, by omega, rfl⟩ (by unfold FU; omega)
    rintro w M1 x j ⟨f1, h1, h2, rfl⟩ K
    have hS1 := hS.r hka f1
    have hn : (j + 1).toNat = j.toNat + 1 := by omega
    have hj : ((j.toNat : Nat) : Int) = j := by omega
    unfold b_X7_carriedMost_5
    rw [hS1 a 3 (by omega) (by omega), hX.1]
    refine tt_if (fun h => ?_) (fun h => ?_)
    · refine tt_ret ⟨?_, f1⟩
      have : j = A 366 p := by omega
      subst this; rfl
    · obtain ⟨hb, x5, -, -, -⟩ := hX.2 j h1 (by omega)
      rw [hS1 (a + 2) j (by omega) (by omega)]
      refine tt_ok ⟨by omega, by omega⟩ (tt_ok hb (tt_bi (tt_ok (kdSt a hka _ hb) ?_)))
      rw [hS1 _ 5 (by omega) (by omega), x5]
      have step : ∀ v, v = (if kn ≠ 0 ∧ A 368 (5 * p + j) = 0 then 0 else wayV A e p j) → max (crdN A e p kn j.toNat) v = crdN A e p kn (j + 1).toNat := by
        intro v hv
        rw [hn]
        show _ = max (crdN A e p kn j.toNat) (if kn ≠ 0 ∧ A 368 (5 * p + ((j.toNat : Nat) : Int)) = 0 then 0 else wayV A e p ((j.toNat : Nat) : Int))
        rw [hj, ← hv]
      have go : ¬ (kn ≠ 0 ∧ A 368 (5 * p + j) = 0) → Tt (j_X7_carriedMost_40 a kn w M1 (crdN A e p kn j.toNat) j (a + 4 + B (a + 2) j)) (fun r M1 => r = crd A e p kn ∧ Fr ScR M M1) := by
        intro h5
        unfold j_X7_carriedMost_40
        obtain ⟨M2, q2, f2⟩ := x_way he (hE.fr f1) hka hS1 hL hX ⟨h1, by omega⟩
        refine tt_cq q2 (tt_cq (e_max _ _ _) (tt_ok ⟨by omega, by omega⟩ (tt_bi (K M2 _ (j + 1) ⟨f1.tr f2, by omega, by omega, step _ ?_⟩ (by omega)))))
        rw [if_neg h5]
      refine tt_if (fun h5 => ?_) (fun h5 => ?_)
      · refine tt_if (fun h6 => ?_) (fun h6 => ?_)
        · exact go (by omega)
        · refine tt_bi (K M1 _ (j + 1) ⟨f1, by omega, by omega, ?_⟩ (by omega))
          rw [← step 0 (by rw [if_pos ⟨h6, h5⟩])]
          have := crdN_rng A e p kn j.toNat
          omega
      · exact go (by omega)
  obtain ⟨r, M1, q1, rfl, q2⟩ := q
  exact ⟨M1, q1, q2⟩
