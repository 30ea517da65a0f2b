/-! the FEWEST, alike -/
def mny (s : Int) : Int := s % 2 + s / 2 % 2 + s / 4 % 2 + s / 8 % 2 + s / 16 % 2
def mzz : Mem := fun _ _ => 0
theorem bc_fst (M : Mem) (x : Int) : f_J6_bitCount_0f7a4 M x = ((f_J6_bitCount_0f7a4 mzz x).map Prod.fst).map (fun r => (r, M)) := by
  unfold f_J6_bitCount_0f7a4
  simp only [ok, bi]
  split
  · split
    · split
      · split
        · split <;> rfl
        · rfl
      · rfl
    · rfl
  · rfl
theorem bc_32 : ∀ s : Nat, s < 32 → (f_J6_bitCount_0f7a4 mzz s).map Prod.fst = some (mny s) := by decide +kernel
theorem e_bits (M : Mem) {s : Int} (h : 0 ≤ s ∧ s < 32) : f_J6_bitCount_0f7a4 M s = some (mny s, M) := by
  obtain ⟨k, rfl⟩ : ∃ k : Nat, s = k := ⟨s.toNat, by omega⟩
  rw [bc_fst, bc_32 k (by omega)]; rfl
theorem ia1 : ∀ s : Nat, s < 32 → iand s 1 = (s : Int) % 2 ∧ ishr s 1 = (s : Int) / 2 := by decide +kernel
theorem mny_rng (s : Int) : 0 ≤ mny s ∧ mny s ≤ 5 := by unfold mny; omega
theorem many_e (w : Mem → Int → Int → Res) (M : Mem) (a x : Int) : b_X12_many_4 w M a x = if x ≤ 0 then some (a, M) else ok (in32 (a + iand x 1)) (bi (a + iand x 1) (fun y4 => bi (ishr x 1) (fun y5 => w M y4 y5))) := rfl
theorem many_run (M : Mem) : ∀ (k F : Nat) (x a : Int), 0 ≤ x → x < 2 ^ k → k ≤ 5 → (0 ≤ a ∧ a + k ≤ 100) → k < F → wl2 b_X12_many_4 F M a x = some (a + mny x, M)
  | _, 0, _, _, _, _, _, _, hF => absurd hF (Nat.not_lt_zero _)
  | 0, F + 1, x, a, h0, h1, _, _, _ => by
    rw [wl2_s, many_e]
    have : x = 0 := by have : x < 1 := h1; omega
    subst this
    rw [if_pos (Int.le_refl 0), show mny 0 = 0 by decide, Int.add_zero]
  | k + 1, F + 1, x, a, h0, h1, hk, ha, hF => by
    rw [wl2_s, many_e]
    by_cases hx : x ≤ 0
    · have : x = 0 := by omega
      subst this
      rw [if_pos hx, show mny 0 = 0 by decide, Int.add_zero]
    · have h32 : x < 32 := by
        have hp : (2 : Int) ^ (k + 1) ≤ 32 := by
          have : k = 0 ∨ k = 1 ∨ k = 2 ∨ k = 3 ∨ k = 4 := by omega
          rcases this with rfl | rfl | rfl | rfl | rfl <;> decide
        omega
      obtain ⟨n, rfl⟩ : ∃ n : Nat, x = n := ⟨x.toNat, by omega⟩
      obtain ⟨i1, i2⟩ := ia1 n (by omega)
      rw [if_neg hx, i1, i2, ok_t ⟨by omega, by omega⟩, bi_e, bi_e]
      have hp : (2 : Int) ^ (k + 1) = 2 ^ k * 2 := Int.pow_succ 2 k
      rw [many_run M k F ((n : Int) / 2) (a + (n : Int) % 2) (by omega) (by omega) (by omega) (by omega) (by omega)]
      congr 2
      unfold mny; omega
theorem e_many (M : Mem) {s : Int} (h : 0 ≤ s ∧ s < 32) : f_X12_many M s = some (mny s, M) := by
  unfold f_X12_many
  rw [many_run M 5 FU s 0 h.1 (by show s < 32; exact h.2) (by omega) (by omega) (by unfold FU; omega), Int.zero_add]
theorem ishl_1 {w : Int} (h : 0 ≤ w ∧ w ≤ 5) : 1 ≤ ishl 1 w ∧ ishl 1 w ≤ 32 := by
  have : w = 0 ∨ w = 1 ∨ w = 2 ∨ w = 3 ∨ w = 4 ∨ w = 5 := by omega
  rcases this with rfl | rfl | rfl | rfl | rfl | rfl <;> decide +kernel
theorem ior_in (x y : Int) : in32 (ior x y) := i32_in _
theorem ior_0 {x : Int} (h : in32 x) : ior x 0 = x := by
  unfold ior
  rw [show Int32.ofInt 0 = 0 from rfl, Int32.or_zero, i32_to h]
/-- the WAYS that carry something, as bits -/
def crs (A : Mem) (e : Int → Int) (p : Int) : Nat → Int
  | 0 => 0
  | n + 1 => if 0 < wayV A e p n then ior (crs A e p n) (ishl 1 n) else crs A e p n
theorem crs_in (A : Mem) (e : Int → Int) (p : Int) : ∀ n, in32 (crs A e p n)
  | 0 => in32_0
  | n + 1 => by
    show in32 (if 0 < wayV A e p n then ior (crs A e p n) (ishl 1 n) else crs A e p n)
    split
    · exact ior_in _ _
    · exact crs_in A e p n
theorem crs_succ (A : Mem) (e : Int → Int) (p : Int) {j : Int} (h : 0 ≤ j) : crs A e p (j + 1).toNat = if 0 < wayV A e p j then ior (crs A e p j.toNat) (ishl 1 j) else crs A e p j.toNat := by
  obtain ⟨n, rfl⟩ : ∃ n : Nat, j = n := ⟨j.toNat, by omega⟩
  rfl
theorem x_crs {A B M : Mem} {e : Int → Int} (he : EnvOk e) (hE : EnvX M e) {a p : Int} (hka : kd a = 17) (hS : SA B M a) (hL : LawA A p) (hX : LawX A B a p) : ∃ M1, f_X7_carriersBy M a = some (crs A e p (A 366 p).toNat, M1) ∧ Fr ScR M M1 := by
  have hk := kd17 a hka
  have hw := hL.1
  have q : Tt (f_X7_carriersBy M a) (fun r M1 => r = crs A e p (A 366 p).toNat ∧ Fr ScR M M1) := by
    unfold f_X7_carriersBy
    refine tt_wl2 (fun M1 x j => Fr ScR M M1 ∧ (0 ≤ j ∧ j ≤ A 366 p) ∧ x = crs A e p j.toNat) (fun _ _ j => (5 - j).toNat) ?_ FU M 0 0 ⟨Fr.rf _ _, ⟨by omega, by omega⟩, rfl⟩ (by unfold FU; omega)
    rintro w M1 x j ⟨f1, hj, rfl⟩ K
    have hS1 := hS.r hka f1
    unfold b_X7_carriersBy_4
    rw [hS1 a 3 (by omega) (by omega), hX.1]
    refine tt_if (fun h => tt_ret ⟨by rw [show j = A 366 p by omega], f1⟩) (fun h => ?_)
    obtain ⟨hb, -⟩ := hX.2 j hj.1 (by omega)
    rw [hS1 (a + 2) j (by omega) (by omega)]
    obtain ⟨M2, q2, f2⟩ := x_way he (hE.fr f1) hka hS1 hL hX (j := j) ⟨hj.1, by omega⟩
    refine tt_ok ⟨by omega, by omega⟩ (tt_ok hb (tt_cq q2 (tt_if (fun w1 => ?_) (fun w1 => ?_))))
    · rw [ior_0 (crs_in _ _ _ _)]
      refine tt_bi (tt_bi (K M2 _ (j + 1) ⟨f1.tr f2, ⟨by omega, by omega⟩, ?_⟩ (by omega)))
      rw [crs_succ _ _ _ hj.1, if_neg (by omega)]
    · refine tt_bi (tt_bi (K M2 _ (j + 1) ⟨f1.tr f2, ⟨by omega, by omega⟩, ?_⟩ (by omega)))
      rw [crs_succ _ _ _ hj.1, if_pos (by omega)]
  obtain ⟨r, M1, q1, rfl, q2⟩ := q
  exact ⟨M1, q1, q2⟩
/-- the masks: how many, and which -/
def fwD (A : Mem) (i : Int) : Prop := A 395 i = A 396 i ∧ A 394 i ≠ 0
def fwF (A : Mem) (p : Int) (i : Int) (s : Int × (Int → Int)) : Int × (Int → Int) := if A 395 i = A 396 i ∧ A 394 i ≠ 0 then (s.1 + 1, fun j => if j = s.1 then crs A (envT A i) p (A 366 p).toNat else s.2 j) else s
theorem fwF_e (A : Mem) (p i : Int) (s : Int × (Int → Int)) : fwF A p i s = if A 395 i = A 396 i ∧ A 394 i ≠ 0 then (s.1 + 1, fun j => if j = s.1 then crs A (envT A i) p (A 366 p).toNat else s.2 j) else s := rfl
def fwV (A : Mem) (p : Int) (n : Nat) : Int × (Int → Int) := fld (fwF A p) (0, fun _ => 0) n
theorem fwV_s (A : Mem) (p i : Int) (h : 0 ≤ i) : fwV A p (i + 1).toNat = fwF A p i (fwV A p i.toNat) := fld_succ _ _ _ h
theorem fwV_rng (A : Mem) (p : Int) (n : Nat) : 0 ≤ (fwV A p n).1 ∧ (fwV A p n).1 ≤ n := by
  refine fld_inv (fun n (s : Int × (Int → Int)) => 0 ≤ s.1 ∧ s.1 ≤ (n : Int)) _ _ ⟨Int.le_refl 0, Int.le_refl 0⟩ (fun n s hs => ?_) n
  rw [fwF_e]; split
  · constructor <;> simp only <;> omega
  · omega
def enV (f : Int → Int) (s : Int) : Nat → Int
  | 0 => 1
  | n + 1 => if enV f s n = 0 then 0 else if iand (f n) s = 0 then 0 else 1
theorem enV_01 (f : Int → Int) (s : Int) : ∀ n, enV f s n = 0 ∨ enV f s n = 1
  | 0 => Or.inr rfl
  | n + 1 => by
    show (if enV f s n = 0 then (0 : Int) else if iand (f n) s = 0 then 0 else 1) = 0 ∨ (if enV f s n = 0 then (0 : Int) else if iand (f n) s = 0 then 0 else 1) = 1
    split
    · exact Or.inl rfl
    · split
      · exact Or.inl rfl
      · exact Or.inr rfl
theorem enV_s (f : Int → Int) (s : Int) {j : Int} (h : 0 ≤ j) : enV f s (j + 1).toNat = if enV f s j.toNat = 0 then 0 else if iand (f j) s = 0 then 0 else 1 := by
  obtain ⟨n, rfl⟩ : ∃ n : Nat, j = n := ⟨j.toNat, by omega⟩
  rfl
theorem enV_0 (f : Int → Int) (s : Int) {n : Nat} (h : enV f s n = 0) : ∀ k, enV f s (n + k) = 0
  | 0 => h
  | k + 1 => by
    show (if enV f s (n + k) = 0 then (0 : Int) else if iand (f ((n + k : Nat) : Int)) s = 0 then 0 else 1) = 0
    rw [if_pos (enV_0 f s h k)]
theorem x_expl {M : Mem} {f : Int → Int} {s n : Int} (hn : 0 ≤ n ∧ n ≤ 40) (hM : ∀ j, 0 ≤ j → j < n → M 204 j = f j) : f_X11_explains M s n = some (enV f s n.toNat, M) := by
  have q : Tt (f_X11_explains M s n) (fun r M1 => r = enV f s n.toNat ∧ M1 = M) := by
    unfold f_X11_explains
    refine tt_wl1 (fun M1 j => M1 = M ∧ (0 ≤ j ∧ j ≤ n) ∧ enV f s j.toNat = 1) (fun _ j => (41 - j).toNat) ?_ FU M 0 ⟨rfl, ⟨by omega, by omega⟩, rfl⟩ (by unfold FU; omega)
    rintro w M1 j ⟨rfl, hj, he⟩ K
    unfold b_X11_explains_2
    refine tt_if (fun h => tt_ret ⟨by rw [← he, show j = n by omega], rfl⟩) (fun h => tt_in (by omega) (tt_ok ⟨by omega, by omega⟩ ?_))
    rw [hM j hj.1 (by omega)]
    refine tt_if (fun w1 => ?_) (fun w1 => ?_)
    · refine tt_ret ⟨?_, rfl⟩
      have e1 : enV f s (j + 1).toNat = 0 := by rw [enV_s _ _ hj.1, if_neg (by omega), if_pos w1]
      have := enV_0 f s e1 (n.toNat - (j + 1).toNat)
      rw [show (j + 1).toNat + (n.toNat - (j + 1).toNat) = n.toNat by omega] at this
      exact this.symm
    · refine tt_bi (K M1 (j + 1) ⟨rfl, ⟨by omega, by omega⟩, ?_⟩ (by omega))
      rw [enV_s _ _ hj.1, if_neg (by omega), if_neg w1]
  obtain ⟨r, M1, e, rfl, rfl⟩ := q
  exact e
theorem m_enou {M : Mem} {f : Int → Int} {s n : Int} (hn : 0 ≤ n ∧ n ≤ 40) (hM : ∀ j, 0 ≤ j → j < n → M 402 j = f j) : f_X12_isEnough M s n = some (enV f s n.toNat, M) := by
  have q : Tt (f_X12_isEnough M s n) (fun r M1 => r = enV f s n.toNat ∧ M1 = M) := by
    unfold f_X12_isEnough
    refine tt_wl2 (fun M1 x j => M1 = M ∧ (0 ≤ j ∧ j ≤ n) ∧ x = enV f s j.toNat) (fun _ _ j => (41 - j).toNat) ?_ FU M 1 0 ⟨rfl, ⟨by omega, by omega⟩, rfl⟩ (by unfold FU; omega)
    rintro w M1 x j ⟨rfl, hj, rfl⟩ K
    unfold b_X12_isEnough_5
    refine tt_if (fun h => tt_ok (enV_01 _ _ _) (tt_ret ⟨by rw [show j = n by omega], rfl⟩)) (fun h => tt_if (fun w1 => ?_) (fun w1 => ?_))
    · refine tt_ok ⟨by omega, by omega⟩ (tt_bi (K M1 0 (j + 1) ⟨rfl, ⟨by omega, by omega⟩, ?_⟩ (by omega)))
      rw [enV_s _ _ hj.1, if_pos w1]
    · rw [hM j hj.1 (by omega)]
      refine tt_ok ⟨by omega, by omega⟩ (tt_if (fun w2 => ?_) (fun w2 => ?_))
      · refine tt_bi (K M1 0 (j + 1) ⟨rfl, ⟨by omega, by omega⟩, ?_⟩ (by omega))
        rw [enV_s _ _ hj.1, if_neg w1, if_pos w2]
      · refine tt_bi (K M1 1 (j + 1) ⟨rfl, ⟨by omega, by omega⟩, ?_⟩ (by omega))
        rw [enV_s _ _ hj.1, if_neg w1, if_neg w2]
  obtain ⟨r, M1, e, rfl, rfl⟩ := q
  exact e
/-- the best set of those below n -/
def bsF (f : Int → Int) (n : Nat) (s b : Int) : Int := if enV f s n ≠ 0 ∧ (b = -1 ∨ mny s < mny b) then s else b
theorem bsF_e (f : Int → Int) (n : Nat) (s b : Int) : bsF f n s b = if enV f s n ≠ 0 ∧ (b = -1 ∨ mny s < mny b) then s else b := rfl
def bsV (f : Int → Int) (n : Nat) (k : Nat) : Int := fld (bsF f n) (-1) k
theorem bsV_s (f : Int → Int) (n : Nat) {s : Int} (h : 0 ≤ s) : bsV f n (s + 1).toNat = bsF f n s (bsV f n s.toNat) := fld_succ _ _ _ h
theorem bsV_rng (f : Int → Int) (n k : Nat) : -1 ≤ bsV f n k ∧ (bsV f n k < k ∨ bsV f n k = -1) := by
  refine fld_inv (fun k s => -1 ≤ s ∧ (s < (k : Int) ∨ s = -1)) _ _ ⟨Int.le_refl _, Or.inr rfl⟩ (fun k s hs => ?_) k
  rw [bsF_e]; split
  · omega
  · omega
section QF
variable {A B Mx Mm : Mem}
def fwE (A : Mem) (p m : Int) : Int := if m = 0 then (if bsV (fwV A p (A 337 79).toNat).2 (fwV A p (A 337 79).toNat).1.toNat (ishl 1 (A 366 p)).toNat = -1 then -1 else mny (bsV (fwV A p (A 337 79).toNat).2 (fwV A p (A 337 79).toNat).1.toNat (ishl 1 (A 366 p)).toNat)) else bsV (fwV A p (A 337 79).toNat).2 (fwV A p (A 337 79).toNat).1.toNat (ishl 1 (A 366 p)).toNat
def Sc5 (a _i : Int) : Prop := a = 204
def Sc6 (a _i : Int) : Prop := a = 402
theorem f204 (h : RR A B Mx Mm) {Mx1 : Mem} (f : Fr Sc5 Mx Mx1) : RR A B Mx1 Mm := h.nx (f.mono (fun a i q => by unfold Sc5 at q; unfold ScX; omega)) (Fr.rf _ _) (fun s s0 s1 => by rw [f 20 s (by unfold Sc5; omega), f 19 s (by unfold Sc5; omega)]; exact h.lc s s0 s1)
theorem f402 (h : RR A B Mx Mm) {Mm1 : Mem} (f : Fr Sc6 Mm Mm1) : RR A B Mx Mm1 := h.nx (Fr.rf _ _) (f.mono (fun a i q => by unfold Sc6 at q; unfold ScM; omega)) h.lc
theorem x_fewest (h : RR A B Mx Mm) {k : Int} (l : isLw A k) (m : Int) : ∃ Mx1, f_X11_fewest Mx k m = some (fwE A (2 + k) m, Mx1) ∧ RR A B Mx1 Mm := by
  obtain ⟨n1, n2, n3, n4⟩ := h.n79
  have q : Tt (f_X11_fewest Mx k m) (fun r M => r = fwE A (2 + k) m ∧ RR A B M Mm) := by
    unfold f_X11_fewest
    rcases h.law2 k with ⟨-, x1, -, z1, k1⟩ | ⟨l', -⟩
    · refine tt_cq x1 (tt_in z1 (tt_ok k1 ?_))
      have lh : Tt (f_X11_listHelpers Mx (B 68 k)) (fun r M => r = (fwV A (2 + k) (A 337 79).toNat).1 ∧ RR A B M Mm ∧ ∀ j, 0 ≤ j → j < r → M 204 j = (fwV A (2 + k) (A 337 79).toNat).2 j) := by
        unfold f_X11_listHelpers
        refine tt_wl2 (fun M x i => RR A B M Mm ∧ (0 ≤ i ∧ i ≤ A 337 79) ∧ x = (fwV A (2 + k) i.toNat).1 ∧ ∀ j, 0 ≤ j → j < (fwV A (2 + k) i.toNat).1 → M 204 j = (fwV A (2 + k) i.toNat).2 j) (fun _ _ i => (41 - i).toNat) ?_ FU Mx 0 0 ⟨h, ⟨by omega, by omega⟩, rfl, fun j h0 h1 => by have : j < 0 := h1; omega⟩ (by unfold FU; omega)
        rintro w M x i ⟨hM, hi, rfl, hq⟩ K
        have hr := fwV_rng A (2 + k) i.toNat
        unfold b_X11_listHelpers_4
        rw [hM.n79.2.1]
        refine tt_if (fun w1 => tt_ret ⟨by rw [show i = A 337 79 by omega], hM, by rw [show A 337 79 = i by omega]; exact hq⟩) (fun w1 => ?_)
        obtain ⟨h2, ha, hx⟩ := hM.tx hi.1 (show i < A 337 79 by omega)
        have skip : ¬ (A 395 i = A 396 i ∧ A 394 i ≠ 0) → Tt (w M (fwV A (2 + k) i.toNat).1 (i + 1)) (fun r M => r = (fwV A (2 + k) (A 337 79).toNat).1 ∧ RR A B M Mm ∧ ∀ j, 0 ≤ j → j < r → M 204 j = (fwV A (2 + k) (A 337 79).toNat).2 j) := by
          intro hn
          have e : fwV A (2 + k) (i + 1).toNat = fwV A (2 + k) i.toNat := by rw [fwV_s _ _ _ hi.1, fwF_e, if_neg hn]
          exact K M _ (i + 1) ⟨hM, ⟨by omega, by omega⟩, by rw [e], by rw [e]; exact hq⟩ (by omega)
        refine tt_ok ⟨by omega, by omega⟩ (tt_cq (x_right hx) (tt_if (fun w2 => tt_bi (skip (fun z => bI_0.mp w2 z.1))) (fun w2 => ?_)))
        rw [hx.2.2.1]
        refine tt_if (fun w3 => tt_bi (skip (fun z => z.2 (by have := ha.2.2.1; omega)))) (fun w3 => ?_)
        have c : A 395 i = A 396 i ∧ A 394 i ≠ 0 := ⟨Classical.byContradiction fun z => w2 (bI_0.mpr z), by omega⟩
        obtain ⟨M1, _, q1, -, h3, ex, -, eo⟩ := hM.showT hi.1 (show i < A 337 79 by omega)
        have h3' := hM.mixx h3
        obtain ⟨-, l2, l3, -, l5, -⟩ := h3'.law l
        obtain ⟨M2, q2, f2⟩ := x_crs eo ex k1 l2 l3 l5
        have h4 : RR A B M2 Mm := h3'.nr f2 (Fr.rf _ _)
        have k204 : ∀ j, M2 204 j = M 204 j := by
          intro j
          rw [f2 204 j (by unfold ScR; omega)]
          obtain ⟨h2', ha', hx'⟩ := hM.tx hi.1 (show i < A 337 79 by omega)
          obtain ⟨M9, p9, -, f9, -⟩ := x_shows hM.sg hM.xg hM.lc (t := A 392 i) (s := A 393 i) (b := A 394 i) ha.2.1 ha.2.2.1
          have : f_X11_putTrial M (23 + i) = some (0, M9) := by unfold f_X11_putTrial; rw [hx'.1, hx'.2.1, hx'.2.2.1, p9, cl_some]
          rw [q1] at this
          cases this
          exact f9 204 j (by unfold ScF; omega)
        have e : fwV A (2 + k) (i + 1).toNat = ((fwV A (2 + k) i.toNat).1 + 1, fun j => if j = (fwV A (2 + k) i.toNat).1 then crs A (envT A i) (2 + k) (A 366 (2 + k)).toNat else (fwV A (2 + k) i.toNat).2 j) := by rw [fwV_s _ _ _ hi.1, fwF_e, if_pos c]
        refine tt_cq q1 (tt_cq q2 (tt_ok ⟨by omega, by omega⟩ (tt_bm (tt_bi (tt_bi (K _ _ (i + 1) ⟨f204 h4 (Fr.st (Fr.rf _ _) rfl), ⟨by omega, by omega⟩, by rw [e], ?_⟩ (by omega)))))))
        rw [e]
        intro j h0 h1
        have h1' : j < (fwV A (2 + k) i.toNat).1 + 1 := h1
        show _ = (if j = (fwV A (2 + k) i.toNat).1 then _ else _)
        by_cases ej : j = (fwV A (2 + k) i.toNat).1
        · rw [if_pos ej, ej, st_at]
        · rw [if_neg ej, st_neI ej, k204]; exact hq j h0 (by omega)
      refine tt_cb lh ?_
      rintro r M7 ⟨rfl, h7, hq⟩
      obtain ⟨-, l2, l3, -, l5, -⟩ := h7.law l
      have hk := kd17 _ k1
      have hw := ishl_1 (w := A 366 (2 + k)) l3.1
      have hn := fwV_rng A (2 + k) (A 337 79).toNat
      refine tt_wl5 (fun M x3 x4 x5 x6 s => RR A B M Mm ∧ x3 = B 68 k ∧ x4 = (fwV A (2 + k) (A 337 79).toNat).1 ∧ (0 ≤ s ∧ s ≤ ishl 1 (A 366 (2 + k))) ∧ x5 = bsV (fwV A (2 + k) (A 337 79).toNat).2 (fwV A (2 + k) (A 337 79).toNat).1.toNat s.toNat ∧ x6 = (if x5 = -1 then 6 else mny x5) ∧ ∀ j, 0 ≤ j → j < (fwV A (2 + k) (A 337 79).toNat).1 → M 204 j = (fwV A (2 + k) (A 337 79).toNat).2 j) (fun _ _ _ _ _ s => (33 - s).toNat) ?_ FU M7 _ _ (-1) 6 0 ⟨h7, rfl, rfl, ⟨by omega, by omega⟩, rfl, rfl, hq⟩ (by unfold FU; omega)
      rintro w M x3 x4 x5 x6 s ⟨hM, rfl, rfl, hs, rfl, rfl, hq'⟩ K
      obtain ⟨-, l2', -, -, -, -⟩ := hM.law l
      have hb := bsV_rng (fwV A (2 + k) (A 337 79).toNat).2 (fwV A (2 + k) (A 337 79).toNat).1.toNat s.toNat
      unfold b_X11_fewest_29
      rw [l2' (B 68 k) 3 (by omega) (by omega), l5.1]
      refine tt_ok k1 (tt_if (fun w1 => ?_) (fun w1 => ?_))
      · have es : s = ishl 1 (A 366 (2 + k)) := by omega
        subst es
        unfold fwE
        refine tt_if (fun w2 => tt_if (fun w3 => ?_) (fun w3 => ?_)) (fun w2 => ?_)
        · rw [if_pos w2, if_pos w3]; exact tt_ret ⟨w3, hM⟩
        · rw [if_pos w2, if_neg w3]; exact tt_ret ⟨by rw [if_neg w3], hM⟩
        · rw [if_neg w2]; exact tt_ret ⟨rfl, hM⟩
      · have hm := mny_rng s
        have hmb := mny_rng (bsV (fwV A (2 + k) (A 337 79).toNat).2 (fwV A (2 + k) (A 337 79).toNat).1.toNat s.toNat)
        have skip : ¬ (enV (fwV A (2 + k) (A 337 79).toNat).2 s (fwV A (2 + k) (A 337 79).toNat).1.toNat ≠ 0 ∧ (bsV (fwV A (2 + k) (A 337 79).toNat).2 (fwV A (2 + k) (A 337 79).toNat).1.toNat s.toNat = -1 ∨ mny s < mny (bsV (fwV A (2 + k) (A 337 79).toNat).2 (fwV A (2 + k) (A 337 79).toNat).1.toNat s.toNat))) → bsV (fwV A (2 + k) (A 337 79).toNat).2 (fwV A (2 + k) (A 337 79).toNat).1.toNat (s + 1).toNat = bsV (fwV A (2 + k) (A 337 79).toNat).2 (fwV A (2 + k) (A 337 79).toNat).1.toNat s.toNat := by
          intro hn2; rw [bsV_s _ _ hs.1, bsF_e, if_neg hn2]
        refine tt_cq (e_bits M (s := s) ⟨hs.1, by omega⟩) (tt_if (fun w2 => ?_) (fun w2 => ?_))
        · have e := skip (fun z => by
            rcases z.2 with z | z
            · rw [if_pos z] at w2; omega
            · by_cases q : bsV (fwV A (2 + k) (A 337 79).toNat).2 (fwV A (2 + k) (A 337 79).toNat).1.toNat s.toNat = -1
              · rw [if_pos q] at w2; omega
              · rw [if_neg q] at w2; omega)
          exact tt_ok ⟨by omega, by omega⟩ (tt_bi (K M _ _ _ _ (s + 1) ⟨hM, rfl, rfl, ⟨by omega, by omega⟩, e.symm, rfl, hq'⟩ (by omega)))
        · refine tt_cq (x_expl (by omega) hq') (tt_if (fun w3 => ?_) (fun w3 => ?_))
          · have e := skip (fun z => z.1 w3)
            exact tt_ok ⟨by omega, by omega⟩ (tt_bi (K M _ _ _ _ (s + 1) ⟨hM, rfl, rfl, ⟨by omega, by omega⟩, e.symm, rfl, hq'⟩ (by omega)))
          · have e : bsV (fwV A (2 + k) (A 337 79).toNat).2 (fwV A (2 + k) (A 337 79).toNat).1.toNat (s + 1).toNat = s := by
              rw [bsV_s _ _ hs.1, bsF_e, if_pos]
              refine ⟨w3, ?_⟩
              by_cases q : bsV (fwV A (2 + k) (A 337 79).toNat).2 (fwV A (2 + k) (A 337 79).toNat).1.toNat s.toNat = -1
              · exact Or.inl q
              · rw [if_neg q] at w2; exact Or.inr (by omega)
            exact tt_ok ⟨by omega, by omega⟩ (tt_bi (K M _ _ _ _ (s + 1) ⟨hM, rfl, rfl, ⟨by omega, by omega⟩, e.symm, by rw [if_neg (by omega)], hq'⟩ (by omega)))
    · exact absurd l l'
  obtain ⟨r, M1, e, hr, h1⟩ := q
  exact ⟨M1, by rw [e, hr], h1⟩
end QF
