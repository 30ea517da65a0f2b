/-! PIECES: what hangs together, in both alike -/
def adj (s t : Int) : Prop := (t = s - 1 ∧ 0 < s % 12) ∨ (t = s + 1 ∧ s % 12 < 11) ∨ t = s - 12 ∨ t = s + 12
theorem adj_sy {s t : Int} (h : adj s t) : adj t s := by unfold adj at h ⊢; omega
def isQ (t : Int) : Prop := 0 ≤ t ∧ t < 96
/-- a set that is closed among what is free -/
def Cls (g lb : Int → Int) (Y : Int → Prop) : Prop := ∀ x t, isQ x → isQ t → Y x → adj x t → g t ≠ 0 → lb t = -1 → Y t
def cnP (f : Int → Int) (v : Int) : Nat → Int
  | 0 => 0
  | n + 1 => cnP f v n + (if f n = v then 1 else 0)
theorem cnP_rng (f : Int → Int) (v : Int) : ∀ n : Nat, 0 ≤ cnP f v n ∧ cnP f v n ≤ n
  | 0 => ⟨Int.le_refl 0, Int.le_refl 0⟩
  | n + 1 => by
    have := cnP_rng f v n
    show 0 ≤ cnP f v n + _ ∧ cnP f v n + _ ≤ ((n + 1 : Nat) : Int)
    split <;> omega
theorem cnP_lt {f : Int → Int} {v t : Int} (h0 : 0 ≤ t) (hv : f t ≠ v) : ∀ n : Nat, t < n → cnP f v n < n
  | 0, h => by omega
  | n + 1, h => by
    show cnP f v n + _ < ((n + 1 : Nat) : Int)
    by_cases e : t = n
    · have := cnP_rng f v n
      rw [← e, if_neg hv]; omega
    · have := cnP_lt h0 hv n (by omega)
      split <;> omega
theorem cnP_cg {f f' : Int → Int} {v : Int} : ∀ n : Nat, (∀ t : Int, 0 ≤ t → t < n → f' t = f t) → cnP f' v n = cnP f v n
  | 0, _ => rfl
  | n + 1, h => by
    show cnP f' v n + (if f' n = v then 1 else 0) = cnP f v n + (if f n = v then 1 else 0)
    rw [cnP_cg n (fun t t0 t1 => h t t0 (by omega)), h n (by omega) (by omega)]
theorem cnP_up {f f' : Int → Int} {v t : Int} (h0 : 0 ≤ t) (hv : f t ≠ v) (ht : f' t = v) (ho : ∀ x : Int, x ≠ t → f' x = f x) : ∀ n : Nat, t < n → cnP f' v n = cnP f v n + 1
  | 0, h => by omega
  | n + 1, h => by
    show cnP f' v n + (if f' n = v then 1 else 0) = cnP f v n + (if f n = v then 1 else 0) + 1
    by_cases e : t = n
    · rw [cnP_cg n (fun x x0 x1 => ho x (by omega)), ← e, if_pos ht, if_neg hv]; omega
    · rw [cnP_up h0 hv ht ho n (by omega), ho n (by omega)]; omega
theorem cnP_ex {f : Int → Int} {v : Int} : ∀ n : Nat, 0 < cnP f v n → ∃ t : Int, 0 ≤ t ∧ t < n ∧ f t = v
  | 0, h => by
    have : cnP f v 0 = 0 := rfl
    omega
  | n + 1, h => by
    by_cases e : f n = v
    · exact ⟨n, by omega, by omega, e⟩
    · have h' : 0 < cnP f v n := by
        have : cnP f v (n + 1) = cnP f v n + (if f n = v then 1 else 0) := rfl
        rw [this, if_neg e] at h
        omega
      obtain ⟨t, t0, t1, t2⟩ := cnP_ex n h'
      exact ⟨t, t0, by omega, t2⟩
/-- labels: as they were, or the new PIECE's, which is no larger than it must be -/
def Lab (g lb : Int → Int) (pc s0 : Int) (f : Int → Int) : Prop := (∀ t, isQ t → f t = lb t ∨ (lb t = -1 ∧ g t ≠ 0 ∧ f t = pc)) ∧ ∀ Y : Int → Prop, Y s0 → Cls g lb Y → ∀ t, isQ t → f t = pc → Y t
/-- it is as large as it can be -/
def Ful (g lb : Int → Int) (pc : Int) (f : Int → Int) : Prop := ∀ x t, isQ x → isQ t → f x = pc → adj x t → g t ≠ 0 → lb t = -1 → f t = pc
theorem lab_uniq {g lb f f' : Int → Int} {pc s0 : Int} (hs : isQ s0) (hlb : ∀ t, isQ t → lb t < pc) (hf : Lab g lb pc s0 f) (hf' : Lab g lb pc s0 f') (h0 : f s0 = pc) (h0' : f' s0 = pc) (hF : Ful g lb pc f) (hF' : Ful g lb pc f') : ∀ t, isQ t → f t = f' t := by
  have a := hf.2 (fun t => f' t = pc) h0' (fun x t x0 t0 hx ha hg hl => hF' x t x0 t0 hx ha hg hl)
  have b := hf'.2 (fun t => f t = pc) h0 (fun x t x0 t0 hx ha hg hl => hF x t x0 t0 hx ha hg hl)
  intro t ht
  have l := hlb t ht
  rcases hf.1 t ht with e | ⟨e1, e2, e3⟩
  · rcases hf'.1 t ht with e' | ⟨e1', e2', e3'⟩
    · rw [e, e']
    · rw [b t ht e3', e3']
  · rw [e3, a t ht e3]
/-! the class's -/
def ScGa (pc a i : Int) : Prop := (a = 15 ∧ 0 ≤ i ∧ i < 96) ∨ (a = 16 ∧ i = pc) ∨ a = 18 ∨ (a = 13 ∧ i = 7)
def GX (g lb : Int → Int) (pc s0 : Int) (M0 M : Mem) : Prop := (∀ t, isQ t → M 14 t = g t) ∧ M 13 8 = pc ∧ Lab g lb pc s0 (M 15) ∧ (M 16 pc = M 13 7 ∧ cnP (M 15) pc 96 = M 13 7) ∧ (∀ i, 0 ≤ i → i < M 13 7 → isQ (M 18 i) ∧ M 15 (M 18 i) = pc) ∧ (∀ t, isQ t → M 15 t = pc → ∃ i, 0 ≤ i ∧ i < M 13 7 ∧ M 18 i = t) ∧ Fr (ScGa pc) M0 M
theorem x_await {g lb : Int → Int} {pc s0 a : Int} {M0 M : Mem} (hpc : 0 ≤ pc ∧ pc < 96) (hlb : ∀ t, isQ t → -1 ≤ lb t ∧ lb t < pc) (h : GX g lb pc s0 M0 M) (hj : isQ a → g a ≠ 0 → lb a = -1 → ∀ Y : Int → Prop, Y s0 → Cls g lb Y → Y a) : ∃ M1, f_X3_await M a = some (0, M1) ∧ GX g lb pc s0 M0 M1 ∧ (isQ a → g a ≠ 0 → lb a = -1 → M1 15 a = pc) ∧ (∀ t, M 15 t = pc → M1 15 t = pc) ∧ M 13 7 ≤ M1 13 7 ∧ ∀ i, 0 ≤ i → i < M 13 7 → M1 18 i = M 18 i := by
  obtain ⟨h1, h2, h3, ⟨h4, h4b⟩, h5, h6, h7⟩ := id h
  have hcr := cnP_rng (M 15) pc 96
  have stay : (isQ a → g a ≠ 0 → lb a = -1 → M 15 a = pc) → ∃ M1, (some (0, M) : Res) = some (0, M1) ∧ GX g lb pc s0 M0 M1 ∧ (isQ a → g a ≠ 0 → lb a = -1 → M1 15 a = pc) ∧ (∀ t, M 15 t = pc → M1 15 t = pc) ∧ M 13 7 ≤ M1 13 7 ∧ ∀ i, 0 ≤ i → i < M 13 7 → M1 18 i = M 18 i := fun q => ⟨M, rfl, h, q, fun _ z => z, Int.le_refl _, fun _ _ _ => rfl⟩
  unfold f_X3_await
  by_cases c1 : a < 0
  · rw [if_pos c1]; exact stay (fun q => by have := q.1; omega)
  rw [if_neg c1]
  by_cases c2 : 96 ≤ a
  · rw [if_pos c2]; exact stay (fun q => by have := q.2; omega)
  rw [if_neg c2]
  have qa : isQ a := ⟨by omega, by omega⟩
  rw [h1 a qa]
  by_cases c3 : g a = 0
  · rw [if_pos c3]; exact stay (fun _ q => absurd c3 q)
  rw [if_neg c3]
  have hla := hlb a qa
  by_cases c4 : M 15 a = -1
  · rw [if_pos c4]
    have hl : lb a = -1 := by
      rcases h3.1 a qa with e | ⟨e, -⟩
      · rw [← e]; exact c4
      · exact e
    have hne : M 15 a ≠ pc := by omega
    have lt := cnP_lt (f := M 15) (v := pc) qa.1 hne 96 (by have := qa.2; omega)
    rw [bm_e, st_neA (show (13 : Int) ≠ 15 by decide), h2, ok_t ⟨by omega, by omega⟩, st_neA (show (16 : Int) ≠ 15 by decide), h4, ok_t ⟨by omega, by omega⟩, bm_e, st_neA (show (13 : Int) ≠ 16 by decide), st_neA (show (13 : Int) ≠ 15 by decide), ok_t ⟨by omega, by omega⟩, bm_e, st_neA (show (13 : Int) ≠ 18 by decide), st_neA (show (13 : Int) ≠ 16 by decide), st_neA (show (13 : Int) ≠ 15 by decide), ok_t ⟨by omega, by omega⟩, bm_e]
    have e15 : ∀ t, t ≠ a → st (st (st (st M 15 a pc) 16 pc (M 13 7 + 1)) 18 (M 13 7) a) 13 7 (M 13 7 + 1) 15 t = M 15 t := fun t ht => by
      rw [st_neA (by decide), st_neA (by decide), st_neA (by decide), st_neI ht]
    have e15a : st (st (st (st M 15 a pc) 16 pc (M 13 7 + 1)) 18 (M 13 7) a) 13 7 (M 13 7 + 1) 15 a = pc := by
      rw [st_neA (by decide), st_neA (by decide), st_neA (by decide), st_at]
    have e137 : st (st (st (st M 15 a pc) 16 pc (M 13 7 + 1)) 18 (M 13 7) a) 13 7 (M 13 7 + 1) 13 7 = M 13 7 + 1 := st_at _ _ _ _
    have e18 : ∀ i, i ≠ M 13 7 → st (st (st (st M 15 a pc) 16 pc (M 13 7 + 1)) 18 (M 13 7) a) 13 7 (M 13 7 + 1) 18 i = M 18 i := fun i hi => by
      rw [st_neA (by decide), st_neI hi, st_neA (by decide), st_neA (by decide)]
    have e18a : st (st (st (st M 15 a pc) 16 pc (M 13 7 + 1)) 18 (M 13 7) a) 13 7 (M 13 7 + 1) 18 (M 13 7) = a := by
      rw [st_neA (by decide), st_at]
    refine ⟨_, rfl, ⟨fun t ht => ?_, ?_, ⟨fun t ht => ?_, fun Y y0 yc t ht hp => ?_⟩, ⟨?_, ?_⟩, fun i i0 i1 => ?_, fun t ht hp => ?_, ?_⟩, fun _ _ _ => e15a, fun t ht => ?_, by rw [e137]; omega, fun i i0 i1 => e18 i (by omega)⟩
    · rw [st_neA (by decide), st_neA (by decide), st_neA (by decide), st_neA (by decide)]; exact h1 t ht
    · rw [st_neI (by decide), st_neA (by decide), st_neA (by decide), st_neA (by decide)]; exact h2
    · by_cases e : t = a
      · rw [e]; exact Or.inr ⟨hl, c3, e15a⟩
      · rw [e15 t e]; exact h3.1 t ht
    · by_cases e : t = a
      · rw [e]; exact hj qa c3 hl Y y0 yc
      · rw [e15 t e] at hp; exact h3.2 Y y0 yc t ht hp
    · rw [e137, st_neA (by decide), st_neA (by decide), st_at]
    · have u := cnP_up (v := pc) (t := a) qa.1 hne e15a (fun x hx => e15 x hx) 96 (by have := qa.2; omega)
      rw [e137, u, h4b]
    · rw [e137] at i1
      by_cases e : i = M 13 7
      · rw [e, e18a, e15a]; exact ⟨qa, rfl⟩
      · rw [e18 i e]
        obtain ⟨z1, z2⟩ := h5 i i0 (by omega)
        refine ⟨z1, ?_⟩
        by_cases ez : M 18 i = a
        · rw [ez]; exact e15a
        · rw [e15 _ ez]; exact z2
    · rw [e137]
      by_cases e : t = a
      · rw [e]; exact ⟨M 13 7, by omega, by omega, e18a⟩
      · rw [e15 t e] at hp
        obtain ⟨i, i0, i1, i2⟩ := h6 t ht hp
        exact ⟨i, i0, by omega, by rw [e18 i (by omega)]; exact i2⟩
    · exact Fr.st (Fr.st (Fr.st (Fr.st h7 (by unfold ScGa; omega)) (by unfold ScGa; omega)) (by unfold ScGa; omega)) (by unfold ScGa; omega)
    · by_cases e : t = a
      · rw [e]; exact e15a
      · rw [e15 t e]; exact ht
  · rw [if_neg c4]
    refine stay (fun _ _ hl => ?_)
    rcases h3.1 a qa with e | ⟨-, -, e⟩
    · rw [hl] at e; exact absurd e c4
    · exact e
theorem x_gather {g lb : Int → Int} {pc s0 : Int} {M0 : Mem} (hpc : 0 ≤ pc ∧ pc < 96) (hlb : ∀ t, isQ t → -1 ≤ lb t ∧ lb t < pc) (hs : isQ s0) (h14 : ∀ t, isQ t → M0 14 t = g t) (h15 : ∀ t, isQ t → M0 15 t = lb t) (h138 : M0 13 8 = pc) (h16 : M0 16 pc = 0) (hg : g s0 ≠ 0) (hl : lb s0 = -1) : ∃ M1, f_X3_gather M0 s0 = some (0, M1) ∧ GX g lb pc s0 M0 M1 ∧ M1 15 s0 = pc ∧ Ful g lb pc (M1 15) := by
  have c0 : cnP (M0 15) pc 96 = 0 := by
    have r := cnP_rng (M0 15) pc 96
    by_cases e : 0 < cnP (M0 15) pc 96
    · obtain ⟨t, t0, t1, t2⟩ := cnP_ex 96 e
      have qt : isQ t := ⟨t0, by omega⟩
      rw [h15 t qt] at t2
      have := hlb t qt
      omega
    · omega
  have G0 : GX g lb pc s0 M0 (st M0 13 7 0) := by
    refine ⟨fun t ht => by rw [st_neA (by decide)]; exact h14 t ht, by rw [st_neI (by decide)]; exact h138, ⟨fun t ht => Or.inl (by rw [st_neA (by decide)]; exact h15 t ht), fun Y y0 yc t ht hp => ?_⟩, ⟨by rw [st_neA (by decide), st_at]; exact h16, by rw [st_at]; exact c0⟩, fun i i0 i1 => by rw [st_at] at i1; omega, fun t ht hp => ?_, Fr.st (Fr.rf _ _) (by unfold ScGa; omega)⟩
    · rw [st_neA (by decide), h15 t ht] at hp
      have := hlb t ht
      omega
    · rw [st_neA (by decide), h15 t ht] at hp
      have := hlb t ht
      omega
  obtain ⟨M2, e2, G2, a2, -⟩ := x_await (a := s0) hpc hlb G0 (fun _ _ _ Y y0 _ => y0)
  have s2 := a2 hs hg hl
  have hFU : FU = 1000000000 := rfl
  have key : Tt (wl1 (b_X3_gather_12) FU M2 0) (fun r M1 => r = 0 ∧ GX g lb pc s0 M0 M1 ∧ M1 15 s0 = pc ∧ Ful g lb pc (M1 15)) := by
    refine tt_wl1 (fun M k => GX g lb pc s0 M0 M ∧ M 15 s0 = pc ∧ 0 ≤ k ∧ k ≤ M 13 7 ∧ ∀ i t, 0 ≤ i → i < k → isQ t → adj (M 18 i) t → g t ≠ 0 → lb t = -1 → M 15 t = pc) (fun _ k => (96 - k).toNat) ?_ FU M2 0 ⟨G2, s2, by decide, ?_, fun i t i0 i1 => by omega⟩ (by omega)
    · rintro w M k ⟨G, hs0, k0, k1, hk⟩ K
      obtain ⟨h1, h2, h3, ⟨h4, h4b⟩, h5, h6, h7⟩ := id G
      have hcr := cnP_rng (M 15) pc 96
      unfold b_X3_gather_12
      have done : M 13 7 ≤ k → Tt (some (0, M)) (fun r M1 => r = 0 ∧ GX g lb pc s0 M0 M1 ∧ M1 15 s0 = pc ∧ Ful g lb pc (M1 15)) := by
        intro q
        refine tt_ret ⟨rfl, G, hs0, fun x t qx qt hx ha hgt hlt => ?_⟩
        obtain ⟨i, i0, i1, rfl⟩ := h6 x qx hx
        exact hk i t i0 (by omega) qt ha hgt hlt
      refine tt_if (fun c => done c) (fun c => tt_if (fun c2 => done (by omega)) (fun c2 => ?_))
      obtain ⟨qx, hx⟩ := h5 k k0 (by omega)
      refine tt_ok ⟨by omega, by omega⟩ (tt_biN (fun x ex => tt_ok (by rw [ex]; exact qx.1) (tt_biN (fun y ey => ?_))))
      rw [← ex] at qx hx
      -- all neighbours
      have just : ∀ {M' : Mem}, GX g lb pc s0 M0 M' → M' 15 x = pc → ∀ t, adj x t → (isQ t → g t ≠ 0 → lb t = -1 → ∀ Y : Int → Prop, Y s0 → Cls g lb Y → Y t) := by
        intro M' G' hx' t ha qt hgt hlt Y y0 yc
        exact yc x t qx qt (G'.2.2.1.2 Y y0 yc x qx hx') ha hgt hlt
      have nx : ∀ (Ma Mb : Mem), GX g lb pc s0 M0 Ma → (∀ t, M 15 t = pc → Ma 15 t = pc) → M 13 7 ≤ Ma 13 7 → (∀ i, 0 ≤ i → i < M 13 7 → Ma 18 i = M 18 i) → (∀ t, isQ t → adj x t → g t ≠ 0 → lb t = -1 → Ma 15 t = pc) → Tt (w Ma (k + 1)) (fun r M1 => r = 0 ∧ GX g lb pc s0 M0 M1 ∧ M1 15 s0 = pc ∧ Ful g lb pc (M1 15)) := by
        intro Ma Mb Ga am aw aq an
        refine K Ma (k + 1) ⟨Ga, am _ hs0, by omega, by omega, fun i t i0 i1 qt ha hgt hlt => ?_⟩ (by omega)
        by_cases e : i = k
        · rw [e, aq k k0 (by omega), ← ex] at ha
          exact an t qt ha hgt hlt
        · rw [aq i i0 (by omega)] at ha
          exact am t (hk i t i0 (by omega) qt ha hgt hlt)
      have q0 := qx.1
      have q1 := qx.2
      -- up and down
      have j65 : ∀ Ma : Mem, GX g lb pc s0 M0 Ma → (∀ t, M 15 t = pc → Ma 15 t = pc) → M 13 7 ≤ Ma 13 7 → (∀ i, 0 ≤ i → i < M 13 7 → Ma 18 i = M 18 i) → (isQ (x - 1) → adj x (x - 1) → g (x - 1) ≠ 0 → lb (x - 1) = -1 → Ma 15 (x - 1) = pc) → (isQ (x + 1) → adj x (x + 1) → g (x + 1) ≠ 0 → lb (x + 1) = -1 → Ma 15 (x + 1) = pc) → Tt (j_X3_gather_65 w Ma k x) (fun r M1 => r = 0 ∧ GX g lb pc s0 M0 M1 ∧ M1 15 s0 = pc ∧ Ful g lb pc (M1 15)) := by
        intro Ma Ga am aw aq an1 an2
        unfold j_X3_gather_65
        obtain ⟨Mb, eb, Gb, bn, bm, bw, bq⟩ := x_await (a := x - 12) hpc hlb Ga (just Ga (am _ hx) _ (by unfold adj; omega))
        refine tt_ok ⟨by omega, by omega⟩ (tt_cq eb ?_)
        obtain ⟨Mc, ec, Gc, cn, cm, cw, cq⟩ := x_await (a := x + 12) hpc hlb Gb (just Gb (bm _ (am _ hx)) _ (by unfold adj; omega))
        refine tt_ok ⟨by omega, by omega⟩ (tt_cq ec (tt_ok ⟨by omega, by omega⟩ (tt_bi ?_)))
        refine nx Mc Mc Gc (fun t z => cm t (bm t (am t z))) (by omega) (fun i i0 i1 => ?_) (fun t qt ha hgt hlt => ?_)
        · rw [cq i i0 (by omega), bq i i0 (by omega)]; exact aq i i0 i1
        · rcases id ha with ⟨rfl, -⟩ | ⟨rfl, -⟩ | rfl | rfl
          · exact cm _ (bm _ (an1 qt ha hgt hlt))
          · exact cm _ (bm _ (an2 qt ha hgt hlt))
          · exact cm _ (bn qt hgt hlt)
          · exact cn qt hgt hlt
      have j51 : ∀ Ma : Mem, GX g lb pc s0 M0 Ma → (∀ t, M 15 t = pc → Ma 15 t = pc) → M 13 7 ≤ Ma 13 7 → (∀ i, 0 ≤ i → i < M 13 7 → Ma 18 i = M 18 i) → (isQ (x - 1) → adj x (x - 1) → g (x - 1) ≠ 0 → lb (x - 1) = -1 → Ma 15 (x - 1) = pc) → Tt (j_X3_gather_51 w Ma k x y) (fun r M1 => r = 0 ∧ GX g lb pc s0 M0 M1 ∧ M1 15 s0 = pc ∧ Ful g lb pc (M1 15)) := by
        intro Ma Ga am aw aq an1
        unfold j_X3_gather_51
        refine tt_if (fun c3 => ?_) (fun c3 => ?_)
        · exact j65 Ma Ga am aw aq an1 (fun _ ha _ _ => by unfold adj at ha; omega)
        · obtain ⟨Mb, eb, Gb, bn, bm, bw, bq⟩ := x_await (a := x + 1) hpc hlb Ga (just Ga (am _ hx) _ (by unfold adj; omega))
          refine tt_ok ⟨by omega, by omega⟩ (tt_cq eb ?_)
          refine j65 Mb Gb (fun t z => bm t (am t z)) (by omega) (fun i i0 i1 => ?_) (fun qt ha hgt hlt => bm _ (an1 qt ha hgt hlt)) (fun qt _ hgt hlt => bn qt hgt hlt)
          rw [bq i i0 (by omega)]; exact aq i i0 i1
      refine tt_if (fun c3 => ?_) (fun c3 => ?_)
      · exact j51 M G (fun _ z => z) (Int.le_refl _) (fun _ _ _ => rfl) (fun _ ha _ _ => by unfold adj at ha; omega)
      · obtain ⟨Mb, eb, Gb, bn, bm, bw, bq⟩ := x_await (a := x - 1) hpc hlb G (just G hx _ (by unfold adj; omega))
        refine tt_ok ⟨by omega, by omega⟩ (tt_cq eb ?_)
        exact j51 Mb Gb bm bw bq (fun qt _ hgt hlt => bn qt hgt hlt)
    · have := cnP_rng (M2 15) pc 96
      have := G2.2.2.2.1.2
      omega
  obtain ⟨r, M1, e1, rfl, q⟩ := key
  refine ⟨M1, ?_, q⟩
  unfold f_X3_gather
  rw [bm_e, e2, cl_some]
  exact e1
