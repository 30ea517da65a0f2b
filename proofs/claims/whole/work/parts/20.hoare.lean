/-! WHAT A PURE FUNCTION COMES TO -/
def Tt (o : Res) (Q : Int → Mem → Prop) : Prop := ∃ r M, o = some (r, M) ∧ Q r M
def bI (p : Prop) [Decidable p] : Int := if p then 1 else 0
theorem bI_t {p : Prop} [Decidable p] (h : p) : bI p = 1 := if_pos h
theorem bI_f {p : Prop} [Decidable p] (h : ¬ p) : bI p = 0 := if_neg h
theorem bI_0 {p : Prop} [Decidable p] : bI p = 0 ↔ ¬ p := by unfold bI; split <;> simp_all
theorem bI_1 {p : Prop} [Decidable p] : bI p = 1 ↔ p := by unfold bI; split <;> simp_all
theorem bI_01 {p : Prop} [Decidable p] : bI p = 0 ∨ bI p = 1 := by unfold bI; split <;> simp
theorem tt_ret {r : Int} {M : Mem} {Q : Int → Mem → Prop} (h : Q r M) : Tt (some (r, M)) Q := ⟨r, M, rfl, h⟩
theorem tt_ok {c : Prop} [Decidable c] {o : Res} {Q : Int → Mem → Prop} (h : c) (k : Tt o Q) : Tt (ok c o) Q := by
  show Tt (if c then o else none) Q
  rw [if_pos h]; exact k
theorem tt_bi {x : Int} {K : Int → Res} {Q : Int → Mem → Prop} (k : Tt (K x) Q) : Tt (bi x K) Q := k
theorem tt_bm {M : Mem} {K : Mem → Res} {Q : Int → Mem → Prop} (k : Tt (K M) Q) : Tt (bm M K) Q := k
theorem tt_biN {x : Int} {K : Int → Res} {Q : Int → Mem → Prop} (k : ∀ y, y = x → Tt (K y) Q) : Tt (bi x K) Q := k x rfl
theorem tt_bmN {M : Mem} {K : Mem → Res} {Q : Int → Mem → Prop} (k : ∀ M1, M1 = M → Tt (K M1) Q) : Tt (bm M K) Q := k M rfl
theorem tt_cl {o : Res} {K : Int → Mem → Res} {Q : Int → Mem → Prop} (h : Tt o (fun r M => Tt (K r M) Q)) : Tt (cl o K) Q := by
  obtain ⟨r, M, e, k⟩ := h
  rw [e]; exact k
theorem tt_cq {o : Res} {K : Int → Mem → Res} {Q : Int → Mem → Prop} {r : Int} {M : Mem} (e : o = some (r, M)) (k : Tt (K r M) Q) : Tt (cl o K) Q := by
  rw [e]; exact k
theorem tt_cb {o : Res} {K : Int → Mem → Res} {Q P : Int → Mem → Prop} (h : Tt o P) (k : ∀ r M, P r M → Tt (K r M) Q) : Tt (cl o K) Q := by
  obtain ⟨r, M, e, hp⟩ := h
  rw [e]; exact k r M hp
theorem tt_if {c : Prop} [Decidable c] {a b : Res} {Q : Int → Mem → Prop} (h1 : c → Tt a Q) (h2 : ¬ c → Tt b Q) : Tt (if c then a else b) Q := by
  by_cases h : c
  · rw [if_pos h]; exact h1 h
  · rw [if_neg h]; exact h2 h
theorem tt_ip {c : Prop} [Decidable c] {a b : Res} {Q : Int → Mem → Prop} (h : c) (h1 : Tt a Q) : Tt (if c then a else b) Q := by rw [if_pos h]; exact h1
theorem tt_in {c : Prop} [Decidable c] {a b : Res} {Q : Int → Mem → Prop} (h : ¬ c) (h1 : Tt b Q) : Tt (if c then a else b) Q := by rw [if_neg h]; exact h1
theorem tt_mono {o : Res} {P Q : Int → Mem → Prop} (h : Tt o P) (k : ∀ r M, P r M → Q r M) : Tt o Q := by
  obtain ⟨r, M, e, hp⟩ := h
  exact ⟨r, M, e, k r M hp⟩
theorem tt_e {o : Res} {Q : Int → Mem → Prop} {r : Int} {M : Mem} (e : o = some (r, M)) (k : Q r M) : Tt o Q := ⟨r, M, e, k⟩
theorem cl_some {r : Int} {M : Mem} {K : Int → Mem → Res} : cl (some (r, M)) K = K r M := rfl
theorem ok_t {c : Prop} [Decidable c] {o : Res} (h : c) : ok c o = o := if_pos h
theorem wl_split (F k : Nat) (h : k ≤ F) : ∃ G, F = G + k := ⟨F - k, by omega⟩
theorem tt_wl0 {b : (Mem → Res) → Mem → Res} {Q : Int → Mem → Prop} (I : Mem → Prop) (μ : Mem → Nat) (h : ∀ (w : Mem → Res) (M : Mem), I M  → (∀ (M1 : Mem), I M1  → μ M1  < μ M  → Tt (w M1 ) Q) → Tt (b w M ) Q) : ∀ (F : Nat) (M : Mem), I M  → μ M  < F → Tt (wl0 b F M ) Q := by
  intro F
  induction F with
  | zero => intro M  _ hm; exact absurd hm (Nat.not_lt_zero _)
  | succ F ih =>
    intro M  hI hm
    rw [wl0_s]
    exact h _ M  hI (fun M1  hI1 hm1 => ih M1  hI1 (by omega))
theorem tt_wl1 {b : (Mem → Int → Res) → Mem → Int → Res} {Q : Int → Mem → Prop} (I : Mem → Int → Prop) (μ : Mem → Int → Nat) (h : ∀ (w : Mem → Int → Res) (M : Mem) (x0 : Int), I M x0 → (∀ (M1 : Mem) (y0 : Int), I M1 y0 → μ M1 y0 < μ M x0 → Tt (w M1 y0) Q) → Tt (b w M x0) Q) : ∀ (F : Nat) (M : Mem) (x0 : Int), I M x0 → μ M x0 < F → Tt (wl1 b F M x0) Q := by
  intro F
  induction F with
  | zero => intro M x0 _ hm; exact absurd hm (Nat.not_lt_zero _)
  | succ F ih =>
    intro M x0 hI hm
    rw [wl1_s]
    exact h _ M x0 hI (fun M1 y0 hI1 hm1 => ih M1 y0 hI1 (by omega))
theorem tt_wl2 {b : (Mem → Int → Int → Res) → Mem → Int → Int → Res} {Q : Int → Mem → Prop} (I : Mem → Int → Int → Prop) (μ : Mem → Int → Int → Nat) (h : ∀ (w : Mem → Int → Int → Res) (M : Mem) (x0 x1 : Int), I M x0 x1 → (∀ (M1 : Mem) (y0 y1 : Int), I M1 y0 y1 → μ M1 y0 y1 < μ M x0 x1 → Tt (w M1 y0 y1) Q) → Tt (b w M x0 x1) Q) : ∀ (F : Nat) (M : Mem) (x0 x1 : Int), I M x0 x1 → μ M x0 x1 < F → Tt (wl2 b F M x0 x1) Q := by
  intro F
  induction F with
  | zero => intro M x0 x1 _ hm; exact absurd hm (Nat.not_lt_zero _)
  | succ F ih =>
    intro M x0 x1 hI hm
    rw [wl2_s]
    exact h _ M x0 x1 hI (fun M1 y0 y1 hI1 hm1 => ih M1 y0 y1 hI1 (by omega))
theorem tt_wl3 {b : (Mem → Int → Int → Int → Res) → Mem → Int → Int → Int → Res} {Q : Int → Mem → Prop} (I : Mem → Int → Int → Int → Prop) (μ : Mem → Int → Int → Int → Nat) (h : ∀ (w : Mem → Int → Int → Int → Res) (M : Mem) (x0 x1 x2 : Int), I M x0 x1 x2 → (∀ (M1 : Mem) (y0 y1 y2 : Int), I M1 y0 y1 y2 → μ M1 y0 y1 y2 < μ M x0 x1 x2 → Tt (w M1 y0 y1 y2) Q) → Tt (b w M x0 x1 x2) Q) : ∀ (F : Nat) (M : Mem) (x0 x1 x2 : Int), I M x0 x1 x2 → μ M x0 x1 x2 < F → Tt (wl3 b F M x0 x1 x2) Q := by
  intro F
  induction F with
  | zero => intro M x0 x1 x2 _ hm; exact absurd hm (Nat.not_lt_zero _)
  | succ F ih =>
    intro M x0 x1 x2 hI hm
    rw [wl3_s]
    exact h _ M x0 x1 x2 hI (fun M1 y0 y1 y2 hI1 hm1 => ih M1 y0 y1 y2 hI1 (by omega))
theorem tt_wl4 {b : (Mem → Int → Int → Int → Int → Res) → Mem → Int → Int → Int → Int → Res} {Q : Int → Mem → Prop} (I : Mem → Int → Int → Int → Int → Prop) (μ : Mem → Int → Int → Int → Int → Nat) (h : ∀ (w : Mem → Int → Int → Int → Int → Res) (M : Mem) (x0 x1 x2 x3 : Int), I M x0 x1 x2 x3 → (∀ (M1 : Mem) (y0 y1 y2 y3 : Int), I M1 y0 y1 y2 y3 → μ M1 y0 y1 y2 y3 < μ M x0 x1 x2 x3 → Tt (w M1 y0 y1 y2 y3) Q) → Tt (b w M x0 x1 x2 x3) Q) : ∀ (F : Nat) (M : Mem) (x0 x1 x2 x3 : Int), I M x0 x1 x2 x3 → μ M x0 x1 x2 x3 < F → Tt (wl4 b F M x0 x1 x2 x3) Q := by
  intro F
  induction F with
  | zero => intro M x0 x1 x2 x3 _ hm; exact absurd hm (Nat.not_lt_zero _)
  | succ F ih =>
    intro M x0 x1 x2 x3 hI hm
    rw [wl4_s]
    exact h _ M x0 x1 x2 x3 hI (fun M1 y0 y1 y2 y3 hI1 hm1 => ih M1 y0 y1 y2 y3 hI1 (by omega))
theorem tt_wl5 {b : (Mem → Int → Int → Int → Int → Int → Res) → Mem → Int → Int → Int → Int → Int → Res} {Q : Int → Mem → Prop} (I : Mem → Int → Int → Int → Int → Int → Prop) (μ : Mem → Int → Int → Int → Int → Int → Nat) (h : ∀ (w : Mem → Int → Int → Int → Int → Int → Res) (M : Mem) (x0 x1 x2 x3 x4 : Int), I M x0 x1 x2 x3 x4 → (∀ (M1 : Mem) (y0 y1 y2 y3 y4 : Int), I M1 y0 y1 y2 y3 y4 → μ M1 y0 y1 y2 y3 y4 < μ M x0 x1 x2 x3 x4 → Tt (w M1 y0 y1 y2 y3 y4) Q) → Tt (b w M x0 x1 x2 x3 x4) Q) : ∀ (F : Nat) (M : Mem) (x0 x1 x2 x3 x4 : Int), I M x0 x1 x2 x3 x4 → μ M x0 x1 x2 x3 x4 < F → Tt (wl5 b F M x0 x1 x2 x3 x4) Q := by
  intro F
  induction F with
  | zero => intro M x0 x1 x2 x3 x4 _ hm; exact absurd hm (Nat.not_lt_zero _)
  | succ F ih =>
    intro M x0 x1 x2 x3 x4 hI hm
    rw [wl5_s]
    exact h _ M x0 x1 x2 x3 x4 hI (fun M1 y0 y1 y2 y3 y4 hI1 hm1 => ih M1 y0 y1 y2 y3 y4 hI1 (by omega))
theorem tt_wl6 {b : (Mem → Int → Int → Int → Int → Int → Int → Res) → Mem → Int → Int → Int → Int → Int → Int → Res} {Q : Int → Mem → Prop} (I : Mem → Int → Int → Int → Int → Int → Int → Prop) (μ : Mem → Int → Int → Int → Int → Int → Int → Nat) (h : ∀ (w : Mem → Int → Int → Int → Int → Int → Int → Res) (M : Mem) (x0 x1 x2 x3 x4 x5 : Int), I M x0 x1 x2 x3 x4 x5 → (∀ (M1 : Mem) (y0 y1 y2 y3 y4 y5 : Int), I M1 y0 y1 y2 y3 y4 y5 → μ M1 y0 y1 y2 y3 y4 y5 < μ M x0 x1 x2 x3 x4 x5 → Tt (w M1 y0 y1 y2 y3 y4 y5) Q) → Tt (b w M x0 x1 x2 x3 x4 x5) Q) : ∀ (F : Nat) (M : Mem) (x0 x1 x2 x3 x4 x5 : Int), I M x0 x1 x2 x3 x4 x5 → μ M x0 x1 x2 x3 x4 x5 < F → Tt (wl6 b F M x0 x1 x2 x3 x4 x5) Q := by
  intro F
  induction F with
  | zero => intro M x0 x1 x2 x3 x4 x5 _ hm; exact absurd hm (Nat.not_lt_zero _)
  | succ F ih =>
    intro M x0 x1 x2 x3 x4 x5 hI hm
    rw [wl6_s]
    exact h _ M x0 x1 x2 x3 x4 x5 hI (fun M1 y0 y1 y2 y3 y4 y5 hI1 hm1 => ih M1 y0 y1 y2 y3 y4 y5 hI1 (by omega))
theorem tt_wl7 {b : (Mem → Int → Int → Int → Int → Int → Int → Int → Res) → Mem → Int → Int → Int → Int → Int → Int → Int → Res} {Q : Int → Mem → Prop} (I : Mem → Int → Int → Int → Int → Int → Int → Int → Prop) (μ : Mem → Int → Int → Int → Int → Int → Int → Int → Nat) (h : ∀ (w : Mem → Int → Int → Int → Int → Int → Int → Int → Res) (M : Mem) (x0 x1 x2 x3 x4 x5 x6 : Int), I M x0 x1 x2 x3 x4 x5 x6 → (∀ (M1 : Mem) (y0 y1 y2 y3 y4 y5 y6 : Int), I M1 y0 y1 y2 y3 y4 y5 y6 → μ M1 y0 y1 y2 y3 y4 y5 y6 < μ M x0 x1 x2 x3 x4 x5 x6 → Tt (w M1 y0 y1 y2 y3 y4 y5 y6) Q) → Tt (b w M x0 x1 x2 x3 x4 x5 x6) Q) : ∀ (F : Nat) (M : Mem) (x0 x1 x2 x3 x4 x5 x6 : Int), I M x0 x1 x2 x3 x4 x5 x6 → μ M x0 x1 x2 x3 x4 x5 x6 < F → Tt (wl7 b F M x0 x1 x2 x3 x4 x5 x6) Q := by
  intro F
  induction F with
  | zero => intro M x0 x1 x2 x3 x4 x5 x6 _ hm; exact absurd hm (Nat.not_lt_zero _)
  | succ F ih =>
    intro M x0 x1 x2 x3 x4 x5 x6 hI hm
    rw [wl7_s]
    exact h _ M x0 x1 x2 x3 x4 x5 x6 hI (fun M1 y0 y1 y2 y3 y4 y5 y6 hI1 hm1 => ih M1 y0 y1 y2 y3 y4 y5 y6 hI1 (by omega))
/-- a frame: all cells but those of S are as they were -/
def Fr (S : Int → Int → Prop) (M M1 : Mem) : Prop := ∀ a i, ¬ S a i → M1 a i = M a i
theorem Fr.rf (S : Int → Int → Prop) (M : Mem) : Fr S M M := fun _ _ _ => rfl
theorem Fr.tr {S : Int → Int → Prop} {M M1 M2 : Mem} (h1 : Fr S M M1) (h2 : Fr S M1 M2) : Fr S M M2 := fun a i h => (h2 a i h).trans (h1 a i h)
theorem Fr.st {S : Int → Int → Prop} {M M1 : Mem} (h : Fr S M M1) {a i v : Int} (hs : S a i) : Fr S M (st M1 a i v) := by
  intro a' i' hn
  by_cases e : a' = a ∧ i' = i
  · obtain ⟨rfl, rfl⟩ := e; exact absurd hs hn
  · show (if a' = a ∧ i' = i then v else M1 a' i') = _
    rw [if_neg e]; exact h a' i' hn
theorem Fr.mono {S S' : Int → Int → Prop} {M M1 : Mem} (h : Fr S M M1) (hs : ∀ a i, S a i → S' a i) : Fr S' M M1 := fun a i hn => h a i (fun q => hn (hs a i q))
theorem st_ne {M : Mem} {a i v a' i' : Int} (h : ¬ (a' = a ∧ i' = i)) : st M a i v a' i' = M a' i' := by simp [st, h]
theorem st_at (M : Mem) (a i v : Int) : st M a i v a i = v := by simp [st]
theorem ed_nn {x y : Int} (h : 0 ≤ x) (hy : 0 < y) : 0 ≤ x / y ∧ x / y ≤ x := ⟨Int.ediv_nonneg h (by omega), Int.ediv_le_self y h⟩
