/-! SUMS AND TESTS as code: one value for both -/
def clp (n lo hi : Int) : Int := if n < lo then lo else if hi < n then hi else n
theorem clp_rng {n lo hi : Int} (h : lo ≤ hi) : lo ≤ clp n lo hi ∧ clp n lo hi ≤ hi := by
  unfold clp; split
  · exact ⟨Int.le_refl _, h⟩
  · split <;> constructor <;> omega
theorem clp_id {n lo hi : Int} (h1 : lo ≤ n) (h2 : n ≤ hi) : clp n lo hi = n := by
  unfold clp; rw [if_neg (by omega), if_neg (by omega)]
theorem e_max (M : Mem) (a b : Int) : f_J9_max_7cf53 M a b = some (max a b, M) := by
  unfold f_J9_max_7cf53; split
  · rw [Int.max_eq_right (by omega)]
  · rw [Int.max_eq_left (by omega)]
theorem e_min (M : Mem) (a b : Int) : f_J9_min_7cf53 M a b = some (min a b, M) := by
  unfold f_J9_min_7cf53; split
  · rw [Int.min_eq_right (by omega)]
  · rw [Int.min_eq_left (by omega)]
theorem e_clamped (M : Mem) (n lo hi : Int) (h : lo ≤ hi) : f_X11_clamped M n lo hi = some (clp n lo hi, M) := by
  unfold f_X11_clamped clp
  split
  · split
    · rw [if_neg (by omega), if_neg (by omega)]
    · rw [if_neg (by omega), if_pos (by omega)]
  · rw [if_pos (by omega)]
theorem e_clip (M : Mem) (n : Int) : f_X12_clip M n = some (clp n (-1000000) 1000000, M) := by
  unfold f_X12_clip clp
  split
  · split
    · rw [if_neg (by omega), if_neg (by omega)]
    · rw [if_pos (by omega)]
  · rw [if_neg (by omega), if_pos (by omega)]
theorem ixor_bv (x y : Int) : ixor x y = (BitVec.ofInt 32 x ^^^ BitVec.ofInt 32 y).toInt := rfl
theorem ixor_neg {x y : Int} (hx : in32 x) (hy : in32 y) : (0 ≤ ixor x y) ↔ ((0 ≤ x) ↔ (0 ≤ y)) := by
  have key : ∀ b : BitVec 32, (0 ≤ b.toInt) ↔ b.msb = false := by
    intro b
    rw [BitVec.msb_eq_toInt]
    simp
  have tx : (BitVec.ofInt 32 x).toInt = x := by
    rw [BitVec.toInt_ofInt]; exact Int.bmod_eq_of_le (by have := hx.1; omega) (by have := hx.2; omega)
  have ty : (BitVec.ofInt 32 y).toInt = y := by
    rw [BitVec.toInt_ofInt]; exact Int.bmod_eq_of_le (by have := hy.1; omega) (by have := hy.2; omega)
  rw [ixor_bv, key, BitVec.msb_xor]
  have hx1 := key (BitVec.ofInt 32 x)
  have hy1 := key (BitVec.ofInt 32 y)
  rw [tx] at hx1
  rw [ty] at hy1
  rw [hx1, hy1]
  cases (BitVec.ofInt 32 x).msb <;> cases (BitVec.ofInt 32 y).msb <;> simp
theorem tdiv_fdiv (x y : Int) (hy : y ≠ 0) : x.fdiv y = if (0 ≤ x ↔ 0 ≤ y) ∨ x.tdiv y * y = x then x.tdiv y else x.tdiv y - 1 := by
  have h1 := Int.mul_tdiv_add_tmod x y
  have e1 : x.tdiv y * y = y * x.tdiv y := Int.mul_comm _ _
  have hz : (y ∣ x) ↔ x.tmod y = 0 := Int.dvd_iff_tmod_eq_zero
  have h2 : x.tdiv y * y = x ↔ y ∣ x := by
    rw [hz, e1]; constructor <;> intro h <;> omega
  rw [Int.fdiv_eq_tdiv]
  by_cases hd : y ∣ x
  · rw [if_pos hd, if_pos (show (0 ≤ x ↔ 0 ≤ y) ∨ x.tdiv y * y = x from Or.inr (h2.mpr hd)), Int.sub_zero]
  · rw [if_neg hd]
    have h3 : ¬ x.tdiv y * y = x := fun q => hd (h2.mp q)
    by_cases a : 0 ≤ x <;> by_cases b : 0 ≤ y
    · rw [if_pos a, if_pos b, if_pos (show (0 ≤ x ↔ 0 ≤ y) ∨ x.tdiv y * y = x from Or.inl ⟨fun _ => b, fun _ => a⟩)]; omega
    · rw [if_pos a, if_neg b, if_neg (show ¬ ((0 ≤ x ↔ 0 ≤ y) ∨ x.tdiv y * y = x) from fun q => q.elim (fun q => b (q.mp a)) h3)]
    · rw [if_neg a, if_pos b, if_neg (show ¬ ((0 ≤ x ↔ 0 ≤ y) ∨ x.tdiv y * y = x) from fun q => q.elim (fun q => a (q.mpr b)) h3), Int.sign_eq_one_of_pos (show 0 < y by omega)]
    · rw [if_neg a, if_neg b, if_pos (show (0 ≤ x ↔ 0 ≤ y) ∨ x.tdiv y * y = x from Or.inl ⟨fun q => absurd q a, fun q => absurd q b⟩), Int.sign_eq_neg_one_of_neg (show y < 0 by omega)]; omega
theorem tdiv_le (x y : Int) : (x.tdiv y).natAbs ≤ x.natAbs := by
  rw [Int.natAbs_tdiv]; exact Nat.div_le_self _ _
theorem e_floorDiv (M : Mem) {a b : Int} (ha : -1000000 ≤ a ∧ a ≤ 1000000) (hb : -1000000 ≤ b ∧ b ≤ 1000000) (h0 : b ≠ 0) : f_J9_floorDiv_7cf53 M a b = some (a.fdiv b, M) := by
  have hq := tdiv_le a b
  have hm := tmod_abs a b
  have hs := tmod_sub a b
  unfold f_J9_floorDiv_7cf53
  rw [ok_t h0, ok_t ⟨by omega, by omega⟩]
  show (if 0 ≤ ixor a b then _ else _) = _
  have hx := ixor_neg (x := a) (y := b) ⟨by omega, by omega⟩ ⟨by omega, by omega⟩
  rw [tdiv_fdiv a b h0]
  by_cases h : 0 ≤ ixor a b
  · rw [if_pos h, if_pos (Or.inl (hx.mp h))]
  · rw [if_neg h, ok_t ⟨by omega, by omega⟩]
    have hn : ¬ (0 ≤ a ↔ 0 ≤ b) := fun q => h (hx.mpr q)
    by_cases h2 : a.tdiv b * b = a
    · rw [if_pos h2, if_pos (show (0 ≤ a ↔ 0 ≤ b) ∨ a.tdiv b * b = a from Or.inr h2)]
    · rw [if_neg h2, ok_t ⟨by omega, by omega⟩, if_neg (show ¬ ((0 ≤ a ↔ 0 ≤ b) ∨ a.tdiv b * b = a) from fun q => q.elim hn h2)]
theorem e_floor (M : Mem) {a b : Int} (ha : -1000000 ≤ a ∧ a ≤ 1000000) (hb : -1000000 ≤ b ∧ b ≤ 1000000) : f_X12_floor M a b = some (if b = 0 then 0 else a.fdiv b, M) := by
  have hq := tdiv_le a b
  have hs := tmod_sub a b
  unfold f_X12_floor
  by_cases h0 : b = 0
  · rw [if_pos h0, if_pos h0]
  · rw [if_neg h0, if_neg h0, ok_t h0, ok_t ⟨by omega, by omega⟩]
    show (if a.tmod b = 0 then _ else _) = _
    rw [tdiv_fdiv a b h0]
    by_cases hm : a.tmod b = 0
    · rw [if_pos hm, if_pos (Or.inr (by omega))]
    · rw [if_neg hm]
      have h3 : ¬ a.tdiv b * b = a := by omega
      have hj : ∀ s0 s1 : Int, j_X12_floor_43 M (a.tdiv b) s0 s1 = some (if s1 = s0 then a.tdiv b else a.tdiv b - 1, M) := by
        intro s0 s1
        unfold j_X12_floor_43
        by_cases h : s1 = s0
        · rw [if_pos h, if_pos h]
        · rw [if_neg h, if_neg h, ok_t ⟨by omega, by omega⟩]
      unfold j_X12_floor_32
      simp only [hj]
      by_cases h1 : 0 ≤ a <;> by_cases h2 : 0 ≤ b
      · rw [if_pos h1, if_pos h2, if_pos (show (0 ≤ a ↔ 0 ≤ b) ∨ a.tdiv b * b = a from Or.inl ⟨fun _ => h2, fun _ => h1⟩)]; rfl
      · rw [if_pos h1, if_neg h2, if_neg (show ¬ ((0 ≤ a ↔ 0 ≤ b) ∨ a.tdiv b * b = a) from fun q => q.elim (fun q => h2 (q.mp h1)) h3)]; rfl
      · rw [if_neg h1, if_pos h2, if_neg (show ¬ ((0 ≤ a ↔ 0 ≤ b) ∨ a.tdiv b * b = a) from fun q => q.elim (fun q => h1 (q.mpr h2)) h3)]; rfl
      · rw [if_neg h1, if_neg h2, if_pos (show (0 ≤ a ↔ 0 ≤ b) ∨ a.tdiv b * b = a from Or.inl ⟨fun q => absurd q h1, fun q => absurd q h2⟩)]; rfl
/-- a mark of the class for a code of the reference -/
def mk (v : Int) : Int := if 1000 ≤ v then v - 1000 else if v = 17 then 1 else if v = 7 then -15 else if v = 8 then -16 else if v = 9 then -17 else if v = 10 then -1 else if v = 18 then -18 else if v = 30 then -19 else if v = 16 then -13 else if v = 1 then -44 else if v = 2 then -46 else if v = 3 then -43 else if v = 4 then -48 else if v = 5 then -20 else if v = 6 then -21 else if v = 11 then -61 else if v = 12 then -63 else if v = 13 then -62 else if v = 14 then -12 else -11
/-- what a code that tells a value tells; e by the numbers of the OWN WORDS -/
def tel (e : Int → Int) (v : Int) : Int := if 1000 ≤ v then v - 1000 else if v = 7 then e 14 else if v = 8 then e 15 else if v = 9 then e 16 else if v = 10 then e 0 else if v = 18 then e 17 else if v = 30 then e 18 else 1
/-- what a code does with two values -/
def bin (v a b : Int) : Int := if v = 1 then clp (a + b) (-1000000) 1000000 else if v = 2 then clp (a - b) (-1000000) 1000000 else if v = 3 then clp (a * b) (-1000000) 1000000 else if v = 4 then (if b = 0 then 0 else a.fdiv b) else if v = 5 then min a b else if v = 6 then max a b else if v = 11 then bI (a < b) else if v = 12 then bI (b < a) else if v = 13 then bI (a = b) else if v = 14 then a * b else bI (0 < a + b)
def tells0 (v : Int) : Bool := (1000 ≤ v && v ≤ 10999) || v == 7 || v == 8 || v == 9 || v == 10 || v == 18 || v == 30
/-- the sorts (true: of a TEST) of what lies on the stack -/
def tst (v : Int) (ts : List Bool) : Option (List Bool) :=
  if tells0 v then some (false :: ts)
  else if v = 17 then some (true :: ts)
  else if v = 16 then (match ts with | true :: r => some (true :: r) | _ => none)
  else if 1 ≤ v ∧ v ≤ 6 then (match ts with | false :: false :: r => some (false :: r) | _ => none)
  else if 11 ≤ v ∧ v ≤ 13 then (match ts with | false :: false :: r => some (true :: r) | _ => none)
  else if v = 14 ∨ v = 15 then (match ts with | true :: true :: r => some (true :: r) | _ => none)
  else none
def trn : List Int → List Bool → Option (List Bool)
  | [], ts => some ts
  | v :: c, ts => match tst v ts with
    | none => none
    | some t2 => if t2.length ≤ 60 then trn c t2 else none
def est (e : Int → Int) (v : Int) (s : List Int) : List Int :=
  if tells0 v = true ∨ v = 17 then tel e v :: s
  else if v = 16 then (match s with | a :: r => (1 - a) :: r | _ => [])
  else (match s with | b :: a :: r => bin v a b :: r | _ => [])
def ern (e : Int → Int) : List Int → List Int → List Int
  | [], s => s
  | v :: c, s => ern e c (est e v s)
def vt : List Bool → List Int → Prop
  | [], [] => True
  | t :: ts, x :: s => (if t = true then x = 0 ∨ x = 1 else -1000000 ≤ x ∧ x ≤ 1000000) ∧ vt ts s
  | _, _ => False
def EnvOk (e : Int → Int) : Prop := ∀ k, -1000000 ≤ e k ∧ e k ≤ 1000000
theorem vt_len : ∀ {ts : List Bool} {s : List Int}, vt ts s → s.length = ts.length
  | [], [], _ => rfl
  | _ :: _, [], h => by cases h
  | [], _ :: _, h => by cases h
  | _ :: ts, _ :: s, h => by
    have := vt_len h.2
    simp [this]
theorem tel_rng {e : Int → Int} (he : EnvOk e) {v : Int} (h : tells0 v = true ∨ v = 17) : -1000000 ≤ tel e v ∧ tel e v ≤ 1000000 := by
  have hv : v < 1000 ∨ (1000 ≤ v ∧ v ≤ 10999) := by
    rcases h with h | h
    · unfold tells0 at h; simp at h; omega
    · omega
  unfold tel
  split
  · omega
  · split
    · exact he _
    · split
      · exact he _
      · split
        · exact he _
        · split
          · exact he _
          · split
            · exact he _
            · split
              · exact he _
              · omega
theorem fdiv_rng {a b : Int} (ha : -1000000 ≤ a ∧ a ≤ 1000000) (h0 : b ≠ 0) : -1000000 ≤ a.fdiv b ∧ a.fdiv b ≤ 1000000 := by
  have hq := tdiv_le a b
  have hs := tmod_sub a b
  rw [tdiv_fdiv a b h0]
  split
  · omega
  · rename_i h
    have h2 : ¬ a.tdiv b * b = a := fun q => h (Or.inr q)
    refine ⟨?_, by omega⟩
    rcases Int.lt_trichotomy (a.tdiv b) (-1000000) with q | q | q
    · omega
    · exfalso
      rw [q] at h2 hs
      have h3 : a.natAbs ≤ 1000000 := by omega
      have e1 : a = -1000000 ∨ a = 1000000 := by rw [q] at hq; omega
      have hm := tmod_abs a b
      have h5 : (a.tdiv b).natAbs = a.natAbs / b.natAbs := Int.natAbs_tdiv a b
      rw [q] at h5
      have h6 : a.natAbs = 1000000 := by omega
      rw [h6] at h5
      have h7 : b.natAbs = 1 := by
        have hb1 : b.natAbs ≠ 0 := by omega
        have : b.natAbs < 2 := by
          rcases Nat.lt_or_ge b.natAbs 2 with z | z
          · exact z
          · have := Nat.div_le_div_left z (show 0 < 2 by decide) (a := 1000000)
            omega
        omega
      have e2 : b = 1 ∨ b = -1 := by omega
      rcases e1 with rfl | rfl <;> rcases e2 with rfl | rfl <;> omega
    · omega
theorem bin_rng {v a b : Int} (ha : -1000000 ≤ a ∧ a ≤ 1000000) (hb : -1000000 ≤ b ∧ b ≤ 1000000) (h : 1 ≤ v ∧ v ≤ 6) : -1000000 ≤ bin v a b ∧ bin v a b ≤ 1000000 := by
  unfold bin
  split
  · exact clp_rng (by decide)
  · split
    · exact clp_rng (by decide)
    · split
      · exact clp_rng (by decide)
      · split
        · split
          · omega
          · exact fdiv_rng ha (by assumption)
        · split
          · omega
          · split
            · omega
            · exfalso; omega
theorem bin_tst {v a b : Int} (h : 11 ≤ v ∧ v ≤ 13) : bin v a b = 0 ∨ bin v a b = 1 := by
  unfold bin
  rw [if_neg (by omega), if_neg (by omega), if_neg (by omega), if_neg (by omega), if_neg (by omega), if_neg (by omega)]
  split
  · exact bI_01
  · split
    · exact bI_01
    · split
      · exact bI_01
      · exfalso; omega
theorem bin_ao {v a b : Int} (h : v = 14 ∨ v = 15) (ha : a = 0 ∨ a = 1) (hb : b = 0 ∨ b = 1) : bin v a b = 0 ∨ bin v a b = 1 := by
  unfold bin
  rw [if_neg (by omega), if_neg (by omega), if_neg (by omega), if_neg (by omega), if_neg (by omega), if_neg (by omega), if_neg (by omega), if_neg (by omega), if_neg (by omega)]
  split
  · rcases ha with rfl | rfl <;> rcases hb with rfl | rfl <;> simp
  · exact bI_01
theorem est_ok {e : Int → Int} (he : EnvOk e) {v : Int} {ts t2 : List Bool} {s : List Int} (h : tst v ts = some t2) (hs : vt ts s) : vt t2 (est e v s) := by
  unfold tst at h
  unfold est
  by_cases h1 : tells0 v = true
  · rw [if_pos h1] at h
    cases h
    rw [if_pos (Or.inl h1)]
    refine ⟨?_, hs⟩
    simpa using tel_rng he (Or.inl h1)
  · rw [if_neg h1] at h
    by_cases h2 : v = 17
    · rw [if_pos h2] at h
      cases h
      rw [if_pos (Or.inr h2)]
      refine ⟨?_, hs⟩
      subst h2
      simp [tel]
    · rw [if_neg h2] at h
      rw [if_neg (by rintro (q | q); exact h1 q; exact h2 q)]
      by_cases h3 : v = 16
      · rw [if_pos h3] at h
        rw [if_pos h3]
        match ts, s, h, hs with
        | true :: r, x :: s, h, hs =>
          cases h
          refine ⟨?_, hs.2⟩
          have := hs.1
          simp at this ⊢
          omega
      · rw [if_neg h3] at h
        rw [if_neg h3]
        by_cases h4 : 1 ≤ v ∧ v ≤ 6
        · rw [if_pos h4] at h
          match ts, s, h, hs with
          | false :: false :: r, b :: a :: s, h, hs =>
            cases h
            refine ⟨?_, hs.2.2⟩
            have q1 := hs.1
            have q2 := hs.2.1
            simp at q1 q2 ⊢
            exact bin_rng q2 q1 h4
        · rw [if_neg h4] at h
          by_cases h5 : 11 ≤ v ∧ v ≤ 13
          · rw [if_pos h5] at h
            match ts, s, h, hs with
            | false :: false :: r, b :: a :: s, h, hs =>
              cases h
              refine ⟨?_, hs.2.2⟩
              simpa using bin_tst h5
          · rw [if_neg h5] at h
            by_cases h6 : v = 14 ∨ v = 15
            · rw [if_pos h6] at h
              match ts, s, h, hs with
              | true :: true :: r, b :: a :: s, h, hs =>
                cases h
                refine ⟨?_, hs.2.2⟩
                have q1 := hs.1
                have q2 := hs.2.1
                simp at q1 q2 ⊢
                exact bin_ao h6 q2 q1
            · rw [if_neg h6] at h; cases h
theorem trn_app : ∀ (c d : List Int) (ts : List Bool), trn (c ++ d) ts = (trn c ts).bind (trn d)
  | [], d, ts => rfl
  | v :: c, d, ts => by
    show (match tst v ts with | none => none | some t2 => if t2.length ≤ 60 then trn (c ++ d) t2 else none) = (match tst v ts with | none => none | some t2 => if t2.length ≤ 60 then trn c t2 else none).bind (trn d)
    cases tst v ts with
    | none => rfl
    | some t2 =>
      by_cases h : t2.length ≤ 60
      · simp only [if_pos h]; exact trn_app c d t2
      · simp only [if_neg h]; rfl
theorem ern_app (e : Int → Int) : ∀ (c d s : List Int), ern e (c ++ d) s = ern e d (ern e c s)
  | [], _, _ => rfl
  | _ :: c, d, s => ern_app e c d _
theorem trn_cons {v : Int} {c : List Int} {ts t3 : List Bool} (h : trn (v :: c) ts = some t3) : ∃ t2, tst v ts = some t2 ∧ t2.length ≤ 60 ∧ trn c t2 = some t3 := by
  have h' : (match tst v ts with | none => none | some t2 => if t2.length ≤ 60 then trn c t2 else none) = some t3 := h
  cases e : tst v ts with
  | none => rw [e] at h'; cases h'
  | some t2 =>
    rw [e] at h'
    by_cases hl : t2.length ≤ 60
    · simp only [if_pos hl] at h'; exact ⟨t2, rfl, hl, h'⟩
    · simp only [if_neg hl] at h'; cases h'
theorem ern_ok {e : Int → Int} (he : EnvOk e) : ∀ {c : List Int} {ts t3 : List Bool} {s : List Int}, trn c ts = some t3 → vt ts s → vt t3 (ern e c s)
  | [], _, _, _, h, hs => by cases h; exact hs
  | v :: c, _, _, _, h, hs => by
    obtain ⟨t2, h1, -, h3⟩ := trn_cons h
    exact ern_ok he (c := c) (s := est e v _) h3 (est_ok he h1 hs)
/-- cells of a row from i on -/
def Seg (M : Mem) (a : Int) : Int → List Int → Prop
  | _, [] => True
  | i, x :: r => M a i = x ∧ Seg M a (i + 1) r
/-- a stack, its top first -/
def Stk (M : Mem) (a : Int) : List Int → Prop
  | [] => True
  | x :: r => M a (r.length : Int) = x ∧ Stk M a r
theorem Seg.fr {M M1 : Mem} {a : Int} (hf : ∀ i, M1 a i = M a i) : ∀ {i : Int} {c : List Int}, Seg M a i c → Seg M1 a i c
  | _, [], _ => trivial
  | _, _ :: _, h => ⟨(hf _).trans h.1, Seg.fr hf h.2⟩
theorem Seg.of {M M1 : Mem} {a a1 : Int} {i j : Int} {c : List Int} (hf : ∀ k : Int, 0 ≤ k → k < c.length → M1 a1 (j + k) = M a (i + k)) (h : Seg M a i c) : Seg M1 a1 j c := by
  induction c generalizing i j with
  | nil => trivial
  | cons x r ih =>
    refine ⟨?_, ih (fun k h1 h2 => ?_) h.2⟩
    · have := hf 0 (Int.le_refl 0) (by simp)
      rw [Int.add_zero, Int.add_zero] at this
      rw [this]; exact h.1
    · have := hf (k + 1) (by omega) (by simp; omega)
      rw [show j + 1 + k = j + (k + 1) by omega, show i + 1 + k = i + (k + 1) by omega]
      exact this
theorem Seg.app {M : Mem} {a : Int} : ∀ {c d : List Int} {i : Int}, Seg M a i (c ++ d) ↔ Seg M a i c ∧ Seg M a (i + c.length) d
  | [], d, i => by simp [Seg]
  | x :: c, d, i => by
    show (M a i = x ∧ Seg M a (i + 1) (c ++ d)) ↔ (M a i = x ∧ Seg M a (i + 1) c) ∧ Seg M a (i + ((x :: c).length : Int)) d
    rw [Seg.app (c := c) (d := d), and_assoc]
    rw [show i + ((x :: c).length : Int) = i + 1 + c.length by simp; omega]
theorem Stk.st {M : Mem} {a v : Int} : ∀ {s : List Int} {i : Int}, Stk M a s → (s.length : Int) ≤ i → Stk (st M a i v) a s
  | [], _, _, _ => trivial
  | x :: r, i, h, hi => by
    have hl : ((x :: r).length : Int) = r.length + 1 := by simp
    refine ⟨?_, h.2.st (by omega)⟩
    rw [st_neI (by omega)]; exact h.1
theorem Stk.fr {M M1 : Mem} {a : Int} : ∀ {s : List Int}, (∀ i, 0 ≤ i → i < s.length → M1 a i = M a i) → Stk M a s → Stk M1 a s
  | [], _, _ => trivial
  | x :: r, hf, h => by
    have hl : ((x :: r).length : Int) = r.length + 1 := by simp
    exact ⟨(hf _ (by omega) (by omega)).trans h.1, h.2.fr (fun i h1 h2 => hf i h1 (by omega))⟩
