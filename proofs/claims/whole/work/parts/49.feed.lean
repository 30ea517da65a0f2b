/-! bytes (begun with rows of kit/laws/BITS) -/
def bt (x : Int32) (i : Nat) : Bool := x.toBitVec.getLsbD i
theorem b_ext {x y : Int32} (h : ∀ i, i < 32 → bt x i = bt y i) : x = y := Int32.toBitVec_inj.mp (BitVec.eq_of_getLsbD_eq (fun i hi => h i hi))
theorem b_and (x y : Int32) (i : Nat) : bt (x &&& y) i = (bt x i && bt y i) := by unfold bt; rw [Int32.toBitVec_and, BitVec.getLsbD_and]
theorem b_big {x : Int32} {i : Nat} (h : 32 ≤ i) : bt x i = false := BitVec.getLsbD_of_ge _ _ h
theorem b_255 (i : Nat) : bt 255 i = decide (i < 8) := by
  rcases Nat.lt_or_ge i 32 with h | h
  · exact (by decide +kernel : ∀ i, i < 32 → bt 255 i = decide (i < 8)) i h
  · rw [b_big h, decide_eq_false (by omega)]
theorem s_l : ∀ n, n < 32 → ((nI n &&& 31).toBitVec.smod 32).toNat = n := by decide +kernel
theorem s_u : ∀ n, n < 32 → (((nI n).toUInt32 &&& Int32.toUInt32 31).toBitVec % 32).toNat = n := by decide +kernel
theorem b_ushr (n : Nat) (hn : n < 32) (x : Int32) (i : Nat) : bt ((x.toUInt32 >>> ((nI n).toUInt32 &&& Int32.toUInt32 31)).toInt32) i = bt x (n + i) := by
  show (x.toUInt32 >>> ((nI n).toUInt32 &&& Int32.toUInt32 31)).toBitVec.getLsbD i = x.toUInt32.toBitVec.getLsbD (n + i)
  rw [UInt32.toBitVec_shiftRight]
  show (x.toUInt32.toBitVec >>> (((nI n).toUInt32 &&& Int32.toUInt32 31).toBitVec % 32).toNat).getLsbD i = _
  rw [s_u n hn, BitVec.getLsbD_ushiftRight]
theorem b_sshr (n : Nat) (hn : n < 32) (x : Int32) {i : Nat} (hi : i < 32) : bt (x >>> (nI n &&& 31)) i = if n + i < 32 then bt x (n + i) else bt x 31 := by
  unfold bt
  rw [Int32.toBitVec_shiftRight]
  show (x.toBitVec.sshiftRight ((nI n &&& 31).toBitVec.smod 32).toNat).getLsbD i = _
  rw [s_l n hn, BitVec.getLsbD_sshiftRight, BitVec.msb_eq_getLsbD_last]
  simp [hi]
theorem byte_eq (x : Int) (n : Nat) (hn : n ≤ 24) (s : Int) (hs : Int32.ofInt s = nI n) : iand (iushr x s) 255 = iand (ishr x s) 255 := by
  unfold iand iushr ishr
  rw [Int32.ofInt_toInt, Int32.ofInt_toInt, hs]
  congr 1
  apply b_ext
  intro i hi
  rw [b_and, b_and, show Int32.ofInt 255 = 255 from rfl, b_255, b_ushr n (by omega), b_sshr n (by omega) _ hi]
  by_cases h : i < 8
  · rw [if_pos (by omega)]
  · rw [decide_eq_false h, Bool.and_false, Bool.and_false]
theorem byte_rng (y : Int) : 0 ≤ iand y 255 ∧ iand y 255 ≤ 255 := by
  have h : (Int32.ofInt y &&& Int32.ofInt 255).toBitVec.toNat ≤ 255 := by
    rw [Int32.toBitVec_and, BitVec.toNat_and]
    exact Nat.and_le_right
  have e : iand y 255 = (((Int32.ofInt y &&& Int32.ofInt 255).toBitVec.toNat : Nat) : Int) := by
    unfold iand
    show (Int32.ofInt y &&& Int32.ofInt 255).toBitVec.toInt = _
    rw [BitVec.toInt_eq_toNat_of_lt (by omega)]
  omega
/-- byte j of a number, the highest first -/
def byt (a j : Int) : Int := iand (ishr a (24 - 8 * j)) 255
theorem byt_u (a : Int) {j : Int} (h : 0 ≤ j ∧ j < 4) : iand (iushr a (24 - 8 * j)) 255 = byt a j := by
  have : j = 0 ∨ j = 1 ∨ j = 2 ∨ j = 3 := by omega
  rcases this with rfl | rfl | rfl | rfl
  · exact byte_eq a 24 (by omega) _ rfl
  · exact byte_eq a 16 (by omega) _ rfl
  · exact byte_eq a 8 (by omega) _ rfl
  · exact byte_eq a 0 (by omega) _ rfl
section FE
variable {A B Mx Mm : Mem}
theorem x_addN {M : Mem} {n : Int} (a : Int) (hM : M 2 1 = n) (hn : 0 ≤ n ∧ n + 4 ≤ 900) : ∃ M1, f_X9_addNumber M a = some (0, M1) ∧ M1 2 1 = n + 4 ∧ (∀ j, 0 ≤ j → j < 4 → M1 3 (n + j) = byt a j) ∧ ∀ b i, ¬ (b = 2 ∧ i = 1) → ¬ (b = 3 ∧ n ≤ i ∧ i < n + 4) → M1 b i = M b i := by
  have q : Tt (f_X9_addNumber M a) (fun r M1 => r = 0 ∧ M1 2 1 = n + 4 ∧ (∀ j, 0 ≤ j → j < 4 → M1 3 (n + j) = byt a j) ∧ ∀ b i, ¬ (b = 2 ∧ i = 1) → ¬ (b = 3 ∧ n ≤ i ∧ i < n + 4) → M1 b i = M b i) := by
    unfold f_X9_addNumber
    refine tt_wl1 (fun M1 x => ∃ k, (0 ≤ k ∧ k ≤ 4) ∧ x = 24 - 8 * k ∧ M1 2 1 = n + k ∧ (∀ j, 0 ≤ j → j < k → M1 3 (n + j) = byt a j) ∧ ∀ b i, ¬ (b = 2 ∧ i = 1) → ¬ (b = 3 ∧ n ≤ i ∧ i < n + 4) → M1 b i = M b i) (fun _ x => (x + 8).toNat) ?_ FU M 24 ⟨0, ⟨by omega, by omega⟩, by omega, by omega, fun j h0 h1 => by omega, fun _ _ _ _ => rfl⟩ (by unfold FU; omega)
    rintro w M1 x ⟨k, hk, rfl, h1, h2, h3⟩ K
    unfold b_X9_addNumber_3
    refine tt_if (fun w1 => ?_) (fun w1 => ?_)
    · have : k = 4 := by omega
      subst this
      exact tt_ret ⟨rfl, h1, h2, h3⟩
    · rw [h1, byt_u a (j := k) ⟨hk.1, by omega⟩]
      refine tt_in (by omega) (tt_ok ⟨by omega, by omega⟩ (tt_bm ?_))
      rw [st_neA (by decide), h1]
      refine tt_ok ⟨by omega, by omega⟩ (tt_bm (tt_ok ⟨by omega, by omega⟩ (tt_bi (K _ _ ⟨k + 1, ⟨by omega, by omega⟩, by omega, by rw [st_at]; omega, fun j j0 j1 => ?_, fun b i hb1 hb2 => ?_⟩ (by omega)))))
      · rw [st_neA (by decide)]
        by_cases e : j = k
        · subst e; rw [st_at]
        · rw [st_neI (by omega)]; exact h2 j j0 (by omega)
      · rw [st_ne (by omega), st_ne (by omega)]; exact h3 b i hb1 hb2
  obtain ⟨r, M1, e, rfl, h⟩ := q
  exact ⟨M1, e, h⟩
/-- byte k of the five -/
def by5 (a b c d e k : Int) : Int := byt (if k < 4 then a else if k < 8 then b else if k < 12 then c else if k < 16 then d else e) (k % 4)
def tpB (B : Mem) (n a b c d e : Int) : Mem := fun x i => if x = 2 ∧ i = 1 then n + 20 else if x = 3 ∧ n ≤ i ∧ i < n + 20 then by5 a b c d e (i - n) else B x i
def tpA (A : Mem) (n a b c d e : Int) : Mem := fun x i => if x = 337 ∧ i = 1 then n + 20 else if x = 338 ∧ n ≤ i ∧ i < n + 20 then by5 a b c d e (i - n) else A x i
theorem x_feed {M : Mem} {n : Int} (a b c d e : Int) (hM : M 2 1 = n) (hn : 0 ≤ n ∧ n + 20 ≤ 900) : f_X11_feed M a b c d e = some (n + 20, tpB M n a b c d e) := by
  obtain ⟨M1, e1, p1, q1, f1⟩ := x_addN a hM (by omega)
  obtain ⟨M2, e2, p2, q2, f2⟩ := x_addN b p1 (by omega)
  obtain ⟨M3, e3, p3, q3, f3⟩ := x_addN c p2 (by omega)
  obtain ⟨M4, e4, p4, q4, f4⟩ := x_addN d p3 (by omega)
  obtain ⟨M5, e5, p5, q5, f5⟩ := x_addN e p4 (by omega)
  unfold f_X11_feed
  rw [hM, ok_t ⟨by omega, by omega⟩, if_pos (by omega), e1, cl_some, e2, cl_some, e3, cl_some, e4, cl_some, e5, cl_some, p5]
  congr 2
  · omega
  · funext x i
    unfold tpB
    by_cases h1 : x = 2 ∧ i = 1
    · obtain ⟨rfl, rfl⟩ := h1
      rw [if_pos ⟨rfl, rfl⟩, p5]; omega
    · rw [if_neg h1]
      by_cases h2 : x = 3 ∧ n ≤ i ∧ i < n + 20
      · obtain ⟨rfl, i0, i1⟩ := h2
        rw [if_pos ⟨rfl, i0, i1⟩]
        unfold by5
        by_cases c1 : i - n < 4
        · rw [if_pos c1, f5 3 i (by omega) (by omega), f4 3 i (by omega) (by omega), f3 3 i (by omega) (by omega), f2 3 i (by omega) (by omega)]
          have := q1 (i - n) (by omega) (by omega)
          rw [show n + (i - n) = i by omega] at this
          rw [this, show (i - n) % 4 = i - n by omega]
        · rw [if_neg c1]
          by_cases c2 : i - n < 8
          · rw [if_pos c2, f5 3 i (by omega) (by omega), f4 3 i (by omega) (by omega), f3 3 i (by omega) (by omega)]
            have := q2 (i - n - 4) (by omega) (by omega)
            rw [show n + 4 + (i - n - 4) = i by omega] at this
            rw [this, show (i - n) % 4 = i - n - 4 by omega]
          · rw [if_neg c2]
            by_cases c3 : i - n < 12
            · rw [if_pos c3, f5 3 i (by omega) (by omega), f4 3 i (by omega) (by omega)]
              have := q3 (i - n - 8) (by omega) (by omega)
              rw [show n + 4 + 4 + (i - n - 8) = i by omega] at this
              rw [this, show (i - n) % 4 = i - n - 8 by omega]
            · rw [if_neg c3]
              by_cases c4 : i - n < 16
              · rw [if_pos c4, f5 3 i (by omega) (by omega)]
                have := q4 (i - n - 12) (by omega) (by omega)
                rw [show n + 4 + 4 + 4 + (i - n - 12) = i by omega] at this
                rw [this, show (i - n) % 4 = i - n - 12 by omega]
              · rw [if_neg c4]
                have := q5 (i - n - 16) (by omega) (by omega)
                rw [show n + 4 + 4 + 4 + 4 + (i - n - 16) = i by omega] at this
                rw [this, show (i - n) % 4 = i - n - 16 by omega]
      · rw [if_neg h2, f5 x i h1 (by omega), f4 x i h1 (by omega), f3 x i h1 (by omega), f2 x i h1 (by omega), f1 x i h1 (by omega)]
theorem m_feed {M : Mem} {n : Int} (a b c d e : Int) (hM : M 337 1 = n) (hn : 0 ≤ n ∧ n + 20 ≤ 900) : f_X12_feed M a b c d e = some (n + 20, tpA M n a b c d e) := by
  have q : Tt (f_X12_feed M a b c d e) (fun r M1 => r = n + 20 ∧ M1 337 1 = n + 20 ∧ (∀ j, 0 ≤ j → j < 20 → M1 338 (n + j) = by5 a b c d e j) ∧ ∀ x i, ¬ (x = 337 ∧ i = 1) → ¬ (x = 338 ∧ n ≤ i ∧ i < n + 20) → M1 x i = M x i) := by
    unfold f_X12_feed
    rw [hM]
    refine tt_ok ⟨by omega, by omega⟩ (tt_ip (by omega) ?_)
    refine tt_wl1 (fun M1 k => (0 ≤ k ∧ k ≤ 20) ∧ M1 337 1 = n + k ∧ (∀ j, 0 ≤ j → j < k → M1 338 (n + j) = by5 a b c d e j) ∧ ∀ x i, ¬ (x = 337 ∧ i = 1) → ¬ (x = 338 ∧ n ≤ i ∧ i < n + 20) → M1 x i = M x i) (fun _ k => (20 - k).toNat) ?_ FU M 0 ⟨⟨by omega, by omega⟩, by omega, fun j h0 h1 => by omega, fun _ _ _ _ => rfl⟩ (by unfold FU; omega)
    rintro w M1 k ⟨hk, h1, h2, h3⟩ K
    have go : ∀ v, k < 20 → v = (if k < 4 then a else if k < 8 then b else if k < 12 then c else if k < 16 then d else e) → Tt (j_X12_feed_71 a b c d e w M1 k v) (fun r M1 => r = n + 20 ∧ M1 337 1 = n + 20 ∧ (∀ j, 0 ≤ j → j < 20 → M1 338 (n + j) = by5 a b c d e j) ∧ ∀ x i, ¬ (x = 337 ∧ i = 1) → ¬ (x = 338 ∧ n ≤ i ∧ i < n + 20) → M1 x i = M x i) := by
      intro v hk20 hv
      unfold j_X12_feed_71
      rw [h1]
      refine tt_ok hk.1 (tt_ok ⟨by omega, by omega⟩ (tt_ok ⟨by omega, by omega⟩ (tt_ok ⟨by omega, by omega⟩ (tt_bm ?_))))
      rw [st_neA (by decide), h1]
      refine tt_ok ⟨by omega, by omega⟩ (tt_bm (tt_ok ⟨by omega, by omega⟩ (tt_bi (K _ _ ⟨⟨by omega, by omega⟩, by rw [st_at]; omega, fun j j0 j1 => ?_, fun x i hx1 hx2 => ?_⟩ (by omega)))))
      · rw [st_neA (by decide)]
        by_cases ej : j = k
        · subst ej
          rw [st_at]
          unfold by5 byt
          rw [← hv, show 8 * (3 - j % 4) = 24 - 8 * (j % 4) by omega]
        · rw [st_neI (by omega)]; exact h2 j j0 (by omega)
      · rw [st_ne (by omega), st_ne (by omega)]; exact h3 x i hx1 hx2
    unfold b_X12_feed_18
    refine tt_if (fun w1 => ?_) (fun w1 => tt_if (fun w2 => tt_if (fun w3 => tt_if (fun w4 => tt_if (fun w5 => ?_) (fun w5 => ?_)) (fun w4 => ?_)) (fun w3 => ?_)) (fun w2 => ?_))
    · have : k = 20 := by omega
      subst this
      exact tt_ret ⟨h1, h1, h2, h3⟩
    · exact go e (by omega) (by rw [if_neg (by omega), if_neg (by omega), if_neg (by omega), if_neg (by omega)])
    · exact go d (by omega) (by rw [if_neg (by omega), if_neg (by omega), if_neg (by omega), if_pos (by omega)])
    · exact go c (by omega) (by rw [if_neg (by omega), if_neg (by omega), if_pos (by omega)])
    · exact go b (by omega) (by rw [if_neg (by omega), if_pos (by omega)])
    · exact go a (by omega) (by rw [if_pos (by omega)])
  obtain ⟨r, M1, ee, rfl, p, q, f⟩ := q
  rw [ee]
  congr 2
  funext x i
  unfold tpA
  by_cases h1 : x = 337 ∧ i = 1
  · obtain ⟨rfl, rfl⟩ := h1; rw [if_pos ⟨rfl, rfl⟩, p]
  · rw [if_neg h1]
    by_cases h2 : x = 338 ∧ n ≤ i ∧ i < n + 20
    · obtain ⟨rfl, i0, i1⟩ := h2
      rw [if_pos ⟨rfl, i0, i1⟩]
      have := q (i - n) (by omega) (by omega)
      rw [show n + (i - n) = i by omega] at this
      exact this
    · rw [if_neg h2]; exact f x i h1 h2
theorem J_feed (h : R Mx Mm) (a1 a2 a3 a4 a5 : Int) : Jt (f_X11_feed Mx a1 a2 a3 a4 a5) (f_X12_feed Mm a1 a2 a3 a4 a5) := by
  obtain ⟨A, B, h⟩ := h
  obtain ⟨t1, t2, t3⟩ := h.tap
  have m1 : Mm 337 1 = B 2 1 := (h.rm (by unfold ScM; omega)).trans t1
  have x1 : Mx 2 1 = B 2 1 := h.rx (by omega) (by omega)
  by_cases w : B 2 1 + 20 ≤ 900
  · refine ⟨_, _, _, x_feed a1 a2 a3 a4 a5 x1 ⟨t2.1, w⟩, m_feed a1 a2 a3 a4 a5 m1 ⟨t2.1, w⟩, ?_⟩
    refine h.upd (A1 := tpA A (B 2 1) a1 a2 a3 a4 a5) (B1 := tpB B (B 2 1) a1 a2 a3 a4 a5) ?_ ?_ ?_ (h.flt.ext ?_ ?_ ?_ ?_) (h.trs.ext ?_ ?_ ?_ ?_ ?_ ?_) (h.chr.ext ?_ ?_ ?_) (h.oct.ext ?_ ?_ ?_ ?_) ?_ ?_ ?_
    · intro x i hx
      unfold SimA at hx; unfold tpA; rw [if_neg (by omega), if_neg (by omega)]
    · intro x i hx
      unfold SimB at hx; unfold tpB; rw [if_neg (by omega), if_neg (by omega)]
    · have e1 : tpB B (B 2 1) a1 a2 a3 a4 a5 2 1 = B 2 1 + 20 := if_pos ⟨rfl, rfl⟩
      have e2 : tpA A (B 2 1) a1 a2 a3 a4 a5 337 1 = B 2 1 + 20 := if_pos ⟨rfl, rfl⟩
      unfold TapR
      rw [e1, e2]
      refine ⟨rfl, ⟨by omega, by omega⟩, fun i i0 i1 => ?_⟩
      by_cases w2 : i < B 2 1
      · have eA : tpA A (B 2 1) a1 a2 a3 a4 a5 338 i = A 338 i := (if_neg (by omega)).trans (if_neg (by omega))
        have eB : tpB B (B 2 1) a1 a2 a3 a4 a5 3 i = B 3 i := (if_neg (by omega)).trans (if_neg (by omega))
        rw [eA, eB]; exact t3 i i0 w2
      · have eA : tpA A (B 2 1) a1 a2 a3 a4 a5 338 i = by5 a1 a2 a3 a4 a5 (i - B 2 1) := (if_neg (by omega)).trans (if_pos ⟨rfl, by omega, by omega⟩)
        have eB : tpB B (B 2 1) a1 a2 a3 a4 a5 3 i = by5 a1 a2 a3 a4 a5 (i - B 2 1) := (if_neg (by omega)).trans (if_pos ⟨rfl, by omega, by omega⟩)
        rw [eA, eB]
        exact ⟨rfl, byte_rng _⟩
    · exact (if_neg (by omega)).trans (if_neg (by omega))
    · exact (if_neg (by omega)).trans (if_neg (by omega))
    · exact (if_neg (by omega)).trans (if_neg (by omega))
    · exact (if_neg (by omega)).trans (if_neg (by omega))
    · exact fun a i _ _ => (if_neg (by omega)).trans (if_neg (by omega))
    · exact (if_neg (by omega)).trans (if_neg (by omega))
    · exact fun t => (if_neg (by omega)).trans (if_neg (by omega))
    · exact (if_neg (by omega)).trans (if_neg (by omega))
    · exact (if_neg (by omega)).trans (if_neg (by omega))
    · exact fun i j _ _ => (if_neg (by omega)).trans (if_neg (by omega))
    · exact funext fun i => (if_neg (by omega)).trans (if_neg (by omega))
    · exact fun i => (if_neg (by omega)).trans (if_neg (by omega))
    · exact (if_neg (by omega)).trans (if_neg (by omega))
    · exact (if_neg (by omega)).trans (if_neg (by omega))
    · exact fun i => (if_neg (by omega)).trans (if_neg (by omega))
    · exact (if_neg (by omega)).trans (if_neg (by omega))
    · exact fun i => (if_neg (by omega)).trans (if_neg (by omega))
    · intro x i hx
      unfold tpA
      by_cases c1 : x = 337 ∧ i = 1
      · rw [if_pos c1, if_pos c1]
      · rw [if_neg c1, if_neg c1]
        by_cases c2 : x = 338 ∧ B 2 1 ≤ i ∧ i < B 2 1 + 20
        · rw [if_pos c2, if_pos c2]
        · rw [if_neg c2, if_neg c2]; exact h.fm x i hx
    · intro x i hx
      unfold tpB
      by_cases c1 : x = 2 ∧ i = 1
      · rw [if_pos c1, if_pos c1]
      · rw [if_neg c1, if_neg c1]
        by_cases c2 : x = 3 ∧ B 2 1 ≤ i ∧ i < B 2 1 + 20
        · rw [if_pos c2, if_pos c2]
        · rw [if_neg c2, if_neg c2]; exact h.fx x i hx
    · intro s s0 s1
      have e20 : tpB Mx (B 2 1) a1 a2 a3 a4 a5 20 s = Mx 20 s := (if_neg (by omega)).trans (if_neg (by omega))
      have e19 : tpB Mx (B 2 1) a1 a2 a3 a4 a5 19 s = Mx 19 s := (if_neg (by omega)).trans (if_neg (by omega))
      rw [e20, e19]; exact h.lc s s0 s1
  · refine h.J (r := -1) ?_ ?_
    · unfold f_X11_feed
      rw [x1, ok_t ⟨by omega, by omega⟩, if_neg w]
    · unfold f_X12_feed
      rw [m1, ok_t ⟨by omega, by omega⟩, if_neg w]
end FE
