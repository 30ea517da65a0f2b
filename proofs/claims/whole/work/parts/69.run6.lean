/-! RUN: the class's loop -/
theorem Cr.len {B0 : Mem} {old a9 la : Int} : ∀ {L : List Int} {M M1 : Mem} {z z1 : Int}, Cr B0 old a9 la L M z M1 z1 → z1 = z + L.length
  | [], _, _, _, _, h => by rw [h.2]; simp
  | _ :: L, _, _, _, _, h => by
    obtain ⟨-, M3, e, h3⟩ := h
    have := Cr.len h3
    rw [this, List.length_cons]; omega
theorem cls_run {B0 : Mem} {old la : Int} (hla : kd la = 17) (hk : kd (B0 1 9) = 17) (h0 : 0 ≤ old) : ∀ {L : List Int} {M M1 : Mem} {z z1 : Int}, Cr B0 old (B0 1 9) la L M z M1 z1 → 0 ≤ z → (∀ (p : Nat) (v : Int), L[p]? = some v → z + p < B0 1 12 ∧ B0 201 (z + p) = v ∧ 0 ≤ v ∧ v < 40) → ∀ F, wl3 b_X11_run_47 (F + L.length) M la old z = wl3 b_X11_run_47 F M1 la old z1
  | [], _, _, _, _, h, _, _, F => by rw [h.1, h.2]; rfl
  | i :: L, M, M1, z, z1, h, z0, hL, F => by
    obtain ⟨⟨c1, c2, c3, c4, c5⟩, M3, e, h3⟩ := h
    obtain ⟨q1, q2, q3, q4⟩ := hL 0 i rfl
    rw [show z + ((0 : Nat) : Int) = z by omega] at q1 q2
    rw [List.length_cons, ← Nat.add_assoc, wl3_s]
    have hs : ∀ w, b_X11_run_47 w M la old z = w M3 la old (z + 1) := by
      intro w
      unfold b_X11_run_47
      rw [c1, if_neg (by omega), c4, if_neg (by omega), c3, ok_t hk, ok_t ⟨z0, by omega⟩, c2, q2, ok_t ⟨q3, q4⟩, ok_t hla, e, cl_some, bi_e]
    rw [hs]
    exact cls_run hla hk h0 h3 (by omega) (fun p v hp => by
      have := hL (p + 1) v hp
      rw [show z + 1 + (p : Int) = z + ((p + 1 : Nat) : Int) by omega]; exact this) F
theorem exL_rng {A B : Mem} {a : Int} : ∀ (n d : Nat) (i j q l : Int), MR A B a n d i j q l → ∀ v, v ∈ exL B a n i j → i ≤ v ∧ v < j
  | 0, _, _, _, _, _, h, _, _ => by cases h
  | n + 1, d, i, j, q, l, h, v, hv => by
    rcases h with ⟨rfl, rfl⟩ | ⟨b1, b2, b3, b4, b5, b6⟩ | ⟨b1, b3, b4, b5, b6, b7, d1, ke, c1, c2, c3, c4, c5, c6⟩
    · have e : exL B a (n + 1) i i = [] := by show (if i ≤ i then [] else _) = _; rw [if_pos (Int.le_refl i)]
      rw [e] at hv; cases hv
    · have e : exL B a (n + 1) i j = i :: exL B a n (i + 1) j := by
        show (if j ≤ i then [] else if B (a + 4 + i) 0 = 7 then i :: exL B a n (i + 1) j else _) = _
        rw [if_neg (by omega), if_pos b3]
      rw [e, List.mem_cons] at hv
      rcases hv with rfl | hv
      · omega
      · have := exL_rng n d _ _ _ _ b6 v hv; omega
    · have e : exL B a (n + 1) i j = (List.replicate (B (a + 4 + i) 2).toNat (exL B a n (i + 1) (B (a + 4 + i) 9))).flatten ++ exL B a n (B (a + 4 + i) 9) j := by
        show (if j ≤ i then [] else if B (a + 4 + i) 0 = 7 then i :: exL B a n (i + 1) j else _) = _
        rw [if_neg (by omega), if_neg (by omega)]
      rw [e, List.mem_append, List.mem_flatten] at hv
      rcases hv with ⟨L, hL, hv⟩ | hv
      · rw [List.mem_replicate] at hL
        rw [hL.2] at hv
        have := exL_rng n d1 _ _ _ _ c5 v hv; omega
      · have := exL_rng n d _ _ _ _ c6 v hv; omega
