/-! plan(): the class's list of SHOWINGS, and how many there are -/
def XS (B : Mem) (a : Int) : Nat → Nat → Int → Int → Prop
  | 0, _, _, _ => False
  | n + 1, d, i, j => i = j ∨ (i < j ∧ B (a + 4 + i) 0 = 7 ∧ B (a + 4 + i) 9 = i + 1 ∧ XS B a n d (i + 1) j) ∨ (i < j ∧ B (a + 4 + i) 0 = 8 ∧ (1 ≤ B (a + 4 + i) 2 ∧ B (a + 4 + i) 2 ≤ 9) ∧ (i + 1 ≤ B (a + 4 + i) 9 ∧ B (a + 4 + i) 9 ≤ j) ∧ ∃ d1, d = d1 + 1 ∧ XS B a n d1 (i + 1) (B (a + 4 + i) 9) ∧ XS B a n d (B (a + 4 + i) 9) j)
theorem MY.xs {M Mx B : Mem} {sp w K : Int} {C : List Int} (hB : ∀ i c, 0 ≤ i → i < K → B (sp + 4 + i) c = Mx (sp + 4 + i) c) : ∀ (n d : Nat) (i j k l : Int), 0 ≤ i → j ≤ K → MY M Mx sp w C n d i j k l → XS B sp n d i j
  | 0, _, _, _, _, _, _, _, h => h.elim
  | n + 1, d, i, j, k, l, i0, jK, h => by
    rcases h with ⟨h1, h2⟩ | ⟨h1, h2, h3, h4, h5, h6⟩ | ⟨h1, h2, h3, h4, h5, h6, d1, ke, h7, h8, h9, h10, h11, h12⟩
    · exact Or.inl h1
    · have b : ∀ c, B (sp + 4 + i) c = Mx (sp + 4 + i) c := fun c => hB i c i0 (by omega)
      exact Or.inr (Or.inl ⟨h1, by rw [b]; exact h3, by rw [b]; exact h5.1, MY.xs hB n d (i + 1) j (k + 1) l (by omega) jK h6⟩)
    · have b : ∀ c, B (sp + 4 + i) c = Mx (sp + 4 + i) c := fun c => hB i c i0 (by omega)
      exact Or.inr (Or.inr ⟨h1, by rw [b]; exact h2, by rw [b]; exact h5, by rw [b]; exact h6, d1, h7, by rw [b]; exact MY.xs hB n d1 (i + 1) _ (k + 1) ke (by omega) (by omega) h11, by rw [b]; exact MY.xs hB n d _ j (ke + 1) l (by omega) jK h12⟩)
theorem XS.all {B : Mem} {a : Int} : ∀ (n d : Nat) (i j : Int), XS B a n d i j → i ≤ j ∧ ∀ x, i ≤ x → x < j → (B (a + 4 + x) 0 = 7 ∨ (B (a + 4 + x) 0 = 8 ∧ 1 ≤ B (a + 4 + x) 2 ∧ B (a + 4 + x) 2 ≤ 9)) ∧ x + 1 ≤ B (a + 4 + x) 9 ∧ B (a + 4 + x) 9 ≤ j
  | 0, _, _, _, h => h.elim
  | n + 1, d, i, j, h => by
    rcases h with h | ⟨h1, h2, h3, h4⟩ | ⟨h1, h2, h3, h4, d1, h5, h6, h7⟩
    · exact ⟨by omega, fun x x0 x1 => by omega⟩
    · obtain ⟨g1, g2⟩ := XS.all n d (i + 1) j h4
      refine ⟨by omega, fun x x0 x1 => ?_⟩
      by_cases e : x = i
      · subst e
        exact ⟨Or.inl h2, by omega, by omega⟩
      · exact g2 x (by omega) x1
    · obtain ⟨g1, g2⟩ := XS.all n d1 (i + 1) _ h6
      obtain ⟨g3, g4⟩ := XS.all n d _ j h7
      refine ⟨by omega, fun x x0 x1 => ?_⟩
      by_cases e : x = i
      · subst e
        exact ⟨Or.inr ⟨h2, h3⟩, by omega, by omega⟩
      · by_cases e2 : x < B (a + 4 + i) 9
        · obtain ⟨y1, y2, y3⟩ := g2 x (by omega) e2
          exact ⟨y1, y2, by omega⟩
        · exact g4 x (by omega) x1
theorem XS.no {B : Mem} {a : Int} : ∀ (n d : Nat) (i j : Int), XS B a n d i j → (∀ x, i ≤ x → x < j → B (a + 4 + x) 0 ≠ 7) → ∀ m, exL B a m i j = []
  | 0, _, _, _, h, _, _ => h.elim
  | n + 1, d, i, j, h, hn, 0 => rfl
  | n + 1, d, i, j, h, hn, m + 1 => by
    show (if j ≤ i then [] else if B (a + 4 + i) 0 = 7 then i :: exL B a m (i + 1) j else (List.replicate (B (a + 4 + i) 2).toNat (exL B a m (i + 1) (B (a + 4 + i) 9))).flatten ++ exL B a m (B (a + 4 + i) 9) j) = []
    rcases h with h | ⟨h1, h2, h3, h4⟩ | ⟨h1, h2, h3, h4, d1, h5, h6, h7⟩
    · rw [if_pos (by omega)]
    · exact absurd h2 (hn i (Int.le_refl _) h1)
    · rw [if_neg (by omega), if_neg (by omega), XS.no n d1 _ _ h6 (fun x x0 x1 => hn x (by omega) (by omega)) m, XS.no n d _ _ h7 (fun x x0 x1 => hn x (by omega) (by omega)) m]
      simp
/-- the first forty of L are listed -/
def LSt (M : Mem) (L : List Int) : Prop := M 1 12 = ((L.take 40).length : Int) ∧ ∀ (q : Nat) (v : Int), (L.take 40)[q]? = some v → M 201 q = v
def ScLs (a i : Int) : Prop := (a = 1 ∧ i = 12) ∨ a = 201
/-- the SCRIPT that the class lists from -/
def LsP (B : Mem) (a sz : Int) (M : Mem) : Prop := (M 1 9 = a ∧ kd a = 17) ∧ (M a 1 = sz ∧ 0 ≤ sz ∧ sz ≤ 40) ∧ ∀ x c, 0 ≤ x → x < 40 → M (a + 4 + x) c = B (a + 4 + x) c
theorem LsP.fr {B M M1 : Mem} {a sz : Int} (h : LsP B a sz M) (f : Fr ScLs M M1) : LsP B a sz M1 := by
  obtain ⟨⟨h1, h2⟩, ⟨h3, h4⟩, h5⟩ := h
  have k := kd17 a h2
  refine ⟨⟨(f 1 9 (by unfold ScLs; omega)).trans h1, h2⟩, ⟨(f a 1 (by unfold ScLs; omega)).trans h3, h4⟩, fun x c x0 x1 => (f _ _ (by unfold ScLs; omega)).trans (h5 x c x0 x1)⟩
theorem LSt.full {M : Mem} {L : List Int} (h : LSt M L) (hf : 40 ≤ M 1 12) (X : List Int) : LSt M (L ++ X) := by
  obtain ⟨h1, h2⟩ := h
  have hl : 40 ≤ L.length := by
    rw [List.length_take] at h1
    omega
  unfold LSt
  rw [List.take_append_of_le_length hl]
  exact ⟨h1, h2⟩
theorem LSt.add {M : Mem} {L : List Int} (h : LSt M L) (hf : ¬ 40 ≤ M 1 12) (i : Int) : (0 ≤ M 1 12 ∧ M 1 12 < 40) ∧ LSt (st (st M 201 (M 1 12) i) 1 12 (M 1 12 + 1)) (L ++ [i]) := by
  obtain ⟨h1, h2⟩ := h
  have hl : L.length < 40 := by
    rw [List.length_take] at h1
    omega
  have e1 : L.take 40 = L := List.take_of_length_le (by omega)
  have e2 : (L ++ [i]).take 40 = L ++ [i] := List.take_of_length_le (by rw [List.length_append]; simp; omega)
  rw [e1] at h1 h2
  refine ⟨by omega, ?_⟩
  unfold LSt
  rw [e2, h1]
  refine ⟨by rw [st_at, List.length_append]; simp, fun q v hv => ?_⟩
  rw [st_neA (by decide)]
  by_cases c : q < L.length
  · rw [List.getElem?_append_left c] at hv
    rw [st_neI (by omega)]
    exact h2 q v hv
  · by_cases c2 : q = L.length
    · subst c2
      rw [List.getElem?_append_right (Nat.le_refl _)] at hv
      simp at hv
      rw [st_at]; exact hv
    · rw [List.getElem?_eq_none (by rw [List.length_append]; simp; omega)] at hv
      cases hv
theorem x_within {B M : Mem} {a sz i e : Int} (h : LsP B a sz M) (hi : 0 ≤ i ∧ i < 40) (he : B (a + 4 + i) 9 = e ∧ e ≤ sz) : ∃ r, f_X7_showsWithin M a i = some (r, M) ∧ (r = 0 → ∀ x, i + 1 ≤ x → x < e → B (a + 4 + x) 0 ≠ 7) := by
  obtain ⟨⟨h1, h2⟩, ⟨h3, h4, h4'⟩, h5⟩ := h
  have key : ∀ (n F : Nat) (x2 : Int), 40 - x2 ≤ n → i + 1 ≤ x2 → n < F → ∃ r, wl1 (b_X7_showsWithin_4 a i) F M x2 = some (r, M) ∧ (r = 0 → ∀ x, x2 ≤ x → x < e → B (a + 4 + x) 0 ≠ 7) := by
    intro n
    induction n with
    | zero =>
      intro F x2 hn hx hF
      obtain ⟨G, rfl⟩ : ∃ G, F = G + 1 := ⟨F - 1, by omega⟩
      refine ⟨0, ?_, fun _ x x0 x1 => by omega⟩
      rw [wl1_s]
      unfold b_X7_showsWithin_4
      rw [ok_t hi, h5 i 9 hi.1 hi.2, he.1, if_pos (by omega)]
    | succ n ih =>
      intro F x2 hn hx hF
      obtain ⟨G, rfl⟩ : ∃ G, F = G + 1 := ⟨F - 1, by omega⟩
      rw [wl1_s]
      have ih' := ih G (x2 + 1) (by omega) (by omega) (by omega)
      generalize wl1 (b_X7_showsWithin_4 a i) G = w at ih' ⊢
      unfold b_X7_showsWithin_4
      rw [ok_t hi, h5 i 9 hi.1 hi.2, he.1, h3]
      by_cases c : e ≤ x2
      · rw [if_pos c]; exact ⟨0, rfl, fun _ x x0 x1 => by omega⟩
      rw [if_neg c]
      by_cases c2 : sz ≤ x2
      · omega
      rw [if_neg c2, ok_t ⟨by omega, by omega⟩, h5 x2 0 (by omega) (by omega)]
      by_cases c3 : B (a + 4 + x2) 0 = 7
      · rw [if_pos c3]; exact ⟨1, rfl, fun q => absurd q (by decide)⟩
      rw [if_neg c3, bi_e]
      obtain ⟨r, er, hr⟩ := ih'
      refine ⟨r, er, fun z x x0 x1 => ?_⟩
      by_cases ex : x = x2
      · rw [ex]; exact c3
      · exact hr z x (by omega) x1
  unfold f_X7_showsWithin
  rw [ok_t ⟨by omega, by omega⟩, bi_e]
  exact key 40 FU (i + 1) (by omega) (Int.le_refl _) (by have : FU = 1000000000 := rfl; omega)
theorem x_again {B : Mem} {a sz i e a3 c : Int} {S : Mem → Int → Int → Int → Res} {X : List Int} (hi : 0 ≤ i ∧ i < 40) (ha : 0 ≤ a3 ∧ a3 < 6) (he : B (a + 4 + i) 9 = e) (hc : B (a + 4 + i) 2 = c ∧ 1 ≤ c ∧ c ≤ 9) (hS : ∀ (M : Mem) (L : List Int), LsP B a sz M → LSt M L → ∃ M1, S M (i + 1) e (a3 + 1) = some (0, M1) ∧ LSt M1 (L ++ X) ∧ Fr ScLs M M1) {M : Mem} {L : List Int} (h : LsP B a sz M) (hL : LSt M L) : ∃ M1, f_X11_listAgain S M i a3 = some (0, M1) ∧ LSt M1 (L ++ (List.replicate c.toNat X).flatten) ∧ Fr ScLs M M1 := by
  have ky : kd (a + 4 + i) = 18 := kdSt a h.1.2 i hi
  have key : ∀ (n F : Nat) (M : Mem) (L : List Int) (x4 : Int), c - x4 = n → 0 ≤ x4 → n < F → LsP B a sz M → LSt M L → ∃ M1, wl2 (b_X11_listAgain_13 S i a3) F M (a + 4 + i) x4 = some (0, M1) ∧ LSt M1 (L ++ (List.replicate n X).flatten) ∧ Fr ScLs M M1 := by
    intro n
    induction n with
    | zero =>
      intro F M L x4 hx x0 hF h hL
      obtain ⟨G, rfl⟩ : ∃ G, F = G + 1 := ⟨F - 1, by omega⟩
      refine ⟨M, ?_, by simpa using hL, Fr.rf _ _⟩
      rw [wl2_s]
      unfold b_X11_listAgain_13
      rw [ok_t ky, h.2.2 i 2 hi.1 hi.2, hc.1, if_pos (by omega)]
    | succ n ih =>
      intro F M L x4 hx x0 hF h hL
      obtain ⟨G, rfl⟩ : ∃ G, F = G + 1 := ⟨F - 1, by omega⟩
      obtain ⟨M1, e1, l1, f1⟩ := hS M L h hL
      obtain ⟨M2, e2, l2, f2⟩ := ih G M1 (L ++ X) (x4 + 1) (by omega) (by omega) (by omega) (h.fr f1) l1
      refine ⟨M2, ?_, ?_, f1.tr f2⟩
      · rw [wl2_s]
        generalize wl2 (b_X11_listAgain_13 S i a3) G = w at e2 ⊢
        unfold b_X11_listAgain_13
        rw [ok_t ky, h.2.2 i 2 hi.1 hi.2, hc.1, if_neg (show ¬ c ≤ x4 by omega), if_neg (show ¬ 6 ≤ a3 by omega), ok_t ⟨by omega, by omega⟩, ok_t ⟨by omega, by omega⟩, h.2.2 i 9 hi.1 hi.2, he, e1, cl_some, ok_t ⟨by omega, by omega⟩, bi_e]
        exact e2
      · rw [List.replicate_succ, List.flatten_cons, ← List.append_assoc]; exact l2
  unfold f_X11_listAgain
  rw [h.1.1, ok_t h.1.2, ok_t hi, bi_e]
  exact key c.toNat FU M L 0 (by omega) (by decide) (by have : FU = 1000000000 := rfl; omega) h hL
theorem seg_ls {B : Mem} {a sz : Int} : ∀ (n d : Nat) (i j a3 : Int) (M : Mem) (L : List Int) (F : Nat), XS B a n d i j → 0 ≤ i → j ≤ sz → a3 + d = 6 → 0 ≤ a3 → LsP B a sz M → LSt M L → (j - i).toNat < F → ∃ M1, wl1 (b_X11_listShows_3 (f_X11_listShows (d + 1)) j a3) F M i = some (0, M1) ∧ LSt M1 (L ++ exL B a n i j) ∧ Fr ScLs M M1
  | 0, _, _, _, _, _, _, _, h, _, _, _, _, _, _, _ => h.elim
  | n + 1, d, i, j, a3, M, L, F, h, i0, jz, ha, ha0, hP, hL, hF => by
    obtain ⟨G, rfl⟩ : ∃ G, F = G + 1 := ⟨F - 1, by omega⟩
    have eE : exL B a (n + 1) i j = (if j ≤ i then [] else if B (a + 4 + i) 0 = 7 then i :: exL B a n (i + 1) j else (List.replicate (B (a + 4 + i) 2).toNat (exL B a n (i + 1) (B (a + 4 + i) 9))).flatten ++ exL B a n (B (a + 4 + i) 9) j) := rfl
    have sz40 := hP.2.1.2
    by_cases hij : j ≤ i
    · refine ⟨M, ?_, by rw [eE, if_pos hij, List.append_nil]; exact hL, Fr.rf _ _⟩
      rw [wl1_s]
      unfold b_X11_listShows_3
      rw [if_pos hij]
    by_cases hfull : 40 ≤ M 1 12
    · refine ⟨M, ?_, hL.full hfull _, Fr.rf _ _⟩
      rw [wl1_s]
      unfold b_X11_listShows_3
      rw [if_neg hij, if_neg (show ¬ 40 ≤ i by omega), if_pos hfull]
    have hi : 0 ≤ i ∧ i < 40 := by omega
    have ky : kd (a + 4 + i) = 18 := kdSt a hP.1.2 i hi
    rw [eE, if_neg hij, wl1_s]
    have ihw := fun (i' : Int) (M' : Mem) (L' : List Int) (h' : XS B a n d i' j) (q : i < i') (p : LsP B a sz M') (l : LSt M' L') => seg_ls n d i' j a3 M' L' G h' (by omega) jz ha ha0 p l (by omega)
    generalize wl1 (b_X11_listShows_3 (f_X11_listShows (d + 1)) j a3) G = w at ihw ⊢
    have step : ∀ M', LsP B a sz M' → j_X11_listShows_90 (f_X11_listShows (d + 1)) j a3 w M' i (a + 4 + i) = w M' (max (i + 1) (B (a + 4 + i) 9)) := fun M' p => by
      unfold j_X11_listShows_90
      rw [ok_t ⟨by omega, by omega⟩, ok_t ky, p.2.2 i 9 hi.1 hi.2, e_max, cl_some]
    unfold b_X11_listShows_3
    rw [if_neg hij, if_neg (show ¬ 40 ≤ i by omega), if_neg hfull, hP.1.1, ok_t hP.1.2, ok_t hi, bi_e, ok_t ky, hP.2.2 i 0 hi.1 hi.2]
    rcases h with h | ⟨h1, h2, h3, h4⟩ | ⟨h1, h2, h3, h4, d1, h5, h6, h7⟩
    · omega
    · rw [if_pos h2, if_pos h2]
      obtain ⟨b12, l2⟩ := hL.add hfull i
      have f2 : Fr ScLs M (st (st M 201 (M 1 12) i) 1 12 (M 1 12 + 1)) := Fr.st (Fr.st (Fr.rf _ _) (Or.inr rfl)) (Or.inl ⟨rfl, rfl⟩)
      rw [ok_t b12, bm_e, st_neA (show (1 : Int) ≠ 201 by decide), ok_t ⟨by omega, by omega⟩, bm_e, step _ (hP.fr f2), h3, Int.max_self]
      obtain ⟨M1, e1, l1, f1⟩ := ihw (i + 1) _ _ h4 (by omega) (hP.fr f2) l2
      refine ⟨M1, e1, ?_, f2.tr f1⟩
      rw [List.append_assoc] at l1
      exact l1
    · rw [if_neg (show ¬ B (a + 4 + i) 0 = 7 by omega), if_neg (show ¬ B (a + 4 + i) 0 = 7 by omega)]
      subst h5
      obtain ⟨r, er, hr⟩ := x_within hP hi ⟨rfl, show B (a + 4 + i) 9 ≤ sz by omega⟩
      have hmax : max (i + 1) (B (a + 4 + i) 9) = B (a + 4 + i) 9 := Int.max_eq_right (by omega)
      rw [er, cl_some]
      by_cases hr0 : r = 0
      · have hno := XS.no n d1 _ _ h6 (hr hr0) n
        rw [if_pos hr0, step _ hP, hmax, hno]
        obtain ⟨M1, e1, l1, f1⟩ := ihw (B (a + 4 + i) 9) M L h7 (by omega) hP hL
        refine ⟨M1, e1, ?_, f1⟩
        rw [show (List.replicate (B (a + 4 + i) 2).toNat ([] : List Int)).flatten = [] by simp, List.nil_append]
        exact l1
      · rw [if_neg hr0]
        have hS : ∀ (M : Mem) (L : List Int), LsP B a sz M → LSt M L → ∃ M1, f_X11_listShows (d1 + 1 + 1) M (i + 1) (B (a + 4 + i) 9) (a3 + 1) = some (0, M1) ∧ LSt M1 (L ++ exL B a n (i + 1) (B (a + 4 + i) 9)) ∧ Fr ScLs M M1 := fun M L p l => by
          have hFU : FU = 1000000000 := rfl
          exact seg_ls n d1 (i + 1) (B (a + 4 + i) 9) (a3 + 1) M L FU h6 (by omega) (by omega) (by omega) (by omega) p l (by omega)
        obtain ⟨M1, e1, l1, f1⟩ := x_again (a3 := a3) hi ⟨ha0, by omega⟩ rfl ⟨rfl, h3.1, h3.2⟩ hS hP hL
        rw [e1, cl_some, step _ (hP.fr f1), hmax]
        obtain ⟨M2, e2, l2, f2⟩ := ihw (B (a + 4 + i) 9) M1 _ h7 (by omega) (hP.fr f1) l1
        refine ⟨M2, e2, ?_, f1.tr f2⟩
        rw [List.append_assoc] at l2
        exact l2
/-! how many SHOWINGS -/
def Qp (f : Nat → Int) : Nat → Int
  | 0 => 1
  | n + 1 => Qp f n * f n
theorem Qp_one {f : Nat → Int} {m : Nat} : ∀ k : Nat, (∀ x, m ≤ x → x < m + k → f x = 1) → Qp f (m + k) = Qp f m
  | 0, _ => rfl
  | k + 1, h => by
    show Qp f (m + k) * f (m + k) = Qp f m
    rw [h (m + k) (by omega) (by omega), Int.mul_one]
    exact Qp_one k (fun x x0 x1 => h x x0 (by omega))
def qf (B : Mem) (a s : Int) (x : Nat) : Int := if B (a + 4 + x) 0 = 8 ∧ s < B (a + 4 + x) 9 then B (a + 4 + x) 2 else 1
def smg (g : Nat → Int) : Nat → Int
  | 0 => 0
  | n + 1 => smg g n + g n
def gM (B : Mem) (a : Int) (s : Nat) : Int := if B (a + 4 + s) 0 = 7 then Qp (qf B a s) s else 0
def gC (B : Mem) (a : Int) (s : Nat) : Int := if B (a + 4 + s) 0 = 7 then min 1000000 (Qp (qf B a s) s) else 0
theorem XS.sum {B : Mem} {a : Int} : ∀ (n d : Nat) (i j : Nat) (c : Int), XS B a n d i j → (∀ s : Nat, i ≤ s → s < j → Qp (qf B a s) i = c) → smg (gM B a) j = smg (gM B a) i + c * ((exL B a n i j).length : Int)
  | 0, _, _, _, _, h, _ => h.elim
  | n + 1, d, i, j, c, h, hc => by
    have eE : exL B a (n + 1) i j = (if (j : Int) ≤ i then [] else if B (a + 4 + i) 0 = 7 then (i : Int) :: exL B a n (i + 1) j else (List.replicate (B (a + 4 + i) 2).toNat (exL B a n (i + 1) (B (a + 4 + i) 9))).flatten ++ exL B a n (B (a + 4 + i) 9) j) := rfl
    have es : smg (gM B a) (i + 1) = smg (gM B a) i + gM B a i := rfl
    have ei : ((i + 1 : Nat) : Int) = i + 1 := by omega
    rcases h with h | ⟨h1, h2, h3, h4⟩ | ⟨h1, h2, h3, h4, d1, h5, h6, h7⟩
    · have : j = i := by omega
      subst this
      rw [eE, if_pos (Int.le_refl _)]
      simp
    · have g : gM B a i = c := by
        unfold gM
        rw [if_pos h2]; exact hc i (Nat.le_refl _) (by omega)
      rw [← ei] at h4
      have r := XS.sum n d (i + 1) j c h4 (fun s s0 s1 => by
        show Qp (qf B a s) i * qf B a s i = c
        have : qf B a s i = 1 := by unfold qf; rw [if_neg (by omega)]
        rw [this, Int.mul_one]; exact hc s (by omega) s1)
      rw [r, es, g, eE, if_neg (by omega), if_pos h2, ei, List.length_cons, Int.natCast_add, Int.mul_add]
      show _ = smg (gM B a) i + (c * _ + c * 1)
      omega
    · obtain ⟨e, he⟩ : ∃ e : Nat, B (a + 4 + i) 9 = e := ⟨(B (a + 4 + i) 9).toNat, by omega⟩
      obtain ⟨m, hm⟩ : ∃ m : Nat, B (a + 4 + i) 2 = m := ⟨(B (a + 4 + i) 2).toNat, by omega⟩
      have g : gM B a i = 0 := by
        unfold gM
        rw [if_neg (by omega)]
      have al := (XS.all n d1 _ _ h6).2
      rw [he] at h4 h6 h7 al
      rw [← ei] at h6
      have r1 := XS.sum n d1 (i + 1) e (c * m) h6 (fun s s0 s1 => by
        show Qp (qf B a s) i * qf B a s i = c * m
        have : qf B a s i = m := by unfold qf; rw [if_pos (by omega)]; exact hm
        rw [this, hc s (by omega) (by omega)])
      have r2 := XS.sum n d e j c h7 (fun s s0 s1 => by
        have e1 : e = i + (e - i) := by omega
        rw [e1]
        have := Qp_one (f := qf B a s) (m := i) (e - i) (fun x x0 x1 => by
          unfold qf
          by_cases ex : x = i
          · subst ex; rw [if_neg (by omega)]
          · have := (al x (by omega) (by omega)).2
            rw [if_neg (by omega)])
        rw [this]; exact hc s (by omega) s1)
      rw [r2, r1, es, g, eE, if_neg (by omega), if_neg (by omega), he, hm, ei, List.length_append, Int.natCast_add, Int.toNat_natCast, len_fl, Int.mul_add, Int.mul_assoc]
      omega
theorem min_mul {Q c : Int} (hQ : 1 ≤ Q) (hc : 1 ≤ c ∧ c ≤ 9) : min 1000000 (min 1000000 Q * c) = min 1000000 (Q * c) ∧ 1 ≤ Q * c ∧ 0 ≤ min 1000000 Q * c ∧ min 1000000 Q * c ≤ 9000000 := by
  have : c = 1 ∨ c = 2 ∨ c = 3 ∨ c = 4 ∨ c = 5 ∨ c = 6 ∨ c = 7 ∨ c = 8 ∨ c = 9 := by omega
  rcases this with rfl | rfl | rfl | rfl | rfl | rfl | rfl | rfl | rfl <;> omega
theorem qf_rng {B : Mem} {a sz s : Int} (hw : ∀ x, 0 ≤ x → x < sz → B (a + 4 + x) 0 = 8 → 1 ≤ B (a + 4 + x) 2 ∧ B (a + 4 + x) 2 ≤ 9) {x : Nat} (hx : (x : Int) < sz) : 1 ≤ qf B a s x ∧ qf B a s x ≤ 9 := by
  unfold qf
  split
  · rename_i h
    exact hw x (by omega) hx h.1
  · omega
theorem Qp_pos {f : Nat → Int} : ∀ n : Nat, (∀ x, x < n → 1 ≤ f x ∧ f x ≤ 9) → 1 ≤ Qp f n
  | 0, _ => Int.le_refl 1
  | n + 1, h => (min_mul (Qp_pos n (fun x hx => h x (by omega))) (h n (by omega))).2.1
theorem x_timesOf {B M : Mem} {a sz : Int} (h : LsP B a sz M) (hw : ∀ x, 0 ≤ x → x < sz → B (a + 4 + x) 0 = 8 → 1 ≤ B (a + 4 + x) 2 ∧ B (a + 4 + x) 2 ≤ 9) {s : Nat} (hs : (s : Int) < sz) : f_X7_timesOf M a s = some (min 1000000 (Qp (qf B a s) s), M) := by
  obtain ⟨⟨h1, h2⟩, ⟨h3, h4, h4'⟩, h5⟩ := h
  have key : ∀ (m F t : Nat), t + m = s → m < F → wl2 (b_X7_timesOf_4 a s) F M (min 1000000 (Qp (qf B a s) t)) t = some (min 1000000 (Qp (qf B a s) s), M) := by
    intro m
    induction m with
    | zero =>
      intro F t ht hF
      obtain ⟨G, rfl⟩ : ∃ G, F = G + 1 := ⟨F - 1, by omega⟩
      have : t = s := by omega
      subst this
      rw [wl2_s]
      unfold b_X7_timesOf_4
      rw [if_pos (Int.le_refl _)]
    | succ m ih =>
      intro F t ht hF
      obtain ⟨G, rfl⟩ : ∃ G, F = G + 1 := ⟨F - 1, by omega⟩
      have ih' := ih G (t + 1) (by omega) (by omega)
      have hq := Qp_pos (f := qf B a s) t (fun x hx => qf_rng hw (by omega))
      have hf := qf_rng (s := s) hw (x := t) (by omega)
      obtain ⟨m1, m2, m3, m4⟩ := min_mul hq hf
      have eQ : Qp (qf B a s) (t + 1) = Qp (qf B a s) t * qf B a s t := rfl
      have et : ((t + 1 : Nat) : Int) = t + 1 := by omega
      rw [eQ, et] at ih'
      rw [wl2_s]
      generalize wl2 (b_X7_timesOf_4 a s) G = w at ih' ⊢
      have no : ¬ (B (a + 4 + t) 0 = 8 ∧ (s : Int) < B (a + 4 + t) 9) → j_X7_timesOf_40 a s w M (min 1000000 (Qp (qf B a s) t)) t = some (min 1000000 (Qp (qf B a s) s), M) := fun z => by
        have : qf B a s t = 1 := by unfold qf; rw [if_neg z]
        rw [this, Int.mul_one] at ih'
        unfold j_X7_timesOf_40 j_X7_timesOf_41
        rw [if_pos rfl, ok_t ⟨by omega, by omega⟩, bi_e]
        exact ih'
      unfold b_X7_timesOf_4
      rw [if_neg (by omega), ok_t ⟨by omega, by omega⟩, h5 t 0 (by omega) (by omega)]
      by_cases c1 : B (a + 4 + t) 0 = 8
      · rw [if_pos c1, h5 t 9 (by omega) (by omega)]
        by_cases c2 : B (a + 4 + t) 9 ≤ (s : Int)
        · rw [if_pos c2]; exact no (fun z => by omega)
        · have eq : qf B a s t = B (a + 4 + t) 2 := by unfold qf; rw [if_pos ⟨c1, by omega⟩]
          rw [eq] at ih' m1 m2 m3 m4
          rw [if_neg c2]
          unfold j_X7_timesOf_41
          rw [if_neg (by decide), ok_t ⟨by omega, by omega⟩, h5 t 2 (by omega) (by omega), ok_t ⟨by omega, by omega⟩, e_min, cl_some, bi_e, m1]
          exact ih'
      · rw [if_neg c1]; exact no (fun z => c1 z.1)
  have := key s FU 0 (by omega) (by have : FU = 1000000000 := rfl; omega)
  exact this
theorem gC_rng {B : Mem} {a sz : Int} (hw : ∀ x, 0 ≤ x → x < sz → B (a + 4 + x) 0 = 8 → 1 ≤ B (a + 4 + x) 2 ∧ B (a + 4 + x) 2 ≤ 9) {s : Nat} (hs : (s : Int) < sz) : 0 ≤ gC B a s ∧ gC B a s ≤ 1000000 ∧ (gC B a s = gM B a s ∨ (1000000 ≤ gC B a s ∧ 1000000 ≤ gM B a s)) := by
  have hq := Qp_pos (f := qf B a s) s (fun x hx => qf_rng hw (by omega))
  unfold gC gM
  split <;> omega
theorem smg_rng {B : Mem} {a sz : Int} (hw : ∀ x, 0 ≤ x → x < sz → B (a + 4 + x) 0 = 8 → 1 ≤ B (a + 4 + x) 2 ∧ B (a + 4 + x) 2 ≤ 9) : ∀ t : Nat, (t : Int) ≤ sz → 0 ≤ smg (gC B a) t ∧ smg (gC B a) t ≤ 1000000 * t ∧ (smg (gC B a) t = smg (gM B a) t ∨ (1000000 ≤ smg (gC B a) t ∧ 1000000 ≤ smg (gM B a) t))
  | 0, _ => ⟨Int.le_refl 0, Int.le_refl 0, Or.inl rfl⟩
  | t + 1, h => by
    obtain ⟨a1, a2, a3⟩ := smg_rng hw t (by omega)
    obtain ⟨b1, b2, b3⟩ := gC_rng hw (s := t) (by omega)
    show 0 ≤ smg (gC B a) t + gC B a t ∧ smg (gC B a) t + gC B a t ≤ 1000000 * ((t + 1 : Nat) : Int) ∧ (smg (gC B a) t + gC B a t = smg (gM B a) t + gM B a t ∨ (1000000 ≤ smg (gC B a) t + gC B a t ∧ 1000000 ≤ smg (gM B a) t + gM B a t))
    have : 0 ≤ gM B a t := by omega
    have : 0 ≤ smg (gM B a) t := by omega
    omega
theorem x_showsAll {B M : Mem} {a : Int} {sz : Nat} (h : LsP B a sz M) (hw : ∀ x, 0 ≤ x → x < (sz : Int) → B (a + 4 + x) 0 = 8 → 1 ≤ B (a + 4 + x) 2 ∧ B (a + 4 + x) 2 ≤ 9) : f_X7_showsInAll M a = some (min 1000000 (smg (gM B a) sz), M) := by
  have hP := h
  obtain ⟨⟨h1, h2⟩, ⟨h3, h4, h4'⟩, h5⟩ := h
  have key : ∀ (m F t : Nat), t + m = sz → m < F → wl2 (b_X7_showsInAll_4 a) F M (smg (gC B a) t) t = some (min 1000000 (smg (gM B a) sz), M) := by
    intro m
    induction m with
    | zero =>
      intro F t ht hF
      obtain ⟨G, rfl⟩ : ∃ G, F = G + 1 := ⟨F - 1, by omega⟩
      have : t = sz := by omega
      subst this
      have r := smg_rng hw t (Int.le_refl _)
      rw [wl2_s]
      unfold b_X7_showsInAll_4
      rw [h3, if_pos (Int.le_refl _), e_min, cl_some]
      congr 2
      omega
    | succ m ih =>
      intro F t ht hF
      obtain ⟨G, rfl⟩ : ∃ G, F = G + 1 := ⟨F - 1, by omega⟩
      have ih' := ih G (t + 1) (by omega) (by omega)
      have eS : smg (gC B a) (t + 1) = smg (gC B a) t + gC B a t := rfl
      have et : ((t + 1 : Nat) : Int) = t + 1 := by omega
      have r := smg_rng hw t (by omega)
      have r2 := gC_rng hw (s := t) (by omega)
      rw [eS, et] at ih'
      rw [wl2_s]
      generalize wl2 (b_X7_showsInAll_4 a) G = w at ih' ⊢
      unfold b_X7_showsInAll_4
      rw [h3, if_neg (by omega), ok_t ⟨by omega, by omega⟩, h5 t 0 (by omega) (by omega)]
      by_cases c : B (a + 4 + t) 0 = 7
      · have g : gC B a t = min 1000000 (Qp (qf B a t) t) := by unfold gC; rw [if_pos c]
        rw [if_pos c, x_timesOf hP hw (by omega), cl_some, ← g, ok_t ⟨by omega, by omega⟩, bi_e, bi_e]
        exact ih'
      · have g : gC B a t = 0 := by unfold gC; rw [if_neg c]
        rw [g] at ih'
        rw [if_neg c, ok_t ⟨by omega, by omega⟩, bi_e, bi_e]
        exact ih'
  exact key sz FU 0 (by omega) (by have : FU = 1000000000 := rfl; omega)
