/-! STATEMENTS: rules and names in both readers -/
def slc (C : List Int) (i j : Int) : List Int := (C.drop i.toNat).take (j - i).toNat
def Sg2 (C : List Int) (i j : Int) (t : Bool) : Prop := (0 ≤ i ∧ i ≤ j ∧ j ≤ C.length) ∧ trn (slc C i j) [] = some [t]
theorem slc_app {C : List Int} (c : List Int) {i j : Int} (h0 : 0 ≤ i) (h1 : i ≤ j) (h : j ≤ C.length) : slc (C ++ c) i j = slc C i j := by
  unfold slc
  rw [List.drop_append_of_le_length (by omega), List.take_append_of_le_length (by rw [List.length_drop]; omega)]
theorem slc_new (C c : List Int) : slc (C ++ c) C.length (C ++ c).length = c := by
  unfold slc
  have e1 : ((C.length : Nat) : Int).toNat = C.length := by omega
  have e2 : (((C ++ c).length : Nat) - (C.length : Nat) : Int).toNat = c.length := by rw [List.length_append]; omega
  rw [e1, e2, List.drop_left, List.take_length]
theorem Sg2.app {C : List Int} {i j : Int} {t : Bool} (h : Sg2 C i j t) (c : List Int) : Sg2 (C ++ c) i j t := by
  obtain ⟨⟨h1, h2, h3⟩, h4⟩ := h
  refine ⟨⟨h1, h2, by simp; omega⟩, ?_⟩
  rw [slc_app c h1 h2 h3]; exact h4
theorem Sg2.new {C c : List Int} {t : Bool} (h : trn c [] = some [t]) : Sg2 (C ++ c) C.length (C ++ c).length t := by
  refine ⟨⟨by omega, by rw [List.length_append]; omega, by omega⟩, ?_⟩
  rw [slc_new]; exact h
/-- the reference at a STATEMENT -/
def MC (b : Int → Int) (n : Int) (M : Mem) (T : List Tok) (C : List Int) : Prop := MP b n M T ∧ M 337 32 = (C.length : Int) ∧ Seg M 360 0 C
abbrev Ex3 : Type := Except (Int × Int) (List Int × List Int × List Tok)
def pWhen (c1 : List Int) (T1 : List Tok) : Ex3 := if isW T1 9 then (match pTest (pFact 8) 0 T1.tail with
  | .error e => .error e
  | .ok (c2, T2) => .ok (c1, c2, T2)) else .error (1, hq T1)
def pRule (T : List Tok) : Ex3 := match pSum 8 0 T with
  | .error e => .error e
  | .ok (c1, T1) => pWhen c1 T1
def ScU (sp s a i : Int) : Prop := ScQ sp a i ∨ (a = s ∧ 6 ≤ i ∧ i ≤ 8)
section ST
variable {b : Int → Int} {n sp : Int} {m bs o : Int} {M M1 : Mem} {T T1 : List Tok} {V C : List Int}
theorem pRule_ok (hT : Tk b n T) {c1 c2 : List Int} {T2 : List Tok} (h : pRule T = .ok (c1, c2, T2)) : Tk b n T2 ∧ c1.length + c2.length + T2.length ≤ T.length ∧ T2.length < T.length ∧ trn c1 [] = some [false] ∧ trn c2 [] = some [true] := by
  unfold pRule at h
  cases hy : pSum 8 0 T with
  | error z => rw [hy] at h; cases h
  | ok z =>
    obtain ⟨d1, T1⟩ := z
    rw [hy] at h
    have h' : pWhen d1 T1 = .ok (c1, c2, T2) := h
    unfold pWhen at h'
    obtain ⟨⟨g1, g2, g3⟩, g4⟩ := pSum_ok 8 0 T d1 T1 (by decide) (by decide) hT hy
    by_cases c : isW T1 9
    · rw [if_pos c] at h'
      obtain ⟨t1, t2⟩ := g1.tl (by omega)
      cases hz : pTest (pFact 8) 0 T1.tail with
      | error z => rw [hz] at h'; cases h'
      | ok z =>
        obtain ⟨d2, T3⟩ := z
        rw [hz] at h'
        cases h'
        obtain ⟨⟨k1, k2, k3⟩, k4⟩ := pTest_ok (pFact_ok 8) ⟨by decide, by decide⟩ t1 hz
        exact ⟨k1, by omega, by omega, g4 [] (by simp), k4 [] (by simp)⟩
    · rw [if_neg c] at h'; cases h'
theorem XT.ot (h : XT b n sp M T C) {a i v : Int} (ha : (a = sp ∧ i ≠ 5) ∨ a = sp + 1 ∨ a = sp + 2 ∨ (sp + 4 ≤ a ∧ a ≤ sp + 43)) : XT b n sp (st M a i v) T C := by
  obtain ⟨h1, h2, ⟨h3, hs⟩, ⟨h4, h5, h6⟩, h7, h8, h9, h10, h11, h44, h45⟩ := h
  have ks := kd17 sp hs
  have f4 : ∀ j, st M a i v 4 j = M 4 j := fun j => st_neA (by omega)
  have f5 : ∀ c j, 5 ≤ c → c ≤ 9 → st M a i v c j = M c j := fun c j _ _ => st_neA (by omega)
  refine ⟨h1, h2, ⟨by rw [f4]; exact h3, hs⟩, ⟨by rw [f4]; exact h4, by rw [f4, f5 5 5 (by decide) (by decide)]; exact h5, by rw [f5 5 5 (by decide) (by decide)]; exact h6⟩, fun k t hk => ?_, ?_, ?_, h10, Seg.fr (fun j => st_neA (by omega)) h11, by rw [f4]; exact h44, by rw [f4]; exact h45⟩
  · rw [f4, f5 7 _ (by decide) (by decide), f5 8 _ (by decide) (by decide), f5 9 _ (by decide) (by decide)]; exact h7 k t hk
  · simp only [f4]; exact h8
  · rw [st_ne (by omega)]; exact h9
theorem XE.ot {k p : Int} (h : XE sp M k p) {a i v : Int} (ha : (a = sp ∧ i ≠ 5) ∨ a = sp + 1 ∨ a = sp + 2 ∨ (sp + 4 ≤ a ∧ a ≤ sp + 43)) : XE sp (st M a i v) k p := by
  obtain ⟨h1, h2, ⟨h3, hs⟩, h4, h5⟩ := h
  have ks := kd17 sp hs
  have f4 : ∀ j, st M a i v 4 j = M 4 j := fun j => st_neA (by omega)
  refine ⟨by rw [f4]; exact h1, by rw [f4]; exact h2, ⟨by rw [f4]; exact h3, hs⟩, ?_, h5⟩
  rw [st_ne (by omega)]; exact h4
def RuX (b : Int → Int) (n sp s : Int) (M : Mem) (C : List Int) (R : Res) : Ex3 → Prop
  | .ok (c1, c2, T2) => ∃ M1, R = some (1, M1) ∧ XT b n sp M1 T2 (C ++ c1 ++ c2) ∧ (M1 s 6 = C.length ∧ M1 s 7 = ((C ++ c1).length : Int) ∧ M1 s 8 = ((C ++ c1 ++ c2).length : Int)) ∧ Fr (ScU sp s) M M1
  | .error (k, p) => ∃ M1, R = some (0, M1) ∧ XE sp M1 k p ∧ Fr (ScU sp s) M M1
theorem ScQ_U {s : Int} {M M1 : Mem} (f : Fr (ScQ sp) M M1) : Fr (ScU sp s) M M1 := f.mono (fun a i h => Or.inl h)
theorem x_rule (h : XT b n sp M T C) (hB : C.length + T.length ≤ 900) {s : Int} (hs : sp + 4 ≤ s ∧ s ≤ sp + 43) : RuX b n sp s M C (f_X5_readRule M s) (pRule T) := by
  have ks := kd17 sp h.2.2.1.2
  have nq : ∀ i, ¬ ScQ sp s i := fun i q => by unfold ScQ at q; omega
  have fu : ∀ {M0 M' : Mem} (i v : Int), 6 ≤ i → i ≤ 8 → Fr (ScU sp s) M0 M' → Fr (ScU sp s) M0 (st M' s i v) := fun i v h6 h8 f => Fr.st f (Or.inr ⟨rfl, h6, h8⟩)
  unfold f_X5_readRule pRule
  rw [h.2.2.1.1, ok_t h.2.2.1.2, bm_e, h.2.2.2.2.2.2.1]
  have x1 : XT b n sp (st M s 6 C.length) T C := h.ot (by omega)
  have hsu := x_sumR 8 0 (by decide) (by decide) (by decide) _ T C x1 hB
  cases hy : pSum 8 0 T with
  | error z =>
    obtain ⟨k, p⟩ := z
    rw [hy] at hsu
    obtain ⟨M2, e2, x2, f2⟩ := hsu
    rw [e2, cl_some, if_pos rfl]
    exact ⟨M2, rfl, x2, (fu 6 _ (by decide) (by decide) (Fr.rf _ _)).tr (ScQ_U f2)⟩
  | ok z =>
    obtain ⟨c1, T1⟩ := z
    rw [hy] at hsu
    obtain ⟨M2, e2, x2, f2⟩ := hsu
    obtain ⟨g1, g2, g3⟩ := sumG_rd (by decide) (by decide) _ _ _ h.1 hy
    have f3 : Fr (ScU sp s) M (st M2 s 7 ((C ++ c1).length : Int)) := fu 7 _ (by decide) (by decide) ((fu 6 _ (by decide) (by decide) (Fr.rf _ _)).tr (ScQ_U f2))
    have x3 : XT b n sp (st M2 s 7 ((C ++ c1).length : Int)) T1 (C ++ c1) := x2.ot (by omega)
    have e6 : st M2 s 7 ((C ++ c1).length : Int) s 6 = C.length := by rw [st_neI (by decide), f2 s 6 (nq 6), st_at]
    rw [e2, cl_some, if_neg (by decide), x2.2.2.1.1, ok_t x2.2.2.1.2, bm_e, x2.2.2.2.2.2.2.1]
    show RuX b n sp s M C _ (pWhen c1 T1)
    unfold pWhen
    by_cases c9 : isW T1 9
    · rw [if_pos ((x3.ow (by decide)).mpr c9), if_pos c9]
      obtain ⟨M4, e4, x4, f4⟩ := x_step x3 (by omega)
      obtain ⟨t1, t2⟩ := g1.tl (by omega)
      have hte := x_tst 0 (by decide) (by decide) M4 T1.tail (C ++ c1) x4 (by simp; omega)
      rw [e4, cl_some]
      cases hz : pTest (pFact 8) 0 T1.tail with
      | error z =>
        obtain ⟨k, p⟩ := z
        rw [hz] at hte
        obtain ⟨M5, e5, x5, f5⟩ := hte
        rw [e5, cl_some, x5.2.2.1.1, ok_t x5.2.2.1.2, bm_e, ok_t (Or.inl rfl)]
        exact ⟨_, rfl, x5.ot (by omega), fu 8 _ (by decide) (by decide) ((f3.tr (ScQ_U f4)).tr (ScQ_U f5))⟩
      | ok z =>
        obtain ⟨c2, T2⟩ := z
        rw [hz] at hte
        obtain ⟨M5, e5, x5, f5⟩ := hte
        rw [e5, cl_some, x5.2.2.1.1, ok_t x5.2.2.1.2, bm_e, ok_t (Or.inr rfl)]
        refine ⟨_, rfl, x5.ot (by omega), ⟨?_, ?_, ?_⟩, fu 8 _ (by decide) (by decide) ((f3.tr (ScQ_U f4)).tr (ScQ_U f5))⟩
        · rw [st_neI (by decide), f5 s 6 (nq 6), f4 s 6 (nq 6)]; exact e6
        · rw [st_neI (by decide), f5 s 7 (nq 7), f4 s 7 (nq 7), st_at]
        · rw [st_at]; exact x5.2.2.2.2.2.2.1
    · rw [if_neg (fun q => c9 ((x3.ow (by decide)).mp q)), if_neg c9]
      obtain ⟨M4, e4, x4, f4⟩ := x_ref x3 (k := 1) (by decide) (st M2 s 7 ((C ++ c1).length : Int) 4 9)
      rw [e4, cl_some, ok_t (Or.inl rfl)]
      rw [x3.2.2.2.2.2.1.2.2.1] at x4
      exact ⟨M4, rfl, x4, f3.tr (ScQ_U f4)⟩
theorem MC.ot (h : MC b n M T C) {a i v : Int} (ha : a ≠ 338 ∧ a ≠ 360 ∧ (a ≠ 337 ∨ ¬ (i = 2 ∨ i = 3 ∨ i = 4 ∨ i = 5 ∨ i = 6 ∨ i = 32))) : MC b n (st M a i v) T C := by
  obtain ⟨h1, h2, h3⟩ := h
  refine ⟨h1.fr (fun j => st_neA (by omega)) (st_ne (by omega)) (st_ne (by omega)) (st_ne (by omega)) (st_ne (by omega)) (st_ne (by omega)), by rw [st_ne (by omega)]; exact h2, Seg.fr (fun j => st_neA (by omega)) h3⟩
theorem MS.mc (h : MS b n M T V o C bs) : MC b n M T C := ⟨h.1, h.2.2.2.2.2.1, h.2.2.2.2.2.2⟩
theorem MS.ot (h : MS b n M T V o C bs) {a i v : Int} (ha : a ≠ 337 ∧ a ≠ 338 ∧ a ≠ 360 ∧ a ≠ 361) : MS b n (st M a i v) T V o C bs := by
  obtain ⟨h1, h2, h3, h4, h5, h6, h7⟩ := h
  refine ⟨h1.fr (fun j => st_neA (by omega)) (st_neA (by omega)) (st_neA (by omega)) (st_neA (by omega)) (st_neA (by omega)) (st_neA (by omega)), by rw [st_neA (by omega)]; exact h2, h3.fr (fun j _ _ => st_neA (by omega)), by rw [st_neA (by omega)]; exact h4, by rw [st_neA (by omega)]; exact h5, by rw [st_neA (by omega)]; exact h6, Seg.fr (fun j => st_neA (by omega)) h7⟩
theorem MEc.ot {k p : Int} (h : MEc m M k p) {a i v : Int} (ha : a ≠ 337) : MEc m (st M a i v) k p := by
  obtain ⟨⟨h1, h2, h3⟩, h4⟩ := h
  refine ⟨⟨?_, ?_, h3⟩, ?_⟩
  · rw [st_neA (by omega)]; exact h1
  · rw [st_neA (by omega)]; exact h2
  · rw [st_neA (by omega)]; exact h4
theorem m_rSum (hm : m ≤ 900) (h : MC b n M T C) (h52 : M 337 52 = o) (ho : 0 ≤ o ∧ o ≤ 6) (hB : ((C.length + T.length : Nat) : Int) ≤ m) : SumR b n m o 0 [] C M (f_X12_readsSum M) (pSum 8 o T) := by
  have h3 : MS b n (st (st (st M 337 34 0) 337 35 o) 337 51 0) T [] o C 0 := by
    obtain ⟨h1, h2, h3⟩ := h
    refine ⟨h1.fr (fun j => ?_) ?_ ?_ ?_ ?_, ?_, trivial, ?_, st_at _ _ _ _, ?_, Seg.fr (fun j => ?_) h3⟩
    · rw [st_neA (by decide), st_neA (by decide), st_neA (by decide)]
    · rw [st_neI (by decide), st_neI (by decide), st_neI (by decide)]
    · rw [st_neI (by decide), st_neI (by decide), st_neI (by decide)]
    · rw [st_neI (by decide), st_neI (by decide), st_neI (by decide)]
    · rw [st_neI (by decide), st_neI (by decide), st_neI (by decide)]
    · rw [st_neI (by decide), st_neI (by decide), st_at]; simp
    · rw [st_neI (by decide), st_at]
    · rw [st_neI (by decide), st_neI (by decide), st_neI (by decide)]; exact h2
    · rw [st_neA (by decide), st_neA (by decide), st_neA (by decide)]
  have f3 : Fr ScS M (st (st (st M 337 34 0) 337 35 o) 337 51 0) := Fr.st (Fr.st (Fr.st (Fr.rf _ _) (by unfold ScS; omega)) (by unfold ScS; omega)) (by unfold ScS; omega)
  have hs := m_sums hm h3 ho (by decide) (by simp; omega)
  unfold f_X12_readsSum
  rw [bm_e, st_neI (show (52 : Int) ≠ 34 by decide), h52, bm_e, bm_e, if_pos h3.1.1]
  cases hy : pSum 8 o T with
  | error z =>
    obtain ⟨k, p⟩ := z
    rw [hy] at hs
    obtain ⟨M2, e2, x2, f2⟩ := hs
    rw [e2, cl_some]
    exact ⟨M2, rfl, x2, f3.tr f2⟩
  | ok z =>
    obtain ⟨c1, T1⟩ := z
    rw [hy] at hs
    obtain ⟨M2, e2, x2, f2⟩ := hs
    rw [e2, cl_some]
    exact ⟨M2, rfl, x2, f3.tr f2⟩
theorem m_rTest (hm : m ≤ 900) (h : MS b n M T [] 0 C 0) (hB : ((C.length + T.length : Nat) : Int) ≤ m) : SumR b n m 0 0 [] C M (f_X12_readsTest M) (if isW T 9 then pTest (pFact 8) 0 T.tail else er 1 (hq T)) := by
  unfold f_X12_readsTest
  rcases m_asks h.1 (a := 348) (by decide) with ⟨c, M1, e1, q1, q2⟩ | ⟨c, M1, e1, q1, q2⟩
  · have c' : isW T 9 := c
    have m1 := h.go q1 q2
    obtain ⟨t1, t2⟩ := h.tk.tl (by omega)
    have hs := m_tst hm m1 (by omega)
    rw [if_pos c', e1, cl_some, if_pos q1.1]
    cases hy : pTest (pFact 8) 0 T.tail with
    | error z =>
      obtain ⟨k, p⟩ := z
      rw [hy] at hs
      obtain ⟨M2, e2, x2, f2⟩ := hs
      rw [e2, cl_some]
      exact ⟨M2, rfl, x2, (ScP_S q2).tr f2⟩
    | ok z =>
      obtain ⟨c1, T1⟩ := z
      rw [hy] at hs
      obtain ⟨M2, e2, x2, f2⟩ := hs
      rw [e2, cl_some]
      exact ⟨M2, rfl, x2, (ScP_S q2).tr f2⟩
  · have c' : ¬ isW T 9 := c
    rw [if_neg c', e1, cl_some, if_neg (by rw [q1.1]; decide)]
    refine ⟨M1, rfl, ⟨q1, ?_⟩, ScP_S q2⟩
    rw [q2 337 32 (by unfold ScP; omega), h.2.2.2.2.2.1]
    omega
theorem m_rTest0 (h : M 337 5 ≠ 0) : f_X12_readsTest M = some (0, M) := by
  unfold f_X12_readsTest f_X12_asks
  rw [if_neg h, cl_some, if_neg h]
theorem m_rSum0 (h : M 337 5 ≠ 0) : f_X12_readsSum M = some (0, st (st (st M 337 34 0) 337 35 (M 337 52)) 337 51 0) := by
  unfold f_X12_readsSum
  rw [bm_e, st_neI (show (52 : Int) ≠ 34 by decide), bm_e, bm_e, if_neg]
  rw [st_neI (by decide), st_neI (by decide), st_neI (by decide)]; exact h
/-- the three cells of a rule and what is read between them -/
def ScV (aF k a i : Int) : Prop := ScS a i ∨ (aF ≤ a ∧ a ≤ aF + 2 ∧ i = k)
theorem ScS_V {aF k : Int} {M M1 : Mem} (f : Fr ScS M M1) : Fr (ScV aF k) M M1 := f.mono (fun a i h => Or.inl h)
def RuM (b : Int → Int) (n aF k : Int) (M M9 : Mem) (C : List Int) : Ex3 → Prop
  | .ok (c1, c2, T2) => MC b n M9 T2 (C ++ c1 ++ c2) ∧ (M9 aF k = C.length ∧ M9 (aF + 1) k = ((C ++ c1).length : Int) ∧ M9 (aF + 2) k = ((C ++ c1 ++ c2).length : Int)) ∧ Fr (ScV aF k) M M9
  | .error (k', p) => MEc 900 M9 k' p ∧ Fr (ScV aF k) M M9
theorem m_rd3 (h : MC b n M T C) (h52 : M 337 52 = 0) (hB : C.length + T.length ≤ 900) {aF k : Int} (ha : aF = 363 ∨ aF = 369) : ∃ M5 M8, f_X12_readsSum (st M aF k (M 337 32)) = some (0, M5) ∧ f_X12_readsTest (st M5 (aF + 1) k (M5 337 32)) = some (0, M8) ∧ RuM b n aF k M (st M8 (aF + 2) k (M8 337 32)) C (pRule T) := by
  have nS : ∀ a i, 363 ≤ a → a ≤ 371 → ¬ ScS a i := fun a i _ _ q => by unfold ScS at q; omega
  have fv : ∀ {M0 M' : Mem} (a v : Int), aF ≤ a → a ≤ aF + 2 → Fr (ScV aF k) M0 M' → Fr (ScV aF k) M0 (st M' a k v) := fun a v h6 h8 f => Fr.st f (Or.inr ⟨h6, h8, rfl⟩)
  have m1 : MC b n (st M aF k (M 337 32)) T C := h.ot (by omega)
  have f1 : Fr (ScV aF k) M (st M aF k (M 337 32)) := fv aF _ (by omega) (by omega) (Fr.rf _ _)
  have hs := m_rSum (m := 900) (by decide) m1 (o := 0) (by rw [st_neA (by omega)]; exact h52) (by decide) (by omega)
  unfold pRule
  cases hy : pSum 8 0 T with
  | error z =>
    obtain ⟨k', p⟩ := z
    rw [hy] at hs
    obtain ⟨M2, e2, x2, f2⟩ := hs
    have hne : st M2 (aF + 1) k (M2 337 32) 337 5 ≠ 0 := by rw [st_neA (by omega), x2.1.1]; exact x2.1.2.2
    exact ⟨M2, _, e2, m_rTest0 hne, (x2.ot (by omega)).ot (by omega), fv _ _ (by omega) (by omega) (fv _ _ (by omega) (by omega) (f1.tr (ScS_V f2)))⟩
  | ok z =>
    obtain ⟨c1, T1⟩ := z
    rw [hy] at hs
    obtain ⟨M2, e2, x2, f2⟩ := hs
    have hT : Tk b n T := ⟨_, h.1.2.2.2.2.1, h.1.2.2.2.2.2.1⟩
    obtain ⟨g1, g2, g3⟩ := sumG_rd (by decide) (by decide) _ _ _ hT hy
    have m2 : MS b n (st M2 (aF + 1) k (M2 337 32)) T1 [] 0 (C ++ c1) 0 := x2.ot (by omega)
    have f3 : Fr (ScV aF k) M (st M2 (aF + 1) k (M2 337 32)) := fv _ _ (by omega) (by omega) (f1.tr (ScS_V f2))
    have hte := m_rTest (m := 900) (by decide) m2 (by simp; omega)
    refine ⟨M2, ?_⟩
    show ∃ M8, _ ∧ _ ∧ RuM b n aF k M _ C (pWhen c1 T1)
    unfold pWhen
    by_cases c9 : isW T1 9
    · rw [if_pos c9] at hte ⊢
      cases hz : pTest (pFact 8) 0 T1.tail with
      | error z =>
        obtain ⟨k', p⟩ := z
        rw [hz] at hte
        obtain ⟨M5, e5, x5, f5⟩ := hte
        exact ⟨M5, e2, e5, x5.ot (by omega), fv _ _ (by omega) (by omega) (f3.tr (ScS_V f5))⟩
      | ok z =>
        obtain ⟨c2, T2⟩ := z
        rw [hz] at hte
        obtain ⟨M5, e5, x5, f5⟩ := hte
        refine ⟨M5, e2, e5, (x5.mc).ot (by omega), ⟨?_, ?_, ?_⟩, fv _ _ (by omega) (by omega) (f3.tr (ScS_V f5))⟩
        · rw [st_neA (by omega), f5 aF k (nS _ _ (by omega) (by omega)), st_neA (by omega), f2 aF k (nS _ _ (by omega) (by omega)), st_at]; exact h.2.1
        · rw [st_neA (by omega), f5 _ k (nS _ _ (by omega) (by omega)), st_at]; exact x2.2.2.2.2.2.1
        · rw [st_at]; exact x5.2.2.2.2.2.1
    · rw [if_neg c9] at hte ⊢
      obtain ⟨M5, e5, x5, f5⟩ := hte
      exact ⟨M5, e2, e5, x5.ot (by omega), fv _ _ (by omega) (by omega) (f3.tr (ScS_V f5))⟩
end ST
theorem nr_c {m c : Int} (h : NR m c) : (c = m * 14348907 ∧ 1 ≤ m ∧ m < 27 ∧ m % 27 ≠ 0) ∨ (c = m * 531441 ∧ 27 ≤ m ∧ m < 729 ∧ m % 27 ≠ 0) ∨ (c = m * 19683 ∧ 729 ≤ m ∧ m < 19683 ∧ m % 27 ≠ 0) ∨ (c = m * 729 ∧ 19683 ≤ m ∧ m < 531441 ∧ m % 27 ≠ 0) ∨ (c = m * 27 ∧ 531441 ≤ m ∧ m < 14348907 ∧ m % 27 ≠ 0) ∨ (c = m ∧ 14348907 ≤ m ∧ m < 387420489 ∧ m % 27 ≠ 0) := by
  obtain ⟨k, h1, h2, h3, h4, h5, h6⟩ := h
  have : k = 1 ∨ k = 2 ∨ k = 3 ∨ k = 4 ∨ k = 5 ∨ k = 6 := by omega
  rcases this with rfl | rfl | rfl | rfl | rfl | rfl
  · exact Or.inl ⟨h3, h4, h5, h6⟩
  · exact Or.inr (Or.inl ⟨h3, h4, h5, h6⟩)
  · exact Or.inr (Or.inr (Or.inl ⟨h3, h4, h5, h6⟩))
  · exact Or.inr (Or.inr (Or.inr (Or.inl ⟨h3, h4, h5, h6⟩)))
  · exact Or.inr (Or.inr (Or.inr (Or.inr (Or.inl ⟨h3, h4, h5, h6⟩))))
  · refine Or.inr (Or.inr (Or.inr (Or.inr (Or.inr ⟨?_, h4, h5, h6⟩))))
    rw [h3]
    show m * 1 = m
    exact Int.mul_one m
theorem nr_inj {m c m' c' : Int} (h : NR m c) (h' : NR m' c') : m = m' ↔ c = c' := by
  rcases nr_c h with h | h | h | h | h | h <;> rcases nr_c h' with h' | h' | h' | h' | h' | h' <;> constructor <;> intro q <;> omega
