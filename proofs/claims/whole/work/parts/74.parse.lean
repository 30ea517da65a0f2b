/-! SUMS AND TESTS of TOKENS, read by descent -/
abbrev Ex : Type := Except (Int × Int) (List Int × List Tok)
def er (k p : Int) : Ex := .error (k, p)
def bx (x : Ex) (f : List Int → List Tok → Ex) : Ex := match x with
  | .error e => .error e
  | .ok (c, T) => f c T
def pBr (S : Int → List Tok → Ex) (o w : Int) (T : List Tok) : Ex :=
  if isS T 40 then (if 6 ≤ o then er 4 (hq T) else
    bx (S (o + 1) T.tail) fun c T1 =>
      if w = 0 then (if isS T1 41 then .ok (c, T1.tail) else er 1 (hq T1))
      else (if isS T1 44 then bx (S (o + 1) T1.tail) fun c2 T2 => (if isS T2 41 then .ok (c ++ c2 ++ [w], T2.tail) else er 1 (hq T2)) else er 1 (hq T1)))
  else er 1 (hq T)
def telO (T : List Tok) : Int := if isW T 14 then 7 else if isW T 15 then 8 else if isW T 16 then 9 else if isW T 0 then 10 else if isW T 17 then 18 else if isW T 18 then 30 else 0
def pOne (x : Except (Int × Int) (Int × List Tok)) : Ex := match x with
  | .error e => .error e
  | .ok (v, T1) => .ok ([1000 + v], T1)
def pPart (S : Int → List Tok → Ex) (o : Int) (T : List Tok) : Ex := if isS T 40 then pBr S o 0 T else if isW T 19 then pBr S o 5 T.tail else if isW T 20 then pBr S o 6 T.tail else if telO T = 0 then pOne (pNum 0 9999 T) else .ok ([telO T], T.tail)
def pCh (op : List Tok → Int) (P : List Tok → Ex) : Nat → List Int → List Tok → Ex
  | 0, c, T => .ok (c, T)
  | n + 1, c, T => if op T = 0 then .ok (c, T) else bx (P T.tail) fun c1 T1 => pCh op P n (c ++ c1 ++ [op T]) T1
def mulO (T : List Tok) : Int := if isS T 42 then 3 else if isS T 47 then 4 else 0
def addO (T : List Tok) : Int := if isS T 43 then 1 else if isS T 45 then 2 else 0
def andO (T : List Tok) : Int := if isW T 11 then 14 else 0
def orO (T : List Tok) : Int := if isW T 10 then 15 else 0
def cmpO (T : List Tok) : Int := if isS T 60 then 11 else if isS T 62 then 12 else if isS T 61 then 13 else 0
def pProd (S : Int → List Tok → Ex) (o : Int) (T : List Tok) : Ex := bx (pPart S o T) fun c T1 => pCh mulO (pPart S o) T1.length c T1
def pSum : Nat → Int → List Tok → Ex
  | 0, _, _ => er 0 0
  | q + 1, o, T => bx (pProd (pSum q) o T) fun c T1 => pCh addO (pProd (pSum q) o) T1.length c T1
def pBoth (F : Int → List Tok → Ex) (o : Int) (T : List Tok) : Ex := bx (F o T) fun c T1 => pCh andO (F o) T1.length c T1
def pTest (F : Int → List Tok → Ex) (o : Int) (T : List Tok) : Ex := bx (pBoth F o T) fun c T1 => pCh orO (pBoth F o) T1.length c T1
def pFact : Nat → Int → List Tok → Ex
  | 0, _, _ => er 0 0
  | q + 1, o, T => if isW T 12 then (if 6 ≤ o then er 4 (hq T) else bx (pFact q (o + 1) T.tail) fun c T1 => .ok (c ++ [16], T1))
    else if isS T 91 then (if 6 ≤ o then er 4 (hq T) else bx (pTest (pFact q) (o + 1) T.tail) fun c T1 => if isS T1 93 then .ok (c, T1.tail) else er 1 (hq T1))
    else if isW T 13 then .ok ([17], T.tail)
    else bx (pSum 8 o T) fun c T1 => if cmpO T1 = 0 then er 1 (hq T1) else bx (pSum 8 o T1.tail) fun c2 T2 => .ok (c ++ c2 ++ [cmpO T1], T2)
theorem bx_ok {x : Ex} {f : List Int → List Tok → Ex} {y : List Int × List Tok} (h : bx x f = .ok y) : ∃ c T, x = .ok (c, T) ∧ f c T = .ok y := by
  cases x with
  | error e => cases h
  | ok p => exact ⟨p.1, p.2, rfl, h⟩
/-- TOKENS that lie ahead -/
def Tk (b : Int → Int) (n : Int) (T : List Tok) : Prop := ∃ p, 0 ≤ p ∧ Lx b n p T
/-- what the head can be -/
theorem Tk.hd {b : Int → Int} {n : Int} {T : List Tok} (h : Tk b n T) : (0 ≤ hq T ∧ hq T ≤ n) ∧ 1 ≤ T.length ∧ (T.length : Int) ≤ n + 1 ∧ (hk T ≠ 0 → Tk b n T.tail) ∧ (hk T = 2 → 0 ≤ hv T ∧ hv T < 21) ∧ (hk T = 3 → 0 ≤ hv T ∧ hv T ≤ 9999) ∧ (hk T = 0 → hq T = n) := by
  obtain ⟨p, p0, h⟩ := h
  obtain ⟨l1, l2, l3, l4⟩ := h.hd
  have hl := h.len
  refine ⟨⟨by omega, l2⟩, ?_, by omega, ?_, ?_, ?_, ?_⟩
  · cases T with
    | nil => exact h.elim
    | cons t T => simp
  · intro e
    rcases l4 with ⟨l4, l5⟩ | ⟨l4, t, r, l5, l6, l7, l8⟩
    · exact absurd l5 e
    · have := l7.lt l4
      exact ⟨r, by omega, l8⟩
  · intro e
    rcases l4 with ⟨l4, l5⟩ | ⟨l4, t, r, l5, l6, l7, l8⟩
    · omega
    · rw [l5] at e
      rw [l6]
      rcases l7.kd with ⟨-, -, q2⟩ | ⟨-, -, -, q2⟩ | ⟨-, -, -, q2, -⟩
      · rcases q2 with ⟨-, q2⟩ | ⟨-, ⟨-, q2⟩ | ⟨-, ⟨-, q2, -⟩ | ⟨q2, -⟩⟩⟩
        · omega
        · omega
        · exact q2
        · omega
      · rcases q2 with ⟨-, q2⟩ | ⟨-, ⟨-, q2⟩ | ⟨-, q2, -⟩⟩ <;> omega
      · omega
  · intro e
    rcases l4 with ⟨l4, l5⟩ | ⟨l4, t, r, l5, l6, l7, l8⟩
    · omega
    · rw [l5] at e
      rw [l6]
      rcases l7.kd with ⟨-, -, q2⟩ | ⟨-, -, q1, q2⟩ | ⟨-, -, -, q2, -⟩
      · rcases q2 with ⟨-, q2⟩ | ⟨-, ⟨-, q2⟩ | ⟨-, ⟨q2, -⟩ | ⟨q2, -⟩⟩⟩ <;> omega
      · rcases q2 with ⟨-, q2⟩ | ⟨-, ⟨-, q2⟩ | ⟨q2, -, q3⟩⟩
        · omega
        · omega
        · rw [q3]
          have := num_b (b := b) (q := hq T) (k := (r - hq T).toNat) (by omega) (fun i x y => q1.2.2.1 i x (by omega))
          exact ⟨this.1, this.2.1⟩
      · omega
  · intro e
    rcases l4 with ⟨l4, l5⟩ | ⟨l4, t, r, l5, l6, l7, l8⟩
    · exact l4
    · exact absurd (l5.symm.trans e) l7.nz
theorem Tk.tl {b : Int → Int} {n : Int} {T : List Tok} (h : Tk b n T) (hn : hk T ≠ 0) : Tk b n T.tail ∧ T.tail.length + 1 = T.length := by
  have := h.hd
  exact ⟨this.2.2.2.1 hn, by rw [List.length_tail]; omega⟩
/-- code that leaves one value of a sort, on a stack of at most so many -/
def Ty (B : Int) (t : Bool) (c : List Int) : Prop := ∀ ts : List Bool, (ts.length : Int) ≤ B → trn c ts = some (t :: ts)
theorem Ty.le {B B' : Int} {t : Bool} {c : List Int} (h : Ty B t c) (hb : B' ≤ B) : Ty B' t c := fun ts hl => h ts (by omega)
theorem trn_1 {v : Int} {ts t2 : List Bool} (h : tst v ts = some t2) (hl : t2.length ≤ 60) : trn [v] ts = some t2 := by
  show (match tst v ts with | none => none | some t2 => if t2.length ≤ 60 then trn [] t2 else none) = _
  rw [h]
  show (if t2.length ≤ 60 then trn [] t2 else none) = _
  rw [if_pos hl]; rfl
theorem Ty.bin {B B1 B2 : Int} {t t' : Bool} {c1 c2 : List Int} {v : Int} (h1 : Ty B1 t c1) (h2 : Ty B2 t c2) (hb : B ≤ B1 ∧ B + 1 ≤ B2 ∧ B ≤ 59) (hv : ∀ ts, tst v (t :: t :: ts) = some (t' :: ts)) : Ty B t' (c1 ++ c2 ++ [v]) := by
  intro ts hl
  rw [trn_app, trn_app, h1 ts (by omega)]
  show ((trn c2 (t :: ts)).bind (trn [v])) = _
  rw [h2 (t :: ts) (by simp; omega)]
  show trn [v] (t :: t :: ts) = _
  exact trn_1 (hv ts) (by simp; omega)
theorem Ty.un {B : Int} {t : Bool} {c : List Int} {v : Int} (h1 : Ty B t c) (hb : B ≤ 59) (hv : ∀ ts, tst v (t :: ts) = some (t :: ts)) : Ty B t (c ++ [v]) := by
  intro ts hl
  rw [trn_app, h1 ts hl]
  show trn [v] (t :: ts) = _
  exact trn_1 (hv ts) (by simp; omega)
theorem Ty.one {B : Int} {t : Bool} {v : Int} (hb : B ≤ 59) (hv : ∀ ts, tst v ts = some (t :: ts)) : Ty B t [v] := fun ts hl => trn_1 (hv ts) (by simp; omega)
theorem ts_ar {v : Int} (h : 1 ≤ v ∧ v ≤ 6) (ts : List Bool) : tst v (false :: false :: ts) = some (false :: ts) := by
  have h1 : tells0 v = false := by unfold tells0; simp; omega
  unfold tst
  rw [if_neg (by rw [h1]; decide), if_neg (by omega), if_neg (by omega), if_pos h]
theorem ts_cm {v : Int} (h : 11 ≤ v ∧ v ≤ 13) (ts : List Bool) : tst v (false :: false :: ts) = some (true :: ts) := by
  have h1 : tells0 v = false := by unfold tells0; simp; omega
  unfold tst
  rw [if_neg (by rw [h1]; decide), if_neg (by omega), if_neg (by omega), if_neg (by omega), if_pos h]
theorem ts_ao {v : Int} (h : v = 14 ∨ v = 15) (ts : List Bool) : tst v (true :: true :: ts) = some (true :: ts) := by
  have h1 : tells0 v = false := by unfold tells0; simp; omega
  unfold tst
  rw [if_neg (by rw [h1]; decide), if_neg (by omega), if_neg (by omega), if_neg (by omega), if_neg (by omega), if_pos h]
theorem ts_tel {v : Int} (h : tells0 v = true) (ts : List Bool) : tst v ts = some (false :: ts) := if_pos h
section PG
variable {b : Int → Int} {n : Int}
/-- what is read is shorter by what is told -/
def Rs (b : Int → Int) (n : Int) (T : List Tok) (c : List Int) (T1 : List Tok) : Prop := Tk b n T1 ∧ c.length + T1.length ≤ T.length ∧ T1.length < T.length
theorem ch_ok {op : List Tok → Int} {P : List Tok → Ex} {B : Int} {t : Bool} (hop : ∀ T, op T ≠ 0 → hk T ≠ 0 ∧ ∀ ts, tst (op T) (t :: t :: ts) = some (t :: ts)) (hP : ∀ T c T1, Tk b n T → P T = .ok (c, T1) → Rs b n T c T1 ∧ Ty (B + 1) t c) (hB : B ≤ 59) : ∀ (m : Nat) (c : List Int) (T : List Tok) (c' : List Int) (T' : List Tok), Tk b n T → T.length ≤ m → Ty B t c → pCh op P m c T = .ok (c', T') → Tk b n T' ∧ c'.length + T'.length ≤ c.length + T.length ∧ T'.length ≤ T.length ∧ Ty B t c' ∧ op T' = 0
  | 0, c, T, c', T', hT, hm, hc, h => by
    have := hT.hd.2.1
    omega
  | m + 1, c, T, c', T', hT, hm, hc, h => by
    have h' : (if op T = 0 then (.ok (c, T) : Ex) else bx (P T.tail) fun c1 T1 => pCh op P m (c ++ c1 ++ [op T]) T1) = .ok (c', T') := h
    by_cases e : op T = 0
    · rw [if_pos e] at h'
      cases h'
      exact ⟨hT, Nat.le_refl _, Nat.le_refl _, hc, e⟩
    · rw [if_neg e] at h'
      obtain ⟨o1, o2⟩ := hop T e
      obtain ⟨t1, t2⟩ := hT.tl o1
      obtain ⟨c1, T1, e1, e2⟩ := bx_ok h'
      obtain ⟨⟨a1, a2, a3⟩, a4⟩ := hP _ _ _ t1 e1
      obtain ⟨b1, b2, b3, b4, b5⟩ := ch_ok hop hP hB m _ _ _ _ a1 (by omega) (hc.bin a4 ⟨Int.le_refl _, Int.le_refl _, hB⟩ o2) e2
      refine ⟨b1, ?_, by omega, b4, b5⟩
      simp at b2; omega
theorem mulO_r {T : List Tok} (h : mulO T ≠ 0) : hk T ≠ 0 ∧ ∀ ts, tst (mulO T) (false :: false :: ts) = some (false :: ts) := by
  unfold mulO at h ⊢
  split at h
  · rename_i q
    rw [if_pos q]; exact ⟨by omega, ts_ar (by decide)⟩
  · split at h
    · rename_i q1 q
      rw [if_neg q1, if_pos q]; exact ⟨by omega, ts_ar (by decide)⟩
    · exact absurd rfl h
theorem addO_r {T : List Tok} (h : addO T ≠ 0) : hk T ≠ 0 ∧ ∀ ts, tst (addO T) (false :: false :: ts) = some (false :: ts) := by
  unfold addO at h ⊢
  split at h
  · rename_i q
    rw [if_pos q]; exact ⟨by omega, ts_ar (by decide)⟩
  · split at h
    · rename_i q1 q
      rw [if_neg q1, if_pos q]; exact ⟨by omega, ts_ar (by decide)⟩
    · exact absurd rfl h
theorem andO_r {T : List Tok} (h : andO T ≠ 0) : hk T ≠ 0 ∧ ∀ ts, tst (andO T) (true :: true :: ts) = some (true :: ts) := by
  unfold andO at h ⊢
  split at h
  · rename_i q
    rw [if_pos q]; exact ⟨by omega, ts_ao (by decide)⟩
  · exact absurd rfl h
theorem orO_r {T : List Tok} (h : orO T ≠ 0) : hk T ≠ 0 ∧ ∀ ts, tst (orO T) (true :: true :: ts) = some (true :: ts) := by
  unfold orO at h ⊢
  split at h
  · rename_i q
    rw [if_pos q]; exact ⟨by omega, ts_ao (by decide)⟩
  · exact absurd rfl h
theorem cmpO_r {T : List Tok} (h : cmpO T ≠ 0) : hk T ≠ 0 ∧ 11 ≤ cmpO T ∧ cmpO T ≤ 13 := by
  unfold cmpO at h ⊢
  split at h
  · rename_i q
    rw [if_pos q]; exact ⟨by omega, by decide, by decide⟩
  · split at h
    · rename_i q1 q
      rw [if_neg q1, if_pos q]; exact ⟨by omega, by decide, by decide⟩
    · split at h
      · rename_i q1 q2 q
        rw [if_neg q1, if_neg q2, if_pos q]; exact ⟨by omega, by decide, by decide⟩
      · exact absurd rfl h
theorem telO_r {T : List Tok} (h : telO T ≠ 0) : hk T = 2 ∧ tells0 (telO T) = true := by
  unfold telO at h ⊢
  by_cases h1 : isW T 14
  · rw [if_pos h1]; exact ⟨h1.1, by decide⟩
  rw [if_neg h1] at h ⊢
  by_cases h2 : isW T 15
  · rw [if_pos h2]; exact ⟨h2.1, by decide⟩
  rw [if_neg h2] at h ⊢
  by_cases h3 : isW T 16
  · rw [if_pos h3]; exact ⟨h3.1, by decide⟩
  rw [if_neg h3] at h ⊢
  by_cases h4 : isW T 0
  · rw [if_pos h4]; exact ⟨h4.1, by decide⟩
  rw [if_neg h4] at h ⊢
  by_cases h5 : isW T 17
  · rw [if_pos h5]; exact ⟨h5.1, by decide⟩
  rw [if_neg h5] at h ⊢
  by_cases h6 : isW T 18
  · rw [if_pos h6]; exact ⟨h6.1, by decide⟩
  rw [if_neg h6] at h
  exact absurd rfl h
/-- a reader of SUMS at any depth -/
def SumG (b : Int → Int) (n : Int) (S : Int → List Tok → Ex) : Prop := ∀ o T c T1, 0 ≤ o → o ≤ 6 → Tk b n T → S o T = .ok (c, T1) → Rs b n T c T1 ∧ Ty (60 - 3 * (7 - o)) false c
theorem pBr_ok {S : Int → List Tok → Ex} (hS : SumG b n S) {o w : Int} (ho : 0 ≤ o ∧ o ≤ 6) (hw : w = 0 ∨ w = 5 ∨ w = 6) {T : List Tok} (hT : Tk b n T) {c : List Int} {T1 : List Tok} (h : pBr S o w T = .ok (c, T1)) : Rs b n T c T1 ∧ Ty (62 - 3 * (7 - o)) false c := by
  unfold pBr at h
  by_cases h1 : isS T 40
  · rw [if_pos h1] at h
    by_cases h2 : 6 ≤ o
    · rw [if_pos h2] at h; cases h
    rw [if_neg h2] at h
    obtain ⟨t1, t2⟩ := hT.tl (by omega)
    obtain ⟨c1, U, e1, e2⟩ := bx_ok h
    obtain ⟨⟨a1, a2, a3⟩, a4⟩ := hS _ _ _ _ (by omega) (by omega) t1 e1
    by_cases h3 : w = 0
    · rw [if_pos h3] at e2
      by_cases h4 : isS U 41
      · rw [if_pos h4] at e2
        cases e2
        obtain ⟨u1, u2⟩ := a1.tl (by omega)
        exact ⟨⟨u1, by omega, by omega⟩, a4.le (by omega)⟩
      · rw [if_neg h4] at e2; cases e2
    · rw [if_neg h3] at e2
      by_cases h4 : isS U 44
      · rw [if_pos h4] at e2
        obtain ⟨u1, u2⟩ := a1.tl (by omega)
        obtain ⟨c2, V, e3, e4⟩ := bx_ok e2
        obtain ⟨⟨b1, b2, b3⟩, b4⟩ := hS _ _ _ _ (by omega) (by omega) u1 e3
        by_cases h5 : isS V 41
        · rw [if_pos h5] at e4
          cases e4
          obtain ⟨v1, v2⟩ := b1.tl (by omega)
          refine ⟨⟨v1, by simp; omega, by omega⟩, a4.bin b4 ⟨by omega, by omega, by omega⟩ (ts_ar (by omega))⟩
        · rw [if_neg h5] at e4; cases e4
      · rw [if_neg h4] at e2; cases e2
  · rw [if_neg h1] at h; cases h
theorem pPart_ok {S : Int → List Tok → Ex} (hS : SumG b n S) {o : Int} (ho : 0 ≤ o ∧ o ≤ 6) {T : List Tok} (hT : Tk b n T) {c : List Int} {T1 : List Tok} (h : pPart S o T = .ok (c, T1)) : Rs b n T c T1 ∧ Ty (62 - 3 * (7 - o)) false c := by
  unfold pPart at h
  by_cases h1 : isS T 40
  · rw [if_pos h1] at h
    exact pBr_ok hS ho (by decide) hT h
  rw [if_neg h1] at h
  have mm : ∀ w, (w = 0 ∨ w = 5 ∨ w = 6) → hk T ≠ 0 → pBr S o w T.tail = .ok (c, T1) → Rs b n T c T1 ∧ Ty (62 - 3 * (7 - o)) false c := by
    intro w hw hz h
    obtain ⟨t1, t2⟩ := hT.tl hz
    obtain ⟨⟨a1, a2, a3⟩, a4⟩ := pBr_ok hS ho hw t1 h
    exact ⟨⟨a1, by omega, by omega⟩, a4⟩
  by_cases h2 : isW T 19
  · rw [if_pos h2] at h
    exact mm 5 (by decide) (by omega) h
  rw [if_neg h2] at h
  by_cases h3 : isW T 20
  · rw [if_pos h3] at h
    exact mm 6 (by decide) (by omega) h
  rw [if_neg h3] at h
  by_cases h4 : telO T = 0
  · rw [if_pos h4] at h
    unfold pNum at h
    by_cases h5 : hk T = 6
    · rw [if_pos h5] at h; cases h
    rw [if_neg h5] at h
    by_cases h6 : hk T = 3
    · rw [if_pos h6] at h
      by_cases h7 : hv T < 0 ∨ 9999 < hv T
      · rw [if_pos h7] at h; cases h
      · rw [if_neg h7] at h
        cases h
        obtain ⟨t1, t2⟩ := hT.tl (by omega)
        refine ⟨⟨t1, by simp; omega, by omega⟩, Ty.one (by omega) (ts_tel ?_)⟩
        unfold tells0
        simp; omega
    · rw [if_neg h6] at h; cases h
  · rw [if_neg h4] at h
    obtain ⟨p1, p2⟩ := telO_r h4
    cases h
    obtain ⟨t1, t2⟩ := hT.tl (by omega)
    exact ⟨⟨t1, by simp; omega, by omega⟩, Ty.one (by omega) (ts_tel p2)⟩
theorem pProd_ok {S : Int → List Tok → Ex} (hS : SumG b n S) {o : Int} (ho : 0 ≤ o ∧ o ≤ 6) {T : List Tok} (hT : Tk b n T) {c : List Int} {T1 : List Tok} (h : pProd S o T = .ok (c, T1)) : Rs b n T c T1 ∧ Ty (61 - 3 * (7 - o)) false c := by
  unfold pProd at h
  obtain ⟨c1, U, e1, e2⟩ := bx_ok h
  obtain ⟨⟨a1, a2, a3⟩, a4⟩ := pPart_ok hS ho hT e1
  obtain ⟨b1, b2, b3, b4, -⟩ := ch_ok (B := 61 - 3 * (7 - o)) (fun T hz => mulO_r hz) (fun T c T1 h1 h2 => by
    have := pPart_ok hS ho h1 h2
    exact ⟨this.1, this.2.le (by omega)⟩) (by omega) _ _ _ _ _ a1 (Nat.le_refl _) (a4.le (by omega)) e2
  exact ⟨⟨b1, by omega, by omega⟩, b4⟩
theorem pSum_ok : ∀ q : Nat, SumG b n (pSum q)
  | 0 => fun o T c T1 _ _ _ h => by cases h
  | q + 1 => by
    intro o T c T1 h0 h6 hT h
    have h' : (bx (pProd (pSum q) o T) fun c T1 => pCh addO (pProd (pSum q) o) T1.length c T1) = .ok (c, T1) := h
    have hS := pSum_ok q
    obtain ⟨c1, U, e1, e2⟩ := bx_ok h'
    obtain ⟨⟨a1, a2, a3⟩, a4⟩ := pProd_ok hS ⟨h0, h6⟩ hT e1
    obtain ⟨b1, b2, b3, b4, -⟩ := ch_ok (B := 60 - 3 * (7 - o)) (fun T hz => addO_r hz) (fun T c T1 h1 h2 => by
      have := pProd_ok hS ⟨h0, h6⟩ h1 h2
      exact ⟨this.1, this.2.le (by omega)⟩) (by omega) _ _ _ _ _ a1 (Nat.le_refl _) (a4.le (by omega)) e2
    exact ⟨⟨b1, by omega, by omega⟩, b4⟩
def FctG (b : Int → Int) (n : Int) (F : Int → List Tok → Ex) : Prop := ∀ o T c T1, 0 ≤ o → o ≤ 6 → Tk b n T → F o T = .ok (c, T1) → Rs b n T c T1 ∧ Ty (59 - 3 * (7 - o)) true c
theorem pBoth_ok {F : Int → List Tok → Ex} (hF : FctG b n F) {o : Int} (ho : 0 ≤ o ∧ o ≤ 6) {T : List Tok} (hT : Tk b n T) {c : List Int} {T1 : List Tok} (h : pBoth F o T = .ok (c, T1)) : Rs b n T c T1 ∧ Ty (58 - 3 * (7 - o)) true c := by
  unfold pBoth at h
  obtain ⟨c1, U, e1, e2⟩ := bx_ok h
  obtain ⟨⟨a1, a2, a3⟩, a4⟩ := hF _ _ _ _ ho.1 ho.2 hT e1
  obtain ⟨b1, b2, b3, b4, -⟩ := ch_ok (B := 58 - 3 * (7 - o)) (fun T hz => andO_r hz) (fun T c T1 h1 h2 => by
    have := hF _ _ _ _ ho.1 ho.2 h1 h2
    exact ⟨this.1, this.2.le (by omega)⟩) (by omega) _ _ _ _ _ a1 (Nat.le_refl _) (a4.le (by omega)) e2
  exact ⟨⟨b1, by omega, by omega⟩, b4⟩
theorem pTest_ok {F : Int → List Tok → Ex} (hF : FctG b n F) {o : Int} (ho : 0 ≤ o ∧ o ≤ 6) {T : List Tok} (hT : Tk b n T) {c : List Int} {T1 : List Tok} (h : pTest F o T = .ok (c, T1)) : Rs b n T c T1 ∧ Ty (57 - 3 * (7 - o)) true c := by
  unfold pTest at h
  obtain ⟨c1, U, e1, e2⟩ := bx_ok h
  obtain ⟨⟨a1, a2, a3⟩, a4⟩ := pBoth_ok hF ho hT e1
  obtain ⟨b1, b2, b3, b4, -⟩ := ch_ok (B := 57 - 3 * (7 - o)) (fun T hz => orO_r hz) (fun T c T1 h1 h2 => by
    have := pBoth_ok hF ho h1 h2
    exact ⟨this.1, this.2.le (by omega)⟩) (by omega) _ _ _ _ _ a1 (Nat.le_refl _) (a4.le (by omega)) e2
  exact ⟨⟨b1, by omega, by omega⟩, b4⟩
theorem pFact_ok : ∀ q : Nat, FctG b n (pFact q)
  | 0 => fun o T c T1 _ _ _ h => by cases h
  | q + 1 => by
    intro o T c T1 h0 h6 hT h
    have hF := pFact_ok q
    unfold pFact at h
    by_cases h1 : isW T 12
    · rw [if_pos h1] at h
      by_cases h2 : 6 ≤ o
      · rw [if_pos h2] at h; cases h
      rw [if_neg h2] at h
      obtain ⟨t1, t2⟩ := hT.tl (by omega)
      obtain ⟨c1, U, e1, e2⟩ := bx_ok h
      obtain ⟨⟨a1, a2, a3⟩, a4⟩ := hF _ _ _ _ (by omega) (by omega) t1 e1
      cases e2
      exact ⟨⟨a1, by simp; omega, by omega⟩, (a4.le (by omega)).un (by omega) (fun ts => rfl)⟩
    rw [if_neg h1] at h
    by_cases h2 : isS T 91
    · rw [if_pos h2] at h
      by_cases h3 : 6 ≤ o
      · rw [if_pos h3] at h; cases h
      rw [if_neg h3] at h
      obtain ⟨t1, t2⟩ := hT.tl (by omega)
      obtain ⟨c1, U, e1, e2⟩ := bx_ok h
      obtain ⟨⟨a1, a2, a3⟩, a4⟩ := pTest_ok hF ⟨by omega, by omega⟩ t1 e1
      by_cases h4 : isS U 93
      · rw [if_pos h4] at e2
        cases e2
        obtain ⟨u1, u2⟩ := a1.tl (by omega)
        exact ⟨⟨u1, by omega, by omega⟩, a4.le (by omega)⟩
      · rw [if_neg h4] at e2; cases e2
    rw [if_neg h2] at h
    by_cases h3 : isW T 13
    · rw [if_pos h3] at h
      cases h
      obtain ⟨t1, t2⟩ := hT.tl (by omega)
      exact ⟨⟨t1, by simp; omega, by omega⟩, Ty.one (by omega) (fun ts => rfl)⟩
    rw [if_neg h3] at h
    obtain ⟨c1, U, e1, e2⟩ := bx_ok h
    obtain ⟨⟨a1, a2, a3⟩, a4⟩ := pSum_ok 8 _ _ _ _ h0 h6 hT e1
    by_cases h4 : cmpO U = 0
    · rw [if_pos h4] at e2; cases e2
    rw [if_neg h4] at e2
    obtain ⟨o1, o2⟩ := cmpO_r h4
    obtain ⟨u1, u2⟩ := a1.tl o1
    obtain ⟨c2, V, e3, e4⟩ := bx_ok e2
    obtain ⟨⟨b1, b2, b3⟩, b4⟩ := pSum_ok 8 _ _ _ _ h0 h6 u1 e3
    cases e4
    exact ⟨⟨b1, by simp; omega, by omega⟩, a4.bin b4 ⟨by omega, by omega, by omega⟩ (ts_cm o2)⟩
end PG
