/-! THE PLAN's cells, and the whole relation -/
def ShwR (A B : Mem) (a i k : Int) : Prop := (0 ≤ A 378 k ∧ A 378 k < A 372 1) ∧ B (a + 4 + i) 2 = A 378 k ∧ (0 ≤ B (a + 4 + i) 3 ∧ B (a + 4 + i) 3 < 12) ∧ (0 ≤ B (a + 4 + i) 4 ∧ B (a + 4 + i) 4 < 8) ∧ A 379 k = 12 * B (a + 4 + i) 4 + B (a + 4 + i) 3 ∧ SegT A 5 (A 380 k) (A 381 k) false ∧ SegX A B (a + 3) (B (a + 4 + i) 6) (B (a + 4 + i) 7) (A 380 k) (A 381 k)
def MR (A B : Mem) (a : Int) : Nat → Nat → Int → Int → Int → Int → Prop
  | 0, _, _, _, _, _ => False
  | n + 1, d, i, j, k, l => (i = j ∧ k = l) ∨ (i < j ∧ k < l ∧ B (a + 4 + i) 0 = 7 ∧ A 377 k = 0 ∧ ShwR A B a i k ∧ MR A B a n d (i + 1) j (k + 1) l) ∨ (i < j ∧ B (a + 4 + i) 0 = 8 ∧ A 377 k = 1 ∧ A 382 k = B (a + 4 + i) 2 ∧ (1 ≤ B (a + 4 + i) 2 ∧ B (a + 4 + i) 2 ≤ 9) ∧ (i + 1 ≤ B (a + 4 + i) 9 ∧ B (a + 4 + i) 9 ≤ j) ∧ ∃ d1 ke, d = d1 + 1 ∧ k < ke ∧ ke < l ∧ A 377 ke = 2 ∧ MR A B a n d1 (i + 1) (B (a + 4 + i) 9) (k + 1) ke ∧ MR A B a n d (B (a + 4 + i) 9) j (ke + 1) l)
/-- the STATEMENTS show, in the order in which they come -/
def exL (B : Mem) (a : Int) : Nat → Int → Int → List Int
  | 0, _, _ => []
  | n + 1, i, j => if j ≤ i then [] else if B (a + 4 + i) 0 = 7 then i :: exL B a n (i + 1) j else (List.replicate (B (a + 4 + i) 2).toNat (exL B a n (i + 1) (B (a + 4 + i) 9))).flatten ++ exL B a n (B (a + 4 + i) 9) j
def PlnQ (A B : Mem) (a : Int) : Prop := (A 337 60 = 0 ∨ A 337 60 = 1) ∧ B a 6 = A 337 60 ∧ (0 ≤ A 376 1 ∧ A 376 1 ≤ 80) ∧ (A 337 60 = 1 → (0 ≤ B a 1 ∧ B a 1 ≤ 40) ∧ ∃ n, MR A B a n 6 0 (B a 1) 80 (80 + A 376 1) ∧ B 1 12 = (((exL B a n 0 (B a 1)).take 40).length : Int) ∧ (∀ (q : Nat) (v : Int), ((exL B a n 0 (B a 1)).take 40)[q]? = some v → B 201 q = v) ∧ B 1 13 = min 1000000 ((exL B a n 0 (B a 1)).length : Int))
/-- what stands in the steps that are being read stays small -/
def StB (A : Mem) : Prop := ∀ a j, 380 ≤ a → a ≤ 381 → 0 ≤ j → j < 80 → 0 ≤ A a j ∧ A a j ≤ 900
def PlnR (A B : Mem) (a : Int) : Prop := PlnQ A B a ∧ StB A
def Rel (A B : Mem) : Prop := PtrB B ∧ TapR A B ∧ FltR A B ∧ ThgR A B (B 1 8) ∧ FldR A B ∧ TrsR A B ∧ LwsR A B ∧ PlnR A B (B 1 9) ∧ ChrR A B ∧ OctR A B
/-- the two objects, each with its scratch -/
def RR (A B Mx Mm : Mem) : Prop := Rel A B ∧ Fr ScM A Mm ∧ Fr (ScX (B 1 10)) B Mx ∧ Lcache (A 388) Mx
def R (Mx Mm : Mem) : Prop := ∃ A B, RR A B Mx Mm
/-- both answer alike, and are related again -/
def Jt (ox om : Res) : Prop := ∃ r Mx Mm, ox = some (r, Mx) ∧ om = some (r, Mm) ∧ R Mx Mm
theorem Jt.q {A B Mx Mm Mx1 Mm1 : Mem} {ox om : Res} {r : Int} (h : RR A B Mx Mm) (ex : ox = some (r, Mx1)) (em : om = some (r, Mm1)) (fx : Fr (ScX (B 1 10)) Mx Mx1) (fm : Fr ScM Mm Mm1) (hl : Lcache (A 388) Mx1) : Jt ox om := ⟨r, Mx1, Mm1, ex, em, A, B, h.1, h.2.1.tr fm, h.2.2.1.tr fx, hl⟩
section QQ
variable {A B Mx Mm : Mem}
theorem RR.ptr (h : RR A B Mx Mm) : PtrB B := h.1.1
theorem RR.tap (h : RR A B Mx Mm) : TapR A B := h.1.2.1
theorem RR.flt (h : RR A B Mx Mm) : FltR A B := h.1.2.2.1
theorem RR.thg (h : RR A B Mx Mm) : ThgR A B (B 1 8) := h.1.2.2.2.1
theorem RR.fld (h : RR A B Mx Mm) : FldR A B := h.1.2.2.2.2.1
theorem RR.trs (h : RR A B Mx Mm) : TrsR A B := h.1.2.2.2.2.2.1
theorem RR.lws (h : RR A B Mx Mm) : LwsR A B := h.1.2.2.2.2.2.2.1
theorem RR.plr (h : RR A B Mx Mm) : PlnR A B (B 1 9) := h.1.2.2.2.2.2.2.2.1
theorem RR.pln (h : RR A B Mx Mm) : PlnQ A B (B 1 9) := h.plr.1
theorem RR.stb (h : RR A B Mx Mm) : StB A := h.plr.2
theorem RR.chr (h : RR A B Mx Mm) : ChrR A B := h.1.2.2.2.2.2.2.2.2.1
theorem RR.oct (h : RR A B Mx Mm) : OctR A B := h.1.2.2.2.2.2.2.2.2.2
theorem RR.fm (h : RR A B Mx Mm) : Fr ScM A Mm := h.2.1
theorem RR.fx (h : RR A B Mx Mm) : Fr (ScX (B 1 10)) B Mx := h.2.2.1
theorem RR.lc (h : RR A B Mx Mm) : Lcache (A 388) Mx := h.2.2.2
theorem RR.nx (h : RR A B Mx Mm) {Mx1 Mm1 : Mem} (fx : Fr (ScX (B 1 10)) Mx Mx1) (fm : Fr ScM Mm Mm1) (hl : Lcache (A 388) Mx1) : RR A B Mx1 Mm1 := ⟨h.1, h.2.1.tr fm, h.2.2.1.tr fx, hl⟩
theorem RR.nr (h : RR A B Mx Mm) {Mx1 Mm1 : Mem} (fx : Fr ScR Mx Mx1) (fm : Fr ScT Mm Mm1) : RR A B Mx1 Mm1 := h.nx (fr_Xr fx) (fr_Mt fm) (h.lc.r fx)
theorem RR.rx (h : RR A B Mx Mm) {a i : Int} (ha : a < 69 ∨ (200 < a ∧ a < 205)) (hn : ¬ ((7 ≤ a ∧ a ≤ 9) ∨ a = 11 ∨ a = 12 ∨ (18 ≤ a ∧ a ≤ 20) ∨ (65 ≤ a ∧ a ≤ 67) ∨ a = 203 ∨ a = 204 ∨ (a = 5 ∧ i = 5) ∨ (a = 4 ∧ (i = 1 ∨ i = 2 ∨ i = 3 ∨ (6 ≤ i ∧ i ≤ 10))) ∨ (a = 13 ∧ i = 7))) : Mx a i = B a i := rdB h.ptr h.fx ha hn
theorem RR.rm (h : RR A B Mx Mm) {a i : Int} (hn : ¬ ScM a i) : Mm a i = A a i := h.fm a i hn
theorem RR.sg (h : RR A B Mx Mm) : SgOk (A 388) := h.fld.1
theorem RR.mg (h : RR A B Mx Mm) : ∀ s, 0 ≤ s → s < 96 → Mm 388 s = A 388 s := fun s _ _ => h.rm (by unfold ScM; omega)
theorem RR.xg (h : RR A B Mx Mm) : ∀ s, 0 ≤ s → s < 96 → Mx 14 s = A 388 s := fun s h0 h1 => (h.rx (by omega) (by omega)).trans (h.fld.2.2.2.1 s h0 h1).1
theorem RR.law (h : RR A B Mx Mm) {k : Int} (hl : isLw A k) : kd (B 68 k) = 17 ∧ SA B Mx (B 68 k) ∧ LawA A (2 + k) ∧ RulA A (2 + k) ∧ LawX A B (B 68 k) (2 + k) ∧ RulX A B (B 68 k) (2 + k) 6 := by
  obtain ⟨⟨k0, k1⟩, hk⟩ := hl
  have h1 := h.ptr.law k0 k1
  exact ⟨h1, SA.of h.fx h1 h.ptr.1.2.2.1 (h.ptr.2.2.2 k k0 k1).2.2, (h.lws k k0 k1).2.2 hk⟩
theorem RR.sorts (h : RR A B Mx Mm) {t : Int} (ht : isTh A t) : f_X11_sortsOf Mx t = some (A 374 (5 + t), Mx) := x_sorts h.ptr h.fx h.thg ht
theorem RR.sr (h : RR A B Mx Mm) {t : Int} (ht : isTh A t) : 2 ≤ A 374 (5 + t) ∧ A 374 (5 + t) ≤ 6 := (h.thg.2.2 t ht.1 ht.2).1
theorem RR.nt (h : RR A B Mx Mm) {t : Int} (ht : isTh A t) : 0 ≤ t ∧ t < 5 := by have := h.thg.1; have := ht.1; have := ht.2; omega
theorem RR.m374 (h : RR A B Mx Mm) {t : Int} (ht : isTh A t) : Mm 374 (5 + t) = A 374 (5 + t) := by
  have := ht.1
  exact h.rm (by unfold ScM; omega)
/-- both see a SHOWING -/
theorem RR.shows (h : RR A B Mx Mm) {t s b : Int} (ht : 0 ≤ t ∧ t ≤ 1000) (hs : 0 ≤ s ∧ s < 96) (hb : isBr b) : ∃ Mx1 Mm1, f_X11_putShowing Mx t s b = some (0, Mx1) ∧ f_X12_shows Mm t s b = some (0, Mm1) ∧ RR A B Mx1 Mm1 ∧ EnvX Mx1 (env (A 388) t s b) ∧ EnvM Mm1 (env (A 388) t s b) ∧ EnvOk (env (A 388) t s b) := by
  obtain ⟨M1, q1, q2, q3⟩ := m_shows h.sg h.mg (t := t) hs hb
  obtain ⟨M2, p1, p2, p3, p4⟩ := x_shows h.sg h.xg h.lc (t := t) hs hb
  exact ⟨M2, M1, p1, q1, h.nx (fr_Xf p3) (fr_Me q3) p4, p2, q2, env_ok h.sg ht hs hb⟩
theorem RR.pcrd (h : RR A B Mx Mm) {e : Int → Int} (he : EnvOk e) (hx : EnvX Mx e) (hm : EnvM Mm e) {k : Int} (hl : isLw A k) (kn : Int) : ∃ Mx1 Mm1, f_X7_carriedMost Mx (B 68 k) kn = some (crd A e (2 + k) kn, Mx1) ∧ f_X12_carried Mm k kn = some (crd A e (2 + k) kn, Mm1) ∧ RR A B Mx1 Mm1 ∧ EnvX Mx1 e ∧ EnvM Mm1 e := by
  obtain ⟨l1, l2, l3, l4, l5, l6⟩ := h.law hl
  obtain ⟨M1, q1, f1⟩ := m_crd he hm h.fm hl.1 l3 kn
  obtain ⟨M2, q2, f2⟩ := x_crd he hx l1 l2 l3 l5 kn
  exact ⟨M2, M1, q2, q1, h.nr f2 f1, hx.fr f2, hm.fr f1⟩
theorem RR.line (h : RR A B Mx Mm) {e : Int → Int} (he : EnvOk e) (hx : EnvX Mx e) (hm : EnvM Mm e) {k : Int} (hl : isLw A k) : ∃ Mx1 Mm1, f_X7_lineBy Mx (B 68 k) = some (linV A e (2 + k), Mx1) ∧ f_X12_lineOf Mm k = some (linV A e (2 + k), Mm1) ∧ RR A B Mx1 Mm1 ∧ EnvX Mx1 e ∧ EnvM Mm1 e := by
  obtain ⟨l1, l2, l3, l4, l5, l6⟩ := h.law hl
  obtain ⟨M1, q1, f1⟩ := m_line he hm h.fm hl.1 l4
  obtain ⟨M2, q2, f2⟩ := x_line he hx l1 l2 l4 l6
  exact ⟨M2, M1, q2, q1, h.nr f2 f1, hx.fr f2, hm.fr f1⟩
theorem RR.says (h : RR A B Mx Mm) {e : Int → Int} (he : EnvOk e) (hx : EnvX Mx e) (hm : EnvM Mm e) {k : Int} (hl : isLw A k) : ∃ Mx1 Mm1, f_X7_saysBy Mx (B 68 k) = some (say A e (2 + k), Mx1) ∧ f_X12_isSaid Mm k = some (say A e (2 + k), Mm1) ∧ RR A B Mx1 Mm1 ∧ EnvX Mx1 e ∧ EnvM Mm1 e := by
  obtain ⟨l1, l2, l3, l4, l5, l6⟩ := h.law hl
  obtain ⟨M1, q1, f1⟩ := m_says he hm h.fm hl.1 l3 l4
  obtain ⟨M2, q2, f2⟩ := x_says he hx l1 l2 l3 l5 l4 l6
  exact ⟨M2, M1, q2, q1, h.nr f2 f1, hx.fr f2, hm.fr f1⟩
theorem RR.J (h : RR A B Mx Mm) {ox om : Res} {r : Int} (ex : ox = some (r, Mx)) (em : om = some (r, Mm)) : Jt ox om := ⟨r, Mx, Mm, ex, em, A, B, h⟩
/-- the class's showsTold -/
theorem RR.told (h : RR A B Mx Mm) {t c r b : Int} : (∃ Mx1, f_X11_showsTold Mx t c r b = some (0, Mx1) ∧ ¬ isShw A t c r b ∧ Mx1 = Mx) ∨ (isShw A t c r b ∧ ∃ Mx1 Mm1, f_X11_showsTold Mx t c r b = some (1, Mx1) ∧ f_X12_shows Mm t (12 * r + c) b = some (0, Mm1) ∧ RR A B Mx1 Mm1 ∧ EnvX Mx1 (env (A 388) t (12 * r + c) b) ∧ EnvM Mm1 (env (A 388) t (12 * r + c) b) ∧ EnvOk (env (A 388) t (12 * r + c) b)) := by
  obtain ⟨q, e, hq⟩ := x_canShw h.ptr h.fx h.thg t c r b
  unfold f_X11_showsTold
  rw [e, cl_some]
  rcases hq with ⟨rfl, hq⟩ | ⟨rfl, hq⟩
  · right
    refine ⟨hq, ?_⟩
    have ht := h.nt hq.1
    obtain ⟨Mx1, Mm1, a1, a2, a3⟩ := h.shows (t := t) (s := 12 * r + c) (b := b) (by omega) (sh_sq hq) hq.2.2
    refine ⟨Mx1, Mm1, ?_, a2, a3⟩
    rw [if_neg (by decide), xx_sqAt Mx hq.2.1, cl_some, a1, cl_some]
  · left
    exact ⟨Mx, by rw [if_pos rfl], hq, rfl⟩
end QQ
