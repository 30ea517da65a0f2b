/-! PIECES: both side by side -/
theorem ssd_cg {f f' : Int → Int} : ∀ n : Nat, (∀ k : Int, 0 ≤ k → k ≤ n → f' k = f k) → ssd f' n = ssd f n
  | 0, _ => rfl
  | n + 1, h => by
    have ih := ssd_cg n (fun k k0 k1 => h k k0 (by omega))
    have r := ssd_rng f n
    show (if f' (ssd f' n) < f' ((n + 1 : Nat) : Int) then ((n + 1 : Nat) : Int) else ssd f' n) = (if f (ssd f n) < f ((n + 1 : Nat) : Int) then ((n + 1 : Nat) : Int) else ssd f n)
    rw [ih, h _ r.1 (by omega), h _ (by omega) (by omega)]
def ScPx (a i : Int) : Prop := a = 15 ∨ a = 16 ∨ a = 17 ∨ a = 18 ∨ (a = 13 ∧ (i = 7 ∨ i = 8 ∨ i = 9))
def ScPm (a i : Int) : Prop := a = 389 ∨ a = 390 ∨ a = 391 ∨ (a = 337 ∧ i = 78)
def PR (g : Int → Int) (X0 M0 Mx Mm : Mem) (x1 : Int) : Prop := (∀ t, isQ t → Mx 14 t = g t ∧ Mm 388 t = g t) ∧ (∀ t, isQ t → Mx 15 t = Mm 389 t) ∧ (Mx 13 8 = Mm 337 78 ∧ 0 ≤ Mm 337 78 ∧ Mm 337 78 ≤ x1) ∧ (∀ t, isQ t → (-1 ≤ Mm 389 t ∧ Mm 389 t < Mm 337 78) ∧ (Mm 389 t ≠ -1 → g t ≠ 0)) ∧ (∀ t, 0 ≤ t → t < x1 → g t ≠ 0 → Mm 389 t ≠ -1) ∧ (∀ k, 0 ≤ k → k < Mm 337 78 → Mx 16 k = Mm 390 k ∧ Mx 17 k = Mm 391 k) ∧ Mx 13 9 = (if Mm 337 78 = 0 then -1 else ssd (Mm 390) (Mm 337 78 - 1).toNat) ∧ Fr ScPx X0 Mx ∧ Fr ScPm M0 Mm
theorem j_pieces {g : Int → Int} {X0 M0 : Mem} (hg : ∀ t, isQ t → 0 ≤ g t) : ∀ (d F G : Nat) (Mx Mm : Mem) (x1 : Int), 96 - x1 = d → 0 ≤ x1 → PR g X0 M0 Mx Mm x1 → d < F → d < G → ∃ Mx1 Mm1, wl1 (b_X3_partPieces_12) F Mx x1 = some (0, Mx1) ∧ wl1 (b_X12_tellsPieces_28) G Mm x1 = some (0, Mm1) ∧ PR g X0 M0 Mx1 Mm1 96
  | 0, F, G, Mx, Mm, x1, hd, h0, h, hF, hG => by
    obtain ⟨F', rfl⟩ : ∃ F', F = F' + 1 := ⟨F - 1, by omega⟩
    obtain ⟨G', rfl⟩ : ∃ G', G = G' + 1 := ⟨G - 1, by omega⟩
    have e : x1 = 96 := by omega
    subst e
    refine ⟨Mx, Mm, ?_, ?_, h⟩
    · rw [wl1_s]
      unfold b_X3_partPieces_12
      rw [if_pos (by decide)]
    · rw [wl1_s]
      unfold b_X12_tellsPieces_28
      rw [if_pos (by decide)]
  | d + 1, F, G, Mx, Mm, x1, hd, h0, h, hF, hG => by
    obtain ⟨F', rfl⟩ : ∃ F', F = F' + 1 := ⟨F - 1, by omega⟩
    obtain ⟨G', rfl⟩ : ∃ G', G = G' + 1 := ⟨G - 1, by omega⟩
    have hFU : FU = 1000000000 := rfl
    have qx : isQ x1 := ⟨h0, by omega⟩
    obtain ⟨p1, p2, ⟨p3, p3a, p3b⟩, p4, p5, p6, p7, p8, p9⟩ := id h
    -- nothing new here
    have nxt : (g x1 ≠ 0 → Mm 389 x1 ≠ -1) → ∃ Mx1 Mm1, wl1 (b_X3_partPieces_12) F' Mx (x1 + 1) = some (0, Mx1) ∧ wl1 (b_X12_tellsPieces_28) G' Mm (x1 + 1) = some (0, Mm1) ∧ PR g X0 M0 Mx1 Mm1 96 := by
      intro hn
      refine j_pieces hg d F' G' Mx Mm (x1 + 1) (by omega) (by omega) ⟨p1, p2, ⟨p3, p3a, by omega⟩, p4, fun t t0 t1 gt => ?_, p6, p7, p8, p9⟩ (by omega) (by omega)
      by_cases e : t = x1
      · rw [e] at gt ⊢; exact hn gt
      · exact p5 t t0 (by omega) gt
    rw [wl1_s, wl1_s]
    show ∃ Mx1 Mm1, b_X3_partPieces_12 (wl1 (b_X3_partPieces_12) F') Mx x1 = some (0, Mx1) ∧ b_X12_tellsPieces_28 (wl1 (b_X12_tellsPieces_28) G') Mm x1 = some (0, Mm1) ∧ PR g X0 M0 Mx1 Mm1 96
    have rcc := fun Mx' Mm' (h' : PR g X0 M0 Mx' Mm' (x1 + 1)) => j_pieces hg d F' G' Mx' Mm' (x1 + 1) (by omega) (by omega) h' (by omega) (by omega)
    generalize hwx : wl1 (b_X3_partPieces_12) F' = wx at nxt rcc ⊢
    generalize hwm : wl1 (b_X12_tellsPieces_28) G' = wm at nxt rcc ⊢
    unfold b_X3_partPieces_12 b_X12_tellsPieces_28
    have gx := hg x1 qx
    have n96 : ¬ 96 ≤ x1 := by omega
    have o96 : 0 ≤ x1 ∧ x1 < 96 := ⟨h0, by omega⟩
    rw [if_neg n96, if_neg n96, ok_t o96, ok_t o96, (p1 x1 qx).1, (p1 x1 qx).2]
    by_cases c0 : g x1 = 0
    · rw [if_pos (by omega), if_pos c0]
      exact nxt (fun z => absurd c0 z)
    have n0 : ¬ g x1 ≤ 0 := by omega
    rw [if_neg n0, if_neg c0, p2 x1 qx]
    by_cases c1 : Mm 389 x1 = -1
    · rw [if_pos c1, if_pos c1]
      generalize hpc : Mm 337 78 = pc at *
      have hp : 0 ≤ pc ∧ pc < 96 := ⟨p3a, by omega⟩
      have hlb : ∀ t, isQ t → -1 ≤ Mm 389 t ∧ Mm 389 t < pc := fun t qt => (p4 t qt).1
      -- the class
      rw [p3, ok_t hp, bm_e, st_neA (show (13 : Int) ≠ 17 by decide), p3, ok_t hp, bm_e]
      obtain ⟨X1, eX, GX1, sX, fX⟩ := x_gather (g := g) (lb := Mm 389) (pc := pc) (s0 := x1) (M0 := st (st Mx 17 pc x1) 16 pc 0) hp hlb qx (fun t qt => by rw [st_neA (by decide), st_neA (by decide)]; exact (p1 t qt).1) (fun t qt => by rw [st_neA (by decide), st_neA (by decide)]; exact p2 t qt) (by rw [st_neA (by decide), st_neA (by decide)]; exact p3) (st_at _ _ _ _) c0 c1
      -- the reference
      rw [bm_e, st_neA (show (337 : Int) ≠ 389 by decide), hpc, ok_t hp, bm_e]
      have GM0 : GM g (Mm 389) pc x1 (st (st Mm 389 x1 pc) 391 pc x1) (st (st Mm 389 x1 pc) 391 pc x1) := by
        have eo : ∀ t, t ≠ x1 → st (st Mm 389 x1 pc) 391 pc x1 389 t = Mm 389 t := fun t ht => by rw [st_neA (by decide), st_neI ht]
        have e1 : st (st Mm 389 x1 pc) 391 pc x1 389 x1 = pc := by rw [st_neA (by decide), st_at]
        refine ⟨fun t qt => by rw [st_neA (by decide), st_neA (by decide)]; exact (p1 t qt).2, by rw [st_neA (by decide), st_neA (by decide)]; exact hpc, ⟨fun t qt => ?_, fun Y y0 _ t qt hpt => ?_⟩, e1, Fr.rf _ _⟩
        · by_cases e : t = x1
          · rw [e]; exact Or.inr ⟨c1, c0, e1⟩
          · exact Or.inl (eo t e)
        · by_cases e : t = x1
          · rw [e]; exact y0
          · rw [eo t e] at hpt
            have := (hlb t qt).2
            omega
      have r0 := cnP_rng (st (st Mm 389 x1 pc) 391 pc x1 389) pc 96
      obtain ⟨M1, M2, eM, GM1, fM, m1, m2, m3⟩ := m_piece hp hlb ⟨h0, qx.2⟩ wm 96 FU _ GM0 (by omega) (by omega)
      rw [eX, cl_some, eM]
      obtain ⟨x14, x138, xl, ⟨x16, x16b⟩, xq1, xq2, xf⟩ := GX1
      obtain ⟨y388, y78, yl, ys, yf⟩ := GM1
      have same := lab_uniq qx (fun t qt => (hlb t qt).2) xl yl sX ys fX fM
      have cn : cnP (X1 15) pc 96 = cnP (M1 389) pc 96 := cnP_cg 96 (fun t t0 t1 => same t ⟨t0, by omega⟩)
      have e139 : X1 13 9 = Mx 13 9 := by rw [xf 13 9 (by unfold ScGa; omega), st_neA (by decide), st_neA (by decide)]
      have v16 : ∀ k, k ≠ pc → X1 16 k = Mx 16 k := fun k hk => by rw [xf 16 k (by unfold ScGa; omega), st_neI hk, st_neA (by decide)]
      have v390 : ∀ k, k ≠ pc → M2 390 k = Mm 390 k := fun k hk => by rw [m3 390 k (by omega) (by omega), yf 390 k (by unfold ScGm; omega), st_neA (by decide), st_neA (by decide)]
      have e16 : X1 16 pc = M2 390 pc := by rw [x16, ← x16b, cn, m1]
      have v389 : ∀ t, M2 389 t = M1 389 t := fun t => m3 389 t (by omega) (by omega)
      have frx : Fr ScPx X0 X1 := p8.tr (((Fr.st (Fr.st (Fr.rf _ _) (by unfold ScPx; omega)) (by unfold ScPx; omega))).tr (xf.mono (fun a i z => by unfold ScGa at z; unfold ScPx; omega)))
      have frm : Fr ScPm M0 M2 := by
        refine p9.tr ((((Fr.st (Fr.st (Fr.rf _ _) (by unfold ScPm; omega)) (by unfold ScPm; omega))).tr (yf.mono (fun a i z => by unfold ScGm at z; unfold ScPm; omega))).tr ?_)
        intro a i hn
        exact m3 a i (fun z => hn (by unfold ScPm; omega)) (fun z => hn (by unfold ScPm; omega))
      -- the state behind it
      have fin : ∀ X2 : Mem, X2 13 8 = pc + 1 → X2 13 9 = ssd (M2 390) pc.toNat → (∀ a i, ¬ (a = 13 ∧ (i = 8 ∨ i = 9)) → X2 a i = X1 a i) → ∃ Mx1 Mm1, wx X2 (x1 + 1) = some (0, Mx1) ∧ wm M2 (x1 + 1) = some (0, Mm1) ∧ PR g X0 M0 Mx1 Mm1 96 := by
        intro X2 z1 z2 z3
        refine rcc X2 M2 ⟨fun t qt => ⟨by rw [z3 14 t (by omega)]; exact x14 t qt, by rw [m3 388 t (by omega) (by omega)]; exact y388 t qt⟩, fun t qt => by rw [z3 15 t (by omega), v389]; exact same t qt, ⟨by rw [z1, m2], by omega, by omega⟩, fun t qt => ?_, fun t t0 t1 gt => ?_, fun k k0 k1 => ?_, ?_, ?_, frm⟩
        · rw [v389, m2]
          have := hlb t qt
          rcases yl.1 t qt with e | ⟨e1, e2, e3⟩
          · rw [e]; exact ⟨by omega, (p4 t qt).2⟩
          · rw [e3]; exact ⟨by omega, fun _ => e2⟩
        · rw [v389]
          have qt : isQ t := ⟨t0, by omega⟩
          rcases yl.1 t qt with e | ⟨e1, e2, e3⟩
          · by_cases ex : t = x1
            · rw [ex, ys]; omega
            · rw [e]; exact p5 t t0 (by omega) gt
          · rw [e3]; omega
        · rw [m2] at k1
          rw [z3 16 k (by omega), z3 17 k (by omega)]
          by_cases ek : k = pc
          · rw [ek, e16, xf 17 pc (by unfold ScGa; omega), st_neA (by decide), st_at, m3 391 pc (by omega) (by omega), yf 391 pc (by unfold ScGm; omega), st_at]
            exact ⟨rfl, rfl⟩
          · rw [v16 k ek, v390 k ek, xf 17 k (by unfold ScGa; omega), st_neA (by decide), st_neI ek, m3 391 k (by omega) (by omega), yf 391 k (by unfold ScGm; omega), st_neI ek, st_neA (by decide)]
            exact p6 k k0 (by omega)
        · rw [m2, if_neg (by omega), z2, show pc + 1 - 1 = pc by omega]
        · intro a i hn
          rw [z3 a i (fun z => hn (by unfold ScPx; omega))]
          exact frx a i hn
      have sc : ∀ n : Nat, pc = n + 1 → ssd (M2 390) n = ssd (Mm 390) n := fun n hn => ssd_cg n (fun k k0 k1 => v390 k (by omega))
      have j91 : (pc = 0 ∨ ∃ n : Nat, pc = n + 1 ∧ M2 390 (ssd (M2 390) n) < M2 390 pc) → ∃ Mx1 Mm1, j_X3_partPieces_91 wx X1 x1 = some (0, Mx1) ∧ wm M2 (x1 + 1) = some (0, Mm1) ∧ PR g X0 M0 Mx1 Mm1 96 := by
        intro hq
        unfold j_X3_partPieces_91
        rw [bm_e, st_neI (show (8 : Int) ≠ 9 by decide), x138, ok_t ⟨by omega, by omega⟩, bm_e, ok_t ⟨by omega, by omega⟩]
        refine fin _ (st_at _ _ _ _) ?_ (fun a i hn => by rw [st_ne (by omega), st_ne (by omega)])
        rw [st_neI (by decide), st_at]
        rcases hq with z | ⟨n, z, hlt⟩
        · rw [z]; rfl
        · have en : pc.toNat = n + 1 := by omega
          rw [en, ssd_succ, if_pos (by rw [← z]; exact hlt)]; omega
      rw [e139, p7]
      by_cases cp : pc = 0
      · rw [if_pos cp, if_pos rfl]
        exact j91 (Or.inl cp)
      · obtain ⟨n, en⟩ : ∃ n : Nat, pc = n + 1 := ⟨(pc - 1).toNat, by omega⟩
        have en2 : (pc - 1).toNat = n := by omega
        have rn := ssd_rng (Mm 390) n
        rw [if_neg cp, en2, if_neg (by omega), x138, ok_t hp, ok_t ⟨by omega, by omega⟩, e16, v16 _ (by omega), (p6 (ssd (Mm 390) n) rn.1 (by omega)).1]
        by_cases cs : M2 390 pc ≤ Mm 390 (ssd (Mm 390) n)
        · rw [if_pos cs, bm_e]
          refine fin _ (st_at _ _ _ _) ?_ (fun a i hn => by rw [st_ne (by omega)])
          have en3 : pc.toNat = n + 1 := by omega
          rw [st_neI (by decide), e139, p7, if_neg cp, en2, en3, ssd_succ, sc n en, if_neg (by rw [v390 _ (by omega), ← en]; omega)]
        · rw [if_neg cs]
          refine j91 (Or.inr ⟨n, en, ?_⟩)
          rw [sc n en, v390 _ (by omega)]; omega
    · rw [if_neg c1, if_neg c1]
      exact nxt (fun _ => c1)
