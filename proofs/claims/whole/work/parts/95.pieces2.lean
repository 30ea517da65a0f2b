/-! PIECES: the reference's, and both alike -/
def ScGm (a i : Int) : Prop := a = 389 ∧ 0 ≤ i ∧ i < 96
def GM (g lb : Int → Int) (pc s0 : Int) (M0 M : Mem) : Prop := (∀ t, isQ t → M 388 t = g t) ∧ M 337 78 = pc ∧ Lab g lb pc s0 (M 389) ∧ M 389 s0 = pc ∧ Fr ScGm M0 M
theorem m_spreads {g lb : Int → Int} {pc s0 : Int} {M0 M : Mem} (hpc : 0 ≤ pc ∧ pc < 96) (hlb : ∀ t, isQ t → -1 ≤ lb t ∧ lb t < pc) (h : GM g lb pc s0 M0 M) : ∃ r M1, f_X12_spreads M = some (r, M1) ∧ GM g lb pc s0 M0 M1 ∧ ((r = 0 ∧ Ful g lb pc (M1 389)) ∨ (r = 1 ∧ cnP (M 389) pc 96 < cnP (M1 389) pc 96)) := by
  have hFU : FU = 1000000000 := rfl
  have key : Tt (f_X12_spreads M) (fun r M1 => GM g lb pc s0 M0 M1 ∧ ((r = 0 ∧ Ful g lb pc (M1 389)) ∨ (r = 1 ∧ cnP (M 389) pc 96 < cnP (M1 389) pc 96))) := by
    unfold f_X12_spreads
    refine tt_wl2 (fun M1 x1 x2 => GM g lb pc s0 M0 M1 ∧ 0 ≤ x2 ∧ x2 ≤ 96 ∧ ((x1 = 0 ∧ ∀ t, 0 ≤ t → t < x2 → g t ≠ 0 → lb t = -1 → M1 389 t = pc ∨ ∀ y, isQ y → adj t y → M1 389 y ≠ pc) ∨ (x1 = 1 ∧ cnP (M 389) pc 96 < cnP (M1 389) pc 96)) ∧ (x1 = 0 → M1 = M)) (fun _ _ x2 => (96 - x2).toNat) ?_ FU M 0 0 ⟨h, by decide, by decide, Or.inl ⟨rfl, fun t _ _ => by omega⟩, fun _ => rfl⟩ (by omega)
    rintro w M1 x1 x2 ⟨G, i0, i1, i2, i3⟩ K
    obtain ⟨g1, g2, g3, g4, g5⟩ := id G
    have x01 : x1 = 0 ∨ x1 = 1 := by rcases i2 with ⟨z, -⟩ | ⟨z, -⟩ <;> omega
    unfold b_X12_spreads_4
    refine tt_if (fun c => ?_) (fun c => ?_)
    · refine tt_ok x01 (tt_ret ⟨G, ?_⟩)
      rcases i2 with ⟨z, q⟩ | ⟨z, q⟩
      · left
        refine ⟨z, fun x t qx qt hx ha hg hl => ?_⟩
        rcases q t qt.1 (by have := qt.2; omega) hg hl with e | e
        · exact e
        · exact absurd hx (e x qx (adj_sy ha))
      · exact Or.inr ⟨z, q⟩
    have q2 : isQ x2 := ⟨i0, by omega⟩
    -- on to the next
    have nxt : (g x2 ≠ 0 → lb x2 = -1 → M1 389 x2 = pc ∨ ∀ y, isQ y → adj x2 y → M1 389 y ≠ pc) → Tt (w M1 x1 (x2 + 1)) (fun r M1 => GM g lb pc s0 M0 M1 ∧ ((r = 0 ∧ Ful g lb pc (M1 389)) ∨ (r = 1 ∧ cnP (M 389) pc 96 < cnP (M1 389) pc 96))) := by
      intro hx
      refine K M1 x1 (x2 + 1) ⟨G, by omega, by omega, ?_, i3⟩ (by omega)
      rcases i2 with ⟨z, q⟩ | ⟨z, q⟩
      · left
        refine ⟨z, fun t t0 t1 hg hl => ?_⟩
        by_cases e : t = x2
        · rw [e] at hg hl ⊢; exact hx hg hl
        · exact q t t0 (by omega) hg hl
      · exact Or.inr ⟨z, q⟩
    refine tt_ok ⟨by omega, by omega⟩ ?_
    rw [g1 x2 q2]
    refine tt_if (fun c0 => tt_bi (nxt (fun q => absurd c0 q))) (fun c0 => ?_)
    refine tt_if (fun c1 => ?_) (fun c1 => tt_bi (nxt (fun _ hl => ?_)))
    · have hne : M1 389 x2 ≠ pc := by omega
      have hl : lb x2 = -1 := by
        rcases g3.1 x2 q2 with e | ⟨e, -⟩
        · rw [← e]; exact c1
        · exact e
      have yes : (∃ y, isQ y ∧ adj x2 y ∧ M1 389 y = pc) → Tt (j_X12_spreads_137 w M1 x1 x2 1) (fun r M1 => GM g lb pc s0 M0 M1 ∧ ((r = 0 ∧ Ful g lb pc (M1 389)) ∨ (r = 1 ∧ cnP (M 389) pc 96 < cnP (M1 389) pc 96))) := by
        rintro ⟨y, qy, ha, hy⟩
        unfold j_X12_spreads_137
        refine tt_in (by decide) (tt_ok ⟨by omega, by omega⟩ (tt_bm (tt_bi ?_)))
        rw [g2]
        have eo : ∀ t, t ≠ x2 → st M1 389 x2 pc 389 t = M1 389 t := fun t ht => st_neI ht
        have up := cnP_up (f := M1 389) (f' := st M1 389 x2 pc 389) (v := pc) (t := x2) q2.1 hne (st_at _ _ _ _) eo 96 (by have := q2.2; omega)
        refine K _ 1 (x2 + 1) ⟨⟨fun t qt => by rw [st_neA (by decide)]; exact g1 t qt, by rw [st_neA (by decide)]; exact g2, ⟨fun t qt => ?_, fun Y y0 yc t qt hp => ?_⟩, ?_, Fr.st g5 (by unfold ScGm; omega)⟩, by omega, by omega, Or.inr ⟨rfl, ?_⟩, fun z => absurd z (by decide)⟩ (by omega)
        · by_cases e : t = x2
          · rw [e, st_at]; exact Or.inr ⟨hl, c0, rfl⟩
          · rw [eo t e]; exact g3.1 t qt
        · by_cases e : t = x2
          · rw [e]; exact yc y x2 qy q2 (g3.2 Y y0 yc y qy hy) (adj_sy ha) c0 hl
          · rw [eo t e] at hp; exact g3.2 Y y0 yc t qt hp
        · by_cases e : s0 = x2
          · rw [e, st_at]
          · rw [eo s0 e]; exact g4
        · rw [up]
          rcases i2 with ⟨z, -⟩ | ⟨-, q⟩
          · rw [i3 z]; omega
          · omega
      have no : (∀ y, isQ y → adj x2 y → M1 389 y ≠ pc) → Tt (j_X12_spreads_137 w M1 x1 x2 0) (fun r M1 => GM g lb pc s0 M0 M1 ∧ ((r = 0 ∧ Ful g lb pc (M1 389)) ∨ (r = 1 ∧ cnP (M 389) pc 96 < cnP (M1 389) pc 96))) := by
        intro q
        unfold j_X12_spreads_137
        exact tt_ip rfl (tt_ok ⟨by omega, by omega⟩ (tt_bi (nxt (fun _ _ => Or.inr q))))
      have a0 := q2.1
      have a1 := q2.2
      have j110 : (∀ y, isQ y → adj x2 y → y ≠ x2 + 12 → M1 389 y ≠ pc) → Tt (j_X12_spreads_110 w M1 x1 x2) (fun r M1 => GM g lb pc s0 M0 M1 ∧ ((r = 0 ∧ Ful g lb pc (M1 389)) ∨ (r = 1 ∧ cnP (M 389) pc 96 < cnP (M1 389) pc 96))) := by
        intro q
        unfold j_X12_spreads_110 j_X12_spreads_136 j_X12_spreads_132
        refine tt_if (fun c5 => no (fun y qy ha => q y qy ha (by have := qy.2; omega))) (fun c5 => ?_)
        refine tt_ok ⟨by omega, by omega⟩ (tt_ok ⟨by omega, by omega⟩ ?_)
        rw [g2]
        refine tt_if (fun c6 => yes ⟨x2 + 12, ⟨by omega, by omega⟩, by unfold adj; omega, c6⟩) (fun c6 => no (fun y qy ha => ?_))
        by_cases e : y = x2 + 12
        · rw [e]; exact c6
        · exact q y qy ha e
      have j82 : (∀ y, isQ y → adj x2 y → y ≠ x2 + 12 → y ≠ x2 - 12 → M1 389 y ≠ pc) → Tt (j_X12_spreads_82 w M1 x1 x2) (fun r M1 => GM g lb pc s0 M0 M1 ∧ ((r = 0 ∧ Ful g lb pc (M1 389)) ∨ (r = 1 ∧ cnP (M 389) pc 96 < cnP (M1 389) pc 96))) := by
        intro q
        unfold j_X12_spreads_82 j_X12_spreads_83 j_X12_spreads_132
        refine tt_ip rfl (tt_if (fun c5 => j110 (fun y qy ha e => q y qy ha e (by have := qy.1; omega))) (fun c5 => ?_))
        refine tt_ok ⟨by omega, by omega⟩ (tt_ok ⟨by omega, by omega⟩ ?_)
        rw [g2]
        refine tt_if (fun c6 => yes ⟨x2 - 12, ⟨by omega, by omega⟩, by unfold adj; omega, c6⟩) (fun c6 => j110 (fun y qy ha e => ?_))
        by_cases e2 : y = x2 - 12
        · rw [e2]; exact c6
        · exact q y qy ha e e2
      have j78 : (∃ y, isQ y ∧ adj x2 y ∧ M1 389 y = pc) → Tt (j_X12_spreads_78 w M1 x1 x2) (fun r M1 => GM g lb pc s0 M0 M1 ∧ ((r = 0 ∧ Ful g lb pc (M1 389)) ∨ (r = 1 ∧ cnP (M 389) pc 96 < cnP (M1 389) pc 96))) := by
        intro q
        unfold j_X12_spreads_78 j_X12_spreads_83 j_X12_spreads_132
        exact tt_in (by decide) (yes q)
      have j54 : (isQ (x2 - 1) → adj x2 (x2 - 1) → M1 389 (x2 - 1) ≠ pc) → Tt (j_X12_spreads_54 w M1 x1 x2) (fun r M1 => GM g lb pc s0 M0 M1 ∧ ((r = 0 ∧ Ful g lb pc (M1 389)) ∨ (r = 1 ∧ cnP (M 389) pc 96 < cnP (M1 389) pc 96))) := by
        intro q
        unfold j_X12_spreads_54
        have fin : (isQ (x2 + 1) → adj x2 (x2 + 1) → M1 389 (x2 + 1) ≠ pc) → ∀ y, isQ y → adj x2 y → y ≠ x2 + 12 → y ≠ x2 - 12 → M1 389 y ≠ pc := by
          intro q' y qy ha e1 e2
          rcases id ha with ⟨rfl, -⟩ | ⟨rfl, -⟩ | rfl | rfl
          · exact q qy ha
          · exact q' qy ha
          · exact absurd rfl e2
          · exact absurd rfl e1
        refine tt_ok a0 (tt_if (fun c5 => j82 (fin (fun _ ha => by unfold adj at ha; omega))) (fun c5 => ?_))
        refine tt_ok ⟨by omega, by omega⟩ (tt_ok ⟨by omega, by omega⟩ ?_)
        rw [g2]
        exact tt_if (fun c6 => j78 ⟨x2 + 1, ⟨by omega, by omega⟩, by unfold adj; omega, c6⟩) (fun c6 => j82 (fin (fun _ _ => c6)))
      refine tt_if (fun c5 => j54 (fun _ ha => by unfold adj at ha; omega)) (fun c5 => ?_)
      refine tt_ok ⟨by omega, by omega⟩ ?_
      rw [g2]
      exact tt_if (fun c6 => j78 ⟨x2 - 1, ⟨by omega, by omega⟩, by unfold adj; omega, c6⟩) (fun c6 => j54 (fun _ _ => c6))
    · rcases g3.1 x2 q2 with e | ⟨-, -, e⟩
      · rw [hl] at e; exact absurd e c1
      · exact Or.inl e
  obtain ⟨r, M1, e, q⟩ := key
  exact ⟨r, M1, e, q⟩
/-- one PIECE in the reference: until nothing spreads, then its size -/
def PcE (g lb : Int → Int) (pc s0 x1 : Int) (M0 : Mem) (w28 : Mem → Int → Res) (R : Res) : Prop := ∃ M1 M2, R = w28 M2 (x1 + 1) ∧ GM g lb pc s0 M0 M1 ∧ Ful g lb pc (M1 389) ∧ M2 390 pc = cnP (M1 389) pc 96 ∧ M2 337 78 = pc + 1 ∧ (∀ a i, ¬ (a = 390 ∧ i = pc) → ¬ (a = 337 ∧ i = 78) → M2 a i = M1 a i)
theorem m_piece1 {g lb : Int → Int} {pc s0 x1 : Int} {M0 : Mem} (hpc : 0 ≤ pc ∧ pc < 96) (hlb : ∀ t, isQ t → -1 ≤ lb t ∧ lb t < pc) (hx1 : 0 ≤ x1 ∧ x1 < 96) (w28 : Mem → Int → Res) (G : Nat) (M : Mem) (h : GM g lb pc s0 M0 M) (rec : ∀ M1, GM g lb pc s0 M0 M1 → cnP (M 389) pc 96 < cnP (M1 389) pc 96 → PcE g lb pc s0 x1 M0 w28 (wl2 (b_X12_tellsPieces_78 w28) (G + 1) M1 x1 1)) : PcE g lb pc s0 x1 M0 w28 (wl2 (b_X12_tellsPieces_78 w28) (G + 1 + 1) M x1 1) := by
  have hFU : FU = 1000000000 := rfl
  obtain ⟨r, M1, e1, h1, hr⟩ := m_spreads hpc hlb h
  have r1 := cnP_rng (M1 389) pc 96
  have r0 := cnP_rng (M 389) pc 96
  have s1 : wl2 (b_X12_tellsPieces_78 w28) (G + 1 + 1) M x1 1 = wl2 (b_X12_tellsPieces_78 w28) (G + 1) M1 x1 r := by
    rw [wl2_s]
    show b_X12_tellsPieces_78 w28 (wl2 (b_X12_tellsPieces_78 w28) (G + 1)) M x1 1 = _
    generalize wl2 (b_X12_tellsPieces_78 w28) (G + 1) = w
    unfold b_X12_tellsPieces_78
    rw [if_neg (by decide), e1, cl_some]
  rw [s1]
  rcases hr with ⟨rfl, hf⟩ | ⟨rfl, hlt⟩
  · obtain ⟨g1, g2, g3, g4, g5⟩ := id h1
    have key : Tt (wl2 (b_X12_tellsPieces_102 (fun M y => some (y, M))) FU (st M1 390 pc 0) x1 0) (fun r M2 => r = x1 + 1 ∧ M2 390 pc = cnP (M1 389) pc 96 ∧ M2 337 78 = pc + 1 ∧ (∀ a i, ¬ (a = 390 ∧ i = pc) → ¬ (a = 337 ∧ i = 78) → M2 a i = M1 a i)) := by
      refine tt_wl2 (fun M2 y k => y = x1 ∧ 0 ≤ k ∧ k ≤ 96 ∧ M2 390 pc = cnP (M1 389) pc k.toNat ∧ (∀ a i, ¬ (a = 390 ∧ i = pc) → M2 a i = M1 a i)) (fun _ _ k => (96 - k).toNat) ?_ FU _ x1 0 ⟨rfl, by decide, by decide, st_at _ _ _ _, fun a i q => st_ne q⟩ (by omega)
      rintro w M2 y k ⟨rfl, k0, k1, k2, k3⟩ K
      have e78 : M2 337 78 = pc := (k3 _ _ (by omega)).trans g2
      have rk := cnP_rng (M1 389) pc k.toNat
      unfold b_X12_tellsPieces_102
      refine tt_if (fun c => ?_) (fun c => ?_)
      · have ek : k = 96 := by omega
        subst ek
        rw [e78]
        refine tt_ok ⟨by omega, by omega⟩ (tt_bm (tt_ok ⟨by omega, by omega⟩ (tt_bi (tt_ret ⟨rfl, ?_, st_at _ _ _ _, fun a i n1 n2 => ?_⟩))))
        · rw [st_neA (by decide), k2, show (96 : Int).toNat = 96 from rfl]
        · rw [st_ne n2]; exact k3 a i n1
      · have en : (k + 1).toNat = k.toNat + 1 := by omega
        have ek : ((k.toNat : Nat) : Int) = k := by omega
        have es : cnP (M1 389) pc (k + 1).toNat = cnP (M1 389) pc k.toNat + (if M1 389 k = pc then 1 else 0) := by
          rw [en]
          show cnP (M1 389) pc k.toNat + (if M1 389 ((k.toNat : Nat) : Int) = pc then 1 else 0) = _
          rw [ek]
        refine tt_ok ⟨by omega, by omega⟩ ?_
        rw [k3 389 k (by omega), e78]
        refine tt_if (fun c2 => ?_) (fun c2 => ?_)
        · rw [k2]
          refine tt_ok ⟨by omega, by omega⟩ (tt_ok ⟨by omega, by omega⟩ (tt_bm (tt_bi (K _ _ _ ⟨rfl, by omega, by omega, ?_, fun a i q => ?_⟩ (by omega)))))
          · rw [st_at, es, if_pos c2]
          · rw [st_ne q]; exact k3 a i q
        · refine tt_bi (K _ _ _ ⟨rfl, by omega, by omega, ?_, k3⟩ (by omega))
          rw [es, if_neg c2, k2]; omega
    obtain ⟨y, M2, e2, rfl, q1, q2, q3⟩ := key
    refine ⟨M1, M2, ?_, h1, hf, q1, q2, q3⟩
    -- the same loop with another end
    have gen : ∀ (F : Nat) (M : Mem) (a c y : Int) (M2 : Mem), wl2 (b_X12_tellsPieces_102 (fun M y => some (y, M))) F M a c = some (y, M2) → wl2 (b_X12_tellsPieces_102 w28) F M a c = w28 M2 y := by
      intro F
      induction F with
      | zero => intro M a c y M2 e; cases e
      | succ F ih =>
        intro M a c y M2 e
        rw [wl2_s] at e ⊢
        unfold b_X12_tellsPieces_102 at e ⊢
        by_cases c1 : 96 ≤ c
        · rw [if_pos c1] at e ⊢
          by_cases c2 : in32 (M 337 78 + 1)
          · rw [ok_t c2, bm_e] at e ⊢
            by_cases c3 : in32 (a + 1)
            · rw [ok_t c3] at e ⊢
              cases e
              rfl
            · have : ok (in32 (a + 1)) (bi (a + 1) fun y24 => some (y24, st M 337 78 (M 337 78 + 1))) = none := if_neg c3
              rw [this] at e; cases e
          · have : ok (in32 (M 337 78 + 1)) (bm (st M 337 78 (M 337 78 + 1)) fun M22 => ok (in32 (a + 1)) (bi (a + 1) fun y24 => some (y24, M22))) = none := if_neg c2
            rw [this] at e; cases e
        · rw [if_neg c1] at e ⊢
          by_cases c2 : 0 ≤ c ∧ c < 96
          · rw [ok_t c2] at e ⊢
            by_cases c3 : M 389 c = M 337 78
            · rw [if_pos c3] at e ⊢
              by_cases c4 : 0 ≤ M 337 78 ∧ M 337 78 < 96
              · rw [ok_t c4] at e ⊢
                by_cases c5 : in32 (M 390 (M 337 78) + 1)
                · rw [ok_t c5] at e ⊢
                  exact ih _ _ _ _ _ e
                · have : ∀ o : Res, ok (in32 (M 390 (M 337 78) + 1)) o = none := fun o => if_neg c5
                  rw [this] at e; cases e
              · have : ∀ o : Res, ok (0 ≤ M 337 78 ∧ M 337 78 < 96) o = none := fun o => if_neg c4
                rw [this] at e; cases e
            · rw [if_neg c3] at e ⊢
              exact ih _ _ _ _ _ e
          · have : ∀ o : Res, ok (0 ≤ c ∧ c < 96) o = none := fun o => if_neg c2
            rw [this] at e; cases e
    rw [wl2_s]
    unfold b_X12_tellsPieces_78
    rw [if_pos rfl, g2, ok_t ⟨by omega, by omega⟩, bm_e]
    exact gen FU _ _ _ _ _ e2
  · exact rec M1 h1 hlt
theorem m_piece {g lb : Int → Int} {pc s0 x1 : Int} {M0 : Mem} (hpc : 0 ≤ pc ∧ pc < 96) (hlb : ∀ t, isQ t → -1 ≤ lb t ∧ lb t < pc) (hx1 : 0 ≤ x1 ∧ x1 < 96) (w28 : Mem → Int → Res) (d : Nat) : ∀ (F : Nat) (M : Mem), GM g lb pc s0 M0 M → 96 - cnP (M 389) pc 96 ≤ d → d + 1 < F → PcE g lb pc s0 x1 M0 w28 (wl2 (b_X12_tellsPieces_78 w28) F M x1 1) := by
  induction d with
  | zero =>
    intro F M h hd hF
    obtain ⟨G, rfl⟩ : ∃ G, F = G + 1 + 1 := ⟨F - 2, by omega⟩
    refine m_piece1 hpc hlb hx1 w28 G M h (fun M1 h1 hlt => ?_)
    have r1 := cnP_rng (M1 389) pc 96
    omega
  | succ d ih =>
    intro F M h hd hF
    obtain ⟨G, rfl⟩ : ∃ G, F = G + 1 + 1 := ⟨F - 2, by omega⟩
    exact m_piece1 hpc hlb hx1 w28 G M h (fun M1 h1 hlt => ih (G + 1) M1 h1 (by omega) (by omega))
