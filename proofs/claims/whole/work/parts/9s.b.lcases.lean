/-! the law's own walk: one case of its switch each -/
theorem cmpI_self (r : Int) : cmpI r r = 0 := by
  unfold cmpI
  rw [if_neg (Int.lt_irrefl r), if_pos rfl]
theorem skw_1 (t : Nat) (x : Int) : skw [(t, x)] ≤ 8 := by
  show (if t = 1 then 2 else 1) + 0 ≤ 8
  split <;> decide
section LC
variable {g : GT} {p : Program} {e : Env} {s : State} {m : MethodId} {args : Array Value} {below : List Frame} {meth : Method} {c : Code} {Q : State → Prop} {b L : Nat} {xs : Nat → Int32} {i : Int} {Mx Mm : Mem}
theorem l_c0 (hC : Cx g p s m meth c RL code 4) (hX : Scr g b L xs s) (hi : 0 ≤ i ∧ i + 9 ≤ L) (h : R Mx Mm) (kk : ∀ Mx1 Mm1 : Mem, R Mx1 Mm1 → LW g p e s m args below meth c Q b 2059 i [] (mix true Mx1 Mm1)) : LW g p e s m args below meth c Q b 228 i [] (mix true Mx Mm) := by
  obtain ⟨r, Mx1, Mm1, e1, e2, h1⟩ := J_feed h (SX xs (i + 1)) (SX xs (i + 2)) (SX xs (i + 3)) (SX xs (i + 4)) (SX xs (i + 5))
  refine l_al1 hC dL_228 ?_
  refine l_in hC hX hi (k := 1) (by decide) rL_229 ?_
  refine l_in hC hX hi (k := 2) (by decide) rL_234 ?_
  refine l_in hC hX hi (k := 3) (by decide) rL_239 ?_
  refine l_in hC hX hi (k := 4) (by decide) rL_244 ?_
  refine l_in hC hX hi (k := 5) (by decide) rL_249 ?_
  refine l_inX (av := [(0, SX xs (i + 1)), (0, SX xs (i + 2)), (0, SX xs (i + 3)), (0, SX xs (i + 4)), (0, SX xs (i + 5))]) (t := 0) hC dL_254 kL_13 rfl (m_X11_feed ⟨by decide, by decide⟩ _ _ _ _ _ _) e1 rfl rfl (by decide) ⟨by decide, by decide⟩ rfl ?_
  refine l_al2 hC dL_257 ?_
  refine l_in hC hX hi (k := 1) (by decide) rL_258 ?_
  refine l_in hC hX hi (k := 2) (by decide) rL_263 ?_
  refine l_in hC hX hi (k := 3) (by decide) rL_268 ?_
  refine l_in hC hX hi (k := 4) (by decide) rL_273 ?_
  refine l_in hC hX hi (k := 5) (by decide) rL_278 ?_
  refine l_inM (av := [(0, SX xs (i + 1)), (0, SX xs (i + 2)), (0, SX xs (i + 3)), (0, SX xs (i + 4)), (0, SX xs (i + 5))]) (t := 0) hC dL_283 kL_17 rfl (m_X12_feed ⟨by decide, by decide⟩ _ _ _ _ _ _) e2 rfl rfl (skw_1 _ _) ⟨by decide, by decide⟩ rfl ?_
  exact b_icmp_eq (tgt := 2059) hC dL_286 rfl (fun _ => kk _ _ h1) (fun q => absurd rfl q)
theorem l_c1 (hC : Cx g p s m meth c RL code 4) (hX : Scr g b L xs s) (hi : 0 ≤ i ∧ i + 9 ≤ L) (h : R Mx Mm) (kk : ∀ Mx1 Mm1 : Mem, R Mx1 Mm1 → LW g p e s m args below meth c Q b 2059 i [] (mix true Mx1 Mm1)) : LW g p e s m args below meth c Q b 291 i [] (mix true Mx Mm) := by
  obtain ⟨r, Mx1, Mm1, e1, e2, h1⟩ := J_end h (SX xs (i + 1))
  refine l_al1 hC dL_291 ?_
  refine l_in hC hX hi (k := 1) (by decide) rL_292 ?_
  refine l_inX (av := [(0, SX xs (i + 1))]) (t := 0) hC dL_297 kL_18 rfl (m_X11_end ⟨by decide, by decide⟩ _ _) e1 rfl rfl (by decide) ⟨by decide, by decide⟩ rfl ?_
  refine l_al2 hC dL_300 ?_
  refine l_in hC hX hi (k := 1) (by decide) rL_301 ?_
  refine l_inM (av := [(0, SX xs (i + 1))]) (t := 0) hC dL_306 kL_22 rfl (m_X12_end ⟨by decide, by decide⟩ _ _) e2 rfl rfl (skw_1 _ _) ⟨by decide, by decide⟩ rfl ?_
  exact b_icmp_eq (tgt := 2059) hC dL_309 rfl (fun _ => kk _ _ h1) (fun q => absurd rfl q)
theorem l_c2 (hC : Cx g p s m meth c RL code 4) (hX : Scr g b L xs s) (hi : 0 ≤ i ∧ i + 9 ≤ L) (h : R Mx Mm) (kk : ∀ Mx1 Mm1 : Mem, R Mx1 Mm1 → LW g p e s m args below meth c Q b 2059 i [] (mix true Mx1 Mm1)) : LW g p e s m args below meth c Q b 314 i [] (mix true Mx Mm) := by
  obtain ⟨r, Mx1, Mm1, e1, e2, h1⟩ := J_field h 
  refine l_al1 hC dL_314 ?_
  refine l_inX (av := []) (t := 0) hC dL_315 kL_23 rfl (m_X11_field ⟨by decide, by decide⟩ _ ) e1 rfl rfl (by decide) ⟨by decide, by decide⟩ rfl ?_
  refine l_al2 hC dL_318 ?_
  refine l_inM (av := []) (t := 0) hC dL_319 kL_27 rfl (m_X12_field ⟨by decide, by decide⟩ _ ) e2 rfl rfl (skw_1 _ _) ⟨by decide, by decide⟩ rfl ?_
  exact b_icmp_eq (tgt := 2059) hC dL_322 rfl (fun _ => kk _ _ h1) (fun q => absurd rfl q)
theorem l_c3 (hC : Cx g p s m meth c RL code 4) (hX : Scr g b L xs s) (hi : 0 ≤ i ∧ i + 9 ≤ L) (h : R Mx Mm) (kk : ∀ Mx1 Mm1 : Mem, R Mx1 Mm1 → LW g p e s m args below meth c Q b 2059 i [] (mix true Mx1 Mm1)) : LW g p e s m args below meth c Q b 327 i [] (mix true Mx Mm) := by
  obtain ⟨r, Mx1, Mm1, e1, e2, h1⟩ := J_law h (SX xs (i + 1))
  refine l_al1 hC dL_327 ?_
  refine l_in hC hX hi (k := 1) (by decide) rL_328 ?_
  refine l_inX (av := [(0, SX xs (i + 1))]) (t := 0) hC dL_333 kL_28 rfl (m_X11_law ⟨by decide, by decide⟩ _ _) e1 rfl rfl (by decide) ⟨by decide, by decide⟩ rfl ?_
  refine l_al2 hC dL_336 ?_
  refine l_in hC hX hi (k := 1) (by decide) rL_337 ?_
  refine l_inM (av := [(0, SX xs (i + 1))]) (t := 0) hC dL_342 kL_32 rfl (m_X12_law ⟨by decide, by decide⟩ _ _) e2 rfl rfl (skw_1 _ _) ⟨by decide, by decide⟩ rfl ?_
  exact b_icmp_eq (tgt := 2059) hC dL_345 rfl (fun _ => kk _ _ h1) (fun q => absurd rfl q)
theorem l_c4 (hC : Cx g p s m meth c RL code 4) (hX : Scr g b L xs s) (hi : 0 ≤ i ∧ i + 9 ≤ L) (h : R Mx Mm) (kk : ∀ Mx1 Mm1 : Mem, R Mx1 Mm1 → LW g p e s m args below meth c Q b 2059 i [] (mix true Mx1 Mm1)) : LW g p e s m args below meth c Q b 350 i [] (mix true Mx Mm) := by
  obtain ⟨r, Mx1, Mm1, e1, e2, h1⟩ := J_plan h 
  refine l_al1 hC dL_350 ?_
  refine l_inX (av := []) (t := 0) hC dL_351 kL_33 rfl (m_X11_plan ⟨by decide, by decide⟩ _ ) e1 rfl rfl (by decide) ⟨by decide, by decide⟩ rfl ?_
  refine l_al2 hC dL_354 ?_
  refine l_inM (av := []) (t := 0) hC dL_355 kL_36 rfl (m_X12_plan ⟨by decide, by decide⟩ _ ) e2 rfl rfl (skw_1 _ _) ⟨by decide, by decide⟩ rfl ?_
  exact b_icmp_eq (tgt := 2059) hC dL_358 rfl (fun _ => kk _ _ h1) (fun q => absurd rfl q)
theorem l_c5 (hC : Cx g p s m meth c RL code 4) (hX : Scr g b L xs s) (hi : 0 ≤ i ∧ i + 9 ≤ L) (h : R Mx Mm) (kk : ∀ Mx1 Mm1 : Mem, R Mx1 Mm1 → LW g p e s m args below meth c Q b 2059 i [] (mix true Mx1 Mm1)) : LW g p e s m args below meth c Q b 363 i [] (mix true Mx Mm) := by
  obtain ⟨r, Mx1, Mm1, e1, e2, h1⟩ := J_fault h (SX xs (i + 1))
  refine l_al1 hC dL_363 ?_
  refine l_in hC hX hi (k := 1) (by decide) rL_364 ?_
  refine l_inX (av := [(0, SX xs (i + 1))]) (t := 0) hC dL_369 kL_37 rfl (m_X11_fault ⟨by decide, by decide⟩ _ _) e1 rfl rfl (by decide) ⟨by decide, by decide⟩ rfl ?_
  refine l_al2 hC dL_372 ?_
  refine l_in hC hX hi (k := 1) (by decide) rL_373 ?_
  refine l_inM (av := [(0, SX xs (i + 1))]) (t := 0) hC dL_378 kL_40 rfl (m_X12_fault ⟨by decide, by decide⟩ _ _) e2 rfl rfl (skw_1 _ _) ⟨by decide, by decide⟩ rfl ?_
  exact b_icmp_eq (tgt := 2059) hC dL_381 rfl (fun _ => kk _ _ h1) (fun q => absurd rfl q)
theorem l_c6 (hC : Cx g p s m meth c RL code 4) (hX : Scr g b L xs s) (hi : 0 ≤ i ∧ i + 9 ≤ L) (h : R Mx Mm) (kk : ∀ Mx1 Mm1 : Mem, R Mx1 Mm1 → LW g p e s m args below meth c Q b 2059 i [] (mix true Mx1 Mm1)) : LW g p e s m args below meth c Q b 386 i [] (mix true Mx Mm) := by
  obtain ⟨r, Mx1, Mm1, e1, e2, h1⟩ := J_has h (SX xs (i + 1))
  refine l_al1 hC dL_386 ?_
  refine l_in hC hX hi (k := 1) (by decide) rL_387 ?_
  refine l_inX (av := [(0, SX xs (i + 1))]) (t := 0) hC dL_392 kL_41 rfl (m_X11_has ⟨by decide, by decide⟩ _ _) e1 rfl rfl (by decide) ⟨by decide, by decide⟩ rfl ?_
  refine l_al2 hC dL_395 ?_
  refine l_in hC hX hi (k := 1) (by decide) rL_396 ?_
  refine l_inM (av := [(0, SX xs (i + 1))]) (t := 0) hC dL_401 kL_44 rfl (m_X12_has ⟨by decide, by decide⟩ _ _) e2 rfl rfl (skw_1 _ _) ⟨by decide, by decide⟩ rfl ?_
  exact b_icmp_eq (tgt := 2059) hC dL_404 rfl (fun _ => kk _ _ h1) (fun q => absurd rfl q)
theorem l_c7 (hC : Cx g p s m meth c RL code 4) (hX : Scr g b L xs s) (hi : 0 ≤ i ∧ i + 9 ≤ L) (h : R Mx Mm) (kk : ∀ Mx1 Mm1 : Mem, R Mx1 Mm1 → LW g p e s m args below meth c Q b 2059 i [] (mix true Mx1 Mm1)) : LW g p e s m args below meth c Q b 409 i [] (mix true Mx Mm) := by
  obtain ⟨r, Mx1, Mm1, e1, e2, h1⟩ := J_letter h (SX xs (i + 1)) (SX xs (i + 2)) (SX xs (i + 3))
  refine l_al1 hC dL_409 ?_
  refine l_in hC hX hi (k := 1) (by decide) rL_410 ?_
  refine l_in hC hX hi (k := 2) (by decide) rL_415 ?_
  refine l_in hC hX hi (k := 3) (by decide) rL_420 ?_
  refine l_inX (av := [(0, SX xs (i + 1)), (0, SX xs (i + 2)), (0, SX xs (i + 3))]) (t := 0) hC dL_425 kL_45 rfl (m_X11_letter ⟨by decide, by decide⟩ _ _ _ _) e1 rfl rfl (by decide) ⟨by decide, by decide⟩ rfl ?_
  refine l_al2 hC dL_428 ?_
  refine l_in hC hX hi (k := 1) (by decide) rL_429 ?_
  refine l_in hC hX hi (k := 2) (by decide) rL_434 ?_
  refine l_in hC hX hi (k := 3) (by decide) rL_439 ?_
  refine l_inM (av := [(0, SX xs (i + 1)), (0, SX xs (i + 2)), (0, SX xs (i + 3))]) (t := 0) hC dL_444 kL_49 rfl (m_X12_letter ⟨by decide, by decide⟩ _ _ _ _) e2 rfl rfl (skw_1 _ _) ⟨by decide, by decide⟩ rfl ?_
  exact b_icmp_eq (tgt := 2059) hC dL_447 rfl (fun _ => kk _ _ h1) (fun q => absurd rfl q)
theorem l_c8 (hC : Cx g p s m meth c RL code 4) (hX : Scr g b L xs s) (hi : 0 ≤ i ∧ i + 9 ≤ L) (h : R Mx Mm) (kk : ∀ Mx1 Mm1 : Mem, R Mx1 Mm1 → LW g p e s m args below meth c Q b 2059 i [] (mix true Mx1 Mm1)) : LW g p e s m args below meth c Q b 452 i [] (mix true Mx Mm) := by
  obtain ⟨r, Mx1, Mm1, e1, e2, h1⟩ := J_sight h (SX xs (i + 1)) (SX xs (i + 2))
  refine l_al1 hC dL_452 ?_
  refine l_in hC hX hi (k := 1) (by decide) rL_453 ?_
  refine l_in hC hX hi (k := 2) (by decide) rL_458 ?_
  refine l_inX (av := [(0, SX xs (i + 1)), (0, SX xs (i + 2))]) (t := 0) hC dL_463 kL_50 rfl (m_X11_sight ⟨by decide, by decide⟩ _ _ _) e1 rfl rfl (by decide) ⟨by decide, by decide⟩ rfl ?_
  refine l_al2 hC dL_466 ?_
  refine l_in hC hX hi (k := 1) (by decide) rL_467 ?_
  refine l_in hC hX hi (k := 2) (by decide) rL_472 ?_
  refine l_inM (av := [(0, SX xs (i + 1)), (0, SX xs (i + 2))]) (t := 0) hC dL_477 kL_54 rfl (m_X12_sight ⟨by decide, by decide⟩ _ _ _) e2 rfl rfl (skw_1 _ _) ⟨by decide, by decide⟩ rfl ?_
  exact b_icmp_eq (tgt := 2059) hC dL_480 rfl (fun _ => kk _ _ h1) (fun q => absurd rfl q)
theorem l_c9 (hC : Cx g p s m meth c RL code 4) (hX : Scr g b L xs s) (hi : 0 ≤ i ∧ i + 9 ≤ L) (h : R Mx Mm) (kk : ∀ Mx1 Mm1 : Mem, R Mx1 Mm1 → LW g p e s m args below meth c Q b 2059 i [] (mix true Mx1 Mm1)) : LW g p e s m args below meth c Q b 485 i [] (mix true Mx Mm) := by
  obtain ⟨r, Mx1, Mm1, e1, e2, h1⟩ := J_piece h (SX xs (i + 1)) (SX xs (i + 2))
  refine l_al1 hC dL_485 ?_
  refine l_in hC hX hi (k := 1) (by decide) rL_486 ?_
  refine l_in hC hX hi (k := 2) (by decide) rL_491 ?_
  refine l_inX (av := [(0, SX xs (i + 1)), (0, SX xs (i + 2))]) (t := 0) hC dL_496 kL_55 rfl (m_X11_piece ⟨by decide, by decide⟩ _ _ _) e1 rfl rfl (by decide) ⟨by decide, by decide⟩ rfl ?_
  refine l_al2 hC dL_499 ?_
  refine l_in hC hX hi (k := 1) (by decide) rL_500 ?_
  refine l_in hC hX hi (k := 2) (by decide) rL_505 ?_
  refine l_inM (av := [(0, SX xs (i + 1)), (0, SX xs (i + 2))]) (t := 0) hC dL_510 kL_58 rfl (m_X12_piece ⟨by decide, by decide⟩ _ _ _) e2 rfl rfl (skw_1 _ _) ⟨by decide, by decide⟩ rfl ?_
  exact b_icmp_eq (tgt := 2059) hC dL_513 rfl (fun _ => kk _ _ h1) (fun q => absurd rfl q)
theorem l_c10 (hC : Cx g p s m meth c RL code 4) (hX : Scr g b L xs s) (hi : 0 ≤ i ∧ i + 9 ≤ L) (h : R Mx Mm) (kk : ∀ Mx1 Mm1 : Mem, R Mx1 Mm1 → LW g p e s m args below meth c Q b 2059 i [] (mix true Mx1 Mm1)) : LW g p e s m args below meth c Q b 518 i [] (mix true Mx Mm) := by
  obtain ⟨r, Mx1, Mm1, e1, e2, h1⟩ := J_pieceHas h (SX xs (i + 1)) (SX xs (i + 2))
  refine l_al1 hC dL_518 ?_
  refine l_in hC hX hi (k := 1) (by decide) rL_519 ?_
  refine l_in hC hX hi (k := 2) (by decide) rL_524 ?_
  refine l_inX (av := [(0, SX xs (i + 1)), (0, SX xs (i + 2))]) (t := 0) hC dL_529 kL_59 rfl (m_X11_pieceHas ⟨by decide, by decide⟩ _ _ _) e1 rfl rfl (by decide) ⟨by decide, by decide⟩ rfl ?_
  refine l_al2 hC dL_532 ?_
  refine l_in hC hX hi (k := 1) (by decide) rL_533 ?_
  refine l_in hC hX hi (k := 2) (by decide) rL_538 ?_
  refine l_inM (av := [(0, SX xs (i + 1)), (0, SX xs (i + 2))]) (t := 0) hC dL_543 kL_62 rfl (m_X12_pieceHas ⟨by decide, by decide⟩ _ _ _) e2 rfl rfl (skw_1 _ _) ⟨by decide, by decide⟩ rfl ?_
  exact b_icmp_eq (tgt := 2059) hC dL_546 rfl (fun _ => kk _ _ h1) (fun q => absurd rfl q)
theorem l_c11 (hC : Cx g p s m meth c RL code 4) (hX : Scr g b L xs s) (hi : 0 ≤ i ∧ i + 9 ≤ L) (h : R Mx Mm) (kk : ∀ Mx1 Mm1 : Mem, R Mx1 Mm1 → LW g p e s m args below meth c Q b 2059 i [] (mix true Mx1 Mm1)) : LW g p e s m args below meth c Q b 551 i [] (mix true Mx Mm) := by
  obtain ⟨r, Mx1, Mm1, e1, e2, h1⟩ := J_light h (SX xs (i + 1)) (SX xs (i + 2)) (SX xs (i + 3))
  refine l_al1 hC dL_551 ?_
  refine l_in hC hX hi (k := 1) (by decide) rL_552 ?_
  refine l_in hC hX hi (k := 2) (by decide) rL_557 ?_
  refine l_in hC hX hi (k := 3) (by decide) rL_562 ?_
  refine l_inX (av := [(0, SX xs (i + 1)), (0, SX xs (i + 2)), (0, SX xs (i + 3))]) (t := 0) hC dL_567 kL_63 rfl (m_X11_light ⟨by decide, by decide⟩ _ _ _ _) e1 rfl rfl (by decide) ⟨by decide, by decide⟩ rfl ?_
  refine l_al2 hC dL_570 ?_
  refine l_in hC hX hi (k := 1) (by decide) rL_571 ?_
  refine l_in hC hX hi (k := 2) (by decide) rL_576 ?_
  refine l_in hC hX hi (k := 3) (by decide) rL_581 ?_
  refine l_inM (av := [(0, SX xs (i + 1)), (0, SX xs (i + 2)), (0, SX xs (i + 3))]) (t := 0) hC dL_586 kL_66 rfl (m_X12_light ⟨by decide, by decide⟩ _ _ _ _) e2 rfl rfl (skw_1 _ _) ⟨by decide, by decide⟩ rfl ?_
  exact b_icmp_eq (tgt := 2059) hC dL_589 rfl (fun _ => kk _ _ h1) (fun q => absurd rfl q)
theorem l_c12 (hC : Cx g p s m meth c RL code 4) (hX : Scr g b L xs s) (hi : 0 ≤ i ∧ i + 9 ≤ L) (h : R Mx Mm) (kk : ∀ Mx1 Mm1 : Mem, R Mx1 Mm1 → LW g p e s m args below meth c Q b 2059 i [] (mix true Mx1 Mm1)) : LW g p e s m args below meth c Q b 594 i [] (mix true Mx Mm) := by
  obtain ⟨r, Mx1, Mm1, e1, e2, h1⟩ := J_carries h (SX xs (i + 1)) (SX xs (i + 2)) (SX xs (i + 3)) (SX xs (i + 4)) (SX xs (i + 5)) (SX xs (i + 6))
  refine l_al1 hC dL_594 ?_
  refine l_in hC hX hi (k := 1) (by decide) rL_595 ?_
  refine l_in hC hX hi (k := 2) (by decide) rL_600 ?_
  refine l_in hC hX hi (k := 3) (by decide) rL_605 ?_
  refine l_in hC hX hi (k := 4) (by decide) rL_610 ?_
  refine l_in hC hX hi (k := 5) (by decide) rL_615 ?_
  refine l_ib hC hX hi (k := 6) (by decide) (by decide) rL_620 ?_
  refine l_inX (av := [(0, SX xs (i + 1)), (0, SX xs (i + 2)), (0, SX xs (i + 3)), (0, SX xs (i + 4)), (0, SX xs (i + 5)), (0, SX xs (i + 6))]) (t := 0) hC dL_626 kL_67 rfl (m_X11_carries ⟨by decide, by decide⟩ _ _ _ _ _ _ _) e1 rfl rfl (by decide) ⟨by decide, by decide⟩ rfl ?_
  refine l_al2 hC dL_629 ?_
  refine l_in hC hX hi (k := 1) (by decide) rL_630 ?_
  refine l_in hC hX hi (k := 2) (by decide) rL_635 ?_
  refine l_in hC hX hi (k := 3) (by decide) rL_640 ?_
  refine l_in hC hX hi (k := 4) (by decide) rL_645 ?_
  refine l_in hC hX hi (k := 5) (by decide) rL_650 ?_
  refine l_ib hC hX hi (k := 6) (by decide) (by decide) rL_655 ?_
  refine l_inM (av := [(0, SX xs (i + 1)), (0, SX xs (i + 2)), (0, SX xs (i + 3)), (0, SX xs (i + 4)), (0, SX xs (i + 5)), (0, SX xs (i + 6))]) (t := 0) hC dL_661 kL_71 rfl (m_X12_carries ⟨by decide, by decide⟩ _ _ _ _ _ _ _) e2 rfl rfl (skw_1 _ _) ⟨by decide, by decide⟩ rfl ?_
  exact b_icmp_eq (tgt := 2059) hC dL_664 rfl (fun _ => kk _ _ h1) (fun q => absurd rfl q)
theorem l_c13 (hC : Cx g p s m meth c RL code 4) (hX : Scr g b L xs s) (hi : 0 ≤ i ∧ i + 9 ≤ L) (h : R Mx Mm) (kk : ∀ Mx1 Mm1 : Mem, R Mx1 Mm1 → LW g p e s m args below meth c Q b 2059 i [] (mix true Mx1 Mm1)) : LW g p e s m args below meth c Q b 669 i [] (mix true Mx Mm) := by
  obtain ⟨r, Mx1, Mm1, e1, e2, h1⟩ := J_says h (SX xs (i + 1)) (SX xs (i + 2)) (SX xs (i + 3)) (SX xs (i + 4)) (SX xs (i + 5))
  refine l_al1 hC dL_669 ?_
  refine l_in hC hX hi (k := 1) (by decide) rL_670 ?_
  refine l_in hC hX hi (k := 2) (by decide) rL_675 ?_
  refine l_in hC hX hi (k := 3) (by decide) rL_680 ?_
  refine l_in hC hX hi (k := 4) (by decide) rL_685 ?_
  refine l_in hC hX hi (k := 5) (by decide) rL_690 ?_
  refine l_inX (av := [(0, SX xs (i + 1)), (0, SX xs (i + 2)), (0, SX xs (i + 3)), (0, SX xs (i + 4)), (0, SX xs (i + 5))]) (t := 0) hC dL_695 kL_72 rfl (m_X11_says ⟨by decide, by decide⟩ _ _ _ _ _ _) e1 rfl rfl (by decide) ⟨by decide, by decide⟩ rfl ?_
  refine l_al2 hC dL_698 ?_
  refine l_in hC hX hi (k := 1) (by decide) rL_699 ?_
  refine l_in hC hX hi (k := 2) (by decide) rL_704 ?_
  refine l_in hC hX hi (k := 3) (by decide) rL_709 ?_
  refine l_in hC hX hi (k := 4) (by decide) rL_714 ?_
  refine l_in hC hX hi (k := 5) (by decide) rL_719 ?_
  refine l_inM (av := [(0, SX xs (i + 1)), (0, SX xs (i + 2)), (0, SX xs (i + 3)), (0, SX xs (i + 4)), (0, SX xs (i + 5))]) (t := 0) hC dL_724 kL_75 rfl (m_X12_says ⟨by decide, by decide⟩ _ _ _ _ _ _) e2 rfl rfl (skw_1 _ _) ⟨by decide, by decide⟩ rfl ?_
  exact b_icmp_eq (tgt := 2059) hC dL_727 rfl (fun _ => kk _ _ h1) (fun q => absurd rfl q)
theorem l_c14 (hC : Cx g p s m meth c RL code 4) (hX : Scr g b L xs s) (hi : 0 ≤ i ∧ i + 9 ≤ L) (h : R Mx Mm) (kk : ∀ Mx1 Mm1 : Mem, R Mx1 Mm1 → LW g p e s m args below meth c Q b 2059 i [] (mix true Mx1 Mm1)) : LW g p e s m args below meth c Q b 732 i [] (mix true Mx Mm) := by
  obtain ⟨r, Mx1, Mm1, e1, e2, h1⟩ := J_whole h (SX xs (i + 1)) (SX xs (i + 2)) (SX xs (i + 3)) (SX xs (i + 4)) (SX xs (i + 5)) (SX xs (i + 6)) (SX xs (i + 7)) (SX xs (i + 8))
  refine l_al1 hC dL_732 ?_
  refine l_in hC hX hi (k := 1) (by decide) rL_733 ?_
  refine l_in hC hX hi (k := 2) (by decide) rL_738 ?_
  refine l_in hC hX hi (k := 3) (by decide) rL_743 ?_
  refine l_in hC hX hi (k := 4) (by decide) rL_748 ?_
  refine l_in hC hX hi (k := 5) (by decide) rL_753 ?_
  refine l_ib hC hX hi (k := 6) (by decide) (by decide) rL_758 ?_
  refine l_ib hC hX hi (k := 7) (by decide) (by decide) rL_764 ?_
  refine l_ib hC hX hi (k := 8) (by decide) (by decide) rL_770 ?_
  refine l_inX (av := [(0, SX xs (i + 1)), (0, SX xs (i + 2)), (0, SX xs (i + 3)), (0, SX xs (i + 4)), (0, SX xs (i + 5)), (0, SX xs (i + 6)), (0, SX xs (i + 7)), (0, SX xs (i + 8))]) (t := 0) hC dL_776 kL_76 rfl (m_X11_whole ⟨by decide, by decide⟩ _ _ _ _ _ _ _ _ _) e1 rfl rfl (by decide) ⟨by decide, by decide⟩ rfl ?_
  refine l_al2 hC dL_779 ?_
  refine l_in hC hX hi (k := 1) (by decide) rL_780 ?_
  refine l_in hC hX hi (k := 2) (by decide) rL_785 ?_
  refine l_in hC hX hi (k := 3) (by decide) rL_790 ?_
  refine l_in hC hX hi (k := 4) (by decide) rL_795 ?_
  refine l_in hC hX hi (k := 5) (by decide) rL_800 ?_
  refine l_ib hC hX hi (k := 6) (by decide) (by decide) rL_805 ?_
  refine l_ib hC hX hi (k := 7) (by decide) (by decide) rL_811 ?_
  refine l_ib hC hX hi (k := 8) (by decide) (by decide) rL_817 ?_
  refine l_inM (av := [(0, SX xs (i + 1)), (0, SX xs (i + 2)), (0, SX xs (i + 3)), (0, SX xs (i + 4)), (0, SX xs (i + 5)), (0, SX xs (i + 6)), (0, SX xs (i + 7)), (0, SX xs (i + 8))]) (t := 0) hC dL_823 kL_80 rfl (m_X12_whole ⟨by decide, by decide⟩ _ _ _ _ _ _ _ _ _) e2 rfl rfl (skw_1 _ _) ⟨by decide, by decide⟩ rfl ?_
  exact b_icmp_eq (tgt := 2059) hC dL_826 rfl (fun _ => kk _ _ h1) (fun q => absurd rfl q)
theorem l_c15 (hC : Cx g p s m meth c RL code 4) (hX : Scr g b L xs s) (hi : 0 ≤ i ∧ i + 9 ≤ L) (h : R Mx Mm) (kk : ∀ Mx1 Mm1 : Mem, R Mx1 Mm1 → LW g p e s m args below meth c Q b 2059 i [] (mix true Mx1 Mm1)) : LW g p e s m args below meth c Q b 831 i [] (mix true Mx Mm) := by
  obtain ⟨r, Mx1, Mm1, e1, e2, h1⟩ := J_odds h (SX xs (i + 1)) (SX xs (i + 2)) (SX xs (i + 3)) (SX xs (i + 4)) (SX xs (i + 5)) (bz (SX xs (i + 6))) (bz (SX xs (i + 7)))
  refine l_al1 hC dL_831 ?_
  refine l_in hC hX hi (k := 1) (by decide) rL_832 ?_
  refine l_in hC hX hi (k := 2) (by decide) rL_837 ?_
  refine l_in hC hX hi (k := 3) (by decide) rL_842 ?_
  refine l_in hC hX hi (k := 4) (by decide) rL_847 ?_
  refine l_in hC hX hi (k := 5) (by decide) rL_852 ?_
  refine l_ib hC hX hi (k := 6) (by decide) (by decide) rL_857 ?_
  refine l_iz hC zL_863 ?_
  refine l_ib hC hX hi (k := 7) (by decide) (by decide) rL_871 ?_
  refine l_iz hC zL_877 ?_
  refine l_inX (av := [(0, SX xs (i + 1)), (0, SX xs (i + 2)), (0, SX xs (i + 3)), (0, SX xs (i + 4)), (0, SX xs (i + 5)), (0, bz (SX xs (i + 6))), (0, bz (SX xs (i + 7)))]) (t := 0) hC dL_885 kL_81 rfl (m_X11_odds ⟨by decide, by decide⟩ _ _ _ _ _ _ _ _) e1 rfl rfl (by decide) ⟨by decide, by decide⟩ rfl ?_
  refine l_al2 hC dL_888 ?_
  refine l_in hC hX hi (k := 1) (by decide) rL_889 ?_
  refine l_in hC hX hi (k := 2) (by decide) rL_894 ?_
  refine l_in hC hX hi (k := 3) (by decide) rL_899 ?_
  refine l_in hC hX hi (k := 4) (by decide) rL_904 ?_
  refine l_in hC hX hi (k := 5) (by decide) rL_909 ?_
  refine l_ib hC hX hi (k := 6) (by decide) (by decide) rL_914 ?_
  refine l_iz hC zL_920 ?_
  refine l_ib hC hX hi (k := 7) (by decide) (by decide) rL_928 ?_
  refine l_iz hC zL_934 ?_
  refine l_inM (av := [(0, SX xs (i + 1)), (0, SX xs (i + 2)), (0, SX xs (i + 3)), (0, SX xs (i + 4)), (0, SX xs (i + 5)), (0, bz (SX xs (i + 6))), (0, bz (SX xs (i + 7)))]) (t := 0) hC dL_942 kL_85 rfl (m_X12_odds ⟨by decide, by decide⟩ _ _ _ _ _ _ _ _) e2 rfl rfl (skw_1 _ _) ⟨by decide, by decide⟩ rfl ?_
  exact b_icmp_eq (tgt := 2059) hC dL_945 rfl (fun _ => kk _ _ h1) (fun q => absurd rfl q)
theorem l_c16 (hC : Cx g p s m meth c RL code 4) (hX : Scr g b L xs s) (hi : 0 ≤ i ∧ i + 9 ≤ L) (h : R Mx Mm) (kk : ∀ Mx1 Mm1 : Mem, R Mx1 Mm1 → LW g p e s m args below meth c Q b 2059 i [] (mix true Mx1 Mm1)) : LW g p e s m args below meth c Q b 950 i [] (mix true Mx Mm) := by
  obtain ⟨r, Mx1, Mm1, e1, e2, h1⟩ := J_draw h (SX xs (i + 1)) (SX xs (i + 2)) (SX xs (i + 3)) (SX xs (i + 4)) (SX xs (i + 5)) (SX xs (i + 6)) (SX_r _ _)
  refine l_al1 hC dL_950 ?_
  refine l_in hC hX hi (k := 1) (by decide) rL_951 ?_
  refine l_in hC hX hi (k := 2) (by decide) rL_956 ?_
  refine l_in hC hX hi (k := 3) (by decide) rL_961 ?_
  refine l_in hC hX hi (k := 4) (by decide) rL_966 ?_
  refine l_in hC hX hi (k := 5) (by decide) rL_971 ?_
  refine l_ib hC hX hi (k := 6) (by decide) (by decide) rL_976 ?_
  refine l_ib hC hX hi (k := 7) (by decide) (by decide) rL_982 ?_
  refine l_inX (av := [(0, SX xs (i + 1)), (0, SX xs (i + 2)), (0, SX xs (i + 3)), (0, SX xs (i + 4)), (0, SX xs (i + 5)), (0, SX xs (i + 6)), (0, SX xs (i + 7))]) (t := 0) hC dL_988 kL_86 rfl (m_X11_draw ⟨by decide, by decide⟩ _ _ _ _ _ _ _ _) e1 rfl rfl (by decide) ⟨by decide, by decide⟩ rfl ?_
  refine l_al2 hC dL_991 ?_
  refine l_in hC hX hi (k := 1) (by decide) rL_992 ?_
  refine l_in hC hX hi (k := 2) (by decide) rL_997 ?_
  refine l_in hC hX hi (k := 3) (by decide) rL_1002 ?_
  refine l_in hC hX hi (k := 4) (by decide) rL_1007 ?_
  refine l_in hC hX hi (k := 5) (by decide) rL_1012 ?_
  refine l_ib hC hX hi (k := 6) (by decide) (by decide) rL_1017 ?_
  refine l_ib hC hX hi (k := 7) (by decide) (by decide) rL_1023 ?_
  refine l_inM (av := [(0, SX xs (i + 1)), (0, SX xs (i + 2)), (0, SX xs (i + 3)), (0, SX xs (i + 4)), (0, SX xs (i + 5)), (0, SX xs (i + 6)), (0, SX xs (i + 7))]) (t := 0) hC dL_1029 kL_90 rfl (m_X12_draw ⟨by decide, by decide⟩ _ _ _ _ _ _ _ _) e2 rfl rfl (skw_1 _ _) ⟨by decide, by decide⟩ rfl ?_
  exact b_icmp_eq (tgt := 2059) hC dL_1032 rfl (fun _ => kk _ _ h1) (fun q => absurd rfl q)
theorem l_c17 (hC : Cx g p s m meth c RL code 4) (hX : Scr g b L xs s) (hi : 0 ≤ i ∧ i + 9 ≤ L) (h : R Mx Mm) (kk : ∀ Mx1 Mm1 : Mem, R Mx1 Mm1 → LW g p e s m args below meth c Q b 2059 i [] (mix true Mx1 Mm1)) : LW g p e s m args below meth c Q b 1037 i [] (mix true Mx Mm) := by
  obtain ⟨r, Mx1, Mm1, e1, e2, h1⟩ := J_trial h (SX xs (i + 1)) (SX xs (i + 2)) (SX xs (i + 3)) (SX xs (i + 4)) (SX xs (i + 5)) (SX xs (i + 6)) (SX xs (i + 8)) (bz_01 _)
  refine l_al1 hC dL_1037 ?_
  refine l_in hC hX hi (k := 1) (by decide) rL_1038 ?_
  refine l_in hC hX hi (k := 2) (by decide) rL_1043 ?_
  refine l_in hC hX hi (k := 3) (by decide) rL_1048 ?_
  refine l_in hC hX hi (k := 4) (by decide) rL_1053 ?_
  refine l_in hC hX hi (k := 5) (by decide) rL_1058 ?_
  refine l_ib hC hX hi (k := 6) (by decide) (by decide) rL_1063 ?_
  refine l_ib hC hX hi (k := 7) (by decide) (by decide) rL_1069 ?_
  refine l_iz hC zL_1075 ?_
  refine l_ib hC hX hi (k := 8) (by decide) (by decide) rL_1083 ?_
  refine l_inX (av := [(0, SX xs (i + 1)), (0, SX xs (i + 2)), (0, SX xs (i + 3)), (0, SX xs (i + 4)), (0, SX xs (i + 5)), (0, SX xs (i + 6)), (0, bz (SX xs (i + 7))), (0, SX xs (i + 8))]) (t := 0) hC dL_1089 kL_91 rfl (m_X11_trial ⟨by decide, by decide⟩ _ _ _ _ _ _ _ _ _) e1 rfl rfl (by decide) ⟨by decide, by decide⟩ rfl ?_
  refine l_al2 hC dL_1092 ?_
  refine l_in hC hX hi (k := 1) (by decide) rL_1093 ?_
  refine l_in hC hX hi (k := 2) (by decide) rL_1098 ?_
  refine l_in hC hX hi (k := 3) (by decide) rL_1103 ?_
  refine l_in hC hX hi (k := 4) (by decide) rL_1108 ?_
  refine l_in hC hX hi (k := 5) (by decide) rL_1113 ?_
  refine l_ib hC hX hi (k := 6) (by decide) (by decide) rL_1118 ?_
  refine l_ib hC hX hi (k := 7) (by decide) (by decide) rL_1124 ?_
  refine l_iz hC zL_1130 ?_
  refine l_ib hC hX hi (k := 8) (by decide) (by decide) rL_1138 ?_
  refine l_inM (av := [(0, SX xs (i + 1)), (0, SX xs (i + 2)), (0, SX xs (i + 3)), (0, SX xs (i + 4)), (0, SX xs (i + 5)), (0, SX xs (i + 6)), (0, bz (SX xs (i + 7))), (0, SX xs (i + 8))]) (t := 0) hC dL_1144 kL_95 rfl (m_X12_trial ⟨by decide, by decide⟩ _ _ _ _ _ _ _ _ _) e2 rfl rfl (skw_1 _ _) ⟨by decide, by decide⟩ rfl ?_
  exact b_icmp_eq (tgt := 2059) hC dL_1147 rfl (fun _ => kk _ _ h1) (fun q => absurd rfl q)
theorem l_c18 (hC : Cx g p s m meth c RL code 4) (hX : Scr g b L xs s) (hi : 0 ≤ i ∧ i + 9 ≤ L) (h : R Mx Mm) (kk : ∀ Mx1 Mm1 : Mem, R Mx1 Mm1 → LW g p e s m args below meth c Q b 2059 i [] (mix true Mx1 Mm1)) : LW g p e s m args below meth c Q b 1152 i [] (mix true Mx Mm) := by
  obtain ⟨r, Mx1, Mm1, e1, e2, h1⟩ := J_run h (SX xs (i + 1)) (SX_r _ _)
  refine l_al1 hC dL_1152 ?_
  refine l_in hC hX hi (k := 1) (by decide) rL_1153 ?_
  refine l_in hC hX hi (k := 2) (by decide) rL_1158 ?_
  refine l_inX (av := [(0, SX xs (i + 1)), (0, SX xs (i + 2))]) (t := 0) hC dL_1163 kL_96 rfl (m_X11_run ⟨by decide, by decide⟩ _ _ _) e1 rfl rfl (by decide) ⟨by decide, by decide⟩ rfl ?_
  refine l_al2 hC dL_1166 ?_
  refine l_in hC hX hi (k := 1) (by decide) rL_1167 ?_
  refine l_in hC hX hi (k := 2) (by decide) rL_1172 ?_
  refine l_inM (av := [(0, SX xs (i + 1)), (0, SX xs (i + 2))]) (t := 0) hC dL_1177 kL_99 rfl (m_X12_run ⟨by decide, by decide⟩ _ _ _) e2 rfl rfl (skw_1 _ _) ⟨by decide, by decide⟩ rfl ?_
  exact b_icmp_eq (tgt := 2059) hC dL_1180 rfl (fun _ => kk _ _ h1) (fun q => absurd rfl q)
theorem l_c19 (hC : Cx g p s m meth c RL code 4) (hX : Scr g b L xs s) (hi : 0 ≤ i ∧ i + 9 ≤ L) (h : R Mx Mm) (kk : ∀ Mx1 Mm1 : Mem, R Mx1 Mm1 → LW g p e s m args below meth c Q b 2059 i [] (mix true Mx1 Mm1)) : LW g p e s m args below meth c Q b 1185 i [] (mix true Mx Mm) := by
  obtain ⟨r, Mx1, Mm1, e1, e2, h1⟩ := J_moved h (SX xs (i + 1)) (SX_r _ _) (SX_r _ _)
  refine l_al1 hC dL_1185 ?_
  refine l_in hC hX hi (k := 1) (by decide) rL_1186 ?_
  refine l_in hC hX hi (k := 2) (by decide) rL_1191 ?_
  refine l_in hC hX hi (k := 3) (by decide) rL_1196 ?_
  refine l_inX (av := [(0, SX xs (i + 1)), (0, SX xs (i + 2)), (0, SX xs (i + 3))]) (t := 0) hC dL_1201 kL_100 rfl (m_X11_moved ⟨by decide, by decide⟩ _ _ _ _) e1 rfl rfl (by decide) ⟨by decide, by decide⟩ rfl ?_
  refine l_al2 hC dL_1204 ?_
  refine l_in hC hX hi (k := 1) (by decide) rL_1205 ?_
  refine l_in hC hX hi (k := 2) (by decide) rL_1210 ?_
  refine l_in hC hX hi (k := 3) (by decide) rL_1215 ?_
  refine l_inM (av := [(0, SX xs (i + 1)), (0, SX xs (i + 2)), (0, SX xs (i + 3))]) (t := 0) hC dL_1220 kL_104 rfl (m_X12_moved ⟨by decide, by decide⟩ _ _ _ _) e2 rfl rfl (skw_1 _ _) ⟨by decide, by decide⟩ rfl ?_
  exact b_icmp_eq (tgt := 2059) hC dL_1223 rfl (fun _ => kk _ _ h1) (fun q => absurd rfl q)
theorem l_c20 (hC : Cx g p s m meth c RL code 4) (hX : Scr g b L xs s) (hi : 0 ≤ i ∧ i + 9 ≤ L) (h : R Mx Mm) (kk : ∀ Mx1 Mm1 : Mem, R Mx1 Mm1 → LW g p e s m args below meth c Q b 2059 i [] (mix true Mx1 Mm1)) : LW g p e s m args below meth c Q b 1228 i [] (mix true Mx Mm) := by
  obtain ⟨r, Mx1, Mm1, e1, e2, h1⟩ := J_voice h (SX xs (i + 1)) (SX xs (i + 2))
  refine l_al1 hC dL_1228 ?_
  refine l_in hC hX hi (k := 1) (by decide) rL_1229 ?_
  refine l_in hC hX hi (k := 2) (by decide) rL_1234 ?_
  refine l_inX (av := [(0, SX xs (i + 1)), (0, SX xs (i + 2))]) (t := 0) hC dL_1239 kL_105 rfl (m_X11_voice ⟨by decide, by decide⟩ _ _ _) e1 rfl rfl (by decide) ⟨by decide, by decide⟩ rfl ?_
  refine l_al2 hC dL_1242 ?_
  refine l_in hC hX hi (k := 1) (by decide) rL_1243 ?_
  refine l_in hC hX hi (k := 2) (by decide) rL_1248 ?_
  refine l_inM (av := [(0, SX xs (i + 1)), (0, SX xs (i + 2))]) (t := 0) hC dL_1253 kL_109 rfl (m_X12_voice ⟨by decide, by decide⟩ _ _ _) e2 rfl rfl (skw_1 _ _) ⟨by decide, by decide⟩ rfl ?_
  exact b_icmp_eq (tgt := 2059) hC dL_1256 rfl (fun _ => kk _ _ h1) (fun q => absurd rfl q)
theorem l_c21 (hC : Cx g p s m meth c RL code 4) (hX : Scr g b L xs s) (hi : 0 ≤ i ∧ i + 9 ≤ L) (h : R Mx Mm) (kk : ∀ Mx1 Mm1 : Mem, R Mx1 Mm1 → LW g p e s m args below meth c Q b 2059 i [] (mix true Mx1 Mm1)) : LW g p e s m args below meth c Q b 1261 i [] (mix true Mx Mm) := by
  obtain ⟨r, Mx1, Mm1, e1, e2, h1⟩ := J_undo h 
  refine l_al1 hC dL_1261 ?_
  refine l_inX (av := []) (t := 0) hC dL_1262 kL_110 rfl (m_X11_undo ⟨by decide, by decide⟩ _ ) e1 rfl rfl (by decide) ⟨by decide, by decide⟩ rfl ?_
  refine l_al2 hC dL_1265 ?_
  refine l_inM (av := []) (t := 0) hC dL_1266 kL_113 rfl (m_X12_undo ⟨by decide, by decide⟩ _ ) e2 rfl rfl (skw_1 _ _) ⟨by decide, by decide⟩ rfl ?_
  exact b_icmp_eq (tgt := 2059) hC dL_1269 rfl (fun _ => kk _ _ h1) (fun q => absurd rfl q)
theorem l_c22 (hC : Cx g p s m meth c RL code 4) (hX : Scr g b L xs s) (hi : 0 ≤ i ∧ i + 9 ≤ L) (h : R Mx Mm) (kk : ∀ Mx1 Mm1 : Mem, R Mx1 Mm1 → LW g p e s m args below meth c Q b 2059 i [] (mix true Mx1 Mm1)) : LW g p e s m args below meth c Q b 1274 i [] (mix true Mx Mm) := by
  obtain ⟨r, Mx1, Mm1, e1, e2, h1⟩ := J_tried h (SX xs (i + 1)) (SX xs (i + 2))
  refine l_al1 hC dL_1274 ?_
  refine l_in hC hX hi (k := 1) (by decide) rL_1275 ?_
  refine l_in hC hX hi (k := 2) (by decide) rL_1280 ?_
  refine l_inX (av := [(0, SX xs (i + 1)), (0, SX xs (i + 2))]) (t := 0) hC dL_1285 kL_114 rfl (m_X11_tried ⟨by decide, by decide⟩ _ _ _) e1 rfl rfl (by decide) ⟨by decide, by decide⟩ rfl ?_
  refine l_al2 hC dL_1288 ?_
  refine l_in hC hX hi (k := 1) (by decide) rL_1289 ?_
  refine l_in hC hX hi (k := 2) (by decide) rL_1294 ?_
  refine l_inM (av := [(0, SX xs (i + 1)), (0, SX xs (i + 2))]) (t := 0) hC dL_1299 kL_117 rfl (m_X12_tried ⟨by decide, by decide⟩ _ _ _) e2 rfl rfl (skw_1 _ _) ⟨by decide, by decide⟩ rfl ?_
  exact b_icmp_eq (tgt := 2059) hC dL_1302 rfl (fun _ => kk _ _ h1) (fun q => absurd rfl q)
theorem l_c23 (hC : Cx g p s m meth c RL code 4) (hX : Scr g b L xs s) (hi : 0 ≤ i ∧ i + 9 ≤ L) (h : R Mx Mm) (kk : ∀ Mx1 Mm1 : Mem, R Mx1 Mm1 → LW g p e s m args below meth c Q b 2059 i [] (mix true Mx1 Mm1)) : LW g p e s m args below meth c Q b 1307 i [] (mix true Mx Mm) := by
  obtain ⟨r, Mx1, Mm1, e1, e2, h1⟩ := J_count h (SX xs (i + 1)) (SX xs (i + 2)) (bz (SX xs (i + 3)))
  refine l_al1 hC dL_1307 ?_
  refine l_in hC hX hi (k := 1) (by decide) rL_1308 ?_
  refine l_in hC hX hi (k := 2) (by decide) rL_1313 ?_
  refine l_in hC hX hi (k := 3) (by decide) rL_1318 ?_
  refine l_iz hC zL_1323 ?_
  refine l_inX (av := [(0, SX xs (i + 1)), (0, SX xs (i + 2)), (0, bz (SX xs (i + 3)))]) (t := 0) hC dL_1331 kL_118 rfl (m_X11_count ⟨by decide, by decide⟩ _ _ _ _) e1 rfl rfl (by decide) ⟨by decide, by decide⟩ rfl ?_
  refine l_al2 hC dL_1334 ?_
  refine l_in hC hX hi (k := 1) (by decide) rL_1335 ?_
  refine l_in hC hX hi (k := 2) (by decide) rL_1340 ?_
  refine l_in hC hX hi (k := 3) (by decide) rL_1345 ?_
  refine l_iz hC zL_1350 ?_
  refine l_inM (av := [(0, SX xs (i + 1)), (0, SX xs (i + 2)), (0, bz (SX xs (i + 3)))]) (t := 0) hC dL_1358 kL_122 rfl (m_X12_count ⟨by decide, by decide⟩ _ _ _ _) e2 rfl rfl (skw_1 _ _) ⟨by decide, by decide⟩ rfl ?_
  exact b_icmp_eq (tgt := 2059) hC dL_1361 rfl (fun _ => kk _ _ h1) (fun q => absurd rfl q)
theorem l_c24 (hC : Cx g p s m meth c RL code 4) (hX : Scr g b L xs s) (hi : 0 ≤ i ∧ i + 9 ≤ L) (h : R Mx Mm) (kk : ∀ Mx1 Mm1 : Mem, R Mx1 Mm1 → LW g p e s m args below meth c Q b 2059 i [] (mix true Mx1 Mm1)) : LW g p e s m args below meth c Q b 1366 i [] (mix true Mx Mm) := by
  obtain ⟨r, Mx1, Mm1, e1, e2, h1⟩ := J_chance h (SX xs (i + 1))
  refine l_al1 hC dL_1366 ?_
  refine l_in hC hX hi (k := 1) (by decide) rL_1367 ?_
  refine l_inX (av := [(0, SX xs (i + 1))]) (t := 1) hC dL_1372 kL_123 rfl (m_X11_chance ⟨by decide, by decide⟩ _ _) e1 rfl rfl (by decide) ⟨by decide, by decide⟩ rfl ?_
  refine l_al2 hC dL_1375 ?_
  refine l_in hC hX hi (k := 1) (by decide) rL_1376 ?_
  refine l_inM (av := [(0, SX xs (i + 1))]) (t := 1) hC dL_1381 kL_127 rfl (m_X12_chance ⟨by decide, by decide⟩ _ _) e2 rfl rfl (skw_1 _ _) ⟨by decide, by decide⟩ rfl ?_
  refine b_lcmp hC dL_1384 ?_
  exact b_if_eq (tgt := 2059) hC dL_1385 rfl (fun _ => kk _ _ h1) (fun q => absurd (cmpI_self r) q)
theorem l_c25 (hC : Cx g p s m meth c RL code 4) (hX : Scr g b L xs s) (hi : 0 ≤ i ∧ i + 9 ≤ L) (h : R Mx Mm) (kk : ∀ Mx1 Mm1 : Mem, R Mx1 Mm1 → LW g p e s m args below meth c Q b 2059 i [] (mix true Mx1 Mm1)) : LW g p e s m args below meth c Q b 1390 i [] (mix true Mx Mm) := by
  obtain ⟨r, Mx1, Mm1, e1, e2, h1⟩ := J_honest h (SX xs (i + 1))
  refine l_al1 hC dL_1390 ?_
  refine l_in hC hX hi (k := 1) (by decide) rL_1391 ?_
  refine l_inX (av := [(0, SX xs (i + 1))]) (t := 1) hC dL_1396 kL_128 rfl (m_X11_honest ⟨by decide, by decide⟩ _ _) e1 rfl rfl (by decide) ⟨by decide, by decide⟩ rfl ?_
  refine l_al2 hC dL_1399 ?_
  refine l_in hC hX hi (k := 1) (by decide) rL_1400 ?_
  refine l_inM (av := [(0, SX xs (i + 1))]) (t := 1) hC dL_1405 kL_131 rfl (m_X12_honest ⟨by decide, by decide⟩ _ _) e2 rfl rfl (skw_1 _ _) ⟨by decide, by decide⟩ rfl ?_
  refine b_lcmp hC dL_1408 ?_
  exact b_if_eq (tgt := 2059) hC dL_1409 rfl (fun _ => kk _ _ h1) (fun q => absurd (cmpI_self r) q)
theorem l_c26 (hC : Cx g p s m meth c RL code 4) (hX : Scr g b L xs s) (hi : 0 ≤ i ∧ i + 9 ≤ L) (h : R Mx Mm) (kk : ∀ Mx1 Mm1 : Mem, R Mx1 Mm1 → LW g p e s m args below meth c Q b 2059 i [] (mix true Mx1 Mm1)) : LW g p e s m args below meth c Q b 1414 i [] (mix true Mx Mm) := by
  obtain ⟨r, Mx1, Mm1, e1, e2, h1⟩ := J_needed h (SX xs (i + 1)) (lor (lshl (SX xs (i + 2)) (32)) (land (SX xs (i + 3)) (4294967295)))
  refine l_al1 hC dL_1414 ?_
  refine l_in hC hX hi (k := 1) (by decide) rL_1415 ?_
  refine l_in hC hX hi (k := 2) (by decide) rL_1420 ?_
  refine b_i2l hC dL_1425 ?_
  refine b_bipush hC dL_1426 (by decide) ⟨by decide, by decide⟩ ?_
  refine b_lshl hC dL_1428 ?_
  refine l_in hC hX hi (k := 3) (by decide) rL_1429 ?_
  refine b_i2l hC dL_1434 ?_
  refine b_ldc2 (v := 4294967295) hC dL_1435 kCL_132 (by decide +kernel) ⟨by decide, by decide⟩ ?_
  refine b_land hC dL_1438 ?_
  refine b_lor hC dL_1439 ?_
  refine l_inX (av := [(0, SX xs (i + 1)), (1, lor (lshl (SX xs (i + 2)) (32)) (land (SX xs (i + 3)) (4294967295)))]) (t := 0) hC dL_1440 kL_134 rfl (m_X11_needed ⟨by decide, by decide⟩ _ _ _) e1 rfl rfl (by decide) ⟨by decide, by decide⟩ rfl ?_
  refine l_al2 hC dL_1443 ?_
  refine l_in hC hX hi (k := 1) (by decide) rL_1444 ?_
  refine l_in hC hX hi (k := 2) (by decide) rL_1449 ?_
  refine b_i2l hC dL_1454 ?_
  refine b_bipush hC dL_1455 (by decide) ⟨by decide, by decide⟩ ?_
  refine b_lshl hC dL_1457 ?_
  refine l_in hC hX hi (k := 3) (by decide) rL_1458 ?_
  refine b_i2l hC dL_1463 ?_
  refine b_ldc2 (v := 4294967295) hC dL_1464 kCL_132 (by decide +kernel) ⟨by decide, by decide⟩ ?_
  refine b_land hC dL_1467 ?_
  refine b_lor hC dL_1468 ?_
  refine l_inM (av := [(0, SX xs (i + 1)), (1, lor (lshl (SX xs (i + 2)) (32)) (land (SX xs (i + 3)) (4294967295)))]) (t := 0) hC dL_1469 kL_138 rfl (m_X12_needed ⟨by decide, by decide⟩ _ _ _) e2 rfl rfl (skw_1 _ _) ⟨by decide, by decide⟩ rfl ?_
  exact b_icmp_eq (tgt := 2059) hC dL_1472 rfl (fun _ => kk _ _ h1) (fun q => absurd rfl q)
theorem l_c27 (hC : Cx g p s m meth c RL code 4) (hX : Scr g b L xs s) (hi : 0 ≤ i ∧ i + 9 ≤ L) (h : R Mx Mm) (kk : ∀ Mx1 Mm1 : Mem, R Mx1 Mm1 → LW g p e s m args below meth c Q b 2059 i [] (mix true Mx1 Mm1)) : LW g p e s m args below meth c Q b 1477 i [] (mix true Mx Mm) := by
  obtain ⟨r, Mx1, Mm1, e1, e2, h1⟩ := J_kind h (SX xs (i + 1)) (SX xs (i + 2))
  refine l_al1 hC dL_1477 ?_
  refine l_in hC hX hi (k := 1) (by decide) rL_1478 ?_
  refine l_in hC hX hi (k := 2) (by decide) rL_1483 ?_
  refine l_inX (av := [(0, SX xs (i + 1)), (0, SX xs (i + 2))]) (t := 0) hC dL_1488 kL_139 rfl (m_X11_kind ⟨by decide, by decide⟩ _ _ _) e1 rfl rfl (by decide) ⟨by decide, by decide⟩ rfl ?_
  refine l_al2 hC dL_1491 ?_
  refine l_in hC hX hi (k := 1) (by decide) rL_1492 ?_
  refine l_in hC hX hi (k := 2) (by decide) rL_1497 ?_
  refine l_inM (av := [(0, SX xs (i + 1)), (0, SX xs (i + 2))]) (t := 0) hC dL_1502 kL_142 rfl (m_X12_kind ⟨by decide, by decide⟩ _ _ _) e2 rfl rfl (skw_1 _ _) ⟨by decide, by decide⟩ rfl ?_
  exact b_icmp_eq (tgt := 2059) hC dL_1505 rfl (fun _ => kk _ _ h1) (fun q => absurd rfl q)
theorem l_c28 (hC : Cx g p s m meth c RL code 4) (hX : Scr g b L xs s) (hi : 0 ≤ i ∧ i + 9 ≤ L) (h : R Mx Mm) (kk : ∀ Mx1 Mm1 : Mem, R Mx1 Mm1 → LW g p e s m args below meth c Q b 2059 i [] (mix true Mx1 Mm1)) : LW g p e s m args below meth c Q b 1510 i [] (mix true Mx Mm) := by
  obtain ⟨r, Mx1, Mm1, e1, e2, h1⟩ := J_kinds h (SX xs (i + 1)) (SX xs (i + 2))
  refine l_al1 hC dL_1510 ?_
  refine l_in hC hX hi (k := 1) (by decide) rL_1511 ?_
  refine l_in hC hX hi (k := 2) (by decide) rL_1516 ?_
  refine l_inX (av := [(0, SX xs (i + 1)), (0, SX xs (i + 2))]) (t := 0) hC dL_1521 kL_143 rfl (m_X11_kinds ⟨by decide, by decide⟩ _ _ _) e1 rfl rfl (by decide) ⟨by decide, by decide⟩ rfl ?_
  refine l_al2 hC dL_1524 ?_
  refine l_in hC hX hi (k := 1) (by decide) rL_1525 ?_
  refine l_in hC hX hi (k := 2) (by decide) rL_1530 ?_
  refine l_inM (av := [(0, SX xs (i + 1)), (0, SX xs (i + 2))]) (t := 0) hC dL_1535 kL_146 rfl (m_X12_kinds ⟨by decide, by decide⟩ _ _ _) e2 rfl rfl (skw_1 _ _) ⟨by decide, by decide⟩ rfl ?_
  exact b_icmp_eq (tgt := 2059) hC dL_1538 rfl (fun _ => kk _ _ h1) (fun q => absurd rfl q)
theorem l_c29 (hC : Cx g p s m meth c RL code 4) (hX : Scr g b L xs s) (hi : 0 ≤ i ∧ i + 9 ≤ L) (h : R Mx Mm) (kk : ∀ Mx1 Mm1 : Mem, R Mx1 Mm1 → LW g p e s m args below meth c Q b 2059 i [] (mix true Mx1 Mm1)) : LW g p e s m args below meth c Q b 1543 i [] (mix true Mx Mm) := by
  obtain ⟨r, Mx1, Mm1, e1, e2, h1⟩ := J_weight h (SX xs (i + 1))
  refine l_al1 hC dL_1543 ?_
  refine l_in hC hX hi (k := 1) (by decide) rL_1544 ?_
  refine l_inX (av := [(0, SX xs (i + 1))]) (t := 1) hC dL_1549 kL_147 rfl (m_X11_weight ⟨by decide, by decide⟩ _ _) e1 rfl rfl (by decide) ⟨by decide, by decide⟩ rfl ?_
  refine l_al2 hC dL_1552 ?_
  refine l_in hC hX hi (k := 1) (by decide) rL_1553 ?_
  refine l_inM (av := [(0, SX xs (i + 1))]) (t := 1) hC dL_1558 kL_150 rfl (m_X12_weight ⟨by decide, by decide⟩ _ _) e2 rfl rfl (skw_1 _ _) ⟨by decide, by decide⟩ rfl ?_
  refine b_lcmp hC dL_1561 ?_
  exact b_if_eq (tgt := 2059) hC dL_1562 rfl (fun _ => kk _ _ h1) (fun q => absurd (cmpI_self r) q)
theorem l_c30 (hC : Cx g p s m meth c RL code 4) (hX : Scr g b L xs s) (hi : 0 ≤ i ∧ i + 9 ≤ L) (h : R Mx Mm) (kk : ∀ Mx1 Mm1 : Mem, R Mx1 Mm1 → LW g p e s m args below meth c Q b 2059 i [] (mix true Mx1 Mm1)) : LW g p e s m args below meth c Q b 1567 i [] (mix true Mx Mm) := by
  obtain ⟨r, Mx1, Mm1, e1, e2, h1⟩ := J_thrown h (SX xs (i + 1))
  refine l_al1 hC dL_1567 ?_
  refine l_in hC hX hi (k := 1) (by decide) rL_1568 ?_
  refine l_inX (av := [(0, SX xs (i + 1))]) (t := 0) hC dL_1573 kL_151 rfl (m_X11_thrown ⟨by decide, by decide⟩ _ _) e1 rfl rfl (by decide) ⟨by decide, by decide⟩ rfl ?_
  refine l_al2 hC dL_1576 ?_
  refine l_in hC hX hi (k := 1) (by decide) rL_1577 ?_
  refine l_inM (av := [(0, SX xs (i + 1))]) (t := 0) hC dL_1582 kL_154 rfl (m_X12_thrown ⟨by decide, by decide⟩ _ _) e2 rfl rfl (skw_1 _ _) ⟨by decide, by decide⟩ rfl ?_
  exact b_icmp_eq (tgt := 2059) hC dL_1585 rfl (fun _ => kk _ _ h1) (fun q => absurd rfl q)
theorem l_c31 (hC : Cx g p s m meth c RL code 4) (hX : Scr g b L xs s) (hi : 0 ≤ i ∧ i + 9 ≤ L) (h : R Mx Mm) (kk : ∀ Mx1 Mm1 : Mem, R Mx1 Mm1 → LW g p e s m args below meth c Q b 2059 i [] (mix true Mx1 Mm1)) : LW g p e s m args below meth c Q b 1590 i [] (mix true Mx Mm) := by
  obtain ⟨r, Mx1, Mm1, e1, e2, h1⟩ := J_likely h 
  refine l_al1 hC dL_1590 ?_
  refine l_inX (av := []) (t := 0) hC dL_1591 kL_155 rfl (m_X11_likely ⟨by decide, by decide⟩ _ ) e1 rfl rfl (by decide) ⟨by decide, by decide⟩ rfl ?_
  refine l_al2 hC dL_1594 ?_
  refine l_inM (av := []) (t := 0) hC dL_1595 kL_158 rfl (m_X12_likely ⟨by decide, by decide⟩ _ ) e2 rfl rfl (skw_1 _ _) ⟨by decide, by decide⟩ rfl ?_
  exact b_icmp_eq (tgt := 2059) hC dL_1598 rfl (fun _ => kk _ _ h1) (fun q => absurd rfl q)
theorem l_c32 (hC : Cx g p s m meth c RL code 4) (hX : Scr g b L xs s) (hi : 0 ≤ i ∧ i + 9 ≤ L) (h : R Mx Mm) (kk : ∀ Mx1 Mm1 : Mem, R Mx1 Mm1 → LW g p e s m args below meth c Q b 2059 i [] (mix true Mx1 Mm1)) : LW g p e s m args below meth c Q b 1603 i [] (mix true Mx Mm) := by
  obtain ⟨r, Mx1, Mm1, e1, e2, h1⟩ := J_lies h (SX xs (i + 1))
  refine l_al1 hC dL_1603 ?_
  refine l_in hC hX hi (k := 1) (by decide) rL_1604 ?_
  refine l_inX (av := [(0, SX xs (i + 1))]) (t := 0) hC dL_1609 kL_159 rfl (m_X11_lies ⟨by decide, by decide⟩ _ _) e1 rfl rfl (by decide) ⟨by decide, by decide⟩ rfl ?_
  refine l_al2 hC dL_1612 ?_
  refine l_in hC hX hi (k := 1) (by decide) rL_1613 ?_
  refine l_inM (av := [(0, SX xs (i + 1))]) (t := 0) hC dL_1618 kL_162 rfl (m_X12_lies ⟨by decide, by decide⟩ _ _) e2 rfl rfl (skw_1 _ _) ⟨by decide, by decide⟩ rfl ?_
  exact b_icmp_eq (tgt := 2059) hC dL_1621 rfl (fun _ => kk _ _ h1) (fun q => absurd rfl q)
theorem l_c33 (hC : Cx g p s m meth c RL code 4) (hX : Scr g b L xs s) (hi : 0 ≤ i ∧ i + 9 ≤ L) (h : R Mx Mm) (kk : ∀ Mx1 Mm1 : Mem, R Mx1 Mm1 → LW g p e s m args below meth c Q b 2059 i [] (mix true Mx1 Mm1)) : LW g p e s m args below meth c Q b 1626 i [] (mix true Mx Mm) := by
  obtain ⟨r, Mx1, Mm1, e1, e2, h1⟩ := J_span h (SX xs (i + 1)) (bz (SX xs (i + 2)))
  refine l_al1 hC dL_1626 ?_
  refine l_in hC hX hi (k := 1) (by decide) rL_1627 ?_
  refine l_in hC hX hi (k := 2) (by decide) rL_1632 ?_
  refine l_iz hC zL_1637 ?_
  refine l_inX (av := [(0, SX xs (i + 1)), (0, bz (SX xs (i + 2)))]) (t := 0) hC dL_1645 kL_163 rfl (m_X11_span ⟨by decide, by decide⟩ _ _ _) e1 rfl rfl (by decide) ⟨by decide, by decide⟩ rfl ?_
  refine l_al2 hC dL_1648 ?_
  refine l_in hC hX hi (k := 1) (by decide) rL_1649 ?_
  refine l_in hC hX hi (k := 2) (by decide) rL_1654 ?_
  refine l_iz hC zL_1659 ?_
  refine l_inM (av := [(0, SX xs (i + 1)), (0, bz (SX xs (i + 2)))]) (t := 0) hC dL_1667 kL_167 rfl (m_X12_span ⟨by decide, by decide⟩ _ _ _) e2 rfl rfl (skw_1 _ _) ⟨by decide, by decide⟩ rfl ?_
  exact b_icmp_eq (tgt := 2059) hC dL_1670 rfl (fun _ => kk _ _ h1) (fun q => absurd rfl q)
theorem l_c34 (hC : Cx g p s m meth c RL code 4) (hX : Scr g b L xs s) (hi : 0 ≤ i ∧ i + 9 ≤ L) (h : R Mx Mm) (kk : ∀ Mx1 Mm1 : Mem, R Mx1 Mm1 → LW g p e s m args below meth c Q b 2059 i [] (mix true Mx1 Mm1)) : LW g p e s m args below meth c Q b 1675 i [] (mix true Mx Mm) := by
  obtain ⟨r, Mx1, Mm1, e1, e2, h1⟩ := J_bound h 
  refine l_al1 hC dL_1675 ?_
  refine l_inX (av := []) (t := 0) hC dL_1676 kL_168 rfl (m_X11_bound ⟨by decide, by decide⟩ _ ) e1 rfl rfl (by decide) ⟨by decide, by decide⟩ rfl ?_
  refine l_al2 hC dL_1679 ?_
  refine l_inM (av := []) (t := 0) hC dL_1680 kL_171 rfl (m_X12_bound ⟨by decide, by decide⟩ _ ) e2 rfl rfl (skw_1 _ _) ⟨by decide, by decide⟩ rfl ?_
  exact b_icmp_eq (tgt := 2059) hC dL_1683 rfl (fun _ => kk _ _ h1) (fun q => absurd rfl q)
theorem l_c35 (hC : Cx g p s m meth c RL code 4) (hX : Scr g b L xs s) (hi : 0 ≤ i ∧ i + 9 ≤ L) (h : R Mx Mm) (kk : ∀ Mx1 Mm1 : Mem, R Mx1 Mm1 → LW g p e s m args below meth c Q b 2059 i [] (mix true Mx1 Mm1)) : LW g p e s m args below meth c Q b 1688 i [] (mix true Mx Mm) := by
  obtain ⟨r, Mx1, Mm1, e1, e2, h1⟩ := J_left h 
  refine l_al1 hC dL_1688 ?_
  refine l_inX (av := []) (t := 0) hC dL_1689 kL_172 rfl (m_X11_left ⟨by decide, by decide⟩ _ ) e1 rfl rfl (by decide) ⟨by decide, by decide⟩ rfl ?_
  refine l_al2 hC dL_1692 ?_
  refine l_inM (av := []) (t := 0) hC dL_1693 kL_175 rfl (m_X12_left ⟨by decide, by decide⟩ _ ) e2 rfl rfl (skw_1 _ _) ⟨by decide, by decide⟩ rfl ?_
  exact b_icmp_eq (tgt := 2059) hC dL_1696 rfl (fun _ => kk _ _ h1) (fun q => absurd rfl q)
theorem l_c36 (hC : Cx g p s m meth c RL code 4) (hX : Scr g b L xs s) (hi : 0 ≤ i ∧ i + 9 ≤ L) (h : R Mx Mm) (kk : ∀ Mx1 Mm1 : Mem, R Mx1 Mm1 → LW g p e s m args below meth c Q b 2059 i [] (mix true Mx1 Mm1)) : LW g p e s m args below meth c Q b 1701 i [] (mix true Mx Mm) := by
  obtain ⟨r, Mx1, Mm1, e1, e2, h1⟩ := J_fewest h (SX xs (i + 1)) (bz (SX xs (i + 2)))
  refine l_al1 hC dL_1701 ?_
  refine l_in hC hX hi (k := 1) (by decide) rL_1702 ?_
  refine l_in hC hX hi (k := 2) (by decide) rL_1707 ?_
  refine l_iz hC zL_1712 ?_
  refine l_inX (av := [(0, SX xs (i + 1)), (0, bz (SX xs (i + 2)))]) (t := 0) hC dL_1720 kL_176 rfl (m_X11_fewest ⟨by decide, by decide⟩ _ _ _) e1 rfl rfl (by decide) ⟨by decide, by decide⟩ rfl ?_
  refine l_al2 hC dL_1723 ?_
  refine l_in hC hX hi (k := 1) (by decide) rL_1724 ?_
  refine l_in hC hX hi (k := 2) (by decide) rL_1729 ?_
  refine l_iz hC zL_1734 ?_
  refine l_inM (av := [(0, SX xs (i + 1)), (0, bz (SX xs (i + 2)))]) (t := 0) hC dL_1742 kL_179 rfl (m_X12_fewest ⟨by decide, by decide⟩ _ _ _) e2 rfl rfl (skw_1 _ _) ⟨by decide, by decide⟩ rfl ?_
  exact b_icmp_eq (tgt := 2059) hC dL_1745 rfl (fun _ => kk _ _ h1) (fun q => absurd rfl q)
theorem l_c37 (hC : Cx g p s m meth c RL code 4) (hX : Scr g b L xs s) (hi : 0 ≤ i ∧ i + 9 ≤ L) (h : R Mx Mm) (kk : ∀ Mx1 Mm1 : Mem, R Mx1 Mm1 → LW g p e s m args below meth c Q b 2059 i [] (mix true Mx1 Mm1)) : LW g p e s m args below meth c Q b 1750 i [] (mix true Mx Mm) := by
  obtain ⟨r, Mx1, Mm1, e1, e2, h1⟩ := J_parted h (SX xs (i + 1)) (SX xs (i + 2)) (SX xs (i + 3)) (SX xs (i + 4)) (SX xs (i + 5)) (SX xs (i + 6))
  refine l_al1 hC dL_1750 ?_
  refine l_in hC hX hi (k := 1) (by decide) rL_1751 ?_
  refine l_in hC hX hi (k := 2) (by decide) rL_1756 ?_
  refine l_in hC hX hi (k := 3) (by decide) rL_1761 ?_
  refine l_in hC hX hi (k := 4) (by decide) rL_1766 ?_
  refine l_in hC hX hi (k := 5) (by decide) rL_1771 ?_
  refine l_ib hC hX hi (k := 6) (by decide) (by decide) rL_1776 ?_
  refine l_inX (av := [(0, SX xs (i + 1)), (0, SX xs (i + 2)), (0, SX xs (i + 3)), (0, SX xs (i + 4)), (0, SX xs (i + 5)), (0, SX xs (i + 6))]) (t := 0) hC dL_1782 kL_180 rfl (m_X11_parted ⟨by decide, by decide⟩ _ _ _ _ _ _ _) e1 rfl rfl (by decide) ⟨by decide, by decide⟩ rfl ?_
  refine l_al2 hC dL_1785 ?_
  refine l_in hC hX hi (k := 1) (by decide) rL_1786 ?_
  refine l_in hC hX hi (k := 2) (by decide) rL_1791 ?_
  refine l_in hC hX hi (k := 3) (by decide) rL_1796 ?_
  refine l_in hC hX hi (k := 4) (by decide) rL_1801 ?_
  refine l_in hC hX hi (k := 5) (by decide) rL_1806 ?_
  refine l_ib hC hX hi (k := 6) (by decide) (by decide) rL_1811 ?_
  refine l_inM (av := [(0, SX xs (i + 1)), (0, SX xs (i + 2)), (0, SX xs (i + 3)), (0, SX xs (i + 4)), (0, SX xs (i + 5)), (0, SX xs (i + 6))]) (t := 0) hC dL_1817 kL_183 rfl (m_X12_parted ⟨by decide, by decide⟩ _ _ _ _ _ _ _) e2 rfl rfl (skw_1 _ _) ⟨by decide, by decide⟩ rfl ?_
  exact b_icmp_eq (tgt := 2059) hC dL_1820 rfl (fun _ => kk _ _ h1) (fun q => absurd rfl q)
theorem l_c38 (hC : Cx g p s m meth c RL code 4) (hX : Scr g b L xs s) (hi : 0 ≤ i ∧ i + 9 ≤ L) (h : R Mx Mm) (kk : ∀ Mx1 Mm1 : Mem, R Mx1 Mm1 → LW g p e s m args below meth c Q b 2059 i [] (mix true Mx1 Mm1)) : LW g p e s m args below meth c Q b 1825 i [] (mix true Mx Mm) := by
  obtain ⟨r, Mx1, Mm1, e1, e2, h1⟩ := J_next h (SX xs (i + 1)) (SX xs (i + 2)) (SX xs (i + 3)) (SX xs (i + 4))
  refine l_al1 hC dL_1825 ?_
  refine l_in hC hX hi (k := 1) (by decide) rL_1826 ?_
  refine l_in hC hX hi (k := 2) (by decide) rL_1831 ?_
  refine l_in hC hX hi (k := 3) (by decide) rL_1836 ?_
  refine l_in hC hX hi (k := 4) (by decide) rL_1841 ?_
  refine l_inX (av := [(0, SX xs (i + 1)), (0, SX xs (i + 2)), (0, SX xs (i + 3)), (0, SX xs (i + 4))]) (t := 0) hC dL_1846 kL_184 rfl (m_X11_next ⟨by decide, by decide⟩ _ _ _ _ _) e1 rfl rfl (by decide) ⟨by decide, by decide⟩ rfl ?_
  refine l_al2 hC dL_1849 ?_
  refine l_in hC hX hi (k := 1) (by decide) rL_1850 ?_
  refine l_in hC hX hi (k := 2) (by decide) rL_1855 ?_
  refine l_in hC hX hi (k := 3) (by decide) rL_1860 ?_
  refine l_in hC hX hi (k := 4) (by decide) rL_1865 ?_
  refine l_inM (av := [(0, SX xs (i + 1)), (0, SX xs (i + 2)), (0, SX xs (i + 3)), (0, SX xs (i + 4))]) (t := 0) hC dL_1870 kL_188 rfl (m_X12_next ⟨by decide, by decide⟩ _ _ _ _ _) e2 rfl rfl (skw_1 _ _) ⟨by decide, by decide⟩ rfl ?_
  exact b_icmp_eq (tgt := 2059) hC dL_1873 rfl (fun _ => kk _ _ h1) (fun q => absurd rfl q)
theorem l_c39 (hC : Cx g p s m meth c RL code 4) (hX : Scr g b L xs s) (hi : 0 ≤ i ∧ i + 9 ≤ L) (h : R Mx Mm) (kk : ∀ Mx1 Mm1 : Mem, R Mx1 Mm1 → LW g p e s m args below meth c Q b 2059 i [] (mix true Mx1 Mm1)) : LW g p e s m args below meth c Q b 1878 i [] (mix true Mx Mm) := by
  obtain ⟨r, Mx1, Mm1, e1, e2, h1⟩ := J_chair h (SX xs (i + 1)) (SX xs (i + 2)) (bz_01 _)
  refine l_al1 hC dL_1878 ?_
  refine l_in hC hX hi (k := 1) (by decide) rL_1879 ?_
  refine l_in hC hX hi (k := 2) (by decide) rL_1884 ?_
  refine l_in hC hX hi (k := 3) (by decide) rL_1889 ?_
  refine l_iz hC zL_1894 ?_
  refine l_inX (av := [(0, SX xs (i + 1)), (0, SX xs (i + 2)), (0, bz (SX xs (i + 3)))]) (t := 0) hC dL_1902 kL_189 rfl (m_X11_chair ⟨by decide, by decide⟩ _ _ _ _) e1 rfl rfl (by decide) ⟨by decide, by decide⟩ rfl ?_
  refine l_al2 hC dL_1905 ?_
  refine l_in hC hX hi (k := 1) (by decide) rL_1906 ?_
  refine l_in hC hX hi (k := 2) (by decide) rL_1911 ?_
  refine l_in hC hX hi (k := 3) (by decide) rL_1916 ?_
  refine l_iz hC zL_1921 ?_
  refine l_inM (av := [(0, SX xs (i + 1)), (0, SX xs (i + 2)), (0, bz (SX xs (i + 3)))]) (t := 0) hC dL_1929 kL_192 rfl (m_X12_chair ⟨by decide, by decide⟩ _ _ _ _) e2 rfl rfl (skw_1 _ _) ⟨by decide, by decide⟩ rfl ?_
  exact b_icmp_eq (tgt := 2059) hC dL_1932 rfl (fun _ => kk _ _ h1) (fun q => absurd rfl q)
theorem l_c40 (hC : Cx g p s m meth c RL code 4) (hX : Scr g b L xs s) (hi : 0 ≤ i ∧ i + 9 ≤ L) (h : R Mx Mm) (kk : ∀ Mx1 Mm1 : Mem, R Mx1 Mm1 → LW g p e s m args below meth c Q b 2059 i [] (mix true Mx1 Mm1)) : LW g p e s m args below meth c Q b 1937 i [] (mix true Mx Mm) := by
  obtain ⟨r, Mx1, Mm1, e1, e2, h1⟩ := J_walks h (SX xs (i + 1))
  refine l_al1 hC dL_1937 ?_
  refine l_in hC hX hi (k := 1) (by decide) rL_1938 ?_
  refine l_inX (av := [(0, SX xs (i + 1))]) (t := 0) hC dL_1943 kL_193 rfl (m_X11_walks ⟨by decide, by decide⟩ _ _) e1 rfl rfl (by decide) ⟨by decide, by decide⟩ rfl ?_
  refine l_al2 hC dL_1946 ?_
  refine l_in hC hX hi (k := 1) (by decide) rL_1947 ?_
  refine l_inM (av := [(0, SX xs (i + 1))]) (t := 0) hC dL_1952 kL_196 rfl (m_X12_walks ⟨by decide, by decide⟩ _ _) e2 rfl rfl (skw_1 _ _) ⟨by decide, by decide⟩ rfl ?_
  exact b_icmp_eq (tgt := 2059) hC dL_1955 rfl (fun _ => kk _ _ h1) (fun q => absurd rfl q)
theorem l_c41 (hC : Cx g p s m meth c RL code 4) (hX : Scr g b L xs s) (hi : 0 ≤ i ∧ i + 9 ≤ L) (h : R Mx Mm) (kk : ∀ Mx1 Mm1 : Mem, R Mx1 Mm1 → LW g p e s m args below meth c Q b 2059 i [] (mix true Mx1 Mm1)) : LW g p e s m args below meth c Q b 1960 i [] (mix true Mx Mm) := by
  obtain ⟨r, Mx1, Mm1, e1, e2, h1⟩ := J_walk h (SX xs (i + 1)) (bz (SX xs (i + 2)))
  refine l_al1 hC dL_1960 ?_
  refine l_in hC hX hi (k := 1) (by decide) rL_1961 ?_
  refine l_in hC hX hi (k := 2) (by decide) rL_1966 ?_
  refine l_iz hC zL_1971 ?_
  refine l_inX (av := [(0, SX xs (i + 1)), (0, bz (SX xs (i + 2)))]) (t := 1) hC dL_1979 kL_197 rfl (m_X11_walk ⟨by decide, by decide⟩ _ _ _) e1 rfl rfl (by decide) ⟨by decide, by decide⟩ rfl ?_
  refine l_al2 hC dL_1982 ?_
  refine l_in hC hX hi (k := 1) (by decide) rL_1983 ?_
  refine l_in hC hX hi (k := 2) (by decide) rL_1988 ?_
  refine l_iz hC zL_1993 ?_
  refine l_inM (av := [(0, SX xs (i + 1)), (0, bz (SX xs (i + 2)))]) (t := 1) hC dL_2001 kL_201 rfl (m_X12_walk ⟨by decide, by decide⟩ _ _ _) e2 rfl rfl (skw_1 _ _) ⟨by decide, by decide⟩ rfl ?_
  refine b_lcmp hC dL_2004 ?_
  exact b_if_eq (tgt := 2059) hC dL_2005 rfl (fun _ => kk _ _ h1) (fun q => absurd (cmpI_self r) q)
theorem l_c42 (hC : Cx g p s m meth c RL code 4) (hX : Scr g b L xs s) (hi : 0 ≤ i ∧ i + 9 ≤ L) (h : R Mx Mm) (kk : ∀ Mx1 Mm1 : Mem, R Mx1 Mm1 → LW g p e s m args below meth c Q b 2059 i [] (mix true Mx1 Mm1)) : LW g p e s m args below meth c Q b 2010 i [] (mix true Mx Mm) := by
  obtain ⟨r, Mx1, Mm1, e1, e2, h1⟩ := J_image h 
  refine l_al1 hC dL_2010 ?_
  refine l_inX (av := []) (t := 0) hC dL_2011 kL_202 rfl (m_X11_image ⟨by decide, by decide⟩ _ ) e1 rfl rfl (by decide) ⟨by decide, by decide⟩ rfl ?_
  refine l_al2 hC dL_2014 ?_
  refine l_inM (av := []) (t := 0) hC dL_2015 kL_205 rfl (m_X12_image ⟨by decide, by decide⟩ _ ) e2 rfl rfl (skw_1 _ _) ⟨by decide, by decide⟩ rfl ?_
  exact b_icmp_eq (tgt := 2059) hC dL_2018 rfl (fun _ => kk _ _ h1) (fun q => absurd rfl q)
theorem l_c43 (hC : Cx g p s m meth c RL code 4) (hX : Scr g b L xs s) (hi : 0 ≤ i ∧ i + 9 ≤ L) (h : R Mx Mm) (kk : ∀ Mx1 Mm1 : Mem, R Mx1 Mm1 → LW g p e s m args below meth c Q b 2059 i [] (mix true Mx1 Mm1)) : LW g p e s m args below meth c Q b 2023 i [] (mix true Mx Mm) := by
  obtain ⟨r, Mx1, Mm1, e1, e2, h1⟩ := J_octet h (SX xs (i + 1))
  refine l_al1 hC dL_2023 ?_
  refine l_in hC hX hi (k := 1) (by decide) rL_2024 ?_
  refine l_inX (av := [(0, SX xs (i + 1))]) (t := 0) hC dL_2029 kL_206 rfl (m_X11_octet ⟨by decide, by decide⟩ _ _) e1 rfl rfl (by decide) ⟨by decide, by decide⟩ rfl ?_
  refine l_al2 hC dL_2032 ?_
  refine l_in hC hX hi (k := 1) (by decide) rL_2033 ?_
  refine l_inM (av := [(0, SX xs (i + 1))]) (t := 0) hC dL_2038 kL_209 rfl (m_X12_octet ⟨by decide, by decide⟩ _ _) e2 rfl rfl (skw_1 _ _) ⟨by decide, by decide⟩ rfl ?_
  exact b_icmp_eq (tgt := 2059) hC dL_2041 rfl (fun _ => kk _ _ h1) (fun q => absurd rfl q)
theorem l_c44 (hC : Cx g p s m meth c RL code 4) (hX : Scr g b L xs s) (hi : 0 ≤ i ∧ i + 9 ≤ L) (h : R Mx Mm) (kk : ∀ Mx1 Mm1 : Mem, R Mx1 Mm1 → LW g p e s m args below meth c Q b 2059 i [] (mix true Mx1 Mm1)) : LW g p e s m args below meth c Q b 2046 i [] (mix true Mx Mm) := by
  obtain ⟨r, Mx1, Mm1, e1, e2, h1⟩ := J_on h 
  refine l_al1 hC dL_2046 ?_
  refine l_inX (av := []) (t := 0) hC dL_2047 kL_210 rfl (m_X11_on ⟨by decide, by decide⟩ _ ) e1 rfl rfl (by decide) ⟨by decide, by decide⟩ rfl ?_
  refine l_al2 hC dL_2050 ?_
  refine l_inM (av := []) (t := 0) hC dL_2051 kL_214 rfl (m_X12_on ⟨by decide, by decide⟩ _ ) e2 rfl rfl (skw_1 _ _) ⟨by decide, by decide⟩ rfl ?_
  exact b_icmp_eq (tgt := 2059) hC dL_2054 rfl (fun _ => kk _ _ h1) (fun q => absurd rfl q)
end LC
