def f_X0_trialAt (M : Mem) (a1 : Int) : Res :=
  if a1 < 0 then (some (0, M))
  else (if (M 21 1) ≤ a1 then (some (0, M))
  else (ok (0 ≤ a1 ∧ a1 < 40) (some (23 + a1, M))))
def f_X0_nextFree (M : Mem) : Res :=
  if 40 ≤ (M 21 1) then (some (0, M))
  else (ok (0 ≤ M 21 1 ∧ M 21 1 < 40) (some (23 + (M 21 1), M)))
def f_X1_putChair (M : Mem) (a1 a2 : Int) : Res :=
  ok (0 ≤ a1 ∧ a1 < 96) (if (M 64 a1) = a2 then (some (0, M))
  else (ok (a2 = 0 ∨ a2 = 1) (bm (st M 64 a1 a2) (fun M5 =>
  if a2 = 0 then (ok (in32 ((M5 63 3) + (-1))) (bm (st M5 63 3 ((M5 63 3) + (-1))) (fun M9 =>
  some (1, M9))))
  else (ok (in32 ((M5 63 3) + 1)) (bm (st M5 63 3 ((M5 63 3) + 1)) (fun M11 =>
  some (1, M11))))))))
def f_X11_squareAt (M : Mem) (a0 a1 : Int) : Res :=
  ok (in32 (12 * a1)) (ok (in32 ((12 * a1) + a0)) (some ((12 * a1) + a0, M)))
def j_X1_cameFrom_27 (a1 a2 : Int) (M : Mem) (s0 : Int) : Res :=
  if a2 = 0 then (ok (0 ≤ a1 ∧ a1 < 8) (some (M 65 a1, M)))
  else (ok (0 ≤ a1 ∧ a1 < 8) (ok (in64 (s0 * (M 65 a1))) (some (s0 * (M 65 a1), M))))
def j_X1_cameFrom_22 (a1 a2 : Int) (M : Mem) : Res :=
  j_X1_cameFrom_27 a1 a2 M 3
def f_X1_cameFrom (M : Mem) (a1 a2 : Int) : Res :=
  if a1 < 0 then (some (0, M))
  else (if a1 < 8 then (if a1 = 0 then (j_X1_cameFrom_22 a1 a2 M)
  else (if a1 = 7 then (j_X1_cameFrom_22 a1 a2 M)
  else (j_X1_cameFrom_27 a1 a2 M 2)))
  else (some (0, M)))
def b_X1_stepTo_67 (w67 : Mem → Int → Res) (M : Mem) (x3 : Int) : Res :=
  if 8 ≤ x3 then (some (0, M))
  else (ok (0 ≤ x3 ∧ x3 < 8) (bm (st M 65 x3 (M 66 x3)) (fun M6 =>
  bi (x3 + 1) (fun y7 =>
  w67 M6 y7))))
def b_X1_stepTo_2 (a1 a2 : Int) (w2 : Mem → Int → Res) (M : Mem) (x3 : Int) : Res :=
  if 8 ≤ x3 then (wl1 (b_X1_stepTo_67) FU M 0)
  else (ok (in32 (x3 - 1)) (cl (f_X1_cameFrom M (x3 - 1) a2) (fun r9 M10 =>
  cl (f_X1_cameFrom M10 x3 a2) (fun r11 M12 =>
  ok (in64 (r9 + r11)) (ok (in32 (x3 + 1)) (cl (f_X1_cameFrom M12 (x3 + 1) a2) (fun r15 M16 =>
  ok (in64 ((r9 + r11) + r15)) (bi ((r9 + r11) + r15) (fun y18 =>
  cl (f_X11_squareAt M16 a1 x3) (fun r19 M20 =>
  ok (0 ≤ r19 ∧ r19 < 96) (if (M20 64 r19) = 0 then (ok (0 ≤ x3 ∧ x3 < 8) (bm (st M20 66 x3 y18) (fun M25 =>
  bi (x3 + 1) (fun y26 =>
  w2 M25 y26))))
  else (ok (0 ≤ x3 ∧ x3 < 8) (bm (st M20 66 x3 0) (fun M28 =>
  bi (x3 + 1) (fun y29 =>
  w2 M28 y29)))))))))))))))
def f_X1_stepTo (M : Mem) (a1 a2 : Int) : Res :=
  wl1 (b_X1_stepTo_2 a1 a2) FU M 0
def b_X1_passed_68 (w68 : Mem → Int → Int → Res) (M : Mem) (x3 x5 : Int) : Res :=
  if 8 ≤ x5 then (some (x3, M))
  else (ok (0 ≤ x5 ∧ x5 < 8) (ok (in64 (x3 + (M 65 x5))) (bi (x3 + (M 65 x5)) (fun y9 =>
  bi (x5 + 1) (fun y10 =>
  w68 M y9 y10)))))
def b_X1_passed_45 (a2 : Int) (w45 : Mem → Int → Res) (M : Mem) (x3 : Int) : Res :=
  if 12 ≤ x3 then (wl2 (b_X1_passed_68) FU M 0 0)
  else (cl (f_X1_stepTo M x3 a2) (fun r11 M12 =>
  ok (in32 (x3 + 1)) (bi (x3 + 1) (fun y14 =>
  w45 M12 y14))))
def b_X1_passed_2 (a1 a2 : Int) (w2 : Mem → Int → Res) (M : Mem) (x3 : Int) : Res :=
  if 8 ≤ x3 then (wl1 (b_X1_passed_45 a2) FU M 1)
  else (if x3 = a1 then (cl (f_X11_squareAt M 0 x3) (fun r17 M18 =>
  ok (0 ≤ r17 ∧ r17 < 96) (if (M18 64 r17) = 0 then (ok (0 ≤ x3 ∧ x3 < 8) (bm (st M18 65 x3 1) (fun M23 =>
  bi (x3 + 1) (fun y24 =>
  w2 M23 y24))))
  else (ok (0 ≤ x3 ∧ x3 < 8) (bm (st M18 65 x3 0) (fun M26 =>
  bi (x3 + 1) (fun y27 =>
  w2 M26 y27)))))))
  else (ok (0 ≤ x3 ∧ x3 < 8) (bm (st M 65 x3 0) (fun M29 =>
  bi (x3 + 1) (fun y30 =>
  w2 M29 y30)))))
def f_X1_passed (M : Mem) (a1 a2 : Int) : Res :=
  wl1 (b_X1_passed_2 a1 a2) FU M 0
def f_J9_max_7cf53 (M : Mem) (a0 a1 : Int) : Res :=
  if a0 < a1 then (some (a1, M))
  else (some (a0, M))
def f_X2_roll (M : Mem) (a1 : Int) : Res :=
  ok (in64 (1103515245 * (M 67 0))) (ok (in64 ((1103515245 * (M 67 0)) + 12345)) (ok (0 ≤ (1103515245 * (M 67 0)) + 12345) (bm (st M 67 0 (((1103515245 * (M 67 0)) + 12345) % 2147483648)) (fun M4 =>
  ok (0 ≤ M4 67 0) (cl (f_J9_max_7cf53 M4 1 a1) (fun r6 M7 =>
  ok (0 ≤ (M4 67 0) / 256 ∧ 0 < r6) (ok (in32 (((M4 67 0) / 256) % r6)) (some (((M4 67 0) / 256) % r6, M7)))))))))
def f_X2_guess (M : Mem) (a1 a2 a3 : Int) : Res :=
  cl (f_X2_roll M 100) (fun r1 M2 =>
  if a1 ≤ r1 then (cl (f_X2_roll M2 a3) (fun r5 M6 =>
  some (r5, M6)))
  else (some (a2, M2)))
def b_X3_discOf_5 (a0 : Int) (w5 : Mem → Int → Int → Res) (M : Mem) (x1 x2 : Int) : Res :=
  if (M a0 1) ≤ x2 then (some (x1, M))
  else (ok (0 ≤ x2 ∧ x2 < 40) (if (M (a0 + 4 + x2) 0) = 1 then (cl (f_X11_squareAt M (M (a0 + 4 + x2) 3) (M (a0 + 4 + x2) 4)) (fun r6 M7 =>
  bi (x2 + 1) (fun y8 =>
  w5 M7 r6 y8)))
  else (bi (x2 + 1) (fun y9 =>
  w5 M x1 y9))))
def f_X3_discOf (M : Mem) (a0 : Int) : Res :=
  wl2 (b_X3_discOf_5 a0) FU M 95 0
def b_X6_putNothing_2 (w2 : Mem → Int → Res) (M : Mem) (x1 : Int) : Res :=
  if 21 ≤ x1 then (some (0, M))
  else (ok (0 ≤ x1 ∧ x1 < 21) (bm (st M 11 x1 0) (fun M4 =>
  bi (x1 + 1) (fun y5 =>
  w2 M4 y5))))
def f_X6_putNothing (M : Mem) : Res :=
  wl1 (b_X6_putNothing_2) FU M 0
def f_X6_putSquare (M : Mem) (a1 : Int) : Res :=
  ok (0 ≤ a1) (bm (st M 11 14 (a1 % 12)) (fun M2 =>
  bm (st M2 11 15 (a1 / 12)) (fun M3 =>
  some (0, M3))))
def f_X6_isPart (M : Mem) (a0 : Int) : Res :=
  if a0 = 0 then (some (1, M))
  else (if a0 < 14 then (some (0, M))
  else (if 18 < a0 then (some (0, M))
  else (some (1, M))))
def f_X11_clamped (M : Mem) (a0 a1 a2 : Int) : Res :=
  if a1 ≤ a0 then (if a0 ≤ a2 then (some (a0, M))
  else (some (a2, M)))
  else (some (a1, M))
def f_X6_product (M : Mem) (a0 a1 : Int) : Res :=
  ok (in64 (a0 * a1)) (bi (a0 * a1) (fun y2 =>
  if y2 ≤ 1000000 then (if (-1000000) ≤ y2 then (ok (in32 (y2)) (some (y2, M)))
  else (some ((-1000000), M)))
  else (some (1000000, M))))
def f_J9_floorDiv_7cf53 (M : Mem) (a0 a1 : Int) : Res :=
  ok (a1 ≠ 0) (ok (in32 (a0.tdiv a1)) (bi (a0.tdiv a1) (fun y3 =>
  if 0 ≤ (ixor a0 a1) then (some (y3, M))
  else (ok (in32 (y3 * a1)) (if (y3 * a1) = a0 then (some (y3, M))
  else (ok (in32 (y3 - 1)) (some (y3 - 1, M))))))))
def f_J9_min_7cf53 (M : Mem) (a0 a1 : Int) : Res :=
  if a1 < a0 then (some (a1, M))
  else (some (a0, M))
def f_X6_joined (M : Mem) (a0 a1 a2 : Int) : Res :=
  if a0 = 10 then (some (ior a1 a2, M))
  else (if a0 = 11 then (some (iand a1 a2, M))
  else (if a0 = 19 then (cl (f_J9_min_7cf53 M a1 a2) (fun r7 M8 =>
  some (r7, M8)))
  else (if a0 = 20 then (cl (f_J9_max_7cf53 M a1 a2) (fun r11 M12 =>
  some (r11, M12)))
  else (if a0 = 42 then (cl (f_X6_product M a1 a2) (fun r15 M16 =>
  some (r15, M16)))
  else (if a0 = 43 then (ok (in32 (a1 + a2)) (cl (f_X11_clamped M (a1 + a2) (-1000000) 1000000) (fun r20 M21 =>
  some (r20, M21))))
  else (if a0 = 45 then (ok (in32 (a1 - a2)) (cl (f_X11_clamped M (a1 - a2) (-1000000) 1000000) (fun r25 M26 =>
  some (r25, M26))))
  else (if a0 = 47 then (if a2 = 0 then (some (0, M))
  else (cl (f_J9_floorDiv_7cf53 M a1 a2) (fun r31 M32 =>
  some (r31, M32))))
  else (if a0 = 60 then (if a2 ≤ a1 then (some (0, M))
  else (some (1, M)))
  else (if a0 = 61 then (if a1 = a2 then (some (1, M))
  else (some (0, M)))
  else (if a0 = 62 then (if a1 ≤ a2 then (some (0, M))
  else (some (1, M)))
  else (some (0, M))))))))))))
def j_X6_reckon_177 (M : Mem) (x4 : Int) : Res :=
  if x4 ≤ 0 then (some (0, M))
  else (ok (in32 (x4 - 1)) (ok (0 ≤ x4 - 1 ∧ x4 - 1 < 64) (some (M 12 (x4 - 1), M))))
def j_X6_reckon_132 (a1 a3 : Int) (w10 : Mem → Int → Int → Res) (M : Mem) (x4 x5 x7 : Int) : Res :=
  if x4 ≤ 1 then (ok (in32 (x5 + 1)) (bi (x5 + 1) (fun y25 =>
  w10 M x4 y25)))
  else (ok (in32 (x4 + (-1))) (bi (x4 + (-1)) (fun y27 =>
  ok (in32 (y27 - 1)) (ok (0 ≤ y27 - 1 ∧ y27 - 1 < 64) (ok (0 ≤ y27 ∧ y27 < 64) (cl (f_X6_joined M x7 (M 12 (y27 - 1)) (M 12 y27)) (fun r31 M32 =>
  bm (st M32 12 (y27 - 1) r31) (fun M33 =>
  ok (in32 (x5 + 1)) (bi (x5 + 1) (fun y35 =>
  w10 M33 y27 y35))))))))))
def j_X6_reckon_97 (a1 a3 : Int) (w10 : Mem → Int → Int → Res) (M : Mem) (x4 x5 x7 : Int) : Res :=
  if x7 = 12 then (if x4 ≤ 0 then (j_X6_reckon_132 a1 a3 w10 M x4 x5 x7)
  else (ok (in32 (x4 - 1)) (ok (0 ≤ x4 - 1 ∧ x4 - 1 < 64) (ok (in32 (1 - (M 12 (x4 - 1)))) (bm (st M 12 (x4 - 1) (1 - (M 12 (x4 - 1)))) (fun M39 =>
  ok (in32 (x5 + 1)) (bi (x5 + 1) (fun y41 =>
  w10 M39 x4 y41))))))))
  else (j_X6_reckon_132 a1 a3 w10 M x4 x5 x7)
def j_X6_reckon_53 (a1 a3 : Int) (w10 : Mem → Int → Int → Res) (M : Mem) (x4 x5 x6 x7 s0 : Int) : Res :=
  if s0 = 0 then (j_X6_reckon_97 a1 a3 w10 M x4 x5 x7)
  else (if 64 ≤ x4 then (j_X6_reckon_97 a1 a3 w10 M x4 x5 x7)
  else (if x6 < 0 then (ok (0 ≤ x7 ∧ x7 < 21) (ok (0 ≤ x4 ∧ x4 < 64) (bm (st M 12 x4 (M 11 x7)) (fun M48 =>
  bi (x4 + 1) (fun y49 =>
  ok (in32 (x5 + 1)) (bi (x5 + 1) (fun y51 =>
  w10 M48 y49 y51)))))))
  else (ok (0 ≤ x4 ∧ x4 < 64) (bm (st M 12 x4 x6) (fun M53 =>
  bi (x4 + 1) (fun y54 =>
  ok (in32 (x5 + 1)) (bi (x5 + 1) (fun y56 =>
  w10 M53 y54 y56))))))))
def j_X6_reckon_48 (a1 a3 : Int) (w10 : Mem → Int → Int → Res) (M : Mem) (x4 x5 x6 x7 : Int) : Res :=
  j_X6_reckon_53 a1 a3 w10 M x4 x5 x6 x7 1
def b_X6_reckon_10 (a1 a3 : Int) (w10 : Mem → Int → Int → Res) (M : Mem) (x4 x5 : Int) : Res :=
  if a3 ≤ x5 then (j_X6_reckon_177 M x4)
  else (if 900 ≤ x5 then (j_X6_reckon_177 M x4)
  else (ok (0 ≤ x5 ∧ x5 < 900) (bi (M a1 x5) (fun y12 =>
  bi (ixor y12 (-1)) (fun y13 =>
  if 0 ≤ y12 then (j_X6_reckon_48 a1 a3 w10 M x4 x5 y12 y13)
  else (cl (f_X6_isPart M y13) (fun r57 M58 =>
  if r57 = 0 then (j_X6_reckon_53 a1 a3 w10 M58 x4 x5 y12 y13 0)
  else (j_X6_reckon_48 a1 a3 w10 M58 x4 x5 y12 y13))))))))
def f_X6_reckon (M : Mem) (a1 a2 a3 : Int) : Res :=
  cl (f_J9_max_7cf53 M 0 a2) (fun r1 M2 =>
  wl2 (b_X6_reckon_10 a1 a3) FU M2 0 r1)
def b_X7_firstSum_3 (a0 a1 a3 : Int) (w3 : Mem → Int → Res) (M : Mem) (x4 : Int) : Res :=
  if (M a0 1) ≤ x4 then (some (a3, M))
  else (ok (0 ≤ x4 ∧ x4 < 40) (if (M (a0 + 4 + x4) 0) = a1 then (cl (f_X6_reckon M (a0 + 3) (M (a0 + 4 + x4) 7) (M (a0 + 4 + x4) 8)) (fun r6 M7 =>
  if r6 = 0 then (bi (x4 + 1) (fun y10 =>
  w3 M7 y10))
  else (cl (f_X6_reckon M7 (a0 + 3) (M7 (a0 + 4 + x4) 6) (M7 (a0 + 4 + x4) 7)) (fun r11 M12 =>
  some (r11, M12)))))
  else (bi (x4 + 1) (fun y13 =>
  w3 M y13))))
def f_X7_firstSum (M : Mem) (a0 a1 a3 : Int) : Res :=
  wl1 (b_X7_firstSum_3 a0 a1 a3) FU M 0
def f_X3_await (M : Mem) (a1 : Int) : Res :=
  if a1 < 0 then (some (0, M))
  else (if 96 ≤ a1 then (some (0, M))
  else (if (M 14 a1) = 0 then (some (0, M))
  else (if (M 15 a1) = (-1) then (bm (st M 15 a1 (M 13 8)) (fun M9 =>
  ok (0 ≤ M9 13 8 ∧ M9 13 8 < 96) (ok (in32 ((M9 16 (M9 13 8)) + 1)) (bm (st M9 16 (M9 13 8) ((M9 16 (M9 13 8)) + 1)) (fun M12 =>
  ok (0 ≤ M12 13 7 ∧ M12 13 7 < 96) (bm (st M12 18 (M12 13 7) a1) (fun M14 =>
  ok (in32 ((M14 13 7) + 1)) (bm (st M14 13 7 ((M14 13 7) + 1)) (fun M16 =>
  some (0, M16))))))))))
  else (some (0, M)))))
def j_X3_gather_65 (w12 : Mem → Int → Res) (M : Mem) (x2 x3 : Int) : Res :=
  ok (in32 (x3 - 12)) (cl (f_X3_await M (x3 - 12)) (fun r17 M18 =>
  ok (in32 (x3 + 12)) (cl (f_X3_await M18 (x3 + 12)) (fun r20 M21 =>
  ok (in32 (x2 + 1)) (bi (x2 + 1) (fun y23 =>
  w12 M21 y23))))))
def j_X3_gather_51 (w12 : Mem → Int → Res) (M : Mem) (x2 x3 x4 : Int) : Res :=
  if 11 ≤ x4 then (j_X3_gather_65 w12 M x2 x3)
  else (ok (in32 (x3 + 1)) (cl (f_X3_await M (x3 + 1)) (fun r25 M26 =>
  j_X3_gather_65 w12 M26 x2 x3)))
def b_X3_gather_12 (w12 : Mem → Int → Res) (M : Mem) (x2 : Int) : Res :=
  if (M 13 7) ≤ x2 then (some (0, M))
  else (if 96 ≤ x2 then (some (0, M))
  else (ok (0 ≤ x2 ∧ x2 < 96) (bi (M 18 x2) (fun y9 =>
  ok (0 ≤ y9) (bi (y9 % 12) (fun y11 =>
  if y11 ≤ 0 then (j_X3_gather_51 w12 M x2 y9 y11)
  else (ok (in32 (y9 - 1)) (cl (f_X3_await M (y9 - 1)) (fun r28 M29 =>
  j_X3_gather_51 w12 M29 x2 y9 y11)))))))))
def f_X3_gather (M : Mem) (a1 : Int) : Res :=
  bm (st M 13 7 0) (fun M1 =>
  cl (f_X3_await M1 a1) (fun r2 M3 =>
  wl1 (b_X3_gather_12) FU M3 0))
def j_X3_partPieces_91 (w12 : Mem → Int → Res) (M : Mem) (x1 : Int) : Res :=
  bm (st M 13 9 (M 13 8)) (fun M19 =>
  ok (in32 ((M19 13 8) + 1)) (bm (st M19 13 8 ((M19 13 8) + 1)) (fun M21 =>
  ok (in32 (x1 + 1)) (bi (x1 + 1) (fun y23 =>
  w12 M21 y23)))))
def b_X3_partPieces_12 (w12 : Mem → Int → Res) (M : Mem) (x1 : Int) : Res :=
  if 96 ≤ x1 then (some (0, M))
  else (ok (0 ≤ x1 ∧ x1 < 96) (if (M 14 x1) ≤ 0 then (bi (x1 + 1) (fun y8 =>
  w12 M y8))
  else (if (M 15 x1) = (-1) then (ok (0 ≤ M 13 8 ∧ M 13 8 < 96) (bm (st M 17 (M 13 8) x1) (fun M12 =>
  ok (0 ≤ M12 13 8 ∧ M12 13 8 < 96) (bm (st M12 16 (M12 13 8) 0) (fun M14 =>
  cl (f_X3_gather M14 x1) (fun r15 M16 =>
  if (M16 13 9) = (-1) then (j_X3_partPieces_91 w12 M16 x1)
  else (ok (0 ≤ M16 13 8 ∧ M16 13 8 < 96) (ok (0 ≤ M16 13 9 ∧ M16 13 9 < 96) (if (M16 16 (M16 13 8)) ≤ (M16 16 (M16 13 9)) then (bm (st M16 13 8 ((M16 13 8) + 1)) (fun M28 =>
  bi (x1 + 1) (fun y29 =>
  w12 M28 y29)))
  else (j_X3_partPieces_91 w12 M16 x1))))))))))
  else (bi (x1 + 1) (fun y30 =>
  w12 M y30)))))
def f_X3_partPieces (M : Mem) : Res :=
  bm (st M 13 8 0) (fun M1 =>
  bm (st M1 13 9 (-1)) (fun M2 =>
  wl1 (b_X3_partPieces_12) FU M2 0))
def j_X3_build_80 (a1 : Int) (w19 : Mem → Int → Res) (M : Mem) (x3 s0 s1 : Int) : Res :=
  ok (in32 (s1 + s0)) (bm (st M 13 10 (s1 + s0)) (fun M21 =>
  ok (0 ≤ x3 ∧ x3 < 96) (bm (st M21 20 x3 0) (fun M23 =>
  bm (st M23 15 x3 (-1)) (fun M24 =>
  bi (x3 + 1) (fun y25 =>
  w19 M24 y25))))))
def j_X3_build_60 (a1 : Int) (w19 : Mem → Int → Res) (M : Mem) (x3 s0 s1 : Int) : Res :=
  ok (0 ≤ s1 ∧ s1 < 96) (bm (st M 14 s1 s0) (fun M16 =>
  ok (0 ≤ x3 ∧ x3 < 96) (if (M16 14 x3) ≤ 0 then (j_X3_build_80 a1 w19 M16 x3 0 (M16 13 10))
  else (j_X3_build_80 a1 w19 M16 x3 1 (M16 13 10)))))
def b_X3_build_19 (a1 : Int) (w19 : Mem → Int → Res) (M : Mem) (x3 : Int) : Res :=
  if 96 ≤ x3 then (cl (f_X3_partPieces M) (fun r9 M10 =>
  some (0, M10)))
  else (cl (f_X6_putSquare M x3) (fun r11 M12 =>
  if x3 = (M12 13 11) then (j_X3_build_60 a1 w19 M12 x3 0 x3)
  else (cl (f_X7_firstSum M12 a1 0 0) (fun r26 M27 =>
  cl (f_X11_clamped M27 r26 0 9) (fun r28 M29 =>
  j_X3_build_60 a1 w19 M29 x3 r28 x3)))))
def f_X3_build (M : Mem) (a1 : Int) : Res :=
  cl (f_X3_discOf M a1) (fun r1 M2 =>
  bm (st M2 13 11 r1) (fun M3 =>
  cl (f_X6_putNothing M3) (fun r4 M5 =>
  bm (st M5 13 10 0) (fun M6 =>
  wl1 (b_X3_build_19 a1) FU M6 0))))
def f_X3_isIsland (M : Mem) (a1 : Int) : Res :=
  if a1 = (-1) then (some (0, M))
  else (if a1 = (M 13 9) then (some (0, M))
  else (some (1, M)))
def f_X3_isGone (M : Mem) (a1 : Int) : Res :=
  ok (0 ≤ a1 ∧ a1 < 96) (if (M 14 a1) = 0 then (if a1 = (M 13 11) then (some (0, M))
  else (some (1, M)))
  else (some (0, M)))
def b_X3_lookForLight_7 (a1 : Int) (w7 : Mem → Int → Int → Int → Res) (M : Mem) (x2 x3 x4 : Int) : Res :=
  if 96 ≤ x4 then (ok (0 ≤ a1 ∧ a1 < 96) (bm (st M 19 a1 x2) (fun M4 =>
  bm (st M4 20 a1 x3) (fun M5 =>
  some (0, M5)))))
  else (if x4 = a1 then (ok (in32 (x4 + 1)) (bi (x4 + 1) (fun y9 =>
  w7 M x2 x3 y9)))
  else (ok (0 ≤ x4 ∧ x4 < 96) (if (M 14 x4) ≤ 0 then (bi (x4 + 1) (fun y13 =>
  w7 M x2 x3 y13))
  else (ok (0 ≤ a1) (ok (in32 ((x4 % 12) - (a1 % 12))) (bi ((x4 % 12) - (a1 % 12)) (fun y16 =>
  ok (in32 ((x4 / 12) - (a1 / 12))) (bi ((x4 / 12) - (a1 / 12)) (fun y18 =>
  ok (in32 (y16 * y16)) (ok (in32 (1 + (y16 * y16))) (ok (in32 (y18 * y18)) (ok (in32 ((1 + (y16 * y16)) + (y18 * y18))) (bi ((1 + (y16 * y16)) + (y18 * y18)) (fun y23 =>
  ok (in32 ((M 14 x4) * x3)) (ok (in32 (x2 * y23)) (if ((M 14 x4) * x3) ≤ (x2 * y23) then (bi (x4 + 1) (fun y28 =>
  w7 M x2 x3 y28))
  else (bi (M 14 x4) (fun y29 =>
  bi (x4 + 1) (fun y30 =>
  w7 M y29 y23 y30)))))))))))))))))))
def f_X3_lookForLight (M : Mem) (a1 : Int) : Res :=
  wl3 (b_X3_lookForLight_7 a1) FU M 0 1 0
def j_X3_lightAt_14 (a1 a2 : Int) (M : Mem) : Res :=
  ok (0 ≤ a1 ∧ a1 < 96) (ok (in32 (a2 * (M 19 a1))) (cl (f_J9_max_7cf53 M 1 (M 20 a1)) (fun r8 M9 =>
  ok (in32 (9 * r8)) (ok (0 ≤ a2 * (M 19 a1) ∧ 0 < 9 * r8) (some ((a2 * (M 19 a1)) / (9 * r8), M9))))))
def f_X3_lightAt (M : Mem) (a1 a2 : Int) : Res :=
  ok (0 ≤ a1 ∧ a1 < 96) (if (M 20 a1) = 0 then (cl (f_X3_lookForLight M a1) (fun r4 M5 =>
  j_X3_lightAt_14 a1 a2 M5))
  else (j_X3_lightAt_14 a1 a2 M))
def f_X9_at (M : Mem) (a1 : Int) : Res :=
  if a1 < 0 then (some ((-1), M))
  else (if (M 2 1) ≤ a1 then (some ((-1), M))
  else (ok (0 ≤ a1 ∧ a1 < 900) (some (M 3 a1, M))))
def f_X11_isLetter (M : Mem) (a0 : Int) : Res :=
  if a0 < 97 then (some (0, M))
  else (if 122 < a0 then (some (0, M))
  else (some (1, M)))
def b_X11_withLetter_5 (a0 a2 : Int) (w5 : Mem → Int → Int → Res) (M : Mem) (x3 x4 : Int) : Res :=
  if 5 ≤ x4 then (ok (in32 (a2 * x3)) (ok (in32 (a0 + (a2 * x3))) (some (a0 + (a2 * x3), M))))
  else (ok (in32 (x3 * 27)) (bi (x3 * 27) (fun y6 =>
  ok (in32 (x4 + 1)) (bi (x4 + 1) (fun y8 =>
  w5 M y6 y8)))))
def f_X11_withLetter (M : Mem) (a0 a1 a2 : Int) : Res :=
  wl2 (b_X11_withLetter_5 a0 a2) FU M 1 a1
def f_X11_isDigit (M : Mem) (a0 : Int) : Res :=
  if a0 < 48 then (some (0, M))
  else (if 57 < a0 then (some (0, M))
  else (some (1, M)))
def f_X4_isGlued (M : Mem) (a1 : Int) : Res :=
  ok (in32 (a1 - 1)) (cl (f_X9_at M (a1 - 1)) (fun r2 M3 =>
  cl (f_X11_isLetter M3 r2) (fun r4 M5 =>
  if r4 = 0 then (cl (f_X11_isDigit M5 r2) (fun r8 M9 =>
  if r8 = 0 then (some (0, M9))
  else (some (1, M9))))
  else (some (1, M5)))))
def f_X4_add (M : Mem) (a1 a2 a3 : Int) : Res :=
  if 900 < (M 5 5) then (some (0, M))
  else (ok (0 ≤ M 5 5 ∧ M 5 5 < 901) (bm (st M 7 (M 5 5) a1) (fun M4 =>
  ok (0 ≤ M4 5 5 ∧ M4 5 5 < 901) (bm (st M4 8 (M4 5 5) a2) (fun M6 =>
  ok (0 ≤ M6 5 5 ∧ M6 5 5 < 901) (bm (st M6 9 (M6 5 5) a3) (fun M8 =>
  ok (in32 ((M8 5 5) + 1)) (bm (st M8 5 5 ((M8 5 5) + 1)) (fun M10 =>
  some (0, M10))))))))))
def b_X4_ownWordOf_2 (a1 : Int) (w2 : Mem → Int → Res) (M : Mem) (x2 : Int) : Res :=
  if 21 ≤ x2 then (some ((-1), M))
  else (ok (0 ≤ x2 ∧ x2 < 21) (if (fxv 6 x2) = a1 then (some (x2, M))
  else (bi (x2 + 1) (fun y6 =>
  w2 M y6))))
def f_X4_ownWordOf (M : Mem) (a1 : Int) : Res :=
  wl1 (b_X4_ownWordOf_2 a1) FU M 0
def j_X4_addWord_68 (a1 : Int) (M : Mem) (x2 x3 : Int) : Res :=
  cl (f_X4_isGlued M a1) (fun r3 M4 =>
  if r3 = 0 then (ok (in32 (x3 - a1)) (if (x3 - a1) ≤ 6 then (cl (f_X4_ownWordOf M4 x2) (fun r10 M11 =>
  if r10 = (-1) then (cl (f_X4_add M11 1 x2 a1) (fun r14 M15 =>
  some (x3, M15)))
  else (cl (f_X4_ownWordOf M11 x2) (fun r16 M17 =>
  cl (f_X4_add M17 2 r16 a1) (fun r18 M19 =>
  some (x3, M19))))))
  else (cl (f_X4_add M4 5 0 a1) (fun r20 M21 =>
  some (x3, M21)))))
  else (cl (f_X4_add M4 7 0 a1) (fun r22 M23 =>
  some (x3, M23))))
def b_X4_addWord_4 (a1 : Int) (w4 : Mem → Int → Int → Res) (M : Mem) (x2 x3 : Int) : Res :=
  if (M 2 1) ≤ x3 then (j_X4_addWord_68 a1 M x2 x3)
  else (cl (f_X9_at M x3) (fun r24 M25 =>
  cl (f_X11_isLetter M25 r24) (fun r26 M27 =>
  if r26 = 0 then (j_X4_addWord_68 a1 M27 x2 x3)
  else (ok (in32 (x3 - a1)) (if 6 ≤ (x3 - a1) then (ok (in32 (x3 + 1)) (bi (x3 + 1) (fun y34 =>
  w4 M27 x2 y34)))
  else (cl (f_X9_at M27 x3) (fun r35 M36 =>
  ok (in32 (r35 - 97)) (ok (in32 ((r35 - 97) + 1)) (cl (f_X11_withLetter M36 x2 (x3 - a1) ((r35 - 97) + 1)) (fun r39 M40 =>
  ok (in32 (x3 + 1)) (bi (x3 + 1) (fun y42 =>
  w4 M40 r39 y42))))))))))))
def f_X4_addWord (M : Mem) (a1 : Int) : Res :=
  wl2 (b_X4_addWord_4 a1) FU M 0 a1
def j_X4_addNumber_96 (a1 : Int) (M : Mem) (x2 x3 s0 : Int) : Res :=
  cl (f_X4_add M s0 x2 a1) (fun r10 M11 =>
  some (x3, M11))
def j_X4_addNumber_63 (a1 : Int) (M : Mem) (x2 x3 : Int) : Res :=
  cl (f_X4_isGlued M a1) (fun r3 M4 =>
  if r3 = 0 then (ok (in32 (x3 - a1)) (if (x3 - a1) ≤ 4 then (j_X4_addNumber_96 a1 M4 x2 x3 3)
  else (j_X4_addNumber_96 a1 M4 x2 x3 6)))
  else (cl (f_X4_add M4 7 0 a1) (fun r12 M13 =>
  some (x3, M13))))
def b_X4_addNumber_4 (a1 : Int) (w4 : Mem → Int → Int → Res) (M : Mem) (x2 x3 : Int) : Res :=
  if (M 2 1) ≤ x3 then (j_X4_addNumber_63 a1 M x2 x3)
  else (cl (f_X9_at M x3) (fun r14 M15 =>
  cl (f_X11_isDigit M15 r14) (fun r16 M17 =>
  if r16 = 0 then (j_X4_addNumber_63 a1 M17 x2 x3)
  else (ok (in32 (x3 - a1)) (if 4 ≤ (x3 - a1) then (ok (in32 (x3 + 1)) (bi (x3 + 1) (fun y24 =>
  w4 M17 x2 y24)))
  else (ok (in32 (10 * x2)) (cl (f_X9_at M17 x3) (fun r26 M27 =>
  ok (in32 ((10 * x2) + r26)) (ok (in32 (((10 * x2) + r26) - 48)) (bi (((10 * x2) + r26) - 48) (fun y30 =>
  ok (in32 (x3 + 1)) (bi (x3 + 1) (fun y32 =>
  w4 M27 y30 y32)))))))))))))
def f_X4_addNumber (M : Mem) (a1 : Int) : Res :=
  wl2 (b_X4_addNumber_4 a1) FU M 0 a1
def f_X11_isBlank (M : Mem) (a0 : Int) : Res :=
  if a0 = 10 then (some (1, M))
  else (if a0 = 32 then (some (1, M))
  else (some (0, M)))
def j_X4_partTape_77 (w7 : Mem → Int → Res) (M : Mem) (x1 x3 : Int) : Res :=
  ok (in32 (x1 + 1)) (cl (f_J9_max_7cf53 M (x1 + 1) x3) (fun r25 M26 =>
  w7 M26 r25))
def b_X4_partTape_7 (w7 : Mem → Int → Res) (M : Mem) (x1 : Int) : Res :=
  if (M 2 1) ≤ x1 then (cl (f_X4_add M 0 0 (M 2 1)) (fun r4 M5 =>
  some (0, M5)))
  else (cl (f_X9_at M x1) (fun r6 M7 =>
  ok (in32 (x1 + 1)) (bi (x1 + 1) (fun y9 =>
  cl (f_X11_isLetter M7 r6) (fun r10 M11 =>
  if r10 = 0 then (cl (f_X11_isDigit M11 r6) (fun r14 M15 =>
  if r14 = 0 then (cl (f_X11_isBlank M15 r6) (fun r18 M19 =>
  if r18 = 0 then (cl (f_X4_add M19 4 r6 x1) (fun r22 M23 =>
  j_X4_partTape_77 w7 M23 x1 y9))
  else (j_X4_partTape_77 w7 M19 x1 y9)))
  else (cl (f_X4_addNumber M15 x1) (fun r27 M28 =>
  j_X4_partTape_77 w7 M28 x1 r27))))
  else (cl (f_X4_addWord M11 x1) (fun r29 M30 =>
  j_X4_partTape_77 w7 M30 x1 r29)))))))
def f_X4_partTape (M : Mem) : Res :=
  bm (st M 5 5 0) (fun M1 =>
  wl1 (b_X4_partTape_7) FU M1 0)
def f_X7_empty (M : Mem) (a0 : Int) : Res :=
  bm (st M a0 1 0) (fun M1 =>
  bm (st M1 a0 3 0) (fun M2 =>
  bm (st M2 a0 5 0) (fun M3 =>
  some (0, M3))))
def j_X5_step_26 (M : Mem) : Res :=
  ok (0 ≤ M 4 6 ∧ M 4 6 < 901) (bm (st M 4 7 (M 7 (M 4 6))) (fun M5 =>
  ok (0 ≤ M5 4 6 ∧ M5 4 6 < 901) (bm (st M5 4 8 (M5 8 (M5 4 6))) (fun M7 =>
  ok (0 ≤ M7 4 6 ∧ M7 4 6 < 901) (bm (st M7 4 9 (M7 9 (M7 4 6))) (fun M9 =>
  if (M9 4 7) = 2 then (bm (st M9 4 10 (M9 4 8)) (fun M12 =>
  some (0, M12)))
  else (bm (st M9 4 10 (-1)) (fun M13 =>
  some (0, M13)))))))))
def f_X5_step (M : Mem) : Res :=
  ok (in32 ((M 5 5) - 1)) (if ((M 5 5) - 1) ≤ (M 4 6) then (j_X5_step_26 M)
  else (ok (in32 ((M 4 6) + 1)) (bm (st M 4 6 ((M 4 6) + 1)) (fun M15 =>
  j_X5_step_26 M15))))
def f_X5_isSign (M : Mem) (a1 : Int) : Res :=
  if (M 4 7) = 4 then (if (M 4 8) = a1 then (some (1, M))
  else (some (0, M)))
  else (some (0, M))
def f_X5_refused (M : Mem) (a1 a2 : Int) : Res :=
  bm (st M 4 4 a1) (fun M1 =>
  bm (st M1 4 5 a2) (fun M2 =>
  some (0, M2)))
def f_X5_isStatementWord (M : Mem) : Res :=
  if (M 4 3) = 0 then (if (M 4 10) = 0 then (some (1, M))
  else (if (M 4 10) = 1 then (some (1, M))
  else (if (M 4 10) = 2 then (some (1, M))
  else (some (0, M)))))
  else (if (M 4 3) = 1 then (if (M 4 10) = 3 then (some (1, M))
  else (if (M 4 10) = 6 then (some (1, M))
  else (some (0, M))))
  else (if (M 4 10) = 7 then (some (1, M))
  else (if (M 4 10) = 8 then (some (1, M))
  else (some (0, M)))))
def f_X7_begun (M : Mem) (a0 a1 : Int) : Res :=
  cl (f_J9_min_7cf53 M (M a0 1) 39) (fun r1 M2 =>
  ok (0 ≤ r1 ∧ r1 < 40) (ok (in32 ((M2 a0 1) + 1)) (cl (f_J9_min_7cf53 M2 ((M2 a0 1) + 1) 40) (fun r5 M6 =>
  bm (st M6 a0 1 r5) (fun M7 =>
  bm (st M7 (a0 + 4 + r1) 0 a1) (fun M8 =>
  bm (st M8 (a0 + 4 + r1) 9 (M8 a0 1)) (fun M9 =>
  some (a0 + 4 + r1, M9))))))))
def j_X5_takenNumber_60 (M : Mem) : Res :=
  cl (f_X5_refused M 2 (M 4 9)) (fun r11 M12 =>
  some ((-1), M12))
def f_X5_takenNumber (M : Mem) (a1 a2 : Int) : Res :=
  bi (M 4 8) (fun y1 =>
  if (M 4 7) = 6 then (ok (in32 ((M 4 9) + 4)) (cl (f_X5_refused M 1 ((M 4 9) + 4)) (fun r5 M6 =>
  some ((-1), M6))))
  else (if (M 4 7) = 3 then (if y1 < a1 then (j_X5_takenNumber_60 M)
  else (if y1 ≤ a2 then (cl (f_X5_step M) (fun r15 M16 =>
  some (y1, M16)))
  else (j_X5_takenNumber_60 M)))
  else (cl (f_X5_refused M 1 (M 4 9)) (fun r17 M18 =>
  some ((-1), M18)))))
def f_X5_readSquare (M : Mem) (a1 : Int) : Res :=
  cl (f_X5_takenNumber M 0 11) (fun r1 M2 =>
  bm (st M2 a1 3 r1) (fun M3 =>
  if (M3 a1 3) = (-1) then (some (0, M3))
  else (cl (f_X5_takenNumber M3 0 7) (fun r6 M7 =>
  bm (st M7 a1 4 r6) (fun M8 =>
  if (M8 a1 4) = (-1) then (some (0, M8))
  else (some (1, M8)))))))
def f_X5_readName (M : Mem) : Res :=
  if (M 4 7) = 5 then (ok (in32 ((M 4 9) + 6)) (cl (f_X5_refused M 1 ((M 4 9) + 6)) (fun r4 M5 =>
  ok (r4 = 0 ∨ r4 = 1) (some (r4, M5)))))
  else (if (M 4 7) = 1 then (cl (f_X5_step M) (fun r9 M10 =>
  some (1, M10)))
  else (cl (f_X5_refused M 1 (M 4 9)) (fun r11 M12 =>
  ok (r11 = 0 ∨ r11 = 1) (some (r11, M12)))))
def b_X7_whichIs_2 (a0 a1 : Int) (w2 : Mem → Int → Res) (M : Mem) (x2 : Int) : Res :=
  if (M a0 3) ≤ x2 then (some ((-1), M))
  else (ok (0 ≤ x2 ∧ x2 < 5) (ok (0 ≤ M (a0 + 2) x2 ∧ M (a0 + 2) x2 < 40) (if (M (a0 + 4 + (M (a0 + 2) x2)) 1) = a1 then (some (x2, M))
  else (bi (x2 + 1) (fun y7 =>
  w2 M y7)))))
def f_X7_whichIs (M : Mem) (a0 a1 : Int) : Res :=
  wl1 (b_X7_whichIs_2 a0 a1) FU M 0
def f_X7_putName (M : Mem) (a0 a1 : Int) : Res :=
  if (M a0 1) ≤ 0 then (some (0, M))
  else (if 5 ≤ (M a0 3) then (some (0, M))
  else (ok (in32 ((M a0 1) - 1)) (ok (0 ≤ (M a0 1) - 1 ∧ (M a0 1) - 1 < 40) (bm (st M (a0 + 4 + ((M a0 1) - 1)) 1 a1) (fun M7 =>
  ok (in32 ((M7 a0 1) - 1)) (ok (0 ≤ M7 a0 3 ∧ M7 a0 3 < 5) (bm (st M7 (a0 + 2) (M7 a0 3) ((M7 a0 1) - 1)) (fun M10 =>
  ok (in32 ((M10 a0 3) + 1)) (bm (st M10 a0 3 ((M10 a0 3) + 1)) (fun M12 =>
  some (0, M12)))))))))))
def f_X5_readNewName (M : Mem) : Res :=
  bi (M 4 8) (fun y1 =>
  bi (M 4 9) (fun y2 =>
  cl (f_X5_readName M) (fun r3 M4 =>
  if r3 = 0 then (some (0, M4))
  else (ok (kd (M4 4 1) = 17) (cl (f_X7_whichIs M4 (M4 4 1) y1) (fun r8 M9 =>
  if r8 = (-1) then (ok (kd (M9 4 1) = 17) (cl (f_X7_putName M9 (M9 4 1) y1) (fun r13 M14 =>
  some (1, M14))))
  else (cl (f_X5_refused M9 3 y2) (fun r15 M16 =>
  ok (r15 = 0 ∨ r15 = 1) (some (r15, M16))))))))))
def f_X5_readNumber (M : Mem) (a1 a2 a3 : Int) : Res :=
  cl (f_X5_takenNumber M a2 a3) (fun r1 M2 =>
  bm (st M2 a1 2 r1) (fun M3 =>
  if (M3 a1 2) = (-1) then (some (0, M3))
  else (some (1, M3))))
def j_X5_readKnows_40 (a1 : Int) (M : Mem) (s0 : Int) : Res :=
  ok (s0 = 0 ∨ s0 = 1) (bm (st M a1 5 s0) (fun M6 =>
  cl (f_X5_step M6) (fun r7 M8 =>
  some (1, M8))))
def j_X5_readKnows_26 (a1 : Int) (M : Mem) : Res :=
  if (M 4 10) = 4 then (j_X5_readKnows_40 a1 M 1)
  else (j_X5_readKnows_40 a1 M 0)
def f_X5_readKnows (M : Mem) (a1 : Int) : Res :=
  if (M 4 10) = 4 then (j_X5_readKnows_26 a1 M)
  else (if (M 4 10) = 5 then (j_X5_readKnows_26 a1 M)
  else (cl (f_X5_refused M 1 (M 4 9)) (fun r11 M12 =>
  ok (r11 = 0 ∨ r11 = 1) (some (r11, M12)))))
def f_X5_readSign (M : Mem) (a1 : Int) : Res :=
  cl (f_X5_isSign M a1) (fun r1 M2 =>
  if r1 = 0 then (cl (f_X5_refused M2 1 (M2 4 9)) (fun r5 M6 =>
  ok (r5 = 0 ∨ r5 = 1) (some (r5, M6))))
  else (cl (f_X5_step M2) (fun r8 M9 =>
  some (1, M9))))
def f_X7_emit (M : Mem) (a0 a1 : Int) : Res :=
  if 900 ≤ (M a0 5) then (some (0, M))
  else (ok (0 ≤ M a0 5 ∧ M a0 5 < 900) (bm (st M (a0 + 3) (M a0 5) a1) (fun M4 =>
  ok (in32 ((M4 a0 5) + 1)) (bm (st M4 a0 5 ((M4 a0 5) + 1)) (fun M6 =>
  some (0, M6))))))
def j_X5_readBracket_91 (S : Mem → Int → Res) (M : Mem) (x3 : Int) : Res :=
  if x3 = 0 then (some (0, M))
  else (cl (f_X5_readSign M 41) (fun r19 M20 =>
  if r19 = 0 then (some (0, M20))
  else (some (1, M20))))
def j_X5_readBracket_80 (S : Mem → Int → Res) (a2 : Int) (M : Mem) (s0 : Int) : Res :=
  ok (kd (M 4 1) = 17) (cl (f_X7_emit M (M 4 1) (ixor a2 (-1))) (fun r26 M27 =>
  j_X5_readBracket_91 S M27 s0))
def j_X5_readBracket_79 (S : Mem → Int → Res) (a2 : Int) (M : Mem) : Res :=
  j_X5_readBracket_80 S a2 M 0
def f_X5_readBracket (S : Mem → Int → Res) (M : Mem) (a1 a2 : Int) : Res :=
  cl (f_X5_isSign M 40) (fun r1 M2 =>
  if r1 = 0 then (cl (f_X5_refused M2 1 (M2 4 9)) (fun r5 M6 =>
  ok (r5 = 0 ∨ r5 = 1) (some (r5, M6))))
  else (if a1 < 6 then (cl (f_X5_step M2) (fun r10 M11 =>
  ok (in32 (a1 + 1)) (cl (S M11 (a1 + 1)) (fun r13 M14 =>
  if a2 = (-1) then (j_X5_readBracket_91 S M14 r13)
  else (if r13 = 0 then (j_X5_readBracket_79 S a2 M14)
  else (cl (f_X5_readSign M14 44) (fun r28 M29 =>
  if r28 = 0 then (j_X5_readBracket_79 S a2 M29)
  else (cl (S M29 (a1 + 1)) (fun r32 M33 =>
  if r32 = 0 then (j_X5_readBracket_79 S a2 M33)
  else (j_X5_readBracket_80 S a2 M33 1))))))))))
  else (cl (f_X5_refused M2 4 (M2 4 9)) (fun r36 M37 =>
  ok (r36 = 0 ∨ r36 = 1) (some (r36, M37))))))
def j_X5_readPart_34 (S : Mem → Int → Res) (a1 : Int) (M : Mem) : Res :=
  bi (M 4 10) (fun y7 =>
  cl (f_X5_step M) (fun r8 M9 =>
  cl (f_X5_readBracket S M9 a1 y7) (fun r10 M11 =>
  ok (r10 = 0 ∨ r10 = 1) (some (r10, M11)))))
def f_X5_readPart (S : Mem → Int → Res) (M : Mem) (a1 : Int) : Res :=
  cl (f_X5_isSign M 40) (fun r1 M2 =>
  if r1 = 0 then (if (M2 4 10) = 19 then (j_X5_readPart_34 S a1 M2)
  else (if (M2 4 10) = 20 then (j_X5_readPart_34 S a1 M2)
  else (cl (f_X6_isPart M2 (M2 4 10)) (fun r15 M16 =>
  if r15 = 0 then (cl (f_X5_takenNumber M16 0 9999) (fun r19 M20 =>
  ok (kd (M20 4 1) = 17) (cl (f_X7_emit M20 (M20 4 1) r19) (fun r22 M23 =>
  if r19 = (-1) then (some (0, M23))
  else (some (1, M23))))))
  else (ok (kd (M16 4 1) = 17) (cl (f_X7_emit M16 (M16 4 1) (ixor (M16 4 10) (-1))) (fun r27 M28 =>
  cl (f_X5_step M28) (fun r29 M30 =>
  some (1, M30)))))))))
  else (cl (f_X5_readBracket S M2 a1 (-1)) (fun r31 M32 =>
  ok (r31 = 0 ∨ r31 = 1) (some (r31, M32)))))
def j_X5_readProduct_37 (S : Mem → Int → Res) (a1 : Int) (w8 : Mem → Int → Int → Res) (M : Mem) (x3 : Int) : Res :=
  bi (M 4 8) (fun y18 =>
  cl (f_X5_step M) (fun r19 M20 =>
  cl (f_X5_readPart S M20 a1) (fun r21 M22 =>
  ok (kd (M22 4 1) = 17) (cl (f_X7_emit M22 (M22 4 1) (ixor y18 (-1))) (fun r24 M25 =>
  ok (in32 (x3 + 1)) (bi (x3 + 1) (fun y27 =>
  w8 M25 r21 y27)))))))
def b_X5_readProduct_8 (S : Mem → Int → Res) (a1 : Int) (w8 : Mem → Int → Int → Res) (M : Mem) (x2 x3 : Int) : Res :=
  if 900 ≤ x3 then (ok (x2 = 0 ∨ x2 = 1) (some (x2, M)))
  else (if x2 = 0 then (ok (x2 = 0 ∨ x2 = 1) (some (x2, M)))
  else (cl (f_X5_isSign M 42) (fun r9 M10 =>
  if r9 = 0 then (cl (f_X5_isSign M10 47) (fun r13 M14 =>
  if r13 = 0 then (ok (x2 = 0 ∨ x2 = 1) (some (x2, M14)))
  else (j_X5_readProduct_37 S a1 w8 M14 x3)))
  else (j_X5_readProduct_37 S a1 w8 M10 x3))))
def f_X5_readProduct (S : Mem → Int → Res) (M : Mem) (a1 : Int) : Res :=
  cl (f_X5_readPart S M a1) (fun r1 M2 =>
  wl2 (b_X5_readProduct_8 S a1) FU M2 r1 0)
def j_X5_readSum_37 (S : Mem → Int → Res) (a1 : Int) (w8 : Mem → Int → Int → Res) (M : Mem) (x3 : Int) : Res :=
  bi (M 4 8) (fun y18 =>
  cl (f_X5_step M) (fun r19 M20 =>
  cl (f_X5_readProduct S M20 a1) (fun r21 M22 =>
  ok (kd (M22 4 1) = 17) (cl (f_X7_emit M22 (M22 4 1) (ixor y18 (-1))) (fun r24 M25 =>
  ok (in32 (x3 + 1)) (bi (x3 + 1) (fun y27 =>
  w8 M25 r21 y27)))))))
def b_X5_readSum_8 (S : Mem → Int → Res) (a1 : Int) (w8 : Mem → Int → Int → Res) (M : Mem) (x2 x3 : Int) : Res :=
  if 900 ≤ x3 then (ok (x2 = 0 ∨ x2 = 1) (some (x2, M)))
  else (if x2 = 0 then (ok (x2 = 0 ∨ x2 = 1) (some (x2, M)))
  else (cl (f_X5_isSign M 43) (fun r9 M10 =>
  if r9 = 0 then (cl (f_X5_isSign M10 45) (fun r13 M14 =>
  if r13 = 0 then (ok (x2 = 0 ∨ x2 = 1) (some (x2, M14)))
  else (j_X5_readSum_37 S a1 w8 M14 x3)))
  else (j_X5_readSum_37 S a1 w8 M10 x3))))
def g_X5_readSum (S : Mem → Int → Res) (M : Mem) (a1 : Int) : Res :=
  cl (f_X5_readProduct S M a1) (fun r1 M2 =>
  wl2 (b_X5_readSum_8 S a1) FU M2 r1 0)
def f_X5_readSum : Nat → Mem → Int → Res
  | 0, _, _ => none
  | q + 1, M, a1 => g_X5_readSum (f_X5_readSum q) M a1
def b_X5_readBoth_8 (S : Mem → Int → Res) (a1 : Int) (w8 : Mem → Int → Int → Res) (M : Mem) (x2 x3 : Int) : Res :=
  if 900 ≤ x3 then (ok (x2 = 0 ∨ x2 = 1) (some (x2, M)))
  else (if x2 = 0 then (ok (x2 = 0 ∨ x2 = 1) (some (x2, M)))
  else (if (M 4 10) = 11 then (cl (f_X5_step M) (fun r11 M12 =>
  cl (S M12 a1) (fun r13 M14 =>
  ok (kd (M14 4 1) = 17) (cl (f_X7_emit M14 (M14 4 1) (-12)) (fun r16 M17 =>
  ok (in32 (x3 + 1)) (bi (x3 + 1) (fun y19 =>
  w8 M17 r13 y19)))))))
  else (ok (x2 = 0 ∨ x2 = 1) (some (x2, M)))))
def f_X5_readBoth (S : Mem → Int → Res) (M : Mem) (a1 : Int) : Res :=
  cl (S M a1) (fun r1 M2 =>
  wl2 (b_X5_readBoth_8 S a1) FU M2 r1 0)
def b_X5_readTest_8 (S : Mem → Int → Res) (a1 : Int) (w8 : Mem → Int → Int → Res) (M : Mem) (x2 x3 : Int) : Res :=
  if 900 ≤ x3 then (ok (x2 = 0 ∨ x2 = 1) (some (x2, M)))
  else (if x2 = 0 then (ok (x2 = 0 ∨ x2 = 1) (some (x2, M)))
  else (if (M 4 10) = 10 then (cl (f_X5_step M) (fun r11 M12 =>
  cl (f_X5_readBoth S M12 a1) (fun r13 M14 =>
  ok (kd (M14 4 1) = 17) (cl (f_X7_emit M14 (M14 4 1) (-11)) (fun r16 M17 =>
  ok (in32 (x3 + 1)) (bi (x3 + 1) (fun y19 =>
  w8 M17 r13 y19)))))))
  else (ok (x2 = 0 ∨ x2 = 1) (some (x2, M)))))
def f_X5_readTest (S : Mem → Int → Res) (M : Mem) (a1 : Int) : Res :=
  cl (f_X5_readBoth S M a1) (fun r1 M2 =>
  wl2 (b_X5_readTest_8 S a1) FU M2 r1 0)
def j_X5_readFact_184 (S : Mem → Int → Res) (a1 : Int) (M : Mem) (x3 : Int) : Res :=
  cl (f_X5_step M) (fun r45 M46 =>
  cl (f_X5_readSum 8 M46 a1) (fun r47 M48 =>
  ok (kd (M48 4 1) = 17) (cl (f_X7_emit M48 (M48 4 1) (ixor x3 (-1))) (fun r50 M51 =>
  ok (r47 = 0 ∨ r47 = 1) (some (r47, M51))))))
def j_X5_readFact_44 (S : Mem → Int → Res) (a1 : Int) (M : Mem) (x2 : Int) : Res :=
  if (M 4 10) = 12 then (cl (f_X5_step M) (fun r7 M8 =>
  ok (in32 (a1 + 1)) (cl (S M8 (a1 + 1)) (fun r10 M11 =>
  ok (kd (M11 4 1) = 17) (cl (f_X7_emit M11 (M11 4 1) (-13)) (fun r13 M14 =>
  ok (r10 = 0 ∨ r10 = 1) (some (r10, M14))))))))
  else (if x2 = 0 then (if (M 4 10) = 13 then (cl (f_X5_step M) (fun r20 M21 =>
  ok (kd (M21 4 1) = 17) (cl (f_X7_emit M21 (M21 4 1) 1) (fun r23 M24 =>
  some (1, M24)))))
  else (cl (f_X5_readSum 8 M a1) (fun r25 M26 =>
  if r25 = 0 then (some (0, M26))
  else (bi (M26 4 8) (fun y29 =>
  cl (f_X5_isSign M26 60) (fun r30 M31 =>
  if r30 = 0 then (cl (f_X5_isSign M31 62) (fun r34 M35 =>
  if r34 = 0 then (cl (f_X5_isSign M35 61) (fun r38 M39 =>
  if r38 = 0 then (cl (f_X5_refused M39 1 (M39 4 9)) (fun r42 M43 =>
  ok (r42 = 0 ∨ r42 = 1) (some (r42, M43))))
  else (j_X5_readFact_184 S a1 M39 y29)))
  else (j_X5_readFact_184 S a1 M35 y29)))
  else (j_X5_readFact_184 S a1 M31 y29)))))))
  else (cl (f_X5_step M) (fun r53 M54 =>
  ok (in32 (a1 + 1)) (cl (f_X5_readTest S M54 (a1 + 1)) (fun r56 M57 =>
  if r56 = 0 then (some (0, M57))
  else (cl (f_X5_readSign M57 93) (fun r60 M61 =>
  if r60 = 0 then (some (0, M61))
  else (some (1, M61)))))))))
def j_X5_readFact_23 (S : Mem → Int → Res) (a1 : Int) (M : Mem) (s0 : Int) : Res :=
  if s0 = 0 then (j_X5_readFact_44 S a1 M s0)
  else (if a1 < 6 then (j_X5_readFact_44 S a1 M s0)
  else (cl (f_X5_refused M 4 (M 4 9)) (fun r66 M67 =>
  ok (r66 = 0 ∨ r66 = 1) (some (r66, M67)))))
def j_X5_readFact_18 (S : Mem → Int → Res) (a1 : Int) (M : Mem) : Res :=
  j_X5_readFact_23 S a1 M 1
def g_X5_readFact (S : Mem → Int → Res) (M : Mem) (a1 : Int) : Res :=
  if (M 4 10) = 12 then (j_X5_readFact_18 S a1 M)
  else (cl (f_X5_isSign M 91) (fun r69 M70 =>
  if r69 = 0 then (j_X5_readFact_23 S a1 M70 0)
  else (j_X5_readFact_18 S a1 M70)))
def f_X5_readFact : Nat → Mem → Int → Res
  | 0, _, _ => none
  | q + 1, M, a1 => g_X5_readFact (f_X5_readFact q) M a1
def f_X5_readRule (M : Mem) (a1 : Int) : Res :=
  ok (kd (M 4 1) = 17) (bm (st M a1 6 (M (M 4 1) 5)) (fun M2 =>
  cl (f_X5_readSum 8 M2 0) (fun r3 M4 =>
  if r3 = 0 then (some (0, M4))
  else (ok (kd (M4 4 1) = 17) (bm (st M4 a1 7 (M4 (M4 4 1) 5)) (fun M8 =>
  if (M8 4 10) = 9 then (cl (f_X5_step M8) (fun r11 M12 =>
  cl (f_X5_readTest (f_X5_readFact 8) M12 0) (fun r13 M14 =>
  ok (kd (M14 4 1) = 17) (bm (st M14 a1 8 (M14 (M14 4 1) 5)) (fun M16 =>
  ok (r13 = 0 ∨ r13 = 1) (some (r13, M16)))))))
  else (cl (f_X5_refused M8 1 (M8 4 9)) (fun r18 M19 =>
  ok (r18 = 0 ∨ r18 = 1) (some (r18, M19))))))))))
def f_X5_readShow (M : Mem) (a1 a2 : Int) : Res :=
  bi (M 4 8) (fun y1 =>
  bi (M 4 9) (fun y2 =>
  cl (f_X5_readName M) (fun r3 M4 =>
  if r3 = 0 then (some (0, M4))
  else (ok (kd (M4 4 2) = 17) (cl (f_X7_whichIs M4 (M4 4 2) y1) (fun r8 M9 =>
  bm (st M9 a1 2 r8) (fun M10 =>
  if (M10 a1 2) = (-1) then (cl (f_X5_refused M10 3 y2) (fun r13 M14 =>
  ok (r13 = 0 ∨ r13 = 1) (some (r13, M14))))
  else (ok (kd (M10 4 1) = 17) (bm (st M10 a1 6 (M10 (M10 4 1) 5)) (fun M17 =>
  cl (f_X5_readSquare M17 a1) (fun r18 M19 =>
  if r18 = 0 then (some (0, M19))
  else (cl (f_X5_readSum 8 M19 a2) (fun r22 M23 =>
  if r22 = 0 then (some (0, M23))
  else (ok (kd (M23 4 1) = 17) (bm (st M23 a1 7 (M23 (M23 4 1) 5)) (fun M27 =>
  some (1, M27)))))))))))))))))
def f_X5_readTimes (S : Mem → Int → Res) (M : Mem) (a1 a2 : Int) : Res :=
  cl (f_X5_readNumber M a1 1 9) (fun r1 M2 =>
  if r1 = 0 then (some (0, M2))
  else (cl (f_X5_isSign M2 91) (fun r5 M6 =>
  if r5 = 0 then (cl (f_X5_refused M6 1 (M6 4 9)) (fun r9 M10 =>
  ok (r9 = 0 ∨ r9 = 1) (some (r9, M10))))
  else (if a2 < 6 then (cl (f_X5_step M6) (fun r14 M15 =>
  ok (in32 (a2 + 1)) (cl (S M15 (a2 + 1)) (fun r17 M18 =>
  if r17 = 0 then (ok (kd (M18 4 1) = 17) (bm (st M18 a1 9 (M18 (M18 4 1) 1)) (fun M22 =>
  some (0, M22))))
  else (cl (f_X5_readSign M18 93) (fun r23 M24 =>
  if r23 = 0 then (ok (kd (M24 4 1) = 17) (bm (st M24 a1 9 (M24 (M24 4 1) 1)) (fun M28 =>
  some (0, M28))))
  else (ok (kd (M24 4 1) = 17) (bm (st M24 a1 9 (M24 (M24 4 1) 1)) (fun M30 =>
  some (1, M30))))))))))
  else (cl (f_X5_refused M6 4 (M6 4 9)) (fun r31 M32 =>
  ok (r31 = 0 ∨ r31 = 1) (some (r31, M32))))))))
def j_X5_readStatement_185 (S : Mem → Int → Res) (M : Mem) (x3 : Int) : Res :=
  ok (kd x3 = 18) (cl (f_X5_readRule M x3) (fun r43 M44 =>
  ok (r43 = 0 ∨ r43 = 1) (some (r43, M44))))
def j_X5_readStatement_47 (S : Mem → Int → Res) (a1 : Int) (M : Mem) : Res :=
  ok (kd (M 4 1) = 17) (cl (f_X7_begun M (M 4 1) (M 4 10)) (fun r6 M7 =>
  cl (f_X5_step M7) (fun r8 M9 =>
  ok (kd r6 = 18) (if (M9 r6 0) = 1 then (cl (f_X5_readSquare M9 r6) (fun r13 M14 =>
  ok (r13 = 0 ∨ r13 = 1) (some (r13, M14))))
  else (if (M9 r6 0) = 2 then (cl (f_X5_readNewName M9) (fun r18 M19 =>
  if r18 = 0 then (some (0, M19))
  else (cl (f_X5_readNumber M19 r6 2 6) (fun r22 M23 =>
  if r22 = 0 then (some (0, M23))
  else (some (1, M23))))))
  else (if (M9 r6 0) = 3 then (cl (f_X5_readNewName M9) (fun r28 M29 =>
  if r28 = 0 then (some (0, M29))
  else (cl (f_X5_readKnows M29 r6) (fun r32 M33 =>
  if r32 = 0 then (some (0, M33))
  else (cl (f_X5_readRule M33 r6) (fun r36 M37 =>
  if r36 = 0 then (some (0, M37))
  else (some (1, M37))))))))
  else (if (M9 r6 0) = 4 then (j_X5_readStatement_185 S M9 r6)
  else (if (M9 r6 0) = 5 then (j_X5_readStatement_185 S M9 r6)
  else (if (M9 r6 0) = 6 then (j_X5_readStatement_185 S M9 r6)
  else (if (M9 r6 0) = 7 then (cl (f_X5_readShow M9 r6 a1) (fun r52 M53 =>
  ok (r52 = 0 ∨ r52 = 1) (some (r52, M53))))
  else (if (M9 r6 0) = 8 then (cl (f_X5_readTimes S M9 r6 a1) (fun r57 M58 =>
  ok (r57 = 0 ∨ r57 = 1) (some (r57, M58))))
  else (j_X5_readStatement_185 S M9 r6))))))))))))
def j_X5_readStatement_21 (S : Mem → Int → Res) (a1 : Int) (M : Mem) (s0 : Int) : Res :=
  if s0 = 0 then (j_X5_readStatement_47 S a1 M)
  else (ok (kd (M 4 1) = 17) (if (M (M 4 1) 3) < 5 then (j_X5_readStatement_47 S a1 M)
  else (cl (f_X5_refused M 5 (M 4 9)) (fun r63 M64 =>
  ok (r63 = 0 ∨ r63 = 1) (some (r63, M64))))))
def j_X5_readStatement_16 (S : Mem → Int → Res) (a1 : Int) (M : Mem) : Res :=
  j_X5_readStatement_21 S a1 M 1
def f_X5_readStatement (S : Mem → Int → Res) (M : Mem) (a1 : Int) : Res :=
  if (M 4 10) = 2 then (j_X5_readStatement_16 S a1 M)
  else (if (M 4 10) = 3 then (j_X5_readStatement_16 S a1 M)
  else (j_X5_readStatement_21 S a1 M 0))
def j_X5_readStatements_62 (S : Mem → Int → Res) (a1 : Int) (w2 : Mem → Int → Res) (M : Mem) (x2 : Int) : Res :=
  cl (f_X5_isStatementWord M) (fun r10 M11 =>
  if r10 = 0 then (cl (f_X5_refused M11 1 (M11 4 9)) (fun r14 M15 =>
  ok (r14 = 0 ∨ r14 = 1) (some (r14, M15))))
  else (cl (f_X5_readStatement S M11 a1) (fun r17 M18 =>
  if r17 = 0 then (some (0, M18))
  else (cl (f_X5_readSign M18 59) (fun r21 M22 =>
  if r21 = 0 then (some (0, M22))
  else (ok (in32 (x2 + 1)) (bi (x2 + 1) (fun y26 =>
  w2 M22 y26))))))))
def j_X5_readStatements_33 (S : Mem → Int → Res) (a1 : Int) (w2 : Mem → Int → Res) (M : Mem) (x2 : Int) : Res :=
  ok (kd (M 4 1) = 17) (if (M (M 4 1) 1) < 40 then (j_X5_readStatements_62 S a1 w2 M x2)
  else (if (M 4 7) = 0 then (j_X5_readStatements_62 S a1 w2 M x2)
  else (cl (f_X5_refused M 5 (M 4 9)) (fun r29 M30 =>
  ok (r29 = 0 ∨ r29 = 1) (some (r29, M30))))))
def b_X5_readStatements_2 (S : Mem → Int → Res) (a1 : Int) (w2 : Mem → Int → Res) (M : Mem) (x2 : Int) : Res :=
  if 40 < x2 then (some (0, M))
  else (if a1 = 0 then (if (M 4 7) = 0 then (some (1, M))
  else (j_X5_readStatements_33 S a1 w2 M x2))
  else (cl (f_X5_isSign M 93) (fun r32 M33 =>
  if r32 = 0 then (j_X5_readStatements_33 S a1 w2 M33 x2)
  else (some (1, M33)))))
def g_X5_readStatements (S : Mem → Int → Res) (M : Mem) (a1 : Int) : Res :=
  wl1 (b_X5_readStatements_2 S a1) FU M 0
def f_X5_readStatements : Nat → Mem → Int → Res
  | 0, _, _ => none
  | q + 1, M, a1 => g_X5_readStatements (f_X5_readStatements q) M a1
def f_X5_takes (M : Mem) (a1 a2 a3 : Int) : Res :=
  bm (st M 4 3 a1) (fun M1 =>
  bm (st M1 4 1 a2) (fun M2 =>
  bm (st M2 4 2 a3) (fun M3 =>
  bm (st M3 4 4 0) (fun M4 =>
  bm (st M4 4 5 (-1)) (fun M5 =>
  cl (f_X7_empty M5 a2) (fun r6 M7 =>
  cl (f_X4_partTape M7) (fun r8 M9 =>
  bm (st M9 4 6 (-1)) (fun M10 =>
  cl (f_X5_step M10) (fun r11 M12 =>
  cl (f_X5_readStatements 8 M12 0) (fun r13 M14 =>
  ok (r13 = 0 ∨ r13 = 1) (bm (st M14 a2 6 r13) (fun M16 =>
  ok (M16 a2 6 = 0 ∨ M16 a2 6 = 1) (some (M16 a2 6, M16))))))))))))))
def f_X7_namedAt (M : Mem) (a0 a1 : Int) : Res :=
  if a1 < 0 then (some (0, M))
  else (if (M a0 3) ≤ a1 then (some (0, M))
  else (ok (0 ≤ a1 ∧ a1 < 5) (ok (0 ≤ M (a0 + 2) a1 ∧ M (a0 + 2) a1 < 40) (some (a0 + 4 + (M (a0 + 2) a1), M)))))
def f_X7_carriedBy (M : Mem) (a0 a1 : Int) : Res :=
  if a1 = 0 then (some ((-1), M))
  else (if (M 11 16) = 0 then (some (0, M))
  else (ok (kd a1 = 18) (cl (f_X6_reckon M (a0 + 3) (M a1 7) (M a1 8)) (fun r6 M7 =>
  if r6 = 0 then (some (0, M7))
  else (cl (f_X6_reckon M7 (a0 + 3) (M7 a1 6) (M7 a1 7)) (fun r10 M11 =>
  cl (f_X11_clamped M11 r10 0 100) (fun r12 M13 =>
  some (r12, M13))))))))
def j_X7_carriedMost_40 (a0 a2 : Int) (w5 : Mem → Int → Int → Res) (M : Mem) (x3 x4 x5 : Int) : Res :=
  cl (f_X7_carriedBy M a0 x5) (fun r11 M12 =>
  cl (f_J9_max_7cf53 M12 x3 r11) (fun r13 M14 =>
  ok (in32 (x4 + 1)) (bi (x4 + 1) (fun y16 =>
  w5 M14 r13 y16))))
def b_X7_carriedMost_5 (a0 a2 : Int) (w5 : Mem → Int → Int → Res) (M : Mem) (x3 x4 : Int) : Res :=
  if (M a0 3) ≤ x4 then (some (x3, M))
  else (ok (0 ≤ x4 ∧ x4 < 5) (ok (0 ≤ M (a0 + 2) x4 ∧ M (a0 + 2) x4 < 40) (bi (a0 + 4 + (M (a0 + 2) x4)) (fun y5 =>
  ok (kd y5 = 18) (if (M y5 5) = 0 then (if a2 = 0 then (j_X7_carriedMost_40 a0 a2 w5 M x3 x4 y5)
  else (bi (x4 + 1) (fun y17 =>
  w5 M x3 y17)))
  else (j_X7_carriedMost_40 a0 a2 w5 M x3 x4 y5))))))
def f_X7_carriedMost (M : Mem) (a0 a2 : Int) : Res :=
  wl2 (b_X7_carriedMost_5 a0 a2) FU M 0 0
def b_X7_carriersBy_4 (a0 : Int) (w4 : Mem → Int → Int → Res) (M : Mem) (x2 x3 : Int) : Res :=
  if (M a0 3) ≤ x3 then (some (x2, M))
  else (ok (0 ≤ x3 ∧ x3 < 5) (ok (0 ≤ M (a0 + 2) x3 ∧ M (a0 + 2) x3 < 40) (cl (f_X7_carriedBy M a0 (a0 + 4 + (M (a0 + 2) x3))) (fun r5 M6 =>
  if r5 ≤ 0 then (bi (ior x2 0) (fun y9 =>
  bi (x3 + 1) (fun y10 =>
  w4 M6 y9 y10)))
  else (bi (ior x2 (ishl 1 x3)) (fun y11 =>
  bi (x3 + 1) (fun y12 =>
  w4 M6 y11 y12)))))))
def f_X7_carriersBy (M : Mem) (a0 : Int) : Res :=
  wl2 (b_X7_carriersBy_4 a0) FU M 0 0
def f_X7_lineBy (M : Mem) (a0 : Int) : Res :=
  cl (f_X7_firstSum M a0 6 101) (fun r1 M2 =>
  cl (f_X11_clamped M2 r1 0 101) (fun r3 M4 =>
  some (r3, M4)))
def f_X7_saysBy (M : Mem) (a0 : Int) : Res :=
  cl (f_X7_carriedMost M a0 1) (fun r1 M2 =>
  cl (f_X7_lineBy M2 a0) (fun r3 M4 =>
  if r1 < r3 then (some (0, M4))
  else (some (1, M4))))
def b_X7_showsWithin_4 (a0 a1 : Int) (w4 : Mem → Int → Res) (M : Mem) (x2 : Int) : Res :=
  ok (0 ≤ a1 ∧ a1 < 40) (if (M (a0 + 4 + a1) 9) ≤ x2 then (some (0, M))
  else (if (M a0 1) ≤ x2 then (some (0, M))
  else (ok (0 ≤ x2 ∧ x2 < 40) (if (M (a0 + 4 + x2) 0) = 7 then (some (1, M))
  else (bi (x2 + 1) (fun y11 =>
  w4 M y11))))))
def f_X7_showsWithin (M : Mem) (a0 a1 : Int) : Res :=
  ok (in32 (a1 + 1)) (bi (a1 + 1) (fun y2 =>
  wl1 (b_X7_showsWithin_4 a0 a1) FU M y2))
def j_X7_timesOf_41 (a0 a1 : Int) (w4 : Mem → Int → Int → Res) (M : Mem) (x2 x3 s0 : Int) : Res :=
  if s0 = 0 then (ok (in32 (x3 + 1)) (bi (x3 + 1) (fun y11 =>
  w4 M x2 y11)))
  else (ok (0 ≤ x3 ∧ x3 < 40) (ok (in32 (x2 * (M (a0 + 4 + x3) 2))) (cl (f_J9_min_7cf53 M 1000000 (x2 * (M (a0 + 4 + x3) 2))) (fun r14 M15 =>
  bi (x3 + 1) (fun y16 =>
  w4 M15 r14 y16)))))
def j_X7_timesOf_40 (a0 a1 : Int) (w4 : Mem → Int → Int → Res) (M : Mem) (x2 x3 : Int) : Res :=
  j_X7_timesOf_41 a0 a1 w4 M x2 x3 0
def b_X7_timesOf_4 (a0 a1 : Int) (w4 : Mem → Int → Int → Res) (M : Mem) (x2 x3 : Int) : Res :=
  if a1 ≤ x3 then (some (x2, M))
  else (ok (0 ≤ x3 ∧ x3 < 40) (if (M (a0 + 4 + x3) 0) = 8 then (if (M (a0 + 4 + x3) 9) ≤ a1 then (j_X7_timesOf_40 a0 a1 w4 M x2 x3)
  else (j_X7_timesOf_41 a0 a1 w4 M x2 x3 1))
  else (j_X7_timesOf_40 a0 a1 w4 M x2 x3)))
def f_X7_timesOf (M : Mem) (a0 a1 : Int) : Res :=
  wl2 (b_X7_timesOf_4 a0 a1) FU M 1 0
def b_X7_showsInAll_4 (a0 : Int) (w4 : Mem → Int → Int → Res) (M : Mem) (x1 x2 : Int) : Res :=
  if (M a0 1) ≤ x2 then (cl (f_J9_min_7cf53 M x1 1000000) (fun r3 M4 =>
  some (r3, M4)))
  else (ok (0 ≤ x2 ∧ x2 < 40) (if (M (a0 + 4 + x2) 0) = 7 then (cl (f_X7_timesOf M a0 x2) (fun r8 M9 =>
  ok (in32 (x1 + r8)) (bi (x1 + r8) (fun y11 =>
  bi (x2 + 1) (fun y12 =>
  w4 M9 y11 y12)))))
  else (ok (in32 (x1 + 0)) (bi (x1 + 0) (fun y14 =>
  bi (x2 + 1) (fun y15 =>
  w4 M y14 y15))))))
def f_X7_showsInAll (M : Mem) (a0 : Int) : Res :=
  wl2 (b_X7_showsInAll_4 a0) FU M 0 0
def b_X9_addNumber_3 (a1 : Int) (w3 : Mem → Int → Res) (M : Mem) (x2 : Int) : Res :=
  if x2 < 0 then (some (0, M))
  else (if 900 ≤ (M 2 1) then (some (0, M))
  else (ok (0 ≤ M 2 1 ∧ M 2 1 < 900) (bm (st M 3 (M 2 1) (iand (iushr a1 x2) 255)) (fun M6 =>
  ok (in32 ((M6 2 1) + 1)) (bm (st M6 2 1 ((M6 2 1) + 1)) (fun M8 =>
  ok (in32 (x2 + (-8))) (bi (x2 + (-8)) (fun y10 =>
  w3 M8 y10))))))))
def f_X9_addNumber (M : Mem) (a1 : Int) : Res :=
  wl1 (b_X9_addNumber_3 a1) FU M 24
def f_X10_putShowing (M : Mem) (a0 a1 a2 a3 a4 : Int) : Res :=
  bm (st M a0 0 a1) (fun M1 =>
  bm (st M1 a0 1 a2) (fun M2 =>
  bm (st M2 a0 2 a3) (fun M3 =>
  bm (st M3 a0 3 a4) (fun M4 =>
  bm (st M4 a0 7 0) (fun M5 =>
  bm (st M5 a0 8 (-1)) (fun M6 =>
  some (0, M6)))))))
def f_X10_putAnswer (M : Mem) (a0 a1 a2 a3 : Int) : Res :=
  bm (st M a0 4 a1) (fun M1 =>
  ok (a2 = 0 ∨ a2 = 1) (bm (st M1 a0 5 a2) (fun M3 =>
  bm (st M3 a0 6 a3) (fun M4 =>
  some (0, M4)))))
def f_X10_isRight (M : Mem) (a0 : Int) : Res :=
  if (M a0 3) = (M a0 4) then (some (1, M))
  else (some (0, M))
def f_X10_isLed (M : Mem) (a0 : Int) : Res :=
  if (M a0 8) = (M a0 4) then (some (1, M))
  else (some (0, M))
def f_X10_isOf (M : Mem) (a0 a1 : Int) : Res :=
  if a1 = (-1) then (some (1, M))
  else (if a1 = (M a0 0) then (some (1, M))
  else (some (0, M)))
def j_X10_byteAt_81 (a0 : Int) (M : Mem) (s0 : Int) : Res :=
  if (M a0 7) = 0 then (ok (in32 (s0 + 0)) (some (s0 + 0, M)))
  else (ok (in32 (s0 + 2)) (some (s0 + 2, M)))
def f_X10_byteAt (M : Mem) (a0 a1 : Int) : Res :=
  if a1 = 0 then (some (M a0 0, M))
  else (if a1 = 1 then (some (M a0 1, M))
  else (if a1 = 2 then (some (M a0 2, M))
  else (if a1 = 3 then (some (M a0 3, M))
  else (if a1 = 4 then (some (M a0 4, M))
  else (if a1 = 5 then (if (M a0 5) = 0 then (j_X10_byteAt_81 a0 M 0)
  else (j_X10_byteAt_81 a0 M 1))
  else (if a1 = 6 then (some (M a0 6, M))
  else (if (M a0 8) = (-1) then (some (255, M))
  else (some (M a0 8, M)))))))))
def j_X10_take_80 (a0 a2 : Int) (M : Mem) (s0 : Int) : Res :=
  ok (s0 = 0 ∨ s0 = 1) (bm (st M a0 7 s0) (fun M30 =>
  ok (in32 (a2 + 7)) (cl (f_X9_at M30 (a2 + 7)) (fun r32 M33 =>
  if r32 = 255 then (bm (st M33 a0 8 (-1)) (fun M36 =>
  some (0, M36)))
  else (bm (st M33 a0 8 r32) (fun M37 =>
  some (0, M37)))))))
def j_X10_take_57 (a0 a2 : Int) (M : Mem) (x3 s0 s1 : Int) : Res :=
  ok (in32 (a2 + 6)) (cl (f_X9_at M (a2 + 6)) (fun r23 M24 =>
  cl (f_X10_putAnswer M24 a0 s1 s0 r23) (fun r25 M26 =>
  if (iand x3 2) = 0 then (j_X10_take_80 a0 a2 M26 0)
  else (j_X10_take_80 a0 a2 M26 1))))
def f_X10_take (M : Mem) (a0 a2 : Int) : Res :=
  cl (f_X9_at M a2) (fun r1 M2 =>
  ok (in32 (a2 + 1)) (cl (f_X9_at M2 (a2 + 1)) (fun r4 M5 =>
  ok (in32 (a2 + 2)) (cl (f_X9_at M5 (a2 + 2)) (fun r7 M8 =>
  ok (in32 (a2 + 3)) (cl (f_X9_at M8 (a2 + 3)) (fun r10 M11 =>
  cl (f_X10_putShowing M11 a0 r1 r4 r7 r10) (fun r12 M13 =>
  ok (in32 (a2 + 5)) (cl (f_X9_at M13 (a2 + 5)) (fun r15 M16 =>
  ok (in32 (a2 + 4)) (cl (f_X9_at M16 (a2 + 4)) (fun r18 M19 =>
  if (iand r15 1) = 0 then (j_X10_take_57 a0 a2 M19 r15 0 r18)
  else (j_X10_take_57 a0 a2 M19 r15 1 r18)))))))))))))
def f_X11_feed (M : Mem) (a1 a2 a3 a4 a5 : Int) : Res :=
  ok (in32 ((M 2 1) + 20)) (if ((M 2 1) + 20) ≤ 900 then (cl (f_X9_addNumber M a1) (fun r4 M5 =>
  cl (f_X9_addNumber M5 a2) (fun r6 M7 =>
  cl (f_X9_addNumber M7 a3) (fun r8 M9 =>
  cl (f_X9_addNumber M9 a4) (fun r10 M11 =>
  cl (f_X9_addNumber M11 a5) (fun r12 M13 =>
  some (M13 2 1, M13)))))))
  else (some ((-1), M)))
def f_X11_end (M : Mem) (a1 : Int) : Res :=
  if a1 < 0 then (some (0, M))
  else (if a1 ≤ (M 2 1) then (bm (st M 2 1 a1) (fun M5 =>
  some (1, M5)))
  else (some (0, M)))
def f_X11_field (M : Mem) : Res :=
  ok (kd (M 1 10) = 17) (ok (kd (M 1 8) = 17) (cl (f_X5_takes M 0 (M 1 10) (M 1 8)) (fun r3 M4 =>
  bm (st M4 2 1 0) (fun M5 =>
  if r3 = 0 then (some ((-1), M5))
  else (bi (M5 1 8) (fun y8 =>
  bm (st M5 1 8 (M5 1 10)) (fun M9 =>
  bm (st M9 1 10 y8) (fun M10 =>
  ok (kd (M10 1 8) = 17) (cl (f_X3_build M10 (M10 1 8)) (fun r12 M13 =>
  bm (st M13 21 1 0) (fun M14 =>
  ok (kd (M14 1 9) = 17) (bm (st M14 (M14 1 9) 6 0) (fun M16 =>
  ok (kd (M16 1 8) = 17) (some (M16 (M16 1 8) 1, M16)))))))))))))))
def j_X11_law_43 (a1 : Int) (M : Mem) (x2 s0 : Int) : Res :=
  bm (st M 2 1 0) (fun M5 =>
  if s0 = 0 then (if x2 = 0 then (some ((-2), M5))
  else (some ((-1), M5)))
  else (ok (0 ≤ a1 ∧ a1 < 3) (bi (M5 68 a1) (fun y11 =>
  ok (kd (M5 1 10) = 17) (bm (st M5 68 a1 (M5 1 10)) (fun M13 =>
  bm (st M13 1 10 y11) (fun M14 =>
  ok (kd (M14 68 a1) = 17) (some (M14 (M14 68 a1) 1, M14)))))))))
def j_X11_law_42 (a1 : Int) (M : Mem) (x2 : Int) : Res :=
  j_X11_law_43 a1 M x2 0
def j_X11_law_14 (a1 : Int) (M : Mem) (s0 : Int) : Res :=
  if s0 = 0 then (j_X11_law_42 a1 M s0)
  else (ok (kd (M 1 10) = 17) (ok (kd (M 1 8) = 17) (cl (f_X5_takes M 1 (M 1 10) (M 1 8)) (fun r18 M19 =>
  if r18 = 0 then (j_X11_law_42 a1 M19 s0)
  else (j_X11_law_43 a1 M19 s0 1)))))
def j_X11_law_13 (a1 : Int) (M : Mem) : Res :=
  j_X11_law_14 a1 M 0
def f_X11_law (M : Mem) (a1 : Int) : Res :=
  if a1 < 0 then (j_X11_law_13 a1 M)
  else (if 3 ≤ a1 then (j_X11_law_13 a1 M)
  else (j_X11_law_14 a1 M 1))
def b_X11_listAgain_13 (S : Mem → Int → Int → Int → Res) (a1 a2 : Int) (w13 : Mem → Int → Int → Res) (M : Mem) (x3 x4 : Int) : Res :=
  ok (kd x3 = 18) (if (M x3 2) ≤ x4 then (some (0, M))
  else (if 6 ≤ a2 then (some (0, M))
  else (ok (in32 (a1 + 1)) (ok (in32 (a2 + 1)) (cl (S M (a1 + 1) (M x3 9) (a2 + 1)) (fun r11 M12 =>
  ok (in32 (x4 + 1)) (bi (x4 + 1) (fun y14 =>
  w13 M12 x3 y14))))))))
def f_X11_listAgain (S : Mem → Int → Int → Int → Res) (M : Mem) (a1 a2 : Int) : Res :=
  ok (kd (M 1 9) = 17) (ok (0 ≤ a1 ∧ a1 < 40) (bi ((M 1 9) + 4 + a1) (fun y3 =>
  wl2 (b_X11_listAgain_13 S a1 a2) FU M y3 0)))
def j_X11_listShows_90 (S : Mem → Int → Int → Int → Res) (a2 a3 : Int) (w3 : Mem → Int → Res) (M : Mem) (x4 x5 : Int) : Res :=
  ok (in32 (x4 + 1)) (ok (kd x5 = 18) (cl (f_J9_max_7cf53 M (x4 + 1) (M x5 9)) (fun r19 M20 =>
  w3 M20 r19)))
def b_X11_listShows_3 (S : Mem → Int → Int → Int → Res) (a2 a3 : Int) (w3 : Mem → Int → Res) (M : Mem) (x4 : Int) : Res :=
  if a2 ≤ x4 then (some (0, M))
  else (if 40 ≤ x4 then (some (0, M))
  else (if 40 ≤ (M 1 12) then (some (0, M))
  else (ok (kd (M 1 9) = 17) (ok (0 ≤ x4 ∧ x4 < 40) (bi ((M 1 9) + 4 + x4) (fun y9 =>
  ok (kd y9 = 18) (if (M y9 0) = 7 then (ok (0 ≤ M 1 12 ∧ M 1 12 < 40) (bm (st M 201 (M 1 12) x4) (fun M14 =>
  ok (in32 ((M14 1 12) + 1)) (bm (st M14 1 12 ((M14 1 12) + 1)) (fun M16 =>
  j_X11_listShows_90 S a2 a3 w3 M16 x4 y9)))))
  else (cl (f_X7_showsWithin M (M 1 9) x4) (fun r21 M22 =>
  if r21 = 0 then (j_X11_listShows_90 S a2 a3 w3 M22 x4 y9)
  else (cl (f_X11_listAgain S M22 x4 a3) (fun r25 M26 =>
  j_X11_listShows_90 S a2 a3 w3 M26 x4 y9)))))))))))
def g_X11_listShows (S : Mem → Int → Int → Int → Res) (M : Mem) (a1 a2 a3 : Int) : Res :=
  wl1 (b_X11_listShows_3 S a2 a3) FU M a1
def f_X11_listShows : Nat → Mem → Int → Int → Int → Res
  | 0, _, _, _, _ => none
  | q + 1, M, a1, a2, a3 => g_X11_listShows (f_X11_listShows q) M a1 a2 a3
def f_X11_plan (M : Mem) : Res :=
  ok (kd (M 1 10) = 17) (ok (kd (M 1 8) = 17) (cl (f_X5_takes M 2 (M 1 10) (M 1 8)) (fun r3 M4 =>
  bm (st M4 2 1 0) (fun M5 =>
  if r3 = 0 then (some ((-1), M5))
  else (bi (M5 1 9) (fun y8 =>
  bm (st M5 1 9 (M5 1 10)) (fun M9 =>
  bm (st M9 1 10 y8) (fun M10 =>
  bm (st M10 1 12 0) (fun M11 =>
  ok (kd (M11 1 9) = 17) (cl (f_X11_listShows 8 M11 0 (M11 (M11 1 9) 1) 0) (fun r13 M14 =>
  ok (kd (M14 1 9) = 17) (cl (f_X7_showsInAll M14 (M14 1 9)) (fun r16 M17 =>
  bm (st M17 1 13 r16) (fun M18 =>
  ok (kd (M18 1 9) = 17) (some (M18 (M18 1 9) 1, M18))))))))))))))))
def f_X11_fault (M : Mem) (a1 : Int) : Res :=
  if a1 = 0 then (some (M 4 4, M))
  else (if a1 = 1 then (some (M 4 5, M))
  else (some ((-1), M)))
def b_X11_lawsThatStand_4 (w4 : Mem → Int → Int → Res) (M : Mem) (x1 x2 : Int) : Res :=
  if 3 ≤ x2 then (some (x1, M))
  else (ok (0 ≤ x2 ∧ x2 < 3) (ok (kd (M 68 x2) = 17) (if (M (M 68 x2) 6) = 0 then (ok (in32 (x1 + 0)) (bi (x1 + 0) (fun y8 =>
  bi (x2 + 1) (fun y9 =>
  w4 M y8 y9))))
  else (ok (in32 (x1 + 1)) (bi (x1 + 1) (fun y11 =>
  bi (x2 + 1) (fun y12 =>
  w4 M y11 y12)))))))
def f_X11_lawsThatStand (M : Mem) : Res :=
  wl2 (b_X11_lawsThatStand_4) FU M 0 0
def f_X11_lawAt (M : Mem) (a1 : Int) : Res :=
  if a1 < 0 then (some (0, M))
  else (if 3 ≤ a1 then (some (0, M))
  else (ok (kd (M 68 a1) = 17) (if (M (M 68 a1) 6) = 0 then (some (0, M))
  else (some (M 68 a1, M)))))
def f_X11_waysOf (M : Mem) (a1 : Int) : Res :=
  cl (f_X11_lawAt M a1) (fun r1 M2 =>
  if r1 = 0 then (some (0, M2))
  else (ok (kd r1 = 17) (some (M2 r1 3, M2))))
def f_X11_has (M : Mem) (a1 : Int) : Res :=
  if a1 = 0 then (ok (kd (M 1 8) = 17) (some (M (M 1 8) 3, M)))
  else (if a1 = 1 then (cl (f_X11_lawsThatStand M) (fun r6 M7 =>
  some (r6, M7)))
  else (if a1 = 2 then (some (M 21 1, M))
  else (if a1 = 3 then (some (M 63 3, M))
  else (if a1 = 4 then (some (M 13 10, M))
  else (if a1 = 5 then (some (M 13 11, M))
  else (if a1 = 6 then (cl (f_X11_waysOf M 0) (fun r18 M19 =>
  some (r18, M19)))
  else (if a1 = 7 then (cl (f_X11_waysOf M 1) (fun r22 M23 =>
  some (r22, M23)))
  else (if a1 = 8 then (cl (f_X11_waysOf M 2) (fun r26 M27 =>
  some (r26, M27)))
  else (if a1 = 9 then (ok (kd (M 1 9) = 17) (if (M (M 1 9) 6) = 0 then (some (0, M))
  else (some (M 1 13, M))))
  else (some ((-1), M)))))))))))
def b_X11_letterOf_4 (w4 : Mem → Int → Int → Res) (M : Mem) (x2 x3 : Int) : Res :=
  if 5 ≤ x3 then (ok (0 ≤ x2) (some (x2 % 27, M)))
  else (ok (0 ≤ x2) (bi (x2 / 27) (fun y5 =>
  ok (in32 (x3 + 1)) (bi (x3 + 1) (fun y7 =>
  w4 M y5 y7)))))
def f_X11_letterOf (M : Mem) (a0 a1 : Int) : Res :=
  wl2 (b_X11_letterOf_4) FU M a0 a1
def j_X11_letter_17 (a2 a3 : Int) (M : Mem) (s0 : Int) : Res :=
  if s0 = 0 then (some ((-1), M))
  else (if a3 < 0 then (some ((-1), M))
  else (if a3 < 6 then (ok (kd s0 = 17) (cl (f_X7_namedAt M s0 a2) (fun r10 M11 =>
  if r10 = 0 then (some ((-1), M11))
  else (ok (kd r10 = 18) (cl (f_X11_letterOf M11 (M11 r10 1) a3) (fun r15 M16 =>
  some (r15, M16)))))))
  else (some ((-1), M))))
def f_X11_letter (M : Mem) (a1 a2 a3 : Int) : Res :=
  if a1 = (-1) then (j_X11_letter_17 a2 a3 M (M 1 8))
  else (cl (f_X11_lawAt M a1) (fun r17 M18 =>
  j_X11_letter_17 a2 a3 M18 r17))
def f_X11_isSquare (M : Mem) (a0 a1 : Int) : Res :=
  if a0 < 0 then (some (0, M))
  else (if 12 ≤ a0 then (some (0, M))
  else (if a1 < 0 then (some (0, M))
  else (if 8 ≤ a1 then (some (0, M))
  else (some (1, M)))))
def f_X11_sight (M : Mem) (a1 a2 : Int) : Res :=
  cl (f_X11_isSquare M a1 a2) (fun r1 M2 =>
  if r1 = 0 then (some ((-1), M2))
  else (cl (f_X11_squareAt M2 a1 a2) (fun r5 M6 =>
  ok (0 ≤ r5 ∧ r5 < 96) (some (M6 14 r5, M6)))))
def f_X11_piece (M : Mem) (a1 a2 : Int) : Res :=
  cl (f_X11_isSquare M a1 a2) (fun r1 M2 =>
  if r1 = 0 then (some ((-1), M2))
  else (cl (f_X11_squareAt M2 a1 a2) (fun r5 M6 =>
  ok (0 ≤ r5 ∧ r5 < 96) (some (M6 15 r5, M6)))))
def f_X11_pieceHas (M : Mem) (a1 a2 : Int) : Res :=
  if a1 < 0 then (some ((-1), M))
  else (if a1 < (M 13 8) then (if a2 = 0 then (ok (0 ≤ a1 ∧ a1 < 96) (some (M 16 a1, M)))
  else (if a2 = 1 then (ok (0 ≤ a1 ∧ a1 < 96) (some (M 17 a1, M)))
  else (if a2 = 2 then (cl (f_X3_isIsland M a1) (fun r13 M14 =>
  if r13 = 0 then (some (0, M14))
  else (some (1, M14))))
  else (some ((-1), M)))))
  else (some ((-1), M)))
def f_X11_isBright (M : Mem) (a0 : Int) : Res :=
  if a0 < 0 then (some (0, M))
  else (if 99 < a0 then (some (0, M))
  else (some (1, M)))
def f_X11_light (M : Mem) (a1 a2 a3 : Int) : Res :=
  cl (f_X11_isSquare M a1 a2) (fun r1 M2 =>
  if r1 = 0 then (some ((-1), M2))
  else (cl (f_X11_isBright M2 a3) (fun r5 M6 =>
  if r5 = 0 then (some ((-1), M6))
  else (cl (f_X11_squareAt M6 a1 a2) (fun r9 M10 =>
  cl (f_X3_lightAt M10 r9 a3) (fun r11 M12 =>
  some (r11, M12)))))))
def f_X11_canShow (M : Mem) (a1 a2 a3 a4 : Int) : Res :=
  if a1 < 0 then (some (0, M))
  else (ok (kd (M 1 8) = 17) (if (M (M 1 8) 3) ≤ a1 then (some (0, M))
  else (cl (f_X11_isSquare M a2 a3) (fun r6 M7 =>
  if r6 = 0 then (some (0, M7))
  else (cl (f_X11_isBright M7 a4) (fun r10 M11 =>
  if r10 = 0 then (some (0, M11))
  else (some (1, M11))))))))
def f_X11_putShowing (M : Mem) (a1 a2 a3 : Int) : Res :=
  cl (f_X6_putSquare M a2) (fun r1 M2 =>
  ok (0 ≤ a2 ∧ a2 < 96) (bm (st M2 11 0 (M2 14 a2)) (fun M4 =>
  bm (st M4 11 16 a3) (fun M5 =>
  cl (f_X3_lightAt M5 a2 a3) (fun r6 M7 =>
  bm (st M7 11 17 r6) (fun M8 =>
  bm (st M8 11 18 a1) (fun M9 =>
  some (0, M9))))))))
def f_X11_showsTold (M : Mem) (a1 a2 a3 a4 : Int) : Res :=
  cl (f_X11_canShow M a1 a2 a3 a4) (fun r1 M2 =>
  if r1 = 0 then (some (0, M2))
  else (cl (f_X11_squareAt M2 a2 a3) (fun r5 M6 =>
  cl (f_X11_putShowing M6 a1 r5 a4) (fun r7 M8 =>
  some (1, M8)))))
def f_X11_carries (M : Mem) (a1 a2 a3 a4 a5 a6 : Int) : Res :=
  cl (f_X11_lawAt M a1) (fun r1 M2 =>
  if r1 = 0 then (some ((-1), M2))
  else (cl (f_X11_showsTold M2 a3 a4 a5 a6) (fun r5 M6 =>
  if r5 = 0 then (some ((-1), M6))
  else (if a2 = (-3) then (ok (kd r1 = 17) (cl (f_X7_lineBy M6 r1) (fun r12 M13 =>
  some (r12, M13))))
  else (if a2 = (-2) then (ok (kd r1 = 17) (cl (f_X7_carriedMost M6 r1 1) (fun r17 M18 =>
  some (r17, M18))))
  else (if a2 = (-1) then (ok (kd r1 = 17) (cl (f_X7_carriedMost M6 r1 0) (fun r22 M23 =>
  some (r22, M23))))
  else (ok (kd r1 = 17) (cl (f_X7_namedAt M6 r1 a2) (fun r25 M26 =>
  cl (f_X7_carriedBy M26 r1 r25) (fun r27 M28 =>
  some (r27, M28)))))))))))
def f_X11_says (M : Mem) (a1 a2 a3 a4 a5 : Int) : Res :=
  cl (f_X11_lawAt M a1) (fun r1 M2 =>
  if r1 = 0 then (some ((-1), M2))
  else (cl (f_X11_showsTold M2 a2 a3 a4 a5) (fun r5 M6 =>
  if r5 = 0 then (some ((-1), M6))
  else (ok (kd r1 = 17) (cl (f_X7_saysBy M6 r1) (fun r10 M11 =>
  if r10 = 0 then (some (0, M11))
  else (some (1, M11))))))))
def f_J9_abs_0f7a4 (M : Mem) (a0 : Int) : Res :=
  if 0 ≤ a0 then (some (a0, M))
  else (ok (in32 (-a0)) (some (-a0, M)))
def b_X11_nearestBright_11 (a1 a2 a3 a4 : Int) (w11 : Mem → Int → Int → Int → Res) (M : Mem) (x5 x6 x7 : Int) : Res :=
  if 99 < x7 then (some (x5, M))
  else (if x6 ≤ 0 then (some (x5, M))
  else (cl (f_X11_putShowing M a2 a3 x7) (fun r5 M6 =>
  cl (f_X7_carriedMost M6 a1 0) (fun r7 M8 =>
  ok (in32 (r7 - a4)) (cl (f_J9_abs_0f7a4 M8 (r7 - a4)) (fun r10 M11 =>
  if x6 ≤ r10 then (ok (in32 (x7 + 1)) (bi (x7 + 1) (fun y15 =>
  w11 M11 x5 x6 y15)))
  else (ok (in32 (x7 + 1)) (bi (x7 + 1) (fun y17 =>
  w11 M11 x7 r10 y17)))))))))
def f_X11_nearestBright (M : Mem) (a1 a2 a3 a4 : Int) : Res :=
  wl3 (b_X11_nearestBright_11 a1 a2 a3 a4) FU M 1 1000000 1
def j_X11_whole_33 (a2 a3 a4 a5 a6 a7 a8 : Int) (M : Mem) (x9 s0 : Int) : Res :=
  if s0 = 0 then (some ((-1000), M))
  else (if x9 = 0 then (some ((-1000), M))
  else (cl (f_X11_showsTold M a2 a3 a4 a5) (fun r9 M10 =>
  if r9 = 0 then (some ((-1000), M10))
  else (ok (kd x9 = 17) (cl (f_X7_carriedMost M10 x9 0) (fun r14 M15 =>
  cl (f_X7_carriedMost M15 x9 1) (fun r16 M17 =>
  cl (f_X11_squareAt M17 a6 a7) (fun r18 M19 =>
  cl (f_X11_nearestBright M19 x9 a2 r18 r14) (fun r20 M21 =>
  if a8 = 0 then (some (r20, M21))
  else (cl (f_X11_putShowing M21 a2 r18 r20) (fun r24 M25 =>
  if a8 = 1 then (cl (f_X7_carriedMost M25 x9 0) (fun r28 M29 =>
  some (r28, M29)))
  else (cl (f_X7_carriedMost M25 x9 1) (fun r30 M31 =>
  ok (in32 (r30 - r16)) (some (r30 - r16, M31)))))))))))))))
def j_X11_whole_32 (a2 a3 a4 a5 a6 a7 a8 : Int) (M : Mem) (x9 : Int) : Res :=
  j_X11_whole_33 a2 a3 a4 a5 a6 a7 a8 M x9 0
def f_X11_whole (M : Mem) (a1 a2 a3 a4 a5 a6 a7 a8 : Int) : Res :=
  cl (f_X11_lawAt M a1) (fun r1 M2 =>
  if a8 < 0 then (j_X11_whole_32 a2 a3 a4 a5 a6 a7 a8 M2 r1)
  else (if 2 < a8 then (j_X11_whole_32 a2 a3 a4 a5 a6 a7 a8 M2 r1)
  else (cl (f_X11_isSquare M2 a6 a7) (fun r35 M36 =>
  if r35 = 0 then (j_X11_whole_32 a2 a3 a4 a5 a6 a7 a8 M36 r1)
  else (j_X11_whole_33 a2 a3 a4 a5 a6 a7 a8 M36 r1 1)))))
def f_X11_sortsOf (M : Mem) (a1 : Int) : Res :=
  ok (kd (M 1 8) = 17) (cl (f_X7_namedAt M (M 1 8) a1) (fun r2 M3 =>
  if r2 = 0 then (some (1, M3))
  else (ok (kd r2 = 18) (cl (f_J9_max_7cf53 M3 1 (M3 r2 2)) (fun r7 M8 =>
  some (r7, M8))))))
def f_X11_oddsOver (M : Mem) (a0 a1 a2 : Int) : Res :=
  if a2 = 0 then (ok (in32 (100 - a0)) (some (100 - a0, M)))
  else (ok (in32 (a1 - 1)) (ok (in32 (a0 * (a1 - 1))) (ok (in32 (100 + (a0 * (a1 - 1)))) (some (100 + (a0 * (a1 - 1)), M)))))
def b_X11_divisorOf_9 (w9 : Mem → Int → Int → Int → Res) (M : Mem) (x4 x6 x8 : Int) : Res :=
  if 100 ≤ x8 then (some (x4, M))
  else (if x6 = 0 then (some (x4, M))
  else (ok (0 ≤ x4 ∧ 0 < x6) (bi (x4 % x6) (fun y6 =>
  ok (in32 (x8 + 1)) (bi (x8 + 1) (fun y8 =>
  w9 M x6 y6 y8))))))
def f_X11_divisorOf (M : Mem) (a0 a2 : Int) : Res :=
  wl3 (b_X11_divisorOf_9) FU M a0 a2 0
def j_X11_odds_84 (M : Mem) (x12 s0 : Int) : Res :=
  cl (f_J9_max_7cf53 M 1 x12) (fun r23 M24 =>
  ok (0 ≤ s0 ∧ 0 < r23) (some (s0 / r23, M24)))
def f_X11_odds (M : Mem) (a1 a2 a3 a4 a5 a6 a7 : Int) : Res :=
  cl (f_X11_lawAt M a1) (fun r1 M2 =>
  if r1 = 0 then (some ((-1), M2))
  else (cl (f_X11_showsTold M2 a2 a3 a4 a5) (fun r5 M6 =>
  if r5 = 0 then (some ((-1), M6))
  else (cl (f_X11_sortsOf M6 a2) (fun r9 M10 =>
  ok (kd r1 = 17) (cl (f_X7_carriedMost M10 r1 0) (fun r12 M13 =>
  cl (f_X11_oddsOver M13 r12 r9 a6) (fun r14 M15 =>
  ok (in32 (100 * r9)) (bi (100 * r9) (fun y17 =>
  cl (f_X11_divisorOf M15 r14 y17) (fun r18 M19 =>
  ok (in32 (r18)) (if a7 = 0 then (j_X11_odds_84 M19 r18 y17)
  else (j_X11_odds_84 M19 r18 r14)))))))))))))
def f_X11_isSort (M : Mem) (a1 a2 : Int) : Res :=
  if a2 < 0 then (some (0, M))
  else (cl (f_X11_sortsOf M a1) (fun r3 M4 =>
  if r3 ≤ a2 then (some (0, M4))
  else (some (1, M4))))
def f_X11_draw (M : Mem) (a1 a2 a3 a4 a5 a6 a7 : Int) : Res :=
  cl (f_X11_lawAt M a1) (fun r1 M2 =>
  if r1 = 0 then (some ((-1), M2))
  else (if a7 < 0 then (some ((-1), M2))
  else (cl (f_X11_showsTold M2 a2 a3 a4 a5) (fun r7 M8 =>
  if r7 = 0 then (some ((-1), M8))
  else (cl (f_X11_isSort M8 a2 a6) (fun r11 M12 =>
  if r11 = 0 then (some ((-1), M12))
  else (bm (st M12 67 0 a7) (fun M15 =>
  ok (kd r1 = 17) (cl (f_X7_carriedMost M15 r1 0) (fun r17 M18 =>
  cl (f_X11_sortsOf M18 a2) (fun r19 M20 =>
  cl (f_X2_guess M20 r17 a6 r19) (fun r21 M22 =>
  some (r21, M22)))))))))))))
def j_X11_trial_31 (a1 a2 a3 a4 a5 a6 a7 a8 : Int) (M : Mem) (x9 s0 : Int) : Res :=
  if s0 = 0 then (some ((-1), M))
  else (cl (f_X11_isSort M a1 a5) (fun r7 M8 =>
  if r7 = 0 then (some ((-1), M8))
  else (cl (f_X11_isSort M8 a1 a6) (fun r11 M12 =>
  if r11 = 0 then (some ((-1), M12))
  else (if a8 < 0 then (some ((-1), M12))
  else (if a8 ≤ 9 then (cl (f_X11_squareAt M12 a2 a3) (fun r19 M20 =>
  ok (kd x9 = 20) (cl (f_X10_putShowing M20 x9 a1 r19 a4 a5) (fun r22 M23 =>
  cl (f_X10_putAnswer M23 x9 a6 a7 a8) (fun r24 M25 =>
  ok (in32 ((M25 21 1) + 1)) (bm (st M25 21 1 ((M25 21 1) + 1)) (fun M27 =>
  some (M27 21 1, M27))))))))
  else (some ((-1), M12))))))))
def j_X11_trial_30 (a1 a2 a3 a4 a5 a6 a7 a8 : Int) (M : Mem) (x9 : Int) : Res :=
  j_X11_trial_31 a1 a2 a3 a4 a5 a6 a7 a8 M x9 0
def f_X11_trial (M : Mem) (a1 a2 a3 a4 a5 a6 a7 a8 : Int) : Res :=
  cl (f_X0_nextFree M) (fun r1 M2 =>
  if r1 = 0 then (j_X11_trial_30 a1 a2 a3 a4 a5 a6 a7 a8 M2 r1)
  else (cl (f_X11_canShow M2 a1 a2 a3 a4) (fun r28 M29 =>
  if r28 = 0 then (j_X11_trial_30 a1 a2 a3 a4 a5 a6 a7 a8 M29 r1)
  else (j_X11_trial_31 a1 a2 a3 a4 a5 a6 a7 a8 M29 r1 1))))
def f_X11_brightOf (M : Mem) (a1 a2 a3 : Int) : Res :=
  cl (f_X11_putShowing M (M a1 2) a2 0) (fun r1 M2 =>
  bm (st M2 11 16 a3) (fun M3 =>
  ok (kd (M3 1 9) = 17) (cl (f_X6_reckon M3 ((M3 1 9) + 3) (M3 a1 6) (M3 a1 7)) (fun r5 M6 =>
  cl (f_X11_clamped M6 r5 0 99) (fun r7 M8 =>
  some (r7, M8))))))
def f_X11_runShow (M : Mem) (a1 a2 a3 : Int) : Res :=
  cl (f_X0_nextFree M) (fun r1 M2 =>
  if r1 = 0 then (some (0, M2))
  else (cl (f_X11_squareAt M2 (M2 a2 3) (M2 a2 4)) (fun r5 M6 =>
  cl (f_X11_sortsOf M6 (M6 a2 2)) (fun r7 M8 =>
  cl (f_X2_roll M8 r7) (fun r9 M10 =>
  cl (f_X11_brightOf M10 a2 r5 a3) (fun r11 M12 =>
  cl (f_X11_putShowing M12 (M12 a2 2) r5 r11) (fun r13 M14 =>
  cl (f_X7_carriedMost M14 a1 0) (fun r15 M16 =>
  ok (kd r1 = 20) (cl (f_X10_putShowing M16 r1 (M16 a2 2) r5 r11 r9) (fun r18 M19 =>
  cl (f_X2_guess M19 r15 r9 r7) (fun r20 M21 =>
  cl (f_X7_saysBy M21 a1) (fun r22 M23 =>
  ok (0 ≤ r15) (cl (f_X10_putAnswer M23 r1 r20 r22 (r15 / 11)) (fun r25 M26 =>
  ok (in32 ((M26 21 1) + 1)) (bm (st M26 21 1 ((M26 21 1) + 1)) (fun M28 =>
  some (0, M28)))))))))))))))))
def b_X11_run_47 (w47 : Mem → Int → Int → Int → Res) (M : Mem) (x3 x4 x5 : Int) : Res :=
  if (M 1 12) ≤ x5 then (ok (in32 ((M 21 1) - x4)) (some ((M 21 1) - x4, M)))
  else (if 40 ≤ (M 21 1) then (ok (in32 ((M 21 1) - x4)) (some ((M 21 1) - x4, M)))
  else (ok (kd (M 1 9) = 17) (ok (0 ≤ x5 ∧ x5 < 40) (ok (0 ≤ M 201 x5 ∧ M 201 x5 < 40) (ok (kd x3 = 17) (cl (f_X11_runShow M x3 ((M 1 9) + 4 + (M 201 x5)) x5) (fun r22 M23 =>
  bi (x5 + 1) (fun y24 =>
  w47 M23 x3 x4 y24))))))))
def f_X11_run (M : Mem) (a1 a2 : Int) : Res :=
  cl (f_X11_lawAt M a1) (fun r1 M2 =>
  if r1 = 0 then (some ((-1), M2))
  else (ok (kd (M2 1 9) = 17) (if (M2 (M2 1 9) 6) = 0 then (some ((-1), M2))
  else (if 0 ≤ a2 then (bm (st M2 67 0 a2) (fun M10 =>
  bi (M10 21 1) (fun y11 =>
  wl3 (b_X11_run_47) FU M10 r1 y11 0)))
  else (some ((-1), M2))))))
def f_J9_abs_067f4 (M : Mem) (a0 : Int) : Res :=
  if 0 ≤ a0 then (some (a0, M))
  else (ok (in64 (-a0)) (some (-a0, M)))
def j_X11_moved_33 (a2 a3 : Int) (M : Mem) (x4 : Int) : Res :=
  cl (f_J9_abs_067f4 M a2) (fun r12 M13 =>
  if 12 ≤ r12 then (some (0, M13))
  else (cl (f_J9_abs_067f4 M13 a3) (fun r16 M17 =>
  if r16 < 8 then (ok (kd x4 = 20) (ok (0 ≤ M17 x4 1) (ok (in32 (((M17 x4 1) % 12) + a2)) (bi (((M17 x4 1) % 12) + a2) (fun y23 =>
  ok (in32 (((M17 x4 1) / 12) + a3)) (bi (((M17 x4 1) / 12) + a3) (fun y25 =>
  cl (f_X11_isSquare M17 y23 y25) (fun r26 M27 =>
  if r26 = 0 then (some (0, M27))
  else (cl (f_X11_squareAt M27 y23 y25) (fun r30 M31 =>
  bm (st M31 x4 1 r30) (fun M32 =>
  bm (st M32 x4 7 1) (fun M33 =>
  some (1, M33)))))))))))))
  else (some (0, M17)))))
def f_X11_moved (M : Mem) (a1 a2 a3 : Int) : Res :=
  cl (f_X0_trialAt M a1) (fun r1 M2 =>
  if r1 = 0 then (some (0, M2))
  else (ok (kd r1 = 20) (if (M2 r1 7) = 0 then (if a2 = 0 then (if a3 = 0 then (some (0, M2))
  else (j_X11_moved_33 a2 a3 M2 r1))
  else (j_X11_moved_33 a2 a3 M2 r1))
  else (some (0, M2)))))
def f_X11_voice (M : Mem) (a1 a2 : Int) : Res :=
  cl (f_X0_trialAt M a1) (fun r1 M2 =>
  if r1 = 0 then (some (0, M2))
  else (ok (kd r1 = 20) (if (M2 r1 8) = (-1) then (cl (f_X11_isSort M2 (M2 r1 0) a2) (fun r8 M9 =>
  if r8 = 0 then (some (0, M9))
  else (bm (st M9 r1 8 a2) (fun M12 =>
  some (1, M12)))))
  else (some (0, M2)))))
def f_X11_undo (M : Mem) : Res :=
  if (M 21 1) = 0 then (some ((-1), M))
  else (ok (in32 ((M 21 1) - 1)) (bm (st M 21 1 ((M 21 1) - 1)) (fun M4 =>
  some (M4 21 1, M4))))
def f_X11_tried (M : Mem) (a1 a2 : Int) : Res :=
  cl (f_X0_trialAt M a1) (fun r1 M2 =>
  if r1 = 0 then (some ((-1), M2))
  else (if a2 = 0 then (ok (kd r1 = 20) (some (M2 r1 0, M2)))
  else (if a2 = 1 then (ok (kd r1 = 20) (ok (0 ≤ M2 r1 1) (some ((M2 r1 1) % 12, M2))))
  else (if a2 = 2 then (ok (kd r1 = 20) (ok (0 ≤ M2 r1 1) (some ((M2 r1 1) / 12, M2))))
  else (if a2 = 3 then (ok (kd r1 = 20) (some (M2 r1 2, M2)))
  else (if a2 = 4 then (ok (kd r1 = 20) (some (M2 r1 3, M2)))
  else (if a2 = 5 then (ok (kd r1 = 20) (some (M2 r1 4, M2)))
  else (if a2 = 6 then (ok (kd r1 = 20) (if (M2 r1 5) = 0 then (some (0, M2))
  else (some (1, M2))))
  else (if a2 = 7 then (ok (kd r1 = 20) (some (M2 r1 6, M2)))
  else (if a2 = 8 then (ok (kd r1 = 20) (cl (f_X10_isRight M2 r1) (fun r36 M37 =>
  if r36 = 0 then (some (0, M37))
  else (some (1, M37)))))
  else (if a2 = 9 then (ok (kd r1 = 20) (cl (f_X3_lightAt M2 (M2 r1 1) (M2 r1 2)) (fun r43 M44 =>
  some (r43, M44))))
  else (if a2 = 10 then (ok (kd r1 = 20) (if (M2 r1 7) = 0 then (some (0, M2))
  else (some (1, M2))))
  else (if a2 = 11 then (ok (kd r1 = 20) (some (M2 r1 8, M2)))
  else (some ((-1), M2)))))))))))))))
def f_X11_isThingOrAll (M : Mem) (a1 : Int) : Res :=
  if a1 < (-1) then (some (0, M))
  else (ok (kd (M 1 8) = 17) (if (M (M 1 8) 3) ≤ a1 then (some (0, M))
  else (some (1, M))))
def f_X11_isWhere (M : Mem) (a1 a2 : Int) : Res :=
  if a2 = 0 then (some (1, M))
  else (if a2 = 1 then (ok (M a1 5 = 0 ∨ M a1 5 = 1) (some (M a1 5, M)))
  else (if a2 = 2 then (if (M a1 5) = 0 then (some (1, M))
  else (some (0, M)))
  else (if a2 = 3 then (cl (f_X3_isGone M (M a1 1)) (fun r12 M13 =>
  ok (r12 = 0 ∨ r12 = 1) (some (r12, M13))))
  else (if a2 = 4 then (if (M a1 1) = (M 13 11) then (some (1, M))
  else (some (0, M)))
  else (if a2 = 5 then (if (M a1 2) = 0 then (some (1, M))
  else (some (0, M)))
  else (if a2 = 6 then (ok (0 ≤ M a1 1 ∧ M a1 1 < 96) (cl (f_X3_isIsland M (M 15 (M a1 1))) (fun r26 M27 =>
  ok (r26 = 0 ∨ r26 = 1) (some (r26, M27)))))
  else (if a2 = 7 then (if (M a1 6) < 5 then (some (0, M))
  else (some (1, M)))
  else (if a2 = 8 then (ok (M a1 7 = 0 ∨ M a1 7 = 1) (some (M a1 7, M)))
  else (if a2 = 9 then (cl (f_X10_isLed M a1) (fun r38 M39 =>
  ok (r38 = 0 ∨ r38 = 1) (some (r38, M39))))
  else (some (0, M)))))))))))
def j_X11_count_71 (a1 a2 a3 : Int) (w26 : Mem → Int → Int → Res) (M : Mem) (x4 x5 x6 : Int) : Res :=
  ok (kd x6 = 20) (cl (f_X11_isWhere M x6 a2) (fun r20 M21 =>
  if r20 = 0 then (ok (in32 (x5 + 1)) (bi (x5 + 1) (fun y25 =>
  w26 M21 x4 y25)))
  else (ok (in32 (x4 + 1)) (bi (x4 + 1) (fun y27 =>
  ok (in32 (x5 + 1)) (bi (x5 + 1) (fun y29 =>
  w26 M21 y27 y29)))))))
def b_X11_count_26 (a1 a2 a3 : Int) (w26 : Mem → Int → Int → Res) (M : Mem) (x4 x5 : Int) : Res :=
  if (M 21 1) ≤ x5 then (some (x4, M))
  else (ok (0 ≤ x5 ∧ x5 < 40) (cl (f_X10_isOf M (23 + x5) a1) (fun r12 M13 =>
  if r12 = 0 then (bi (x5 + 1) (fun y16 =>
  w26 M13 x4 y16))
  else (if a3 = 0 then (j_X11_count_71 a1 a2 a3 w26 M13 x4 x5 (23 + x5))
  else (cl (f_X10_isRight M13 (23 + x5)) (fun r30 M31 =>
  if r30 = 0 then (bi (x5 + 1) (fun y34 =>
  w26 M31 x4 y34))
  else (j_X11_count_71 a1 a2 a3 w26 M31 x4 x5 (23 + x5))))))))
def f_X11_count (M : Mem) (a1 a2 a3 : Int) : Res :=
  cl (f_X11_isThingOrAll M a1) (fun r1 M2 =>
  if r1 = 0 then (some ((-1), M2))
  else (if a2 < 0 then (some ((-1), M2))
  else (if a2 < 10 then (wl2 (b_X11_count_26 a1 a2 a3) FU M2 0 0)
  else (some ((-1), M2)))))
def j_X11_spreadChances_27 (a2 : Int) (w7 : Mem → Int → Res) (M : Mem) (x3 s0 : Int) : Res :=
  ok (0 ≤ x3 ∧ x3 < 41) (ok (in32 (a2 - 1)) (ok (in64 ((M 203 x3) * (a2 - 1))) (ok (in64 (((M 203 x3) * (a2 - 1)) + s0)) (ok (0 ≤ ((M 203 x3) * (a2 - 1)) + s0 ∧ 0 < a2) (bm (st M 203 x3 ((((M 203 x3) * (a2 - 1)) + s0) / a2)) (fun M12 =>
  bi (x3 + (-1)) (fun y13 =>
  w7 M12 y13)))))))
def b_X11_spreadChances_7 (a2 : Int) (w7 : Mem → Int → Res) (M : Mem) (x3 : Int) : Res :=
  if x3 < 0 then (some (0, M))
  else (if x3 ≤ 0 then (j_X11_spreadChances_27 a2 w7 M x3 0)
  else (ok (in32 (x3 - 1)) (ok (0 ≤ x3 - 1 ∧ x3 - 1 < 41) (j_X11_spreadChances_27 a2 w7 M x3 (M 203 (x3 - 1))))))
def f_X11_spreadChances (M : Mem) (a1 a2 : Int) : Res :=
  cl (f_J9_min_7cf53 M a1 40) (fun r1 M2 =>
  wl1 (b_X11_spreadChances_7 a2) FU M2 r1)
def b_X11_chanceOf_143 (w143 : Mem → Int → Int → Res) (M : Mem) (x5 x7 : Int) : Res :=
  if 41 ≤ x7 then (some (x5, M))
  else (ok (0 ≤ x7 ∧ x7 < 41) (ok (in64 (x5 + (M 203 x7))) (bi (x5 + (M 203 x7)) (fun y9 =>
  bi (x7 + 1) (fun y10 =>
  w143 M y9 y10)))))
def j_X11_chanceOf_95 (a1 a2 : Int) (w42 : Mem → Int → Int → Int → Res) (M : Mem) (x3 x4 x5 x6 : Int) : Res :=
  ok (in32 (x3 + 1)) (bi (x3 + 1) (fun y20 =>
  ok (kd x6 = 20) (cl (f_X11_sortsOf M (M x6 0)) (fun r22 M23 =>
  cl (f_X11_spreadChances M23 y20 r22) (fun r24 M25 =>
  cl (f_X10_isRight M25 x6) (fun r26 M27 =>
  if r26 = 0 then (ok (in32 (x4 + 0)) (bi (x4 + 0) (fun y31 =>
  ok (in32 (x5 + 1)) (bi (x5 + 1) (fun y33 =>
  w42 M27 y20 y31 y33)))))
  else (ok (in32 (x4 + 1)) (bi (x4 + 1) (fun y35 =>
  ok (in32 (x5 + 1)) (bi (x5 + 1) (fun y37 =>
  w42 M27 y20 y35 y37)))))))))))
def b_X11_chanceOf_42 (a1 a2 : Int) (w42 : Mem → Int → Int → Int → Res) (M : Mem) (x3 x4 x5 : Int) : Res :=
  if (M 21 1) ≤ x5 then (wl2 (b_X11_chanceOf_143) FU M 0 x4)
  else (ok (0 ≤ x5 ∧ x5 < 40) (cl (f_X10_isOf M (23 + x5) a1) (fun r12 M13 =>
  if r12 = 0 then (bi (x5 + 1) (fun y16 =>
  w42 M13 x3 x4 y16))
  else (if a2 = 0 then (j_X11_chanceOf_95 a1 a2 w42 M13 x3 x4 x5 (23 + x5))
  else (if (M13 (23 + x5) 7) = 0 then (cl (f_X10_isLed M13 (23 + x5)) (fun r40 M41 =>
  if r40 = 0 then (j_X11_chanceOf_95 a1 a2 w42 M41 x3 x4 x5 (23 + x5))
  else (bi (x5 + 1) (fun y44 =>
  w42 M41 x3 x4 y44))))
  else (bi (x5 + 1) (fun y45 =>
  w42 M13 x3 x4 y45)))))))
def b_X11_chanceOf_2 (a1 a2 : Int) (w2 : Mem → Int → Res) (M : Mem) (x3 : Int) : Res :=
  if 41 ≤ x3 then (wl3 (b_X11_chanceOf_42 a1 a2) FU M 0 0 0)
  else (if x3 = 0 then (ok (0 ≤ x3 ∧ x3 < 41) (bm (st M 203 x3 1000000000000) (fun M49 =>
  bi (x3 + 1) (fun y50 =>
  w2 M49 y50))))
  else (ok (0 ≤ x3 ∧ x3 < 41) (bm (st M 203 x3 0) (fun M52 =>
  bi (x3 + 1) (fun y53 =>
  w2 M52 y53)))))
def f_X11_chanceOf (M : Mem) (a1 a2 : Int) : Res :=
  wl1 (b_X11_chanceOf_2 a1 a2) FU M 0
def f_X11_chance (M : Mem) (a1 : Int) : Res :=
  cl (f_X11_isThingOrAll M a1) (fun r1 M2 =>
  if r1 = 0 then (some ((-1), M2))
  else (cl (f_X11_chanceOf M2 a1 0) (fun r5 M6 =>
  some (r5, M6))))
def f_X11_honest (M : Mem) (a1 : Int) : Res :=
  cl (f_X11_isThingOrAll M a1) (fun r1 M2 =>
  if r1 = 0 then (some ((-1), M2))
  else (cl (f_X11_chanceOf M2 a1 1) (fun r5 M6 =>
  some (r5, M6))))
def b_X11_needed_25 (a1 a2 : Int) (w25 : Mem → Int → Int → Res) (M : Mem) (x4 x6 : Int) : Res :=
  if 60 < x6 then (some ((-1), M))
  else (cl (f_X11_sortsOf M a1) (fun r8 M9 =>
  ok (0 ≤ x4 ∧ 0 < r8) (bi (x4 / r8) (fun y11 =>
  if a2 < y11 then (ok (in32 (x6 + 1)) (bi (x6 + 1) (fun y15 =>
  w25 M9 y11 y15)))
  else (some (x6, M9))))))
def f_X11_needed (M : Mem) (a1 a2 : Int) : Res :=
  if a1 < 0 then (some ((-1), M))
  else (ok (kd (M 1 8) = 17) (if a1 < (M (M 1 8) 3) then (wl2 (b_X11_needed_25 a1 a2) FU M 1000000000000 1)
  else (some ((-1), M))))
def j_X11_isScattered_33 (a1 : Int) (M : Mem) (s0 : Int) : Res :=
  if s0 = 0 then (some (0, M))
  else (cl (f_X3_lightAt M (M a1 1) (M a1 2)) (fun r5 M6 =>
  if r5 < 5 then (some (0, M6))
  else (some (1, M6))))
def j_X11_isScattered_28 (a1 : Int) (M : Mem) : Res :=
  j_X11_isScattered_33 a1 M 1
def f_X11_isScattered (M : Mem) (a1 : Int) : Res :=
  if (M a1 1) = (M 13 11) then (j_X11_isScattered_28 a1 M)
  else (cl (f_X3_isGone M (M a1 1)) (fun r9 M10 =>
  if r9 = 0 then (j_X11_isScattered_33 a1 M10 0)
  else (j_X11_isScattered_28 a1 M10)))
def f_X11_putTrial (M : Mem) (a1 : Int) : Res :=
  cl (f_X11_putShowing M (M a1 0) (M a1 1) (M a1 2)) (fun r1 M2 =>
  some (0, M2))
def f_X11_kindOf (M : Mem) (a1 a2 : Int) : Res :=
  cl (f_X10_isRight M a2) (fun r1 M2 =>
  if r1 = 0 then (some (0, M2))
  else (if (M2 a2 7) = 0 then (cl (f_X10_isLed M2 a2) (fun r7 M8 =>
  if r7 = 0 then (if (M8 a2 5) = 0 then (cl (f_X11_isScattered M8 a2) (fun r13 M14 =>
  if r13 = 0 then (ok (0 ≤ M14 a2 1 ∧ M14 a2 1 < 96) (cl (f_X3_isIsland M14 (M14 15 (M14 a2 1))) (fun r18 M19 =>
  if r18 = 0 then (cl (f_X11_putTrial M19 a2) (fun r22 M23 =>
  cl (f_X7_carriedMost M23 a1 1) (fun r24 M25 =>
  if r24 ≤ 0 then (some (7, M25))
  else (cl (f_X7_lineBy M25 a1) (fun r28 M29 =>
  if r28 ≤ r24 then (some (7, M29))
  else (some (6, M29)))))))
  else (some (5, M19)))))
  else (some (4, M14))))
  else (some (3, M8)))
  else (some (2, M8))))
  else (some (1, M2))))
def f_X11_kind (M : Mem) (a1 a2 : Int) : Res :=
  cl (f_X11_lawAt M a1) (fun r1 M2 =>
  cl (f_X0_trialAt M2 a2) (fun r3 M4 =>
  if r1 = 0 then (some ((-1), M4))
  else (if r3 = 0 then (some ((-1), M4))
  else (ok (kd r1 = 17) (ok (kd r3 = 20) (cl (f_X11_kindOf M4 r1 r3) (fun r11 M12 =>
  some (r11, M12))))))))
def b_X11_kinds_28 (a2 : Int) (w28 : Mem → Int → Int → Int → Res) (M : Mem) (x3 x4 x5 : Int) : Res :=
  if (M 21 1) ≤ x5 then (some (x4, M))
  else (ok (0 ≤ x5 ∧ x5 < 40) (ok (kd x3 = 17) (cl (f_X11_kindOf M x3 (23 + x5)) (fun r13 M14 =>
  if r13 = a2 then (ok (in32 (x4 + 1)) (bi (x4 + 1) (fun y18 =>
  bi (x5 + 1) (fun y19 =>
  w28 M14 x3 y18 y19))))
  else (ok (in32 (x4 + 0)) (bi (x4 + 0) (fun y21 =>
  bi (x5 + 1) (fun y22 =>
  w28 M14 x3 y21 y22))))))))
def f_X11_kinds (M : Mem) (a1 a2 : Int) : Res :=
  cl (f_X11_lawAt M a1) (fun r1 M2 =>
  if r1 = 0 then (some ((-1), M2))
  else (if a2 < 0 then (some ((-1), M2))
  else (if a2 < 8 then (wl3 (b_X11_kinds_28 a2) FU M2 r1 0 0)
  else (some ((-1), M2)))))
def f_X11_oddsOfGuess (M : Mem) (a1 a2 : Int) : Res :=
  cl (f_X11_putTrial M a2) (fun r1 M2 =>
  cl (f_X7_carriedMost M2 a1 0) (fun r3 M4 =>
  cl (f_X11_sortsOf M4 (M4 a2 0)) (fun r5 M6 =>
  cl (f_X10_isRight M6 a2) (fun r7 M8 =>
  cl (f_X11_oddsOver M8 r3 r5 r7) (fun r9 M10 =>
  some (r9, M10))))))
def b_X11_weightOf_7 (a1 : Int) (w7 : Mem → Int → Int → Res) (M : Mem) (x2 x4 : Int) : Res :=
  if (M 21 1) ≤ x4 then (some (x2, M))
  else (if x2 ≤ 0 then (some (x2, M))
  else (ok (0 ≤ x4 ∧ x4 < 40) (cl (f_X11_oddsOfGuess M a1 (23 + x4)) (fun r6 M7 =>
  ok (in64 (x2 * r6)) (cl (f_X11_sortsOf M7 (M7 (23 + x4) 0)) (fun r9 M10 =>
  ok (in64 (100 * r9)) (ok (0 ≤ x2 * r6 ∧ 0 < 100 * r9) (bi ((x2 * r6) / (100 * r9)) (fun y13 =>
  bi (x4 + 1) (fun y14 =>
  w7 M10 y13 y14))))))))))
def f_X11_weightOf (M : Mem) (a1 : Int) : Res :=
  wl2 (b_X11_weightOf_7 a1) FU M 1000000000000 0
def f_X11_weight (M : Mem) (a1 : Int) : Res :=
  cl (f_X11_lawAt M a1) (fun r1 M2 =>
  if r1 = 0 then (some ((-1), M2))
  else (ok (kd r1 = 17) (cl (f_X11_weightOf M2 r1) (fun r6 M7 =>
  some (r6, M7)))))
def b_X11_thrown_14 (w14 : Mem → Int → Int → Res) (M : Mem) (x2 x3 : Int) : Res :=
  if (M 21 1) ≤ x3 then (some ((-1), M))
  else (ok (0 ≤ x3 ∧ x3 < 40) (ok (kd x2 = 17) (cl (f_X11_oddsOfGuess M x2 (23 + x3)) (fun r9 M10 =>
  if r9 = 0 then (some (x3, M10))
  else (bi (x3 + 1) (fun y13 =>
  w14 M10 x2 y13))))))
def f_X11_thrown (M : Mem) (a1 : Int) : Res :=
  cl (f_X11_lawAt M a1) (fun r1 M2 =>
  if r1 = 0 then (some ((-1), M2))
  else (wl2 (b_X11_thrown_14) FU M2 r1 0))
def j_X11_likely_45 (w9 : Mem → Int → Int → Int → Res) (M : Mem) (x1 x2 x4 s0 : Int) : Res :=
  if s0 ≤ x2 then (ok (in32 (x4 + 1)) (bi (x4 + 1) (fun y10 =>
  w9 M x1 x2 y10)))
  else (ok (in32 (x4 + 1)) (bi (x4 + 1) (fun y12 =>
  w9 M x4 s0 y12)))
def b_X11_likely_9 (w9 : Mem → Int → Int → Int → Res) (M : Mem) (x1 x2 x4 : Int) : Res :=
  if 3 ≤ x4 then (some (x1, M))
  else (ok (0 ≤ x4 ∧ x4 < 3) (ok (kd (M 68 x4) = 17) (if (M (M 68 x4) 6) = 0 then (j_X11_likely_45 w9 M x1 x2 x4 (-1))
  else (cl (f_X11_weightOf M (M 68 x4)) (fun r13 M14 =>
  j_X11_likely_45 w9 M14 x1 x2 x4 r13)))))
def f_X11_likely (M : Mem) : Res :=
  wl3 (b_X11_likely_9) FU M (-1) (-1) 0
def b_X11_lies_17 (w17 : Mem → Int → Int → Int → Res) (M : Mem) (x2 x3 x4 : Int) : Res :=
  if (M 21 1) ≤ x4 then (some (x3, M))
  else (ok (0 ≤ x4 ∧ x4 < 40) (cl (f_X11_putTrial M (23 + x4)) (fun r8 M9 =>
  ok (kd x2 = 17) (cl (f_X7_saysBy M9 x2) (fun r11 M12 =>
  if r11 = (M12 (23 + x4) 5) then (ok (in32 (x3 + 0)) (bi (x3 + 0) (fun y16 =>
  bi (x4 + 1) (fun y17 =>
  w17 M12 x2 y16 y17))))
  else (ok (in32 (x3 + 1)) (bi (x3 + 1) (fun y19 =>
  bi (x4 + 1) (fun y20 =>
  w17 M12 x2 y19 y20)))))))))
def f_X11_lies (M : Mem) (a1 : Int) : Res :=
  cl (f_X11_lawAt M a1) (fun r1 M2 =>
  if r1 = 0 then (some ((-1), M2))
  else (wl3 (b_X11_lies_17) FU M2 r1 0 0))
def b_X11_span_22 (a2 : Int) (w22 : Mem → Int → Int → Int → Int → Res) (M : Mem) (x3 x4 x5 x6 : Int) : Res :=
  if (M 21 1) ≤ x6 then (if x4 ≤ x5 then (if a2 = 0 then (some (x4, M))
  else (some (x5, M)))
  else (some ((-1), M)))
  else (ok (0 ≤ x6 ∧ x6 < 40) (cl (f_X11_putTrial M (23 + x6)) (fun r12 M13 =>
  ok (kd x3 = 17) (cl (f_X7_carriedMost M13 x3 1) (fun r15 M16 =>
  if (M16 (23 + x6) 5) = 0 then (ok (in32 (r15 + 1)) (cl (f_J9_max_7cf53 M16 x4 (r15 + 1)) (fun r20 M21 =>
  bi (x6 + 1) (fun y22 =>
  w22 M21 x3 r20 x5 y22))))
  else (cl (f_J9_min_7cf53 M16 x5 r15) (fun r23 M24 =>
  bi (x6 + 1) (fun y25 =>
  w22 M24 x3 x4 r23 y25))))))))
def f_X11_span (M : Mem) (a1 a2 : Int) : Res :=
  cl (f_X11_lawAt M a1) (fun r1 M2 =>
  if r1 = 0 then (some ((-1), M2))
  else (wl4 (b_X11_span_22 a2) FU M2 r1 0 101 0))
def b_X11_bound_4 (w4 : Mem → Int → Int → Res) (M : Mem) (x1 x2 : Int) : Res :=
  if (M 21 1) ≤ x2 then (some (x1, M))
  else (ok (0 ≤ x2 ∧ x2 < 40) (if (M (23 + x2) 1) = (M 13 11) then (cl (f_X3_lightAt M (M (23 + x2) 1) (M (23 + x2) 2)) (fun r6 M7 =>
  cl (f_J9_max_7cf53 M7 x1 r6) (fun r8 M9 =>
  bi (x2 + 1) (fun y10 =>
  w4 M9 r8 y10))))
  else (bi (x2 + 1) (fun y11 =>
  w4 M x1 y11))))
def f_X11_bound (M : Mem) : Res :=
  wl2 (b_X11_bound_4) FU M 0 0
def j_X11_left_59 (w9 : Mem → Int → Int → Int → Res) (M : Mem) (x1 x2 x3 x4 s0 : Int) : Res :=
  if s0 = 0 then (ok (in32 (x2 + 0)) (bi (x2 + 0) (fun y13 =>
  ok (in32 (x3 + 1)) (bi (x3 + 1) (fun y15 =>
  w9 M x1 y13 y15)))))
  else (ok (kd x4 = 20) (cl (f_X3_lightAt M (M x4 1) (M x4 2)) (fun r17 M18 =>
  if x1 < r17 then (ok (in32 (x2 + 0)) (bi (x2 + 0) (fun y22 =>
  ok (in32 (x3 + 1)) (bi (x3 + 1) (fun y24 =>
  w9 M18 x1 y22 y24)))))
  else (ok (in32 (x2 + 1)) (bi (x2 + 1) (fun y26 =>
  ok (in32 (x3 + 1)) (bi (x3 + 1) (fun y28 =>
  w9 M18 x1 y26 y28))))))))
def j_X11_left_58 (w9 : Mem → Int → Int → Int → Res) (M : Mem) (x1 x2 x3 x4 : Int) : Res :=
  j_X11_left_59 w9 M x1 x2 x3 x4 0
def b_X11_left_9 (w9 : Mem → Int → Int → Int → Res) (M : Mem) (x1 x2 x3 : Int) : Res :=
  if (M 21 1) ≤ x3 then (some (x2, M))
  else (ok (0 ≤ x3 ∧ x3 < 40) (cl (f_X10_isRight M (23 + x3)) (fun r6 M7 =>
  if r6 = 0 then (j_X11_left_58 w9 M7 x1 x2 x3 (23 + x3))
  else (cl (f_X3_isGone M7 (M7 (23 + x3) 1)) (fun r29 M30 =>
  if r29 = 0 then (j_X11_left_58 w9 M30 x1 x2 x3 (23 + x3))
  else (j_X11_left_59 w9 M30 x1 x2 x3 (23 + x3) 1))))))
def f_X11_left (M : Mem) : Res :=
  cl (f_X11_bound M) (fun r1 M2 =>
  wl3 (b_X11_left_9) FU M2 r1 0 0)
def b_X11_listHelpers_4 (a1 : Int) (w4 : Mem → Int → Int → Res) (M : Mem) (x2 x3 : Int) : Res :=
  if (M 21 1) ≤ x3 then (some (x2, M))
  else (ok (0 ≤ x3 ∧ x3 < 40) (cl (f_X10_isRight M (23 + x3)) (fun r4 M5 =>
  if r4 = 0 then (bi (x3 + 1) (fun y8 =>
  w4 M5 x2 y8))
  else (if (M5 (23 + x3) 2) ≤ 0 then (bi (x3 + 1) (fun y11 =>
  w4 M5 x2 y11))
  else (cl (f_X11_putTrial M5 (23 + x3)) (fun r12 M13 =>
  cl (f_X7_carriersBy M13 a1) (fun r14 M15 =>
  ok (0 ≤ x2 ∧ x2 < 40) (bm (st M15 204 x2 r14) (fun M17 =>
  bi (x2 + 1) (fun y18 =>
  bi (x3 + 1) (fun y19 =>
  w4 M17 y18 y19)))))))))))
def f_X11_listHelpers (M : Mem) (a1 : Int) : Res :=
  wl2 (b_X11_listHelpers_4 a1) FU M 0 0
def f_J6_bitCount_0f7a4 (M : Mem) (a0 : Int) : Res :=
  ok (in32 (a0 - (iand (iushr a0 1) 1431655765))) (bi (a0 - (iand (iushr a0 1) 1431655765)) (fun y2 =>
  ok (in32 ((iand y2 858993459) + (iand (iushr y2 2) 858993459))) (bi ((iand y2 858993459) + (iand (iushr y2 2) 858993459)) (fun y4 =>
  ok (in32 (y4 + (iushr y4 4))) (bi (iand (y4 + (iushr y4 4)) 252645135) (fun y6 =>
  ok (in32 (y6 + (iushr y6 8))) (bi (y6 + (iushr y6 8)) (fun y8 =>
  ok (in32 (y8 + (iushr y8 16))) (bi (y8 + (iushr y8 16)) (fun y10 =>
  some (iand y10 63, M)))))))))))
def b_X11_explains_2 (a1 a2 : Int) (w2 : Mem → Int → Res) (M : Mem) (x3 : Int) : Res :=
  if a2 ≤ x3 then (some (1, M))
  else (if 40 ≤ x3 then (some (1, M))
  else (ok (0 ≤ x3 ∧ x3 < 40) (if (iand (M 204 x3) a1) = 0 then (some (0, M))
  else (bi (x3 + 1) (fun y8 =>
  w2 M y8)))))
def f_X11_explains (M : Mem) (a1 a2 : Int) : Res :=
  wl1 (b_X11_explains_2 a1 a2) FU M 0
def b_X11_fewest_29 (a2 : Int) (w29 : Mem → Int → Int → Int → Int → Int → Res) (M : Mem) (x3 x4 x5 x6 x7 : Int) : Res :=
  ok (kd x3 = 17) (if (ishl 1 (M x3 3)) ≤ x7 then (if a2 = 0 then (if x5 = (-1) then (some (x5, M))
  else (some (x6, M)))
  else (some (x5, M)))
  else (cl (f_J6_bitCount_0f7a4 M x7) (fun r15 M16 =>
  if x6 ≤ r15 then (ok (in32 (x7 + 1)) (bi (x7 + 1) (fun y20 =>
  w29 M16 x3 x4 x5 x6 y20)))
  else (cl (f_X11_explains M16 x7 x4) (fun r21 M22 =>
  if r21 = 0 then (ok (in32 (x7 + 1)) (bi (x7 + 1) (fun y26 =>
  w29 M22 x3 x4 x5 x6 y26)))
  else (ok (in32 (x7 + 1)) (bi (x7 + 1) (fun y28 =>
  w29 M22 x3 x4 x7 r15 y28))))))))
def f_X11_fewest (M : Mem) (a1 a2 : Int) : Res :=
  cl (f_X11_lawAt M a1) (fun r1 M2 =>
  if r1 = 0 then (some ((-1), M2))
  else (ok (kd r1 = 17) (cl (f_X11_listHelpers M2 r1) (fun r6 M7 =>
  wl5 (b_X11_fewest_29 a2) FU M7 r1 r6 (-1) 6 0))))
def f_X11_partedBy (M : Mem) (a1 a2 a3 : Int) : Res :=
  cl (f_X7_carriedMost M a1 0) (fun r1 M2 =>
  cl (f_X7_carriedMost M2 a2 0) (fun r3 M4 =>
  ok (in32 (r1 - r3)) (cl (f_J9_abs_0f7a4 M4 (r1 - r3)) (fun r6 M7 =>
  ok (in32 (a3 - 1)) (ok (in32 (r6 * (a3 - 1))) (ok (in32 ((r6 * (a3 - 1)) * 10000)) (ok (0 ≤ (r6 * (a3 - 1)) * 10000 ∧ 0 < a3) (some (((r6 * (a3 - 1)) * 10000) / a3, M7)))))))))
def f_X11_parted (M : Mem) (a1 a2 a3 a4 a5 a6 : Int) : Res :=
  cl (f_X11_lawAt M a1) (fun r1 M2 =>
  cl (f_X11_lawAt M2 a2) (fun r3 M4 =>
  if r1 = 0 then (some ((-1), M4))
  else (if r3 = 0 then (some ((-1), M4))
  else (cl (f_X11_showsTold M4 a3 a4 a5 a6) (fun r9 M10 =>
  if r9 = 0 then (some ((-1), M10))
  else (cl (f_X11_sortsOf M10 a3) (fun r13 M14 =>
  ok (kd r1 = 17) (ok (kd r3 = 17) (cl (f_X11_partedBy M14 r1 r3 r13) (fun r17 M18 =>
  some (r17, M18)))))))))))
def b_X11_next_75 (a3 a4 : Int) (w75 : Mem → Int → Int → Int → Int → Int → Res) (M : Mem) (x5 x6 x8 x9 x10 : Int) : Res :=
  ok (kd (M 1 8) = 17) (ok (in32 ((M (M 1 8) 3) * 96)) (if ((M (M 1 8) 3) * 96) ≤ x10 then (if a4 = 0 then (ok (0 ≤ x8) (some (x8 / 96, M)))
  else (if a4 = 1 then (ok (0 ≤ x8) (some (x8 % 12, M)))
  else (if a4 = 2 then (ok (0 ≤ x8) (ok (0 ≤ x8 % 96) (some ((x8 % 96) / 12, M))))
  else (some (x9, M)))))
  else (ok (0 ≤ x10) (bi (x10 / 96) (fun y31 =>
  cl (f_X11_putShowing M y31 (x10 % 96) a3) (fun r32 M33 =>
  cl (f_X11_sortsOf M33 y31) (fun r34 M35 =>
  ok (kd x5 = 17) (ok (kd x6 = 17) (cl (f_X11_partedBy M35 x5 x6 r34) (fun r38 M39 =>
  if r38 ≤ x9 then (ok (in32 (x10 + 1)) (bi (x10 + 1) (fun y43 =>
  w75 M39 x5 x6 x8 x9 y43)))
  else (ok (in32 (x10 + 1)) (bi (x10 + 1) (fun y45 =>
  w75 M39 x5 x6 x10 r38 y45)))))))))))))
def j_X11_next_37 (a3 a4 : Int) (M : Mem) (x5 x6 s0 : Int) : Res :=
  if s0 = 0 then (some ((-1), M))
  else (if x5 = 0 then (some ((-1), M))
  else (if x6 = 0 then (some ((-1), M))
  else (ok (kd (M 1 8) = 17) (if (M (M 1 8) 3) = 0 then (some ((-1), M))
  else (wl5 (b_X11_next_75 a3 a4) FU M x5 x6 0 (-1) 0)))))
def j_X11_next_36 (a3 a4 : Int) (M : Mem) (x5 x6 : Int) : Res :=
  j_X11_next_37 a3 a4 M x5 x6 0
def f_X11_next (M : Mem) (a1 a2 a3 a4 : Int) : Res :=
  cl (f_X11_lawAt M a1) (fun r1 M2 =>
  cl (f_X11_lawAt M2 a2) (fun r3 M4 =>
  if a4 < 0 then (j_X11_next_36 a3 a4 M4 r1 r3)
  else (if 3 < a4 then (j_X11_next_36 a3 a4 M4 r1 r3)
  else (cl (f_X11_isBright M4 a3) (fun r48 M49 =>
  if r48 = 0 then (j_X11_next_36 a3 a4 M49 r1 r3)
  else (j_X11_next_37 a3 a4 M49 r1 r3 1))))))
def f_X11_chair (M : Mem) (a1 a2 a3 : Int) : Res :=
  cl (f_X11_isSquare M a1 a2) (fun r1 M2 =>
  if r1 = 0 then (some ((-1), M2))
  else (cl (f_X11_squareAt M2 a1 a2) (fun r5 M6 =>
  cl (f_X1_putChair M6 r5 a3) (fun r7 M8 =>
  if r7 = 0 then (some ((-1), M8))
  else (some (M8 63 3, M8))))))
def f_X11_walks (M : Mem) (a1 : Int) : Res :=
  if a1 < 0 then (some ((-1), M))
  else (if 8 ≤ a1 then (some ((-1), M))
  else (cl (f_X1_passed M a1 0) (fun r5 M6 =>
  ok (in32 (r5)) (some (r5, M6)))))
def f_J9_max_f86c9 (M : Mem) (a0 a2 : Int) : Res :=
  if a0 < a2 then (some (a2, M))
  else (some (a0, M))
def j_X11_walk_44 (M : Mem) (x5 s0 : Int) : Res :=
  cl (f_J9_max_f86c9 M 1 x5) (fun r11 M12 =>
  ok (0 ≤ s0 ∧ 0 < r11) (some (s0 / r11, M12)))
def f_X11_walk (M : Mem) (a1 a2 : Int) : Res :=
  if a1 < 0 then (some ((-1), M))
  else (if a1 < 8 then (cl (f_X1_passed M a1 1) (fun r5 M6 =>
  cl (f_X11_divisorOf M6 r5 362797056) (fun r7 M8 =>
  if a2 = 0 then (j_X11_walk_44 M8 r7 362797056)
  else (j_X11_walk_44 M8 r7 r5))))
  else (some ((-1), M)))
def f_X11_putOctet (M : Mem) (a1 : Int) : Res :=
  if 322 ≤ (M 1 15) then (some (0, M))
  else (ok (0 ≤ M 1 15 ∧ M 1 15 < 322) (bm (st M 202 (M 1 15) a1) (fun M4 =>
  ok (in32 ((M4 1 15) + 1)) (bm (st M4 1 15 ((M4 1 15) + 1)) (fun M6 =>
  some (0, M6))))))
def f_X11_checkedOn (M : Mem) (a0 a1 : Int) : Res :=
  ok (in32 (3 * a0)) (ok (in32 ((3 * a0) + a1)) (ok (0 ≤ (3 * a0) + a1) (some (((3 * a0) + a1) % 233, M))))
def b_X11_image_70 (w70 : Mem → Int → Int → Res) (M : Mem) (x1 x2 : Int) : Res :=
  if (M 1 15) ≤ x2 then (cl (f_X11_putOctet M x1) (fun r8 M9 =>
  some (M9 1 15, M9)))
  else (ok (0 ≤ x2 ∧ x2 < 322) (cl (f_X11_checkedOn M x1 (M 202 x2)) (fun r11 M12 =>
  bi (x2 + 1) (fun y13 =>
  w70 M12 r11 y13))))
def b_X11_image_31 (w18 : Mem → Int → Res) (w31 : Mem → Int → Int → Res) (M : Mem) (x1 x2 : Int) : Res :=
  if 8 ≤ x2 then (ok (in32 (x1 + 1)) (bi (x1 + 1) (fun y17 =>
  w18 M y17)))
  else (ok (0 ≤ x1 ∧ x1 < 40) (cl (f_X10_byteAt M (23 + x1) x2) (fun r19 M20 =>
  cl (f_X11_putOctet M20 r19) (fun r21 M22 =>
  ok (in32 (x2 + 1)) (bi (x2 + 1) (fun y24 =>
  w31 M22 x1 y24))))))
def b_X11_image_18 (w18 : Mem → Int → Res) (M : Mem) (x1 : Int) : Res :=
  if (M 21 1) ≤ x1 then (wl2 (b_X11_image_70) FU M 5 0)
  else (wl2 (b_X11_image_31 w18) FU M x1 0)
def f_X11_image (M : Mem) : Res :=
  bm (st M 1 15 0) (fun M1 =>
  cl (f_X11_putOctet M1 (M1 21 1)) (fun r2 M3 =>
  wl1 (b_X11_image_18) FU M3 0))
def f_X11_octet (M : Mem) (a1 : Int) : Res :=
  if a1 < 0 then (some ((-1), M))
  else (if (M 1 15) ≤ a1 then (some ((-1), M))
  else (ok (0 ≤ a1 ∧ a1 < 322) (some (M 202 a1, M))))
def f_X11_imagePlace (M : Mem) (a0 : Int) : Res :=
  ok (in32 (8 * a0)) (ok (in32 (1 + (8 * a0))) (some (1 + (8 * a0), M)))
def f_X11_isTrial (M : Mem) (a1 : Int) : Res :=
  cl (f_X9_at M a1) (fun r1 M2 =>
  ok (kd (M2 1 8) = 17) (if (M2 (M2 1 8) 3) ≤ r1 then (some (0, M2))
  else (ok (in32 (a1 + 1)) (cl (f_X9_at M2 (a1 + 1)) (fun r7 M8 =>
  if 96 ≤ r7 then (some (0, M8))
  else (ok (in32 (a1 + 2)) (cl (f_X9_at M8 (a1 + 2)) (fun r12 M13 =>
  cl (f_X11_isBright M13 r12) (fun r14 M15 =>
  if r14 = 0 then (some (0, M15))
  else (ok (in32 (a1 + 3)) (cl (f_X9_at M15 (a1 + 3)) (fun r19 M20 =>
  cl (f_X11_isSort M20 r1 r19) (fun r21 M22 =>
  if r21 = 0 then (some (0, M22))
  else (ok (in32 (a1 + 4)) (cl (f_X9_at M22 (a1 + 4)) (fun r26 M27 =>
  cl (f_X11_isSort M27 r1 r26) (fun r28 M29 =>
  if r28 = 0 then (some (0, M29))
  else (ok (in32 (a1 + 7)) (cl (f_X9_at M29 (a1 + 7)) (fun r33 M34 =>
  ok (in32 (a1 + 5)) (cl (f_X9_at M34 (a1 + 5)) (fun r36 M37 =>
  if 3 < r36 then (some (0, M37))
  else (ok (in32 (a1 + 6)) (cl (f_X9_at M37 (a1 + 6)) (fun r41 M42 =>
  if 9 < r41 then (some (0, M42))
  else (if r33 = 255 then (some (1, M42))
  else (cl (f_X11_isSort M42 r1 r33) (fun r47 M48 =>
  if r47 = 0 then (some (0, M48))
  else (some (1, M48))))))))))))))))))))))))))))))
def b_X11_isImage_97 (w97 : Mem → Int → Int → Res) (M : Mem) (x1 x3 : Int) : Res :=
  if x1 ≤ x3 then (some (1, M))
  else (cl (f_X11_imagePlace M x3) (fun r21 M22 =>
  cl (f_X11_isTrial M22 r21) (fun r23 M24 =>
  if r23 = 0 then (some (0, M24))
  else (ok (in32 (x3 + 1)) (bi (x3 + 1) (fun y28 =>
  w97 M24 x1 y28))))))
def b_X11_isImage_41 (w41 : Mem → Int → Int → Int → Res) (M : Mem) (x1 x2 x3 : Int) : Res :=
  ok (in32 ((M 2 1) - 1)) (if ((M 2 1) - 1) ≤ x3 then (cl (f_X9_at M ((M 2 1) - 1)) (fun r15 M16 =>
  if x2 = r15 then (wl2 (b_X11_isImage_97) FU M16 x1 0)
  else (some (0, M16))))
  else (cl (f_X9_at M x3) (fun r29 M30 =>
  cl (f_X11_checkedOn M30 x2 r29) (fun r31 M32 =>
  ok (in32 (x3 + 1)) (bi (x3 + 1) (fun y34 =>
  w41 M32 x1 r31 y34))))))
def f_X11_isImage (M : Mem) : Res :=
  cl (f_X9_at M 0) (fun r1 M2 =>
  if r1 < 0 then (some (0, M2))
  else (if 40 < r1 then (some (0, M2))
  else (cl (f_X11_imagePlace M2 r1) (fun r7 M8 =>
  ok (in32 (r7 + 1)) (if (M2 2 1) = (r7 + 1) then (wl3 (b_X11_isImage_41) FU M8 r1 5 0)
  else (some (0, M8)))))))
def b_X11_on_26 (w26 : Mem → Int → Int → Res) (M : Mem) (x1 x2 : Int) : Res :=
  if (M 21 1) ≤ x2 then (bm (st M 2 1 0) (fun M12 =>
  ok (x1 = 0 ∨ x1 = 1) (some (x1, M12))))
  else (ok (0 ≤ x2 ∧ x2 < 40) (cl (f_X11_imagePlace M x2) (fun r15 M16 =>
  cl (f_X10_take M16 (23 + x2) r15) (fun r17 M18 =>
  bi (x2 + 1) (fun y19 =>
  w26 M18 x1 y19)))))
def f_X11_on (M : Mem) : Res :=
  cl (f_X11_isImage M) (fun r1 M2 =>
  if r1 = 0 then (bm (st M2 2 1 0) (fun M5 =>
  ok (r1 = 0 ∨ r1 = 1) (some (r1, M5))))
  else (cl (f_X9_at M2 0) (fun r7 M8 =>
  bm (st M8 21 1 r7) (fun M9 =>
  wl2 (b_X11_on_26) FU M9 r1 0))))
def f_X12_isIn (M : Mem) (a0 a2 a4 : Int) : Res :=
  if a0 < a2 then (some (0, M))
  else (if a4 < a0 then (some (0, M))
  else (some (1, M)))
def j_X12_feed_71 (a1 a2 a3 a4 a5 : Int) (w18 : Mem → Int → Res) (M : Mem) (x6 s0 : Int) : Res :=
  ok (0 ≤ x6) (ok (in32 (3 - (x6 % 4))) (ok (in32 (8 * (3 - (x6 % 4)))) (ok (0 ≤ M 337 1 ∧ M 337 1 < 900) (bm (st M 338 (M 337 1) (iand (ishr s0 (8 * (3 - (x6 % 4)))) 255)) (fun M18 =>
  ok (in32 ((M18 337 1) + 1)) (bm (st M18 337 1 ((M18 337 1) + 1)) (fun M20 =>
  ok (in32 (x6 + 1)) (bi (x6 + 1) (fun y22 =>
  w18 M20 y22)))))))))
def b_X12_feed_18 (a1 a2 a3 a4 a5 : Int) (w18 : Mem → Int → Res) (M : Mem) (x6 : Int) : Res :=
  if 20 ≤ x6 then (some (M 337 1, M))
  else (if 4 ≤ x6 then (if 8 ≤ x6 then (if 12 ≤ x6 then (if 16 ≤ x6 then (j_X12_feed_71 a1 a2 a3 a4 a5 w18 M x6 a5)
  else (j_X12_feed_71 a1 a2 a3 a4 a5 w18 M x6 a4))
  else (j_X12_feed_71 a1 a2 a3 a4 a5 w18 M x6 a3))
  else (j_X12_feed_71 a1 a2 a3 a4 a5 w18 M x6 a2))
  else (j_X12_feed_71 a1 a2 a3 a4 a5 w18 M x6 a1))
def f_X12_feed (M : Mem) (a1 a2 a3 a4 a5 : Int) : Res :=
  ok (in32 ((M 337 1) + 20)) (if ((M 337 1) + 20) ≤ 900 then (wl1 (b_X12_feed_18 a1 a2 a3 a4 a5) FU M 0)
  else (some ((-1), M)))
def f_X12_end (M : Mem) (a1 : Int) : Res :=
  if a1 < 0 then (some (0, M))
  else (if a1 ≤ (M 337 1) then (bm (st M 337 1 a1) (fun M5 =>
  some (1, M5)))
  else (some (0, M)))
def f_X12_fail (M : Mem) (a1 a2 : Int) : Res :=
  if (M 337 5) = 0 then (bm (st M 337 5 a1) (fun M3 =>
  bm (st M3 337 6 a2) (fun M4 =>
  some (0, M4))))
  else (some (0, M))
def f_X12_isLetter (M : Mem) (a0 : Int) : Res :=
  if a0 < 97 then (some (0, M))
  else (if 122 < a0 then (some (0, M))
  else (some (1, M)))
def f_X12_isDigit (M : Mem) (a0 : Int) : Res :=
  if a0 < 48 then (some (0, M))
  else (if 57 < a0 then (some (0, M))
  else (some (1, M)))
def j_X12_look_52 (M : Mem) : Res :=
  if (M 337 3) ≤ (M 337 2) then (some ((-1), M))
  else (ok (0 ≤ M 337 2 ∧ M 337 2 < 900) (some (M 338 (M 337 2), M)))
def b_X12_look_0 (w0 : Mem → Res) (M : Mem) : Res :=
  if (M 337 3) ≤ (M 337 2) then (j_X12_look_52 M)
  else (ok (0 ≤ M 337 2 ∧ M 337 2 < 900) (if (M 338 (M 337 2)) = 10 then (bm (st M 337 2 ((M 337 2) + 1)) (fun M9 =>
  w0 M9))
  else (if (M 338 (M 337 2)) = 32 then (bm (st M 337 2 ((M 337 2) + 1)) (fun M12 =>
  w0 M12))
  else (j_X12_look_52 M))))
def f_X12_look (M : Mem) : Res :=
  wl0 (b_X12_look_0) FU M
def b_X12_isHere_76 (a1 : Int) (w76 : Mem → Int → Res) (M : Mem) (x3 : Int) : Res :=
  if (ln a1) ≤ x3 then (some (1, M))
  else (ok (in32 ((M 337 2) + x3)) (ok (0 ≤ (M 337 2) + x3 ∧ (M 337 2) + x3 < 900) (ok (0 ≤ x3 ∧ x3 < ln a1) (if (M 338 ((M 337 2) + x3)) = (fxv a1 x3) then (ok (in32 (x3 + 1)) (bi (x3 + 1) (fun y25 =>
  w76 M y25)))
  else (some (0, M))))))
def j_X12_isHere_61 (a1 : Int) (M : Mem) (x2 : Int) : Res :=
  ok (in32 (x2 - (M 337 2))) (if (x2 - (M 337 2)) = (ln a1) then (wl1 (b_X12_isHere_76 a1) FU M 0)
  else (some (0, M)))
def b_X12_isHere_35 (a1 : Int) (w35 : Mem → Int → Res) (M : Mem) (x2 : Int) : Res :=
  if (M 337 3) ≤ x2 then (j_X12_isHere_61 a1 M x2)
  else (ok (0 ≤ x2 ∧ x2 < 900) (cl (f_X12_isLetter M (M 338 x2)) (fun r27 M28 =>
  if r27 = 0 then (j_X12_isHere_61 a1 M28 x2)
  else (bi (x2 + 1) (fun y31 =>
  w35 M28 y31)))))
def f_X12_isHere (M : Mem) (a1 : Int) : Res :=
  if (M 337 5) = 0 then (cl (f_X12_look M) (fun r3 M4 =>
  cl (f_X12_isLetter M4 r3) (fun r5 M6 =>
  if r5 = 0 then (some (0, M6))
  else (if (M6 337 2) = (M6 337 4) then (some (0, M6))
  else (bi (M6 337 2) (fun y11 =>
  wl1 (b_X12_isHere_35 a1) FU M6 y11))))))
  else (some (0, M))
def f_X12_takes (M : Mem) (a1 : Int) : Res :=
  cl (f_X12_isHere M a1) (fun r1 M2 =>
  if r1 = 0 then (some (0, M2))
  else (ok (in32 ((M2 337 2) + (ln a1))) (bm (st M2 337 2 ((M2 337 2) + (ln a1))) (fun M6 =>
  bm (st M6 337 4 (M6 337 2)) (fun M7 =>
  some (1, M7))))))
def f_X12_asks (M : Mem) (a1 : Int) : Res :=
  if (M 337 5) = 0 then (cl (f_X12_takes M a1) (fun r3 M4 =>
  if r3 = 0 then (cl (f_X12_fail M4 1 (M4 337 2)) (fun r7 M8 =>
  some (0, M8)))
  else (some (0, M4))))
  else (some (0, M))
def f_X12_takesSign (M : Mem) (a1 : Int) : Res :=
  if (M 337 5) = 0 then (cl (f_X12_look M) (fun r3 M4 =>
  if r3 = a1 then (ok (in32 ((M4 337 2) + 1)) (bm (st M4 337 2 ((M4 337 2) + 1)) (fun M8 =>
  some (1, M8))))
  else (some (0, M4))))
  else (some (0, M))
def f_X12_asksSign (M : Mem) (a1 : Int) : Res :=
  if (M 337 5) = 0 then (cl (f_X12_takesSign M a1) (fun r3 M4 =>
  if r3 = 0 then (cl (f_X12_fail M4 1 (M4 337 2)) (fun r7 M8 =>
  some (0, M8)))
  else (some (0, M4))))
  else (some (0, M))
def j_X12_number_30 (M : Mem) : Res :=
  cl (f_X12_fail M 1 (M 337 2)) (fun r9 M10 =>
  some (0, M10))
def j_X12_number_129 (a1 a2 : Int) (M : Mem) (x3 x4 : Int) : Res :=
  bm (st M 337 4 (M 337 2)) (fun M16 =>
  cl (f_X12_isIn M16 x4 a1 a2) (fun r17 M18 =>
  if r17 = 0 then (cl (f_X12_fail M18 2 x3) (fun r21 M22 =>
  some (x4, M22)))
  else (some (x4, M18))))
def b_X12_number_49 (a1 a2 : Int) (w49 : Mem → Int → Int → Res) (M : Mem) (x3 x4 : Int) : Res :=
  if (M 337 3) ≤ (M 337 2) then (j_X12_number_129 a1 a2 M x3 x4)
  else (ok (0 ≤ M 337 2 ∧ M 337 2 < 900) (cl (f_X12_isDigit M (M 338 (M 337 2))) (fun r24 M25 =>
  if r24 = 0 then (j_X12_number_129 a1 a2 M25 x3 x4)
  else (ok (in32 ((M25 337 2) - x3)) (if ((M25 337 2) - x3) = 4 then (cl (f_X12_fail M25 1 (M25 337 2)) (fun r31 M32 =>
  some (0, M32)))
  else (ok (in32 (10 * x4)) (ok (0 ≤ M25 337 2 ∧ M25 337 2 < 900) (ok (in32 ((10 * x4) + (M25 338 (M25 337 2)))) (ok (in32 (((10 * x4) + (M25 338 (M25 337 2))) - 48)) (bi (((10 * x4) + (M25 338 (M25 337 2))) - 48) (fun y37 =>
  bm (st M25 337 2 ((M25 337 2) + 1)) (fun M38 =>
  w49 M38 x3 y37))))))))))))
def f_X12_number (M : Mem) (a1 a2 : Int) : Res :=
  if (M 337 5) = 0 then (cl (f_X12_look M) (fun r3 M4 =>
  cl (f_X12_isDigit M4 r3) (fun r5 M6 =>
  if r5 = 0 then (j_X12_number_30 M6)
  else (if (M6 337 2) = (M6 337 4) then (j_X12_number_30 M6)
  else (bi (M6 337 2) (fun y13 =>
  wl2 (b_X12_number_49 a1 a2) FU M6 y13 0))))))
  else (some (0, M))
def j_X12_isOwnHere_147 (M : Mem) (s0 : Int) : Res :=
  if s0 = 0 then (cl (f_X12_isHere M 351) (fun r53 M54 =>
  if r53 = 0 then (cl (f_X12_isHere M54 352) (fun r57 M58 =>
  if r57 = 0 then (cl (f_X12_isHere M58 353) (fun r61 M62 =>
  if r61 = 0 then (cl (f_X12_isHere M62 354) (fun r65 M66 =>
  if r65 = 0 then (cl (f_X12_isHere M66 355) (fun r69 M70 =>
  if r69 = 0 then (cl (f_X12_isHere M70 356) (fun r73 M74 =>
  if r73 = 0 then (cl (f_X12_isHere M74 357) (fun r77 M78 =>
  if r77 = 0 then (cl (f_X12_isHere M78 358) (fun r81 M82 =>
  if r81 = 0 then (cl (f_X12_isHere M82 359) (fun r85 M86 =>
  if r85 = 0 then (some (0, M86))
  else (some (1, M86))))
  else (some (1, M82))))
  else (some (1, M78))))
  else (some (1, M74))))
  else (some (1, M70))))
  else (some (1, M66))))
  else (some (1, M62))))
  else (some (1, M58))))
  else (some (1, M54))))
  else (some (1, M))
def j_X12_isOwnHere_142 (M : Mem) : Res :=
  j_X12_isOwnHere_147 M 1
def j_X12_isOwnHere_115 (M : Mem) (s0 : Int) : Res :=
  if s0 = 0 then (cl (f_X12_isHere M 346) (fun r43 M44 =>
  if r43 = 0 then (cl (f_X12_isHere M44 347) (fun r47 M48 =>
  if r47 = 0 then (j_X12_isOwnHere_147 M48 0)
  else (j_X12_isOwnHere_142 M48)))
  else (j_X12_isOwnHere_142 M44)))
  else (j_X12_isOwnHere_142 M)
def j_X12_isOwnHere_110 (M : Mem) : Res :=
  j_X12_isOwnHere_115 M 1
def f_X12_isOwnHere (M : Mem) : Res :=
  cl (f_X12_isHere M 339) (fun r1 M2 =>
  if r1 = 0 then (cl (f_X12_isHere M2 340) (fun r5 M6 =>
  if r5 = 0 then (cl (f_X12_isHere M6 341) (fun r9 M10 =>
  if r9 = 0 then (cl (f_X12_isHere M10 342) (fun r13 M14 =>
  if r13 = 0 then (cl (f_X12_isHere M14 343) (fun r17 M18 =>
  if r17 = 0 then (cl (f_X12_isHere M18 344) (fun r21 M22 =>
  if r21 = 0 then (cl (f_X12_isHere M22 345) (fun r25 M26 =>
  if r25 = 0 then (cl (f_X12_isHere M26 348) (fun r29 M30 =>
  if r29 = 0 then (cl (f_X12_isHere M30 349) (fun r33 M34 =>
  if r33 = 0 then (cl (f_X12_isHere M34 350) (fun r37 M38 =>
  if r37 = 0 then (j_X12_isOwnHere_115 M38 0)
  else (j_X12_isOwnHere_110 M38)))
  else (j_X12_isOwnHere_110 M34)))
  else (j_X12_isOwnHere_110 M30)))
  else (j_X12_isOwnHere_110 M26)))
  else (j_X12_isOwnHere_110 M22)))
  else (j_X12_isOwnHere_110 M18)))
  else (j_X12_isOwnHere_110 M14)))
  else (j_X12_isOwnHere_110 M10)))
  else (j_X12_isOwnHere_110 M6)))
  else (j_X12_isOwnHere_110 M2))
def j_X12_name_37 (M : Mem) : Res :=
  cl (f_X12_fail M 1 (M 337 2)) (fun r9 M10 =>
  some (0, M10))
def b_X12_name_58 (w58 : Mem → Int → Res) (M : Mem) (x1 : Int) : Res :=
  if (M 337 3) ≤ (M 337 2) then (bm (st M 337 4 (M 337 2)) (fun M20 =>
  some (x1, M20)))
  else (ok (0 ≤ M 337 2 ∧ M 337 2 < 900) (cl (f_X12_isLetter M (M 338 (M 337 2))) (fun r22 M23 =>
  if r22 = 0 then (bm (st M23 337 4 (M23 337 2)) (fun M26 =>
  some (x1, M26)))
  else (ok (in32 ((M23 337 2) - (M23 337 30))) (if ((M23 337 2) - (M23 337 30)) = 6 then (cl (f_X12_fail M23 1 (M23 337 2)) (fun r30 M31 =>
  some (0, M31)))
  else (ok (in64 (27 * x1)) (ok (0 ≤ M23 337 2 ∧ M23 337 2 < 900) (ok (in64 ((27 * x1) + (M23 338 (M23 337 2)))) (ok (in64 (((27 * x1) + (M23 338 (M23 337 2))) - 97)) (ok (in64 ((((27 * x1) + (M23 338 (M23 337 2))) - 97) + 1)) (bi ((((27 * x1) + (M23 338 (M23 337 2))) - 97) + 1) (fun y37 =>
  bm (st M23 337 2 ((M23 337 2) + 1)) (fun M38 =>
  w58 M38 y37)))))))))))))
def f_X12_name (M : Mem) : Res :=
  if (M 337 5) = 0 then (cl (f_X12_look M) (fun r3 M4 =>
  cl (f_X12_isLetter M4 r3) (fun r5 M6 =>
  if r5 = 0 then (j_X12_name_37 M6)
  else (if (M6 337 2) = (M6 337 4) then (j_X12_name_37 M6)
  else (cl (f_X12_isOwnHere M6) (fun r13 M14 =>
  if r13 = 0 then (bm (st M14 337 30 (M14 337 2)) (fun M17 =>
  wl1 (b_X12_name_58) FU M17 0))
  else (j_X12_name_37 M14)))))))
  else (some (0, M))
def f_X12_code (M : Mem) (a1 : Int) : Res :=
  ok (0 ≤ M 337 32 ∧ M 337 32 < 5400) (bm (st M 360 (M 337 32) a1) (fun M2 =>
  ok (in32 ((M2 337 32) + 1)) (bm (st M2 337 32 ((M2 337 32) + 1)) (fun M4 =>
  some (0, M4)))))
def f_X12_opens (M : Mem) (a1 a2 : Int) : Res :=
  if (M 337 35) = 6 then (cl (f_X12_fail M 4 a2) (fun r3 M4 =>
  some (0, M4)))
  else (ok (in32 ((M 337 35) + 1)) (bm (st M 337 35 ((M 337 35) + 1)) (fun M6 =>
  ok (0 ≤ M6 337 34 ∧ M6 337 34 < 1000) (bm (st M6 361 (M6 337 34) a1) (fun M8 =>
  ok (in32 ((M8 337 34) + 1)) (bm (st M8 337 34 ((M8 337 34) + 1)) (fun M10 =>
  some (0, M10))))))))
def f_X12_isOn (M : Mem) (a1 : Int) : Res :=
  if (M 337 34) ≤ 0 then (some (0, M))
  else (ok (in32 ((M 337 34) - 1)) (ok (0 ≤ (M 337 34) - 1 ∧ (M 337 34) - 1 < 1000) (if (M 361 ((M 337 34) - 1)) = a1 then (some (1, M))
  else (some (0, M)))))
def f_X12_drops (M : Mem) : Res :=
  ok (in32 ((M 337 34) - 1)) (bm (st M 337 34 ((M 337 34) - 1)) (fun M2 =>
  ok (0 ≤ M2 337 34 ∧ M2 337 34 < 1000) (cl (f_X12_code M2 (M2 361 (M2 337 34))) (fun r4 M5 =>
  some (0, M5)))))
def f_X12_isMark (M : Mem) (a1 : Int) : Res :=
  if a1 < 20 then (some (0, M))
  else (if 24 < a1 then (some (0, M))
  else (some (1, M)))
def j_X12_mark_34 (M : Mem) (x1 : Int) : Res :=
  if x1 < (M 337 51) then (some ((-1), M))
  else (ok (0 ≤ x1 ∧ x1 < 1000) (some (M 361 x1, M)))
def b_X12_mark_7 (w7 : Mem → Int → Res) (M : Mem) (x1 : Int) : Res :=
  if x1 < (M 337 51) then (j_X12_mark_34 M x1)
  else (ok (0 ≤ x1 ∧ x1 < 1000) (cl (f_X12_isMark M (M 361 x1)) (fun r9 M10 =>
  if r9 = 0 then (bi (x1 + (-1)) (fun y13 =>
  w7 M10 y13))
  else (j_X12_mark_34 M10 x1))))
def f_X12_mark (M : Mem) : Res :=
  ok (in32 ((M 337 34) - 1)) (bi ((M 337 34) - 1) (fun y2 =>
  wl1 (b_X12_mark_7) FU M y2))
def b_X12_dropsToMark_0 (w0 : Mem → Res) (M : Mem) : Res :=
  if (M 337 34) ≤ (M 337 51) then (some (0, M))
  else (ok (in32 ((M 337 34) - 1)) (ok (0 ≤ (M 337 34) - 1 ∧ (M 337 34) - 1 < 1000) (cl (f_X12_isMark M (M 361 ((M 337 34) - 1))) (fun r5 M6 =>
  if r5 = 0 then (cl (f_X12_drops M6) (fun r9 M10 =>
  w0 M10))
  else (some (0, M6))))))
def f_X12_dropsToMark (M : Mem) : Res :=
  wl0 (b_X12_dropsToMark_0) FU M
def j_X12_onePart_251 (M : Mem) (s0 : Int) : Res :=
  if s0 = (-1) then (cl (f_X12_number M 0 9999) (fun r31 M32 =>
  ok (in32 (1000 + r31)) (cl (f_X12_code M32 (1000 + r31)) (fun r34 M35 =>
  some (0, M35)))))
  else (cl (f_X12_code M s0) (fun r36 M37 =>
  some (0, M37)))
def j_X12_onePart_146 (M : Mem) : Res :=
  if (M 337 5) = 0 then (cl (f_X12_takes M 353) (fun r5 M6 =>
  if r5 = 0 then (cl (f_X12_takes M6 354) (fun r9 M10 =>
  if r9 = 0 then (cl (f_X12_takes M10 355) (fun r13 M14 =>
  if r13 = 0 then (cl (f_X12_takes M14 339) (fun r17 M18 =>
  if r17 = 0 then (cl (f_X12_takes M18 356) (fun r21 M22 =>
  if r21 = 0 then (cl (f_X12_takes M22 357) (fun r25 M26 =>
  if r25 = 0 then (j_X12_onePart_251 M26 (-1))
  else (j_X12_onePart_251 M26 30)))
  else (j_X12_onePart_251 M22 18)))
  else (j_X12_onePart_251 M18 10)))
  else (j_X12_onePart_251 M14 9)))
  else (j_X12_onePart_251 M10 8)))
  else (j_X12_onePart_251 M6 7)))
  else (some (0, M))
def j_X12_onePart_132 (w2 : Mem → Int → Res) (M : Mem) (x1 : Int) : Res :=
  cl (f_X12_asksSign M 40) (fun r68 M69 =>
  w2 M69 x1)
def j_X12_onePart_127 (w2 : Mem → Int → Res) (M : Mem) (x1 x4 s0 : Int) : Res :=
  cl (f_X12_opens M s0 x4) (fun r72 M73 =>
  j_X12_onePart_132 w2 M73 x1)
def j_X12_onePart_107 (w2 : Mem → Int → Res) (M : Mem) (x1 x3 s0 : Int) : Res :=
  if s0 = (-1) then (j_X12_onePart_132 w2 M x1)
  else (if x3 = 0 then (j_X12_onePart_127 w2 M x1 s0 22)
  else (j_X12_onePart_127 w2 M x1 s0 21))
def j_X12_onePart_90 (w2 : Mem → Int → Res) (M : Mem) (x1 x3 : Int) : Res :=
  cl (f_X12_look M) (fun r62 M63 =>
  if r62 = 40 then (j_X12_onePart_107 w2 M63 x1 x3 (M63 337 2))
  else (j_X12_onePart_107 w2 M63 x1 x3 (-1)))
def j_X12_onePart_69 (w2 : Mem → Int → Res) (M : Mem) (x1 : Int) : Res :=
  cl (f_X12_takes M 358) (fun r56 M57 =>
  if r56 = 0 then (cl (f_X12_asks M57 359) (fun r60 M61 =>
  j_X12_onePart_90 w2 M61 x1 r56))
  else (j_X12_onePart_90 w2 M57 x1 r56))
def b_X12_onePart_2 (w2 : Mem → Int → Res) (M : Mem) (x1 : Int) : Res :=
  if x1 = 0 then (j_X12_onePart_146 M)
  else (if (M 337 5) = 0 then (cl (f_X12_look M) (fun r40 M41 =>
  if r40 = 40 then (cl (f_X12_opens M41 20 (M41 337 2)) (fun r44 M45 =>
  ok (in32 ((M45 337 2) + 1)) (bm (st M45 337 2 ((M45 337 2) + 1)) (fun M47 =>
  w2 M47 x1))))
  else (cl (f_X12_isHere M41 358) (fun r48 M49 =>
  if r48 = 0 then (cl (f_X12_isHere M49 359) (fun r52 M53 =>
  if r52 = 0 then (w2 M53 0)
  else (j_X12_onePart_69 w2 M53 x1)))
  else (j_X12_onePart_69 w2 M49 x1)))))
  else (j_X12_onePart_146 M))
def f_X12_onePart (M : Mem) : Res :=
  wl1 (b_X12_onePart_2) FU M 1
def j_X12_goesOn_43 (w0 : Mem → Res) (M : Mem) : Res :=
  ok (in32 ((M 337 2) + 1)) (bm (st M 337 2 ((M 337 2) + 1)) (fun M12 =>
  cl (f_X12_dropsToMark M12) (fun r13 M14 =>
  ok (in32 ((M14 337 34) - 1)) (bm (st M14 337 34 ((M14 337 34) - 1)) (fun M16 =>
  ok (in32 ((M16 337 35) - 1)) (bm (st M16 337 35 ((M16 337 35) - 1)) (fun M18 =>
  ok (0 ≤ M18 337 34 ∧ M18 337 34 < 1000) (if (M18 361 (M18 337 34)) = 20 then (w0 M18)
  else (if (M18 361 (M18 337 34)) = 23 then (cl (f_X12_code M18 5) (fun r24 M25 =>
  w0 M25))
  else (cl (f_X12_code M18 6) (fun r26 M27 =>
  w0 M27)))))))))))
def j_X12_goesOn_322 (M : Mem) : Res :=
  cl (f_X12_asksSign M 44) (fun r56 M57 =>
  if (M57 337 5) = 0 then (cl (f_X12_dropsToMark M57) (fun r60 M61 =>
  ok (in32 ((M61 337 34) - 1)) (ok (0 ≤ (M61 337 34) - 1 ∧ (M61 337 34) - 1 < 1000) (ok (in32 ((M61 361 ((M61 337 34) - 1)) + 2)) (bm (st M61 361 ((M61 337 34) - 1) ((M61 361 ((M61 337 34) - 1)) + 2)) (fun M65 =>
  some (1, M65)))))))
  else (some (0, M57)))
def j_X12_goesOn_275 (w243 : Mem → Int → Res) (M : Mem) (x1 : Int) : Res :=
  cl (f_X12_drops M) (fun r102 M103 =>
  w243 M103 x1)
def b_X12_goesOn_243 (w243 : Mem → Int → Res) (M : Mem) (x1 : Int) : Res :=
  cl (f_X12_isOn M 3) (fun r82 M83 =>
  if r82 = 0 then (cl (f_X12_isOn M83 4) (fun r86 M87 =>
  if r86 = 0 then (cl (f_X12_isOn M87 1) (fun r90 M91 =>
  if r90 = 0 then (cl (f_X12_isOn M91 2) (fun r94 M95 =>
  if r94 = 0 then (ok (0 ≤ M95 337 34 ∧ M95 337 34 < 1000) (bm (st M95 361 (M95 337 34) x1) (fun M99 =>
  ok (in32 ((M99 337 34) + 1)) (bm (st M99 337 34 ((M99 337 34) + 1)) (fun M101 =>
  some (1, M101))))))
  else (j_X12_goesOn_275 w243 M95 x1)))
  else (j_X12_goesOn_275 w243 M91 x1)))
  else (j_X12_goesOn_275 w243 M87 x1)))
  else (j_X12_goesOn_275 w243 M83 x1))
def j_X12_goesOn_221 (M : Mem) : Res :=
  ok (in32 ((M 337 2) - 1)) (ok (0 ≤ (M 337 2) - 1 ∧ (M 337 2) - 1 < 900) (if (M 338 ((M 337 2) - 1)) = 43 then (wl1 (b_X12_goesOn_243) FU M 1)
  else (wl1 (b_X12_goesOn_243) FU M 2)))
def j_X12_goesOn_174 (w158 : Mem → Int → Res) (M : Mem) (x1 : Int) : Res :=
  cl (f_X12_drops M) (fun r120 M121 =>
  w158 M121 x1)
def b_X12_goesOn_158 (w158 : Mem → Int → Res) (M : Mem) (x1 : Int) : Res :=
  cl (f_X12_isOn M 3) (fun r108 M109 =>
  if r108 = 0 then (cl (f_X12_isOn M109 4) (fun r112 M113 =>
  if r112 = 0 then (ok (0 ≤ M113 337 34 ∧ M113 337 34 < 1000) (bm (st M113 361 (M113 337 34) x1) (fun M117 =>
  ok (in32 ((M117 337 34) + 1)) (bm (st M117 337 34 ((M117 337 34) + 1)) (fun M119 =>
  some (1, M119))))))
  else (j_X12_goesOn_174 w158 M113 x1)))
  else (j_X12_goesOn_174 w158 M109 x1))
def j_X12_goesOn_136 (M : Mem) : Res :=
  ok (in32 ((M 337 2) - 1)) (ok (0 ≤ (M 337 2) - 1 ∧ (M 337 2) - 1 < 900) (if (M 338 ((M 337 2) - 1)) = 42 then (wl1 (b_X12_goesOn_158) FU M 3)
  else (wl1 (b_X12_goesOn_158) FU M 4)))
def j_X12_goesOn_118 (M : Mem) : Res :=
  cl (f_X12_takesSign M 42) (fun r36 M37 =>
  if r36 = 0 then (cl (f_X12_takesSign M37 47) (fun r40 M41 =>
  if r40 = 0 then (cl (f_X12_takesSign M41 43) (fun r44 M45 =>
  if r44 = 0 then (cl (f_X12_takesSign M45 45) (fun r48 M49 =>
  if r48 = 0 then (cl (f_X12_mark M49) (fun r52 M53 =>
  if r52 = 21 then (j_X12_goesOn_322 M53)
  else (cl (f_X12_mark M53) (fun r66 M67 =>
  if r66 = 22 then (j_X12_goesOn_322 M67)
  else (cl (f_X12_mark M67) (fun r70 M71 =>
  if r70 = (-1) then (some (0, M71))
  else (if (M71 337 5) = 0 then (cl (f_X12_fail M71 1 (M71 337 2)) (fun r76 M77 =>
  some (0, M77)))
  else (some (0, M71)))))))))
  else (j_X12_goesOn_221 M49)))
  else (j_X12_goesOn_221 M45)))
  else (j_X12_goesOn_136 M41)))
  else (j_X12_goesOn_136 M37))
def b_X12_goesOn_0 (w0 : Mem → Res) (M : Mem) : Res :=
  if (M 337 5) = 0 then (cl (f_X12_look M) (fun r3 M4 =>
  if r3 = 41 then (cl (f_X12_mark M4) (fun r7 M8 =>
  if r7 = 20 then (j_X12_goesOn_43 w0 M8)
  else (cl (f_X12_mark M8) (fun r28 M29 =>
  if r28 = 23 then (j_X12_goesOn_43 w0 M29)
  else (cl (f_X12_mark M29) (fun r32 M33 =>
  if r32 = 24 then (j_X12_goesOn_43 w0 M33)
  else (j_X12_goesOn_118 M33)))))))
  else (j_X12_goesOn_118 M4)))
  else (j_X12_goesOn_118 M)
def f_X12_goesOn (M : Mem) : Res :=
  wl0 (b_X12_goesOn_0) FU M
def b_X12_sums_53 (w53 : Mem → Int → Res) (M : Mem) (x1 : Int) : Res :=
  if (M 337 5) = 0 then (if (M 337 34) ≤ (M 337 51) then (bm (st M 337 51 x1) (fun M9 =>
  some (0, M9)))
  else (cl (f_X12_drops M) (fun r10 M11 =>
  w53 M11 x1)))
  else (bm (st M 337 51 x1) (fun M12 =>
  some (0, M12)))
def b_X12_sums_15 (w15 : Mem → Int → Int → Res) (M : Mem) (x1 x2 : Int) : Res :=
  if x2 = 0 then (wl1 (b_X12_sums_53) FU M x1)
  else (if (M 337 5) = 0 then (cl (f_X12_onePart M) (fun r15 M16 =>
  if (M16 337 5) = 0 then (cl (f_X12_goesOn M16) (fun r19 M20 =>
  if r19 = 0 then (w15 M20 x1 0)
  else (w15 M20 x1 1)))
  else (w15 M16 x1 0)))
  else (wl1 (b_X12_sums_53) FU M x1))
def f_X12_sums (M : Mem) : Res :=
  bi (M 337 51) (fun y1 =>
  bm (st M 337 51 (M 337 34)) (fun M2 =>
  wl2 (b_X12_sums_15) FU M2 y1 1))
def j_X12_fact_63 (M : Mem) (x1 : Int) : Res :=
  ok (in32 ((M 337 2) + 1)) (bm (st M 337 2 ((M 337 2) + 1)) (fun M14 =>
  cl (f_X12_sums M14) (fun r15 M16 =>
  if x1 = 60 then (cl (f_X12_code M16 11) (fun r19 M20 =>
  some (0, M20)))
  else (if x1 = 62 then (cl (f_X12_code M16 12) (fun r23 M24 =>
  some (0, M24)))
  else (cl (f_X12_code M16 13) (fun r25 M26 =>
  some (0, M26)))))))
def f_X12_fact (M : Mem) : Res :=
  cl (f_X12_takes M 352) (fun r1 M2 =>
  if r1 = 0 then (cl (f_X12_sums M2) (fun r5 M6 =>
  if (M6 337 5) = 0 then (cl (f_X12_look M6) (fun r9 M10 =>
  if r9 = 60 then (j_X12_fact_63 M10 r9)
  else (if r9 = 62 then (j_X12_fact_63 M10 r9)
  else (if r9 = 61 then (j_X12_fact_63 M10 r9)
  else (cl (f_X12_fail M10 1 (M10 337 2)) (fun r31 M32 =>
  some (0, M32)))))))
  else (some (0, M6))))
  else (cl (f_X12_code M2 17) (fun r33 M34 =>
  some (0, M34))))
def b_X12_hasSquare_2 (w2 : Mem → Int → Res) (M : Mem) (x1 : Int) : Res :=
  if (M 337 34) ≤ x1 then (some (0, M))
  else (ok (0 ≤ x1 ∧ x1 < 1000) (if (M 361 x1) = 25 then (some (1, M))
  else (bi (x1 + 1) (fun y6 =>
  w2 M y6))))
def f_X12_hasSquare (M : Mem) : Res :=
  wl1 (b_X12_hasSquare_2) FU M 0
def b_X12_dropsNots_0 (w0 : Mem → Res) (M : Mem) : Res :=
  if (M 337 5) = 0 then (cl (f_X12_isOn M 16) (fun r3 M4 =>
  if r3 = 0 then (some (0, M4))
  else (ok (in32 ((M4 337 35) - 1)) (bm (st M4 337 35 ((M4 337 35) - 1)) (fun M8 =>
  cl (f_X12_drops M8) (fun r9 M10 =>
  w0 M10))))))
  else (some (0, M))
def f_X12_dropsNots (M : Mem) : Res :=
  wl0 (b_X12_dropsNots_0) FU M
def j_X12_goesOnTest_155 (w137 : Mem → Res) (M : Mem) : Res :=
  cl (f_X12_drops M) (fun r39 M40 =>
  w137 M40)
def b_X12_goesOnTest_137 (w137 : Mem → Res) (M : Mem) : Res :=
  cl (f_X12_isOn M 14) (fun r27 M28 =>
  if r27 = 0 then (cl (f_X12_isOn M28 15) (fun r31 M32 =>
  if r31 = 0 then (ok (0 ≤ M32 337 34 ∧ M32 337 34 < 1000) (bm (st M32 361 (M32 337 34) 15) (fun M36 =>
  ok (in32 ((M36 337 34) + 1)) (bm (st M36 337 34 ((M36 337 34) + 1)) (fun M38 =>
  some (1, M38))))))
  else (j_X12_goesOnTest_155 w137 M32)))
  else (j_X12_goesOnTest_155 w137 M28))
def b_X12_goesOnTest_87 (w87 : Mem → Res) (M : Mem) : Res :=
  cl (f_X12_isOn M 14) (fun r41 M42 =>
  if r41 = 0 then (ok (0 ≤ M42 337 34 ∧ M42 337 34 < 1000) (bm (st M42 361 (M42 337 34) 14) (fun M46 =>
  ok (in32 ((M46 337 34) + 1)) (bm (st M46 337 34 ((M46 337 34) + 1)) (fun M48 =>
  some (1, M48))))))
  else (cl (f_X12_drops M42) (fun r49 M50 =>
  w87 M50)))
def j_X12_goesOnTest_76 (M : Mem) : Res :=
  cl (f_X12_takes M 350) (fun r11 M12 =>
  if r11 = 0 then (cl (f_X12_takes M12 349) (fun r15 M16 =>
  if r15 = 0 then (if (M16 337 5) = 0 then (cl (f_X12_hasSquare M16) (fun r21 M22 =>
  if r21 = 0 then (some (0, M22))
  else (cl (f_X12_fail M22 1 (M22 337 2)) (fun r25 M26 =>
  some (0, M26)))))
  else (some (0, M16)))
  else (wl0 (b_X12_goesOnTest_137) FU M16)))
  else (wl0 (b_X12_goesOnTest_87) FU M12))
def b_X12_goesOnTest_33 (w0 : Mem → Res) (w33 : Mem → Res) (M : Mem) : Res :=
  cl (f_X12_isOn M 25) (fun r53 M54 =>
  if r53 = 0 then (cl (f_X12_drops M54) (fun r57 M58 =>
  w33 M58))
  else (ok (in32 ((M54 337 34) - 1)) (bm (st M54 337 34 ((M54 337 34) - 1)) (fun M60 =>
  ok (in32 ((M60 337 35) - 1)) (bm (st M60 337 35 ((M60 337 35) - 1)) (fun M62 =>
  cl (f_X12_dropsNots M62) (fun r63 M64 =>
  w0 M64)))))))
def b_X12_goesOnTest_0 (w0 : Mem → Res) (M : Mem) : Res :=
  if (M 337 5) = 0 then (cl (f_X12_look M) (fun r3 M4 =>
  if r3 = 93 then (cl (f_X12_hasSquare M4) (fun r7 M8 =>
  if r7 = 0 then (j_X12_goesOnTest_76 M8)
  else (ok (in32 ((M8 337 2) + 1)) (bm (st M8 337 2 ((M8 337 2) + 1)) (fun M52 =>
  wl0 (b_X12_goesOnTest_33 w0) FU M52)))))
  else (j_X12_goesOnTest_76 M4)))
  else (j_X12_goesOnTest_76 M)
def f_X12_goesOnTest (M : Mem) : Res :=
  wl0 (b_X12_goesOnTest_0) FU M
def b_X12_test_110 (w110 : Mem → Res) (M : Mem) : Res :=
  if (M 337 5) = 0 then (if (M 337 34) ≤ 0 then (some (0, M))
  else (cl (f_X12_drops M) (fun r7 M8 =>
  w110 M8)))
  else (some (0, M))
def b_X12_test_2 (w2 : Mem → Int → Res) (M : Mem) (x1 : Int) : Res :=
  if x1 = 0 then (wl0 (b_X12_test_110) FU M)
  else (if (M 337 5) = 0 then (cl (f_X12_look M) (fun r11 M12 =>
  if r11 = 91 then (cl (f_X12_opens M12 25 (M12 337 2)) (fun r15 M16 =>
  ok (in32 ((M16 337 2) + 1)) (bm (st M16 337 2 ((M16 337 2) + 1)) (fun M18 =>
  w2 M18 x1))))
  else (cl (f_X12_isHere M12 351) (fun r19 M20 =>
  if r19 = 0 then (cl (f_X12_fact M20) (fun r23 M24 =>
  cl (f_X12_dropsNots M24) (fun r25 M26 =>
  if (M26 337 5) = 0 then (cl (f_X12_goesOnTest M26) (fun r29 M30 =>
  if r29 = 0 then (w2 M30 0)
  else (w2 M30 1)))
  else (w2 M26 0))))
  else (cl (f_X12_opens M20 16 (M20 337 2)) (fun r33 M34 =>
  cl (f_X12_asks M34 351) (fun r35 M36 =>
  w2 M36 x1)))))))
  else (wl0 (b_X12_test_110) FU M))
def f_X12_test (M : Mem) : Res :=
  wl1 (b_X12_test_2) FU M 1
def f_X12_readsSum (M : Mem) : Res :=
  bm (st M 337 34 0) (fun M1 =>
  bm (st M1 337 35 (M1 337 52)) (fun M2 =>
  bm (st M2 337 51 0) (fun M3 =>
  if (M3 337 5) = 0 then (cl (f_X12_sums M3) (fun r6 M7 =>
  some (0, M7)))
  else (some (0, M3)))))
def f_X12_readsTest (M : Mem) : Res :=
  cl (f_X12_asks M 348) (fun r1 M2 =>
  if (M2 337 5) = 0 then (cl (f_X12_test M2) (fun r5 M6 =>
  some (0, M6)))
  else (some (0, M2)))
def f_X12_ruleTold (M : Mem) : Res :=
  bi (M 362 0) (fun y1 =>
  ok (0 ≤ y1 ∧ y1 < 200) (bm (st M 363 y1 (M 337 32)) (fun M3 =>
  cl (f_X12_readsSum M3) (fun r4 M5 =>
  bm (st M5 364 y1 (M5 337 32)) (fun M6 =>
  cl (f_X12_readsTest M6) (fun r7 M8 =>
  bm (st M8 365 y1 (M8 337 32)) (fun M9 =>
  ok (in32 ((M9 362 0) + 1)) (bm (st M9 362 0 ((M9 362 0) + 1)) (fun M11 =>
  some (0, M11))))))))))
def j_X12_thingTold_74 (M : Mem) (x2 : Int) : Res :=
  cl (f_X12_number M 2 6) (fun r12 M13 =>
  ok (0 ≤ x2 ∧ x2 < 10) (bm (st M13 374 x2 r12) (fun M15 =>
  ok (in32 ((M15 372 0) + 1)) (bm (st M15 372 0 ((M15 372 0) + 1)) (fun M17 =>
  some (0, M17))))))
def b_X12_thingTold_31 (w31 : Mem → Int → Int → Res) (M : Mem) (x2 x3 : Int) : Res :=
  if x2 ≤ x3 then (j_X12_thingTold_74 M x2)
  else (if (M 337 5) = 0 then (ok (0 ≤ x3 ∧ x3 < 10) (ok (0 ≤ x2 ∧ x2 < 10) (if (M 373 x3) = (M 373 x2) then (cl (f_X12_fail M 3 (M 337 30)) (fun r24 M25 =>
  bi (x3 + 1) (fun y26 =>
  w31 M25 x2 y26)))
  else (bi (x3 + 1) (fun y27 =>
  w31 M x2 y27)))))
  else (j_X12_thingTold_74 M x2))
def f_X12_thingTold (M : Mem) (a1 : Int) : Res :=
  bi (M 372 0) (fun y1 =>
  if y1 = 5 then (cl (f_X12_fail M 5 a1) (fun r4 M5 =>
  some (0, M5)))
  else (cl (f_X12_name M) (fun r6 M7 =>
  ok (0 ≤ y1 ∧ y1 < 10) (bm (st M7 373 y1 r6) (fun M9 =>
  wl2 (b_X12_thingTold_31) FU M9 y1 0)))))
def f_X12_discTold (M : Mem) : Res :=
  cl (f_X12_number M 0 11) (fun r1 M2 =>
  cl (f_X12_number M2 0 7) (fun r3 M4 =>
  ok (in32 (12 * r3)) (ok (in32 ((12 * r3) + r1)) (bm (st M4 375 0 ((12 * r3) + r1)) (fun M7 =>
  some (0, M7))))))
def j_X12_wayTold_105 (M : Mem) (x2 : Int) : Res :=
  ok (0 ≤ x2 ∧ x2 < 25) (bm (st M 369 x2 (M 337 32)) (fun M22 =>
  cl (f_X12_readsSum M22) (fun r23 M24 =>
  bm (st M24 370 x2 (M24 337 32)) (fun M25 =>
  cl (f_X12_readsTest M25) (fun r26 M27 =>
  bm (st M27 371 x2 (M27 337 32)) (fun M28 =>
  ok (in32 ((M28 366 0) + 1)) (bm (st M28 366 0 ((M28 366 0) + 1)) (fun M30 =>
  some (0, M30)))))))))
def j_X12_wayTold_74 (M : Mem) (x2 : Int) : Res :=
  cl (f_X12_takes M 343) (fun r12 M13 =>
  ok (0 ≤ x2 ∧ x2 < 25) (ok (r12 = 0 ∨ r12 = 1) (bm (st M13 368 x2 r12) (fun M16 =>
  if (M16 368 x2) = 0 then (cl (f_X12_asks M16 344) (fun r19 M20 =>
  j_X12_wayTold_105 M20 x2))
  else (j_X12_wayTold_105 M16 x2)))))
def b_X12_wayTold_31 (w31 : Mem → Int → Int → Res) (M : Mem) (x2 x3 : Int) : Res :=
  if x2 ≤ x3 then (j_X12_wayTold_74 M x2)
  else (if (M 337 5) = 0 then (ok (0 ≤ x3 ∧ x3 < 25) (ok (0 ≤ x2 ∧ x2 < 25) (if (M 367 x3) = (M 367 x2) then (cl (f_X12_fail M 3 (M 337 30)) (fun r37 M38 =>
  bi (x3 + 1) (fun y39 =>
  w31 M38 x2 y39)))
  else (bi (x3 + 1) (fun y40 =>
  w31 M x2 y40)))))
  else (j_X12_wayTold_74 M x2))
def f_X12_wayTold (M : Mem) (a1 : Int) : Res :=
  bi (M 366 0) (fun y1 =>
  if y1 = 5 then (cl (f_X12_fail M 5 a1) (fun r4 M5 =>
  some (0, M5)))
  else (cl (f_X12_name M) (fun r6 M7 =>
  ok (0 ≤ y1 ∧ y1 < 25) (bm (st M7 367 y1 r6) (fun M9 =>
  wl2 (b_X12_wayTold_31) FU M9 y1 0)))))
def j_X12_statement_123 (M : Mem) : Res :=
  cl (f_X12_asksSign M 59) (fun r22 M23 =>
  ok (in32 ((M23 337 36) + 1)) (bm (st M23 337 36 ((M23 337 36) + 1)) (fun M25 =>
  some (0, M25))))
def j_X12_statement_58 (a1 : Int) (M : Mem) (x2 : Int) : Res :=
  if a1 = 0 then (cl (f_X12_asks M 342) (fun r16 M17 =>
  if (M17 337 5) = 0 then (cl (f_X12_wayTold M17 x2) (fun r20 M21 =>
  j_X12_statement_123 M21))
  else (j_X12_statement_123 M17)))
  else (cl (f_X12_takes M 340) (fun r26 M27 =>
  if r26 = 0 then (cl (f_X12_asks M27 341) (fun r30 M31 =>
  if (M31 337 5) = 0 then (cl (f_X12_thingTold M31 x2) (fun r34 M35 =>
  j_X12_statement_123 M35))
  else (j_X12_statement_123 M31)))
  else (cl (f_X12_discTold M27) (fun r36 M37 =>
  j_X12_statement_123 M37))))
def j_X12_statement_51 (M : Mem) : Res :=
  cl (f_X12_ruleTold M) (fun r38 M39 =>
  j_X12_statement_123 M39)
def j_X12_statement_36 (a1 : Int) (M : Mem) (x2 : Int) : Res :=
  if a1 = 0 then (cl (f_X12_takes M 345) (fun r10 M11 =>
  if r10 = 0 then (j_X12_statement_58 a1 M11 x2)
  else (j_X12_statement_51 M11)))
  else (j_X12_statement_58 a1 M x2)
def f_X12_statement (M : Mem) (a1 : Int) : Res :=
  bi (M 337 2) (fun y1 =>
  if (M 337 36) = 40 then (cl (f_X12_fail M 5 y1) (fun r4 M5 =>
  some (0, M5)))
  else (if a1 = 0 then (j_X12_statement_36 a1 M y1)
  else (cl (f_X12_takes M 339) (fun r40 M41 =>
  if r40 = 0 then (j_X12_statement_36 a1 M41 y1)
  else (j_X12_statement_51 M41)))))
def f_X12_step (M : Mem) (a1 : Int) : Res :=
  ok (0 ≤ M 376 0 ∧ M 376 0 < 160) (bm (st M 377 (M 376 0) a1) (fun M2 =>
  ok (in32 ((M2 376 0) + 1)) (bm (st M2 376 0 ((M2 376 0) + 1)) (fun M4 =>
  some (0, M4)))))
def j_X12_showTold_75 (M : Mem) (x1 x4 : Int) : Res :=
  cl (f_X12_number M 0 11) (fun r12 M13 =>
  cl (f_X12_number M13 0 7) (fun r14 M15 =>
  ok (0 ≤ x1 ∧ x1 < 160) (bm (st M15 378 x1 x4) (fun M17 =>
  ok (in32 (12 * r14)) (ok (in32 ((12 * r14) + r12)) (bm (st M17 379 x1 ((12 * r14) + r12)) (fun M20 =>
  bm (st M20 380 x1 (M20 337 32)) (fun M21 =>
  cl (f_X12_readsSum M21) (fun r22 M23 =>
  bm (st M23 381 x1 (M23 337 32)) (fun M24 =>
  cl (f_X12_step M24 0) (fun r25 M26 =>
  cl (f_X12_asksSign M26 59) (fun r27 M28 =>
  some (0, M28)))))))))))))
def b_X12_showTold_18 (w18 : Mem → Int → Int → Int → Int → Res) (M : Mem) (x1 x2 x4 x5 : Int) : Res :=
  if (M 372 1) ≤ x5 then (if (M 337 5) = 0 then (if x4 = (-1) then (cl (f_X12_fail M 3 (M 337 30)) (fun r10 M11 =>
  j_X12_showTold_75 M11 x1 x4))
  else (j_X12_showTold_75 M x1 x4))
  else (j_X12_showTold_75 M x1 x4))
  else (ok (in32 (5 + x5)) (ok (0 ≤ 5 + x5 ∧ 5 + x5 < 10) (if (M 373 (5 + x5)) = x2 then (ok (in32 (x5 + 1)) (bi (x5 + 1) (fun y34 =>
  w18 M x1 x2 x5 y34)))
  else (ok (in32 (x5 + 1)) (bi (x5 + 1) (fun y36 =>
  w18 M x1 x2 x4 y36))))))
def f_X12_showTold (M : Mem) : Res :=
  bi (M 376 0) (fun y1 =>
  cl (f_X12_name M) (fun r2 M3 =>
  wl4 (b_X12_showTold_18) FU M3 y1 r2 (-1) 0))
def j_X12_timesTold_70 (M : Mem) : Res :=
  if (M 337 5) = 0 then (ok (in32 ((M 337 2) + 1)) (bm (st M 337 2 ((M 337 2) + 1)) (fun M20 =>
  ok (in32 ((M20 337 52) + 1)) (bm (st M20 337 52 ((M20 337 52) + 1)) (fun M22 =>
  cl (f_X12_step M22 1) (fun r23 M24 =>
  some (0, M24)))))))
  else (some (0, M))
def j_X12_timesTold_45 (M : Mem) : Res :=
  if (M 337 5) = 0 then (if (M 337 52) = 6 then (cl (f_X12_fail M 4 (M 337 2)) (fun r15 M16 =>
  j_X12_timesTold_70 M16))
  else (j_X12_timesTold_70 M))
  else (j_X12_timesTold_70 M)
def f_X12_timesTold (M : Mem) : Res :=
  cl (f_X12_number M 1 9) (fun r1 M2 =>
  ok (0 ≤ M 376 0 ∧ M 376 0 < 160) (bm (st M2 382 (M 376 0) r1) (fun M4 =>
  cl (f_X12_look M4) (fun r5 M6 =>
  if (M6 337 5) = 0 then (if r5 = 91 then (j_X12_timesTold_45 M6)
  else (cl (f_X12_fail M6 1 (M6 337 2)) (fun r25 M26 =>
  j_X12_timesTold_45 M26)))
  else (j_X12_timesTold_45 M6)))))
def j_X12_planned_74 (M : Mem) : Res :=
  ok (in32 ((M 337 36) + 1)) (bm (st M 337 36 ((M 337 36) + 1)) (fun M8 =>
  cl (f_X12_takes M8 346) (fun r9 M10 =>
  if r9 = 0 then (cl (f_X12_asks M10 347) (fun r13 M14 =>
  if (M14 337 5) = 0 then (cl (f_X12_timesTold M14) (fun r17 M18 =>
  some (0, M18)))
  else (some (0, M14))))
  else (cl (f_X12_showTold M10) (fun r19 M20 =>
  some (0, M20))))))
def j_X12_planned_50 (M : Mem) (x1 : Int) : Res :=
  if x1 = (-1) then (j_X12_planned_74 M)
  else (if (M 337 36) = 40 then (cl (f_X12_fail M 5 (M 337 2)) (fun r23 M24 =>
  some (0, M24)))
  else (j_X12_planned_74 M))
def f_X12_planned (M : Mem) : Res :=
  cl (f_X12_look M) (fun r1 M2 =>
  if (M2 337 52) ≤ 0 then (j_X12_planned_50 M2 r1)
  else (if r1 = 93 then (ok (in32 ((M2 337 2) + 1)) (bm (st M2 337 2 ((M2 337 2) + 1)) (fun M28 =>
  ok (in32 ((M28 337 52) - 1)) (bm (st M28 337 52 ((M28 337 52) - 1)) (fun M30 =>
  cl (f_X12_step M30 2) (fun r31 M32 =>
  cl (f_X12_asksSign M32 59) (fun r33 M34 =>
  some (0, M34))))))))
  else (j_X12_planned_50 M2 r1)))
def f_X12_begins (M : Mem) : Res :=
  bm (st M 337 3 (M 337 1)) (fun M1 =>
  bm (st M1 337 1 0) (fun M2 =>
  bm (st M2 337 2 0) (fun M3 =>
  bm (st M3 337 4 (-1)) (fun M4 =>
  bm (st M4 337 5 0) (fun M5 =>
  bm (st M5 337 6 (-1)) (fun M6 =>
  bm (st M6 362 0 0) (fun M7 =>
  bm (st M7 366 0 0) (fun M8 =>
  bm (st M8 372 0 0) (fun M9 =>
  bm (st M9 375 0 95) (fun M10 =>
  bm (st M10 337 32 0) (fun M11 =>
  bm (st M11 337 36 0) (fun M12 =>
  bm (st M12 337 52 0) (fun M13 =>
  some (0, M13))))))))))))))
def b_X12_plan_200 (w200 : Mem → Int → Res) (M : Mem) (x1 : Int) : Res :=
  if (M 337 32) ≤ x1 then (bm (st M 337 60 1) (fun M22 =>
  some (M22 337 36, M22)))
  else (ok (in32 (4500 + x1)) (ok (0 ≤ x1 ∧ x1 < 5400) (ok (0 ≤ 4500 + x1 ∧ 4500 + x1 < 5400) (bm (st M 360 (4500 + x1) (M 360 x1)) (fun M26 =>
  bi (x1 + 1) (fun y27 =>
  w200 M26 y27))))))
def b_X12_plan_84 (w84 : Mem → Int → Res) (M : Mem) (x1 : Int) : Res :=
  if (M 376 1) ≤ x1 then (wl1 (b_X12_plan_200) FU M 0)
  else (ok (in32 (80 + x1)) (ok (0 ≤ x1 ∧ x1 < 160) (ok (0 ≤ 80 + x1 ∧ 80 + x1 < 160) (bm (st M 377 (80 + x1) (M 377 x1)) (fun M31 =>
  bm (st M31 378 (80 + x1) (M31 378 x1)) (fun M32 =>
  bm (st M32 379 (80 + x1) (M32 379 x1)) (fun M33 =>
  ok (in32 ((M33 380 x1) + 4500)) (bm (st M33 380 (80 + x1) ((M33 380 x1) + 4500)) (fun M35 =>
  ok (in32 ((M35 381 x1) + 4500)) (bm (st M35 381 (80 + x1) ((M35 381 x1) + 4500)) (fun M37 =>
  bm (st M37 382 (80 + x1) (M37 382 x1)) (fun M38 =>
  bi (x1 + 1) (fun y39 =>
  w84 M38 y39)))))))))))))
def j_X12_plan_40 (M : Mem) : Res :=
  bm (st M 337 52 0) (fun M12 =>
  bm (st M12 337 7 (M12 337 5)) (fun M13 =>
  bm (st M13 337 8 (M13 337 6)) (fun M14 =>
  if (M14 337 5) = 0 then (bm (st M14 376 1 (M14 376 0)) (fun M17 =>
  wl1 (b_X12_plan_84) FU M17 0))
  else (some ((-1), M14)))))
def j_X12_plan_33 (w11 : Mem → Res) (M : Mem) : Res :=
  cl (f_X12_planned M) (fun r40 M41 =>
  w11 M41)
def b_X12_plan_11 (w11 : Mem → Res) (M : Mem) : Res :=
  if (M 337 5) = 0 then (cl (f_X12_look M) (fun r6 M7 =>
  if r6 = (-1) then (if (M7 337 52) ≤ 0 then (j_X12_plan_40 M7)
  else (j_X12_plan_33 w11 M7))
  else (j_X12_plan_33 w11 M7)))
  else (j_X12_plan_40 M)
def f_X12_plan (M : Mem) : Res :=
  cl (f_X12_begins M) (fun r1 M2 =>
  bm (st M2 376 0 0) (fun M3 =>
  wl0 (b_X12_plan_11) FU M3))
def f_X12_cut (M : Mem) (a0 : Int) : Res :=
  if a0 ≤ 1000000 then (some (a0, M))
  else (some (1000000, M))
def b_X12_showings_12 (w12 : Mem → Int → Int → Res) (M : Mem) (x1 x2 : Int) : Res :=
  ok (in32 (80 + (M 376 1))) (if (80 + (M 376 1)) ≤ x2 then (ok (in32 (M 385 0)) (some (M 385 0, M)))
  else (if (M 337 60) = 0 then (ok (in32 (M 385 0)) (some (M 385 0, M)))
  else (ok (0 ≤ x2 ∧ x2 < 160) (if (M 377 x2) = 0 then (ok (0 ≤ x1 ∧ x1 < 8) (ok (in64 ((M 385 x1) + 1)) (cl (f_X12_cut M ((M 385 x1) + 1)) (fun r14 M15 =>
  bm (st M15 385 x1 r14) (fun M16 =>
  bi (x2 + 1) (fun y17 =>
  w12 M16 x1 y17))))))
  else (if (M 377 x2) = 1 then (ok (0 ≤ x1 ∧ x1 < 8) (bm (st M 383 x1 x2) (fun M21 =>
  bi (x1 + 1) (fun y22 =>
  ok (0 ≤ y22 ∧ y22 < 8) (bm (st M21 385 y22 0) (fun M24 =>
  bi (x2 + 1) (fun y25 =>
  w12 M24 y22 y25)))))))
  else (ok (in32 (x1 + (-1))) (bi (x1 + (-1)) (fun y27 =>
  ok (0 ≤ y27 ∧ y27 < 8) (ok (0 ≤ M 383 y27 ∧ M 383 y27 < 160) (ok (0 ≤ y27 + 1 ∧ y27 + 1 < 8) (ok (in64 ((M 382 (M 383 y27)) * (M 385 (y27 + 1)))) (ok (in64 ((M 385 y27) + ((M 382 (M 383 y27)) * (M 385 (y27 + 1))))) (cl (f_X12_cut M ((M 385 y27) + ((M 382 (M 383 y27)) * (M 385 (y27 + 1))))) (fun r33 M34 =>
  bm (st M34 385 y27 r33) (fun M35 =>
  bi (x2 + 1) (fun y36 =>
  w12 M35 y27 y36))))))))))))))))
def f_X12_showings (M : Mem) : Res :=
  bm (st M 385 0 0) (fun M1 =>
  wl2 (b_X12_showings_12) FU M1 0 80)
def f_X12_puts (M : Mem) (a1 : Int) : Res :=
  ok (0 ≤ M 337 67 ∧ M 337 67 < 1000) (bm (st M 387 (M 337 67) a1) (fun M2 =>
  ok (in32 ((M2 337 67) + 1)) (bm (st M2 337 67 ((M2 337 67) + 1)) (fun M4 =>
  some (0, M4)))))
def f_X12_clip (M : Mem) (a0 : Int) : Res :=
  if a0 ≤ 1000000 then (if (-1000000) ≤ a0 then (some (a0, M))
  else (some ((-1000000), M)))
  else (some (1000000, M))
def j_X12_floor_43 (M : Mem) (x4 s0 s1 : Int) : Res :=
  if s1 = s0 then (some (x4, M))
  else (ok (in64 (x4 - 1)) (some (x4 - 1, M)))
def j_X12_floor_32 (a2 : Int) (M : Mem) (x4 s0 : Int) : Res :=
  if 0 ≤ a2 then (j_X12_floor_43 M x4 0 s0)
  else (j_X12_floor_43 M x4 1 s0)
def f_X12_floor (M : Mem) (a0 a2 : Int) : Res :=
  if a2 = 0 then (some (0, M))
  else (ok (a2 ≠ 0) (ok (in64 (a0.tdiv a2)) (bi (a0.tdiv a2) (fun y5 =>
  if (a0.tmod a2) = 0 then (some (y5, M))
  else (if 0 ≤ a0 then (j_X12_floor_32 a2 M y5 0)
  else (j_X12_floor_32 a2 M y5 1))))))
def j_X12_joins_271 (M : Mem) (x2 x4 : Int) : Res :=
  ok (in64 (x4 + x2)) (if (x4 + x2) ≤ 0 then (cl (f_X12_puts M 0) (fun r56 M57 =>
  some (0, M57)))
  else (cl (f_X12_puts M 1) (fun r58 M59 =>
  some (0, M59))))
def f_X12_joins (M : Mem) (a1 : Int) : Res :=
  ok (in32 ((M 337 67) - 1)) (ok (0 ≤ (M 337 67) - 1 ∧ (M 337 67) - 1 < 1000) (bi (M 387 ((M 337 67) - 1)) (fun y3 =>
  ok (in32 ((M 337 67) - 2)) (ok (0 ≤ (M 337 67) - 2 ∧ (M 337 67) - 2 < 1000) (bi (M 387 ((M 337 67) - 2)) (fun y6 =>
  bm (st M 337 67 ((M 337 67) - 2)) (fun M7 =>
  if a1 = 1 then (ok (in64 (y6 + y3)) (cl (f_X12_clip M7 (y6 + y3)) (fun r11 M12 =>
  cl (f_X12_puts M12 r11) (fun r13 M14 =>
  some (0, M14)))))
  else (if a1 = 2 then (ok (in64 (y6 - y3)) (cl (f_X12_clip M7 (y6 - y3)) (fun r18 M19 =>
  cl (f_X12_puts M19 r18) (fun r20 M21 =>
  some (0, M21)))))
  else (if a1 = 3 then (ok (in64 (y6 * y3)) (cl (f_X12_clip M7 (y6 * y3)) (fun r25 M26 =>
  cl (f_X12_puts M26 r25) (fun r27 M28 =>
  some (0, M28)))))
  else (if a1 = 4 then (cl (f_X12_floor M7 y6 y3) (fun r31 M32 =>
  cl (f_X12_puts M32 r31) (fun r33 M34 =>
  some (0, M34))))
  else (if a1 = 5 then (if y3 ≤ y6 then (cl (f_X12_puts M7 y3) (fun r39 M40 =>
  some (0, M40)))
  else (cl (f_X12_puts M7 y6) (fun r41 M42 =>
  some (0, M42))))
  else (if a1 = 6 then (if y6 ≤ y3 then (cl (f_X12_puts M7 y3) (fun r47 M48 =>
  some (0, M48)))
  else (cl (f_X12_puts M7 y6) (fun r49 M50 =>
  some (0, M50))))
  else (if a1 = 7 then (j_X12_joins_271 M7 y3 y6)
  else (if a1 = 8 then (j_X12_joins_271 M7 y3 y6)
  else (if a1 = 9 then (j_X12_joins_271 M7 y3 y6)
  else (if a1 = 10 then (j_X12_joins_271 M7 y3 y6)
  else (if a1 = 11 then (if y3 ≤ y6 then (cl (f_X12_puts M7 0) (fun r70 M71 =>
  some (0, M71)))
  else (cl (f_X12_puts M7 1) (fun r72 M73 =>
  some (0, M73))))
  else (if a1 = 12 then (if y6 ≤ y3 then (cl (f_X12_puts M7 0) (fun r78 M79 =>
  some (0, M79)))
  else (cl (f_X12_puts M7 1) (fun r80 M81 =>
  some (0, M81))))
  else (if a1 = 13 then (if y6 = y3 then (cl (f_X12_puts M7 1) (fun r86 M87 =>
  some (0, M87)))
  else (cl (f_X12_puts M7 0) (fun r88 M89 =>
  some (0, M89))))
  else (if a1 = 14 then (ok (in64 (y6 * y3)) (cl (f_X12_puts M7 (y6 * y3)) (fun r93 M94 =>
  some (0, M94))))
  else (j_X12_joins_271 M7 y3 y6)))))))))))))))))))))
def b_X12_tells_7 (a2 : Int) (w7 : Mem → Int → Res) (M : Mem) (x3 : Int) : Res :=
  if a2 ≤ x3 then (some (M 387 0, M))
  else (ok (0 ≤ x3 ∧ x3 < 5400) (bi (M 360 x3) (fun y5 =>
  if y5 < 1000 then (if y5 = 7 then (cl (f_X12_puts M (M 337 68)) (fun r10 M11 =>
  bi (x3 + 1) (fun y12 =>
  w7 M11 y12)))
  else (if y5 = 8 then (cl (f_X12_puts M (M 337 69)) (fun r15 M16 =>
  bi (x3 + 1) (fun y17 =>
  w7 M16 y17)))
  else (if y5 = 9 then (cl (f_X12_puts M (M 337 70)) (fun r20 M21 =>
  bi (x3 + 1) (fun y22 =>
  w7 M21 y22)))
  else (if y5 = 10 then (cl (f_X12_puts M (M 337 71)) (fun r25 M26 =>
  bi (x3 + 1) (fun y27 =>
  w7 M26 y27)))
  else (if y5 = 18 then (cl (f_X12_puts M (M 337 72)) (fun r30 M31 =>
  bi (x3 + 1) (fun y32 =>
  w7 M31 y32)))
  else (if y5 = 30 then (cl (f_X12_puts M (M 337 73)) (fun r35 M36 =>
  bi (x3 + 1) (fun y37 =>
  w7 M36 y37)))
  else (if y5 = 17 then (cl (f_X12_puts M 1) (fun r40 M41 =>
  bi (x3 + 1) (fun y42 =>
  w7 M41 y42)))
  else (if y5 = 16 then (ok (in32 ((M 337 67) - 1)) (ok (0 ≤ (M 337 67) - 1 ∧ (M 337 67) - 1 < 1000) (ok (in64 (1 - (M 387 ((M 337 67) - 1)))) (bm (st M 387 ((M 337 67) - 1) (1 - (M 387 ((M 337 67) - 1)))) (fun M48 =>
  bi (x3 + 1) (fun y49 =>
  w7 M48 y49))))))
  else (cl (f_X12_joins M y5) (fun r50 M51 =>
  bi (x3 + 1) (fun y52 =>
  w7 M51 y52)))))))))))
  else (ok (in32 (y5 - 1000)) (cl (f_X12_puts M (y5 - 1000)) (fun r54 M55 =>
  bi (x3 + 1) (fun y56 =>
  w7 M55 y56)))))))
def f_X12_tells (M : Mem) (a1 a2 : Int) : Res :=
  bm (st M 337 67 0) (fun M1 =>
  wl1 (b_X12_tells_7 a2) FU M1 a1)
def b_X12_lightAt_5 (a1 a2 : Int) (w5 : Mem → Int → Int → Res) (M : Mem) (x3 x4 : Int) : Res :=
  if 96 ≤ x4 then (some (x3, M))
  else (if x4 = a1 then (ok (in32 (x4 + 1)) (bi (x4 + 1) (fun y6 =>
  w5 M x3 y6)))
  else (ok (0 ≤ x4 ∧ x4 < 96) (if (M 388 x4) = 0 then (bi (x4 + 1) (fun y10 =>
  w5 M x3 y10))
  else (ok (0 ≤ a1) (ok (in32 ((x4 % 12) - (a1 % 12))) (bi ((x4 % 12) - (a1 % 12)) (fun y13 =>
  ok (in32 ((x4 / 12) - (a1 / 12))) (bi ((x4 / 12) - (a1 / 12)) (fun y15 =>
  ok (in32 (a2 * (M 388 x4))) (ok (in32 (y13 * y13)) (ok (in32 (1 + (y13 * y13))) (ok (in32 (y15 * y15)) (ok (in32 ((1 + (y13 * y13)) + (y15 * y15))) (ok (in32 (9 * ((1 + (y13 * y13)) + (y15 * y15)))) (ok (0 ≤ a2 * (M 388 x4) ∧ 0 < 9 * ((1 + (y13 * y13)) + (y15 * y15))) (bi ((a2 * (M 388 x4)) / (9 * ((1 + (y13 * y13)) + (y15 * y15)))) (fun y23 =>
  if y23 ≤ x3 then (bi (x4 + 1) (fun y26 =>
  w5 M x3 y26))
  else (bi (x4 + 1) (fun y27 =>
  w5 M y23 y27)))))))))))))))))))
def f_X12_lightAt (M : Mem) (a1 a2 : Int) : Res :=
  wl2 (b_X12_lightAt_5 a1 a2) FU M 0 0
def f_X12_shows (M : Mem) (a1 a2 a3 : Int) : Res :=
  ok (0 ≤ a2) (bm (st M 337 68 (a2 % 12)) (fun M2 =>
  bm (st M2 337 69 (a2 / 12)) (fun M3 =>
  bm (st M3 337 70 a3) (fun M4 =>
  ok (0 ≤ a2 ∧ a2 < 96) (bm (st M4 337 71 (M4 388 a2)) (fun M6 =>
  cl (f_X12_lightAt M6 a2 a3) (fun r7 M8 =>
  bm (st M8 337 72 r7) (fun M9 =>
  bm (st M9 337 73 a1) (fun M10 =>
  some (0, M10))))))))))
def f_X12_carriedBy (M : Mem) (a1 a2 : Int) : Res :=
  ok (in32 (2 + a1)) (ok (in32 (5 * (2 + a1))) (ok (in32 ((5 * (2 + a1)) + a2)) (bi ((5 * (2 + a1)) + a2) (fun y4 =>
  if (M 337 70) = 0 then (some (0, M))
  else (ok (0 ≤ y4 ∧ y4 < 25) (cl (f_X12_tells M (M 370 y4) (M 371 y4)) (fun r8 M9 =>
  if r8 = 1 then (cl (f_X12_tells M9 (M9 369 y4) (M9 370 y4)) (fun r12 M13 =>
  if 0 ≤ r12 then (if r12 ≤ 100 then (ok (in32 (r12)) (some (r12, M13)))
  else (some (100, M13)))
  else (some (0, M13))))
  else (some (0, M9)))))))))
def j_X12_carried_49 (a1 a2 : Int) (w5 : Mem → Int → Int → Res) (M : Mem) (x3 x4 s0 : Int) : Res :=
  if s0 ≤ x3 then (ok (in32 (x4 + 1)) (bi (x4 + 1) (fun y12 =>
  w5 M x3 y12)))
  else (ok (in32 (x4 + 1)) (bi (x4 + 1) (fun y14 =>
  w5 M s0 y14)))
def j_X12_carried_42 (a1 a2 : Int) (w5 : Mem → Int → Int → Res) (M : Mem) (x3 x4 : Int) : Res :=
  cl (f_X12_carriedBy M a1 x4) (fun r7 M8 =>
  j_X12_carried_49 a1 a2 w5 M8 x3 x4 r7)
def b_X12_carried_5 (a1 a2 : Int) (w5 : Mem → Int → Int → Res) (M : Mem) (x3 x4 : Int) : Res :=
  ok (in32 (2 + a1)) (ok (0 ≤ 2 + a1 ∧ 2 + a1 < 5) (if (M 366 (2 + a1)) ≤ x4 then (some (x3, M))
  else (if a2 = 0 then (j_X12_carried_42 a1 a2 w5 M x3 x4)
  else (ok (in32 (5 * (2 + a1))) (ok (in32 ((5 * (2 + a1)) + x4)) (ok (0 ≤ (5 * (2 + a1)) + x4 ∧ (5 * (2 + a1)) + x4 < 25) (if (M 368 ((5 * (2 + a1)) + x4)) = 0 then (j_X12_carried_49 a1 a2 w5 M x3 x4 0)
  else (j_X12_carried_42 a1 a2 w5 M x3 x4))))))))
def f_X12_carried (M : Mem) (a1 a2 : Int) : Res :=
  wl2 (b_X12_carried_5 a1 a2) FU M 0 0
def b_X12_ruled_6 (a1 a2 a3 : Int) (w6 : Mem → Int → Res) (M : Mem) (x4 : Int) : Res :=
  ok (in32 (40 * a1)) (ok (0 ≤ a1 ∧ a1 < 5) (ok (in32 ((40 * a1) + (M 362 a1))) (if ((40 * a1) + (M 362 a1)) ≤ x4 then (some (a3, M))
  else (ok (0 ≤ x4 ∧ x4 < 200) (cl (f_X12_tells M (M 364 x4) (M 365 x4)) (fun r9 M10 =>
  if r9 = 1 then (cl (f_X12_tells M10 (M10 363 x4) (M10 364 x4)) (fun r13 M14 =>
  if 0 ≤ r13 then (if r13 ≤ a2 then (ok (in32 (r13)) (some (r13, M14)))
  else (some (a2, M14)))
  else (some (0, M14))))
  else (bi (x4 + 1) (fun y20 =>
  w6 M10 y20))))))))
def f_X12_ruled (M : Mem) (a1 a2 a3 : Int) : Res :=
  ok (in32 (40 * a1)) (bi (40 * a1) (fun y2 =>
  wl1 (b_X12_ruled_6 a1 a2 a3) FU M y2))
def f_X12_lineOf (M : Mem) (a1 : Int) : Res :=
  ok (in32 (2 + a1)) (cl (f_X12_ruled M (2 + a1) 101 101) (fun r2 M3 =>
  some (r2, M3)))
def f_X12_isSaid (M : Mem) (a1 : Int) : Res :=
  cl (f_X12_carried M a1 1) (fun r1 M2 =>
  cl (f_X12_lineOf M2 a1) (fun r3 M4 =>
  if r1 < r3 then (some (0, M4))
  else (some (1, M4))))
def f_X12_goesOn_ (M : Mem) (a0 : Int) : Res :=
  ok (in64 (1103515245 * a0)) (ok (in64 ((1103515245 * a0) + 12345)) (ok (0 ≤ (1103515245 * a0) + 12345) (some (((1103515245 * a0) + 12345) % 2147483648, M))))
def f_X12_lays (M : Mem) (a1 a2 a3 a4 a5 a6 a7 a8 : Int) : Res :=
  ok (0 ≤ a1 ∧ a1 < 40) (bm (st M 392 a1 a2) (fun M2 =>
  bm (st M2 393 a1 a3) (fun M3 =>
  bm (st M3 394 a1 a4) (fun M4 =>
  bm (st M4 395 a1 a5) (fun M5 =>
  bm (st M5 396 a1 a6) (fun M6 =>
  ok (a7 = 0 ∨ a7 = 1) (bm (st M6 397 a1 a7) (fun M8 =>
  bm (st M8 400 a1 a8) (fun M9 =>
  bm (st M9 398 a1 0) (fun M10 =>
  bm (st M10 399 a1 (-1)) (fun M11 =>
  some (0, M11))))))))))))
def j_X12_runShowing_231 (M : Mem) (x4 x5 x8 x9 x10 x12 x13 : Int) : Res :=
  ok (0 ≤ x9) (cl (f_X12_lays M (M 337 79) x4 x5 x8 x12 x13 x10 (x9 / 11)) (fun r43 M44 =>
  ok (in32 ((M44 337 79) + 1)) (bm (st M44 337 79 ((M44 337 79) + 1)) (fun M46 =>
  some (0, M46)))))
def j_X12_runShowing_107 (a1 : Int) (M : Mem) (x4 x5 s0 : Int) : Res :=
  cl (f_X12_shows M x4 x5 s0) (fun r19 M20 =>
  cl (f_X12_carried M20 a1 0) (fun r21 M22 =>
  cl (f_X12_isSaid M22 a1) (fun r23 M24 =>
  ok (in32 (5 + x4)) (ok (0 ≤ 5 + x4 ∧ 5 + x4 < 10) (bi (M24 374 (5 + x4)) (fun y27 =>
  cl (f_X12_goesOn_ M24 (M24 337 64)) (fun r28 M29 =>
  bm (st M29 337 64 r28) (fun M30 =>
  ok (0 ≤ M30 337 64) (ok (0 ≤ (M30 337 64) / 256 ∧ 0 < y27) (ok (in32 (((M30 337 64) / 256) % y27)) (bi (((M30 337 64) / 256) % y27) (fun y34 =>
  cl (f_X12_goesOn_ M30 (M30 337 64)) (fun r35 M36 =>
  bm (st M36 337 64 r35) (fun M37 =>
  ok (0 ≤ M37 337 64) (ok (0 ≤ (M37 337 64) / 256) (if (((M37 337 64) / 256) % 100) < r21 then (j_X12_runShowing_231 M37 x4 x5 s0 r21 r23 y34 y34)
  else (cl (f_X12_goesOn_ M37 (M37 337 64)) (fun r47 M48 =>
  bm (st M48 337 64 r47) (fun M49 =>
  ok (0 ≤ M49 337 64) (ok (0 ≤ (M49 337 64) / 256 ∧ 0 < y27) (ok (in32 (((M49 337 64) / 256) % y27)) (bi (((M49 337 64) / 256) % y27) (fun y53 =>
  j_X12_runShowing_231 M49 x4 x5 s0 r21 r23 y34 y53)))))))))))))))))))))))
def f_X12_runShowing (M : Mem) (a1 a2 a3 : Int) : Res :=
  ok (0 ≤ a2 ∧ a2 < 160) (bi (M 378 a2) (fun y2 =>
  bi (M 379 a2) (fun y3 =>
  ok (0 ≤ y3) (bm (st M 337 68 (y3 % 12)) (fun M5 =>
  bm (st M5 337 69 (y3 / 12)) (fun M6 =>
  bm (st M6 337 70 a3) (fun M7 =>
  ok (0 ≤ y3 ∧ y3 < 96) (bm (st M7 337 71 (M7 388 y3)) (fun M9 =>
  bm (st M9 337 72 0) (fun M10 =>
  bm (st M10 337 73 y2) (fun M11 =>
  cl (f_X12_tells M11 (M11 380 a2) (M11 381 a2)) (fun r12 M13 =>
  if 0 ≤ r12 then (if r12 ≤ 99 then (ok (in32 (r12)) (j_X12_runShowing_107 a1 M13 y2 y3 r12))
  else (j_X12_runShowing_107 a1 M13 y2 y3 99))
  else (j_X12_runShowing_107 a1 M13 y2 y3 0)))))))))))))
def f_X12_isLaw (M : Mem) (a1 : Int) : Res :=
  cl (f_X12_isIn M a1 0 2) (fun r1 M2 =>
  if r1 = 0 then (some (0, M2))
  else (ok (0 ≤ a1 ∧ a1 < 3) (if (M2 386 a1) = 0 then (some (0, M2))
  else (some (1, M2)))))
def b_X12_run_58 (a1 : Int) (w58 : Mem → Int → Int → Int → Res) (M : Mem) (x3 x4 x5 : Int) : Res :=
  ok (in32 (80 + (M 376 1))) (if (80 + (M 376 1)) ≤ x5 then (ok (in32 ((M 337 79) - x3)) (some ((M 337 79) - x3, M)))
  else (ok (0 ≤ x5 ∧ x5 < 160) (if (M 377 x5) = 0 then (if (M 337 79) = 40 then (ok (in32 ((M 337 79) - x3)) (some ((M 337 79) - x3, M)))
  else (ok (in32 ((M 337 79) - x3)) (cl (f_X12_runShowing M a1 x5 ((M 337 79) - x3)) (fun r28 M29 =>
  bi (x5 + 1) (fun y30 =>
  w58 M29 x3 x4 y30)))))
  else (if (M 377 x5) = 1 then (ok (0 ≤ x4 ∧ x4 < 8) (bm (st M 383 x4 x5) (fun M34 =>
  bm (st M34 384 x4 (M34 382 x5)) (fun M35 =>
  bi (x4 + 1) (fun y36 =>
  bi (x5 + 1) (fun y37 =>
  w58 M35 x3 y36 y37))))))
  else (ok (in32 (x4 - 1)) (ok (0 ≤ x4 - 1 ∧ x4 - 1 < 8) (ok (in32 ((M 384 (x4 - 1)) - 1)) (bm (st M 384 (x4 - 1) ((M 384 (x4 - 1)) - 1)) (fun M41 =>
  if (M41 384 (x4 - 1)) ≤ 0 then (ok (in32 (x4 + (-1))) (bi (x4 + (-1)) (fun y45 =>
  bi (x5 + 1) (fun y46 =>
  w58 M41 x3 y45 y46))))
  else (bi (M41 383 (x4 - 1)) (fun y47 =>
  ok (in32 (y47 + 1)) (bi (y47 + 1) (fun y49 =>
  w58 M41 x3 x4 y49)))))))))))))
def f_X12_run (M : Mem) (a1 a2 : Int) : Res :=
  if (M 337 60) = 0 then (some ((-1), M))
  else (cl (f_X12_isLaw M a1) (fun r3 M4 =>
  if r3 = 0 then (some ((-1), M4))
  else (if 0 ≤ a2 then (bm (st M4 337 64 a2) (fun M9 =>
  bi (M9 337 79) (fun y10 =>
  cl (f_X12_showings M9) (fun r11 M12 =>
  if r11 ≤ 0 then (ok (in32 (80 + (M12 376 1))) (bi (80 + (M12 376 1)) (fun y16 =>
  wl3 (b_X12_run_58 a1) FU M12 y10 0 y16)))
  else (wl3 (b_X12_run_58 a1) FU M12 y10 0 80)))))
  else (some ((-1), M4)))))
def b_X12_stands_211 (w211 : Mem → Int → Int → Res) (M : Mem) (x2 x3 : Int) : Res :=
  if (M 337 32) ≤ x3 then (some (0, M))
  else (ok (in32 (x2 + x3)) (ok (0 ≤ x3 ∧ x3 < 5400) (ok (0 ≤ x2 + x3 ∧ x2 + x3 < 5400) (bm (st M 360 (x2 + x3) (M 360 x3)) (fun M17 =>
  bi (x3 + 1) (fun y18 =>
  w211 M17 x2 y18))))))
def b_X12_stands_107 (a1 : Int) (w107 : Mem → Int → Int → Res) (M : Mem) (x2 x3 : Int) : Res :=
  ok (0 ≤ a1 ∧ a1 < 5) (if (M 366 a1) ≤ x3 then (wl2 (b_X12_stands_211) FU M x2 0)
  else (ok (in32 (5 * a1)) (ok (in32 ((5 * a1) + x3)) (ok (0 ≤ x3 ∧ x3 < 25) (ok (0 ≤ (5 * a1) + x3 ∧ (5 * a1) + x3 < 25) (bm (st M 367 ((5 * a1) + x3) (M 367 x3)) (fun M23 =>
  ok (M23 368 x3 = 0 ∨ M23 368 x3 = 1) (bm (st M23 368 ((5 * a1) + x3) (M23 368 x3)) (fun M25 =>
  ok (in32 ((M25 369 x3) + x2)) (bm (st M25 369 ((5 * a1) + x3) ((M25 369 x3) + x2)) (fun M27 =>
  ok (in32 ((M27 370 x3) + x2)) (bm (st M27 370 ((5 * a1) + x3) ((M27 370 x3) + x2)) (fun M29 =>
  ok (in32 ((M29 371 x3) + x2)) (bm (st M29 371 ((5 * a1) + x3) ((M29 371 x3) + x2)) (fun M31 =>
  bi (x3 + 1) (fun y32 =>
  w107 M31 x2 y32))))))))))))))))
def b_X12_stands_32 (a1 : Int) (w32 : Mem → Int → Int → Res) (M : Mem) (x2 x3 : Int) : Res :=
  ok (0 ≤ a1 ∧ a1 < 5) (if (M 362 a1) ≤ x3 then (wl2 (b_X12_stands_107 a1) FU M x2 0)
  else (ok (in32 (40 * a1)) (ok (in32 ((40 * a1) + x3)) (ok (0 ≤ x3 ∧ x3 < 200) (ok (in32 ((M 363 x3) + x2)) (ok (0 ≤ (40 * a1) + x3 ∧ (40 * a1) + x3 < 200) (bm (st M 363 ((40 * a1) + x3) ((M 363 x3) + x2)) (fun M38 =>
  ok (in32 ((M38 364 x3) + x2)) (bm (st M38 364 ((40 * a1) + x3) ((M38 364 x3) + x2)) (fun M40 =>
  ok (in32 ((M40 365 x3) + x2)) (bm (st M40 365 ((40 * a1) + x3) ((M40 365 x3) + x2)) (fun M42 =>
  bi (x3 + 1) (fun y43 =>
  w32 M42 x2 y43)))))))))))))
def f_X12_stands (M : Mem) (a1 : Int) : Res :=
  ok (0 ≤ a1 ∧ a1 < 5) (bm (st M 362 a1 (M 362 0)) (fun M2 =>
  bm (st M2 366 a1 (M2 366 0)) (fun M3 =>
  ok (in32 (900 * a1)) (bi (900 * a1) (fun y5 =>
  wl2 (b_X12_stands_32 a1) FU M3 y5 0)))))
def j_X12_reads_36 (a1 : Int) (M : Mem) : Res :=
  bm (st M 337 7 (M 337 5)) (fun M9 =>
  bm (st M9 337 8 (M9 337 6)) (fun M10 =>
  if (M10 337 5) = 0 then (cl (f_X12_stands M10 a1) (fun r13 M14 =>
  some (1, M14)))
  else (some (0, M10))))
def b_X12_reads_4 (a1 : Int) (w4 : Mem → Res) (M : Mem) : Res :=
  if (M 337 5) = 0 then (cl (f_X12_look M) (fun r5 M6 =>
  if r5 = (-1) then (j_X12_reads_36 a1 M6)
  else (if a1 = 1 then (cl (f_X12_statement M6 1) (fun r17 M18 =>
  w4 M18))
  else (cl (f_X12_statement M6 0) (fun r19 M20 =>
  w4 M20)))))
  else (j_X12_reads_36 a1 M)
def f_X12_reads (M : Mem) (a1 : Int) : Res :=
  cl (f_X12_begins M) (fun r1 M2 =>
  wl0 (b_X12_reads_4 a1) FU M2)
def j_X12_spreads_137 (w4 : Mem → Int → Int → Res) (M : Mem) (x1 x2 s0 : Int) : Res :=
  if s0 = 0 then (ok (in32 (x2 + 1)) (bi (x2 + 1) (fun y24 =>
  w4 M x1 y24)))
  else (ok (0 ≤ x2 ∧ x2 < 96) (bm (st M 389 x2 (M 337 78)) (fun M26 =>
  bi (x2 + 1) (fun y27 =>
  w4 M26 1 y27))))
def j_X12_spreads_136 (w4 : Mem → Int → Int → Res) (M : Mem) (x1 x2 : Int) : Res :=
  j_X12_spreads_137 w4 M x1 x2 0
def j_X12_spreads_132 (w4 : Mem → Int → Int → Res) (M : Mem) (x1 x2 : Int) : Res :=
  j_X12_spreads_137 w4 M x1 x2 1
def j_X12_spreads_110 (w4 : Mem → Int → Int → Res) (M : Mem) (x1 x2 : Int) : Res :=
  if 84 ≤ x2 then (j_X12_spreads_136 w4 M x1 x2)
  else (ok (in32 (x2 + 12)) (ok (0 ≤ x2 + 12 ∧ x2 + 12 < 96) (if (M 389 (x2 + 12)) = (M 337 78) then (j_X12_spreads_132 w4 M x1 x2)
  else (j_X12_spreads_136 w4 M x1 x2))))
def j_X12_spreads_83 (w4 : Mem → Int → Int → Res) (M : Mem) (x1 x2 s0 : Int) : Res :=
  if s0 = 0 then (if x2 < 12 then (j_X12_spreads_110 w4 M x1 x2)
  else (ok (in32 (x2 - 12)) (ok (0 ≤ x2 - 12 ∧ x2 - 12 < 96) (if (M 389 (x2 - 12)) = (M 337 78) then (j_X12_spreads_132 w4 M x1 x2)
  else (j_X12_spreads_110 w4 M x1 x2)))))
  else (j_X12_spreads_132 w4 M x1 x2)
def j_X12_spreads_82 (w4 : Mem → Int → Int → Res) (M : Mem) (x1 x2 : Int) : Res :=
  j_X12_spreads_83 w4 M x1 x2 0
def j_X12_spreads_78 (w4 : Mem → Int → Int → Res) (M : Mem) (x1 x2 : Int) : Res :=
  j_X12_spreads_83 w4 M x1 x2 1
def j_X12_spreads_54 (w4 : Mem → Int → Int → Res) (M : Mem) (x1 x2 : Int) : Res :=
  ok (0 ≤ x2) (if 11 ≤ (x2 % 12) then (j_X12_spreads_82 w4 M x1 x2)
  else (ok (in32 (x2 + 1)) (ok (0 ≤ x2 + 1 ∧ x2 + 1 < 96) (if (M 389 (x2 + 1)) = (M 337 78) then (j_X12_spreads_78 w4 M x1 x2)
  else (j_X12_spreads_82 w4 M x1 x2)))))
def b_X12_spreads_4 (w4 : Mem → Int → Int → Res) (M : Mem) (x1 x2 : Int) : Res :=
  if 96 ≤ x2 then (ok (x1 = 0 ∨ x1 = 1) (some (x1, M)))
  else (ok (0 ≤ x2 ∧ x2 < 96) (if (M 388 x2) = 0 then (bi (x2 + 1) (fun y7 =>
  w4 M x1 y7))
  else (if (M 389 x2) = (-1) then (if (x2 % 12) ≤ 0 then (j_X12_spreads_54 w4 M x1 x2)
  else (ok (0 ≤ x2 - 1 ∧ x2 - 1 < 96) (if (M 389 (x2 - 1)) = (M 337 78) then (j_X12_spreads_78 w4 M x1 x2)
  else (j_X12_spreads_54 w4 M x1 x2))))
  else (bi (x2 + 1) (fun y43 =>
  w4 M x1 y43)))))
def f_X12_spreads (M : Mem) : Res :=
  wl2 (b_X12_spreads_4) FU M 0 0
def b_X12_tellsPieces_102 (w28 : Mem → Int → Res) (w102 : Mem → Int → Int → Res) (M : Mem) (x1 x3 : Int) : Res :=
  if 96 ≤ x3 then (ok (in32 ((M 337 78) + 1)) (bm (st M 337 78 ((M 337 78) + 1)) (fun M22 =>
  ok (in32 (x1 + 1)) (bi (x1 + 1) (fun y24 =>
  w28 M22 y24)))))
  else (ok (0 ≤ x3 ∧ x3 < 96) (if (M 389 x3) = (M 337 78) then (ok (0 ≤ M 337 78 ∧ M 337 78 < 96) (ok (in32 ((M 390 (M 337 78)) + 1)) (bm (st M 390 (M 337 78) ((M 390 (M 337 78)) + 1)) (fun M30 =>
  bi (x3 + 1) (fun y31 =>
  w102 M30 x1 y31)))))
  else (bi (x3 + 1) (fun y32 =>
  w102 M x1 y32))))
def b_X12_tellsPieces_78 (w28 : Mem → Int → Res) (w78 : Mem → Int → Int → Res) (M : Mem) (x1 x2 : Int) : Res :=
  if x2 = 0 then (ok (0 ≤ M 337 78 ∧ M 337 78 < 96) (bm (st M 390 (M 337 78) 0) (fun M18 =>
  wl2 (b_X12_tellsPieces_102 w28) FU M18 x1 0)))
  else (cl (f_X12_spreads M) (fun r33 M34 =>
  w78 M34 x1 r33))
def b_X12_tellsPieces_28 (w28 : Mem → Int → Res) (M : Mem) (x1 : Int) : Res :=
  if 96 ≤ x1 then (some (0, M))
  else (ok (0 ≤ x1 ∧ x1 < 96) (if (M 388 x1) = 0 then (bi (x1 + 1) (fun y9 =>
  w28 M y9))
  else (if (M 389 x1) = (-1) then (bm (st M 389 x1 (M 337 78)) (fun M12 =>
  ok (0 ≤ M12 337 78 ∧ M12 337 78 < 96) (bm (st M12 391 (M12 337 78) x1) (fun M14 =>
  wl2 (b_X12_tellsPieces_78 w28) FU M14 x1 1))))
  else (bi (x1 + 1) (fun y35 =>
  w28 M y35)))))
def b_X12_tellsPieces_7 (w7 : Mem → Int → Res) (M : Mem) (x1 : Int) : Res :=
  if 96 ≤ x1 then (wl1 (b_X12_tellsPieces_28) FU M 0)
  else (ok (0 ≤ x1 ∧ x1 < 96) (bm (st M 389 x1 (-1)) (fun M37 =>
  bi (x1 + 1) (fun y38 =>
  w7 M37 y38))))
def f_X12_tellsPieces (M : Mem) : Res :=
  bm (st M 337 78 0) (fun M1 =>
  wl1 (b_X12_tellsPieces_7) FU M1 0)
def b_X12_tellsSight_22 (w22 : Mem → Int → Res) (M : Mem) (x1 : Int) : Res :=
  if 96 ≤ x1 then (cl (f_X12_tellsPieces M) (fun r7 M8 =>
  some (0, M8)))
  else (ok (0 ≤ x1) (bm (st M 337 68 (x1 % 12)) (fun M10 =>
  bm (st M10 337 69 (x1 / 12)) (fun M11 =>
  if x1 = (M11 375 1) then (bm (st M11 388 x1 0) (fun M14 =>
  ok (in32 (x1 + 1)) (bi (x1 + 1) (fun y16 =>
  w22 M14 y16))))
  else (cl (f_X12_ruled M11 1 9 0) (fun r17 M18 =>
  bm (st M18 388 x1 r17) (fun M19 =>
  ok (in32 (x1 + 1)) (bi (x1 + 1) (fun y21 =>
  w22 M19 y21)))))))))
def f_X12_tellsSight (M : Mem) : Res :=
  bm (st M 337 70 0) (fun M1 =>
  bm (st M1 337 71 0) (fun M2 =>
  bm (st M2 337 72 0) (fun M3 =>
  bm (st M3 337 73 0) (fun M4 =>
  wl1 (b_X12_tellsSight_22) FU M4 0))))
def b_X12_field_36 (w36 : Mem → Int → Res) (M : Mem) (x1 : Int) : Res :=
  if (M 372 0) ≤ x1 then (bm (st M 337 79 0) (fun M9 =>
  bm (st M9 337 60 0) (fun M10 =>
  bm (st M10 376 1 0) (fun M11 =>
  cl (f_X12_tellsSight M11) (fun r12 M13 =>
  some (M13 337 36, M13))))))
  else (ok (in32 (5 + x1)) (ok (0 ≤ x1 ∧ x1 < 10) (ok (0 ≤ 5 + x1 ∧ 5 + x1 < 10) (bm (st M 373 (5 + x1) (M 373 x1)) (fun M17 =>
  bm (st M17 374 (5 + x1) (M17 374 x1)) (fun M18 =>
  bi (x1 + 1) (fun y19 =>
  w36 M18 y19)))))))
def f_X12_field (M : Mem) : Res :=
  cl (f_X12_reads M 1) (fun r1 M2 =>
  if r1 = 0 then (some ((-1), M2))
  else (bm (st M2 372 1 (M2 372 0)) (fun M5 =>
  bm (st M5 375 1 (M5 375 0)) (fun M6 =>
  wl1 (b_X12_field_36) FU M6 0))))
def f_X12_law (M : Mem) (a1 : Int) : Res :=
  cl (f_X12_isIn M a1 0 2) (fun r1 M2 =>
  if r1 = 0 then (bm (st M2 337 1 0) (fun M5 =>
  some ((-2), M5)))
  else (ok (in32 (2 + a1)) (cl (f_X12_reads M2 (2 + a1)) (fun r7 M8 =>
  if r7 = 0 then (some ((-1), M8))
  else (ok (0 ≤ a1 ∧ a1 < 3) (bm (st M8 386 a1 1) (fun M12 =>
  some (M12 337 36, M12))))))))
def f_X12_fault (M : Mem) (a1 : Int) : Res :=
  if a1 = 0 then (some (M 337 7, M))
  else (if a1 = 1 then (some (M 337 8, M))
  else (some ((-1), M)))
def f_X12_isThing (M : Mem) (a1 : Int) : Res :=
  ok (in32 ((M 372 1) - 1)) (cl (f_X12_isIn M a1 0 ((M 372 1) - 1)) (fun r2 M3 =>
  ok (r2 = 0 ∨ r2 = 1) (some (r2, M3))))
def f_X12_isSquare (M : Mem) (a0 a1 : Int) : Res :=
  cl (f_X12_isIn M a0 0 11) (fun r1 M2 =>
  if r1 = 0 then (some (0, M2))
  else (cl (f_X12_isIn M2 a1 0 7) (fun r5 M6 =>
  if r5 = 0 then (some (0, M6))
  else (some (1, M6)))))
def b_X12_has_65 (w65 : Mem → Int → Int → Res) (M : Mem) (x2 x3 : Int) : Res :=
  if 3 ≤ x3 then (some (x2, M))
  else (ok (0 ≤ x3 ∧ x3 < 3) (if (M 386 x3) = 0 then (bi (x3 + 1) (fun y10 =>
  w65 M x2 y10))
  else (ok (in32 (x2 + 1)) (bi (x2 + 1) (fun y12 =>
  bi (x3 + 1) (fun y13 =>
  w65 M y12 y13))))))
def b_X12_has_97 (w97 : Mem → Int → Int → Res) (M : Mem) (x2 x3 : Int) : Res :=
  if 96 ≤ x3 then (some (x2, M))
  else (ok (0 ≤ x3 ∧ x3 < 96) (if (M 403 x3) = 0 then (bi (x3 + 1) (fun y23 =>
  w97 M x2 y23))
  else (ok (in32 (x2 + 1)) (bi (x2 + 1) (fun y25 =>
  bi (x3 + 1) (fun y26 =>
  w97 M y25 y26))))))
def b_X12_has_125 (w125 : Mem → Int → Int → Res) (M : Mem) (x2 x3 : Int) : Res :=
  if 96 ≤ x3 then (some (x2, M))
  else (ok (0 ≤ x3 ∧ x3 < 96) (if (M 388 x3) ≤ 0 then (bi (x3 + 1) (fun y34 =>
  w125 M x2 y34))
  else (ok (in32 (x2 + 1)) (bi (x2 + 1) (fun y36 =>
  bi (x3 + 1) (fun y37 =>
  w125 M y36 y37))))))
def j_X12_has_158 (a1 : Int) (M : Mem) : Res :=
  ok (in32 (a1 - 6)) (ok (0 ≤ a1 - 6 ∧ a1 - 6 < 3) (if (M 386 (a1 - 6)) = 0 then (some (0, M))
  else (ok (in32 (a1 - 4)) (ok (0 ≤ a1 - 4 ∧ a1 - 4 < 5) (some (M 366 (a1 - 4), M))))))
def f_X12_has (M : Mem) (a1 : Int) : Res :=
  if a1 = 0 then (some (M 372 1, M))
  else (if a1 = 1 then (wl2 (b_X12_has_65) FU M 0 0)
  else (if a1 = 2 then (some (M 337 79, M))
  else (if a1 = 3 then (wl2 (b_X12_has_97) FU M 0 0)
  else (if a1 = 4 then (wl2 (b_X12_has_125) FU M 0 0)
  else (if a1 = 5 then (some (M 375 1, M))
  else (if a1 = 6 then (j_X12_has_158 a1 M)
  else (if a1 = 7 then (j_X12_has_158 a1 M)
  else (if a1 = 8 then (j_X12_has_158 a1 M)
  else (if a1 = 9 then (cl (f_X12_showings M) (fun r54 M55 =>
  some (r54, M55)))
  else (some ((-1), M)))))))))))
def b_X12_letter_132 (a3 : Int) (w132 : Mem → Int → Int → Res) (M : Mem) (x4 x7 : Int) : Res :=
  if x7 ≤ a3 then (ok (0 ≤ x4) (ok (in32 (x4 % 27)) (some (x4 % 27, M))))
  else (ok (0 ≤ x4) (bi (x4 / 27) (fun y27 =>
  ok (in32 (x7 + (-1))) (bi (x7 + (-1)) (fun y29 =>
  w132 M y27 y29)))))
def b_X12_letter_97 (a3 : Int) (w97 : Mem → Int → Int → Int → Res) (M : Mem) (x4 x6 x7 : Int) : Res :=
  if x7 ≤ 0 then (if a3 < x6 then (ok (in32 (x6 - 1)) (bi (x6 - 1) (fun y21 =>
  wl2 (b_X12_letter_132 a3) FU M x4 y21)))
  else (some (0, M)))
  else (ok (in32 (x6 + 1)) (bi (x6 + 1) (fun y31 =>
  ok (0 ≤ x7) (bi (x7 / 27) (fun y33 =>
  w97 M x4 y31 y33)))))
def j_X12_letter_60 (a1 a2 a3 : Int) (M : Mem) : Res :=
  if a1 = (-1) then (ok (in32 (5 + a2)) (ok (0 ≤ 5 + a2 ∧ 5 + a2 < 10) (bi (M 373 (5 + a2)) (fun y15 =>
  wl3 (b_X12_letter_97 a3) FU M y15 0 y15))))
  else (ok (in32 (2 + a1)) (ok (in32 (5 * (2 + a1))) (ok (in32 ((5 * (2 + a1)) + a2)) (ok (0 ≤ (5 * (2 + a1)) + a2 ∧ (5 * (2 + a1)) + a2 < 25) (bi (M 367 ((5 * (2 + a1)) + a2)) (fun y38 =>
  wl3 (b_X12_letter_97 a3) FU M y38 0 y38))))))
def f_X12_letter (M : Mem) (a1 a2 a3 : Int) : Res :=
  cl (f_X12_isIn M a3 0 5) (fun r1 M2 =>
  if r1 = 0 then (some ((-1), M2))
  else (if a1 = (-1) then (cl (f_X12_isThing M2 a2) (fun r7 M8 =>
  if r7 = 0 then (some ((-1), M8))
  else (j_X12_letter_60 a1 a2 a3 M8)))
  else (cl (f_X12_isLaw M2 a1) (fun r39 M40 =>
  if r39 = 0 then (some ((-1), M40))
  else (ok (in32 (2 + a1)) (ok (0 ≤ 2 + a1 ∧ 2 + a1 < 5) (ok (in32 ((M40 366 (2 + a1)) - 1)) (cl (f_X12_isIn M40 a2 0 ((M40 366 (2 + a1)) - 1)) (fun r46 M47 =>
  if r46 = 0 then (some ((-1), M47))
  else (j_X12_letter_60 a1 a2 a3 M47))))))))))
def f_X12_sight (M : Mem) (a1 a2 : Int) : Res :=
  cl (f_X12_isSquare M a1 a2) (fun r1 M2 =>
  if r1 = 0 then (some ((-1), M2))
  else (ok (in32 (12 * a2)) (ok (in32 ((12 * a2) + a1)) (ok (0 ≤ (12 * a2) + a1 ∧ (12 * a2) + a1 < 96) (some (M2 388 ((12 * a2) + a1), M2))))))
def b_X12_seenSide_4 (w4 : Mem → Int → Int → Res) (M : Mem) (x1 x2 : Int) : Res :=
  if (M 337 78) ≤ x2 then (some (x1, M))
  else (ok (0 ≤ x2 ∧ x2 < 96) (ok (0 ≤ x1 ∧ x1 < 96) (if (M 390 x2) ≤ (M 390 x1) then (bi (x2 + 1) (fun y7 =>
  w4 M x1 y7))
  else (bi (x2 + 1) (fun y8 =>
  w4 M x2 y8)))))
def f_X12_seenSide (M : Mem) : Res :=
  wl2 (b_X12_seenSide_4) FU M 0 1
def f_X12_isIsland (M : Mem) (a1 : Int) : Res :=
  ok (0 ≤ a1 ∧ a1 < 96) (if (M 388 a1) ≤ 0 then (some (0, M))
  else (cl (f_X12_seenSide M) (fun r4 M5 =>
  if (M 389 a1) = r4 then (some (0, M5))
  else (some (1, M5)))))
def f_X12_piece (M : Mem) (a1 a2 : Int) : Res :=
  cl (f_X12_isSquare M a1 a2) (fun r1 M2 =>
  if r1 = 0 then (some ((-1), M2))
  else (ok (in32 (12 * a2)) (ok (in32 ((12 * a2) + a1)) (ok (0 ≤ (12 * a2) + a1 ∧ (12 * a2) + a1 < 96) (if (M2 388 ((12 * a2) + a1)) ≤ 0 then (some ((-1), M2))
  else (some (M2 389 ((12 * a2) + a1), M2)))))))
def f_X12_pieceHas (M : Mem) (a1 a2 : Int) : Res :=
  ok (in32 ((M 337 78) - 1)) (cl (f_X12_isIn M a1 0 ((M 337 78) - 1)) (fun r2 M3 =>
  if r2 = 0 then (some ((-1), M3))
  else (if a2 = 0 then (ok (0 ≤ a1 ∧ a1 < 96) (some (M3 390 a1, M3)))
  else (if a2 = 1 then (ok (0 ≤ a1 ∧ a1 < 96) (some (M3 391 a1, M3)))
  else (if a2 = 2 then (cl (f_X12_seenSide M3) (fun r14 M15 =>
  if a1 = r14 then (some (0, M15))
  else (some (1, M15))))
  else (some ((-1), M3)))))))
def f_X12_light (M : Mem) (a1 a2 a3 : Int) : Res :=
  cl (f_X12_isSquare M a1 a2) (fun r1 M2 =>
  if r1 = 0 then (some ((-1), M2))
  else (cl (f_X12_isIn M2 a3 0 99) (fun r5 M6 =>
  if r5 = 0 then (some ((-1), M6))
  else (ok (in32 (12 * a2)) (ok (in32 ((12 * a2) + a1)) (cl (f_X12_lightAt M6 ((12 * a2) + a1) a3) (fun r11 M12 =>
  some (r11, M12))))))))
def f_X12_isShowing (M : Mem) (a1 a2 a3 a4 : Int) : Res :=
  cl (f_X12_isThing M a1) (fun r1 M2 =>
  if r1 = 0 then (some (0, M2))
  else (cl (f_X12_isSquare M2 a2 a3) (fun r5 M6 =>
  if r5 = 0 then (some (0, M6))
  else (cl (f_X12_isIn M6 a4 0 99) (fun r9 M10 =>
  if r9 = 0 then (some (0, M10))
  else (some (1, M10)))))))
def f_X12_carries (M : Mem) (a1 a2 a3 a4 a5 a6 : Int) : Res :=
  cl (f_X12_isLaw M a1) (fun r1 M2 =>
  if r1 = 0 then (some ((-1), M2))
  else (cl (f_X12_isShowing M2 a3 a4 a5 a6) (fun r5 M6 =>
  if r5 = 0 then (some ((-1), M6))
  else (ok (in32 (2 + a1)) (ok (0 ≤ 2 + a1 ∧ 2 + a1 < 5) (ok (in32 ((M6 366 (2 + a1)) - 1)) (cl (f_X12_isIn M6 a2 (-3) ((M6 366 (2 + a1)) - 1)) (fun r12 M13 =>
  if r12 = 0 then (some ((-1), M13))
  else (ok (in32 (12 * a5)) (ok (in32 ((12 * a5) + a4)) (cl (f_X12_shows M13 a3 ((12 * a5) + a4) a6) (fun r18 M19 =>
  if a2 = (-1) then (cl (f_X12_carried M19 a1 0) (fun r22 M23 =>
  some (r22, M23)))
  else (if a2 = (-2) then (cl (f_X12_carried M19 a1 1) (fun r26 M27 =>
  some (r26, M27)))
  else (if a2 = (-3) then (cl (f_X12_lineOf M19 a1) (fun r30 M31 =>
  some (r30, M31)))
  else (cl (f_X12_carriedBy M19 a1 a2) (fun r32 M33 =>
  some (r32, M33)))))))))))))))))
def f_X12_says (M : Mem) (a1 a2 a3 a4 a5 : Int) : Res :=
  cl (f_X12_isLaw M a1) (fun r1 M2 =>
  if r1 = 0 then (some ((-1), M2))
  else (cl (f_X12_isShowing M2 a2 a3 a4 a5) (fun r5 M6 =>
  if r5 = 0 then (some ((-1), M6))
  else (ok (in32 (12 * a4)) (ok (in32 ((12 * a4) + a3)) (cl (f_X12_shows M6 a2 ((12 * a4) + a3) a5) (fun r11 M12 =>
  cl (f_X12_isSaid M12 a1) (fun r13 M14 =>
  if r13 = 0 then (some (0, M14))
  else (some (1, M14))))))))))
def f_X12_above (M : Mem) (a0 a1 a2 : Int) : Res :=
  if a2 = 0 then (ok (in32 (100 - a0)) (some (100 - a0, M)))
  else (ok (in32 (a0 * a1)) (ok (in32 ((a0 * a1) + 100)) (ok (in32 (((a0 * a1) + 100) - a0)) (some (((a0 * a1) + 100) - a0, M)))))
def b_X12_common_6 (w6 : Mem → Int → Int → Res) (M : Mem) (x4 x6 : Int) : Res :=
  if x6 = 0 then (some (x4, M))
  else (ok (0 ≤ x4 ∧ 0 < x6) (bi (x4 % x6) (fun y4 =>
  w6 M x6 y4)))
def f_X12_common (M : Mem) (a0 a2 : Int) : Res :=
  wl2 (b_X12_common_6) FU M a0 a2
def f_X12_odds (M : Mem) (a1 a2 a3 a4 a5 a6 a7 : Int) : Res :=
  cl (f_X12_isLaw M a1) (fun r1 M2 =>
  if r1 = 0 then (some ((-1), M2))
  else (cl (f_X12_isShowing M2 a2 a3 a4 a5) (fun r5 M6 =>
  if r5 = 0 then (some ((-1), M6))
  else (ok (in32 (12 * a4)) (ok (in32 ((12 * a4) + a3)) (cl (f_X12_shows M6 a2 ((12 * a4) + a3) a5) (fun r11 M12 =>
  ok (in32 (5 + a2)) (ok (0 ≤ 5 + a2 ∧ 5 + a2 < 10) (bi (M12 374 (5 + a2)) (fun y15 =>
  cl (f_X12_carried M12 a1 0) (fun r16 M17 =>
  cl (f_X12_above M17 r16 y15 a6) (fun r18 M19 =>
  ok (in64 (100 * y15)) (cl (f_X12_common M19 r18 (100 * y15)) (fun r21 M22 =>
  ok (in32 (r21)) (if a7 = 0 then (ok (in32 (100 * y15)) (ok (0 ≤ 100 * y15 ∧ 0 < r21) (some ((100 * y15) / r21, M22))))
  else (ok (0 ≤ r18 ∧ 0 < r21) (some (r18 / r21, M22))))))))))))))))))
def f_X12_draw (M : Mem) (a1 a2 a3 a4 a5 a6 a7 : Int) : Res :=
  cl (f_X12_isLaw M a1) (fun r1 M2 =>
  if r1 = 0 then (some ((-1), M2))
  else (cl (f_X12_isShowing M2 a2 a3 a4 a5) (fun r5 M6 =>
  if r5 = 0 then (some ((-1), M6))
  else (if a7 < 0 then (some ((-1), M6))
  else (ok (in32 (5 + a2)) (ok (0 ≤ 5 + a2 ∧ 5 + a2 < 10) (ok (in32 ((M6 374 (5 + a2)) - 1)) (cl (f_X12_isIn M6 a6 0 ((M6 374 (5 + a2)) - 1)) (fun r14 M15 =>
  if r14 = 0 then (some ((-1), M15))
  else (ok (in32 (12 * a4)) (ok (in32 ((12 * a4) + a3)) (cl (f_X12_shows M15 a2 ((12 * a4) + a3) a5) (fun r20 M21 =>
  cl (f_X12_goesOn_ M21 a7) (fun r22 M23 =>
  ok (0 ≤ r22) (ok (0 ≤ r22 / 256) (cl (f_X12_carried M23 a1 0) (fun r26 M27 =>
  if r26 ≤ ((r22 / 256) % 100) then (cl (f_X12_goesOn_ M27 r22) (fun r30 M31 =>
  ok (0 ≤ r30) (ok (0 ≤ r30 / 256 ∧ 0 < M31 374 (5 + a2)) (ok (in32 ((r30 / 256) % (M31 374 (5 + a2)))) (some ((r30 / 256) % (M31 374 (5 + a2)), M31))))))
  else (some (a6, M27)))))))))))))))))))
def f_X12_isTrial (M : Mem) (a1 a2 a3 a4 : Int) : Res :=
  cl (f_X12_isThing M a1) (fun r1 M2 =>
  if r1 = 0 then (some (0, M2))
  else (ok (in32 (5 + a1)) (ok (0 ≤ 5 + a1 ∧ 5 + a1 < 10) (ok (in32 ((M2 374 (5 + a1)) - 1)) (cl (f_X12_isIn M2 a2 0 ((M2 374 (5 + a1)) - 1)) (fun r8 M9 =>
  if r8 = 0 then (some (0, M9))
  else (ok (in32 ((M9 374 (5 + a1)) - 1)) (cl (f_X12_isIn M9 a3 0 ((M9 374 (5 + a1)) - 1)) (fun r13 M14 =>
  if r13 = 0 then (some (0, M14))
  else (cl (f_X12_isIn M14 a4 0 9) (fun r17 M18 =>
  if r17 = 0 then (some (0, M18))
  else (some (1, M18)))))))))))))
def j_X12_moved_33 (a1 a2 a3 : Int) (M : Mem) : Res :=
  cl (f_X12_isIn M a2 (-12) 12) (fun r13 M14 =>
  if r13 = 0 then (some (0, M14))
  else (cl (f_X12_isIn M14 a3 (-8) 8) (fun r17 M18 =>
  if r17 = 0 then (some (0, M18))
  else (ok (0 ≤ a1 ∧ a1 < 40) (ok (0 ≤ M18 393 a1) (ok (in32 (((M18 393 a1) % 12) + a2)) (bi (((M18 393 a1) % 12) + a2) (fun y24 =>
  ok (in32 (((M18 393 a1) / 12) + a3)) (bi (((M18 393 a1) / 12) + a3) (fun y26 =>
  cl (f_X12_isSquare M18 y24 y26) (fun r27 M28 =>
  if r27 = 0 then (some (0, M28))
  else (ok (in32 (12 * y26)) (ok (in32 ((12 * y26) + y24)) (bm (st M28 393 a1 ((12 * y26) + y24)) (fun M33 =>
  bm (st M33 398 a1 1) (fun M34 =>
  some (1, M34)))))))))))))))))
def f_X12_moved (M : Mem) (a1 a2 a3 : Int) : Res :=
  ok (in32 ((M 337 79) - 1)) (cl (f_X12_isIn M a1 0 ((M 337 79) - 1)) (fun r2 M3 =>
  if r2 = 0 then (some (0, M3))
  else (ok (0 ≤ a1 ∧ a1 < 40) (if (M3 398 a1) = 0 then (if a2 = 0 then (if a3 = 0 then (some (0, M3))
  else (j_X12_moved_33 a1 a2 a3 M3))
  else (j_X12_moved_33 a1 a2 a3 M3))
  else (some (0, M3))))))
def f_X12_voice (M : Mem) (a1 a2 : Int) : Res :=
  ok (in32 ((M 337 79) - 1)) (cl (f_X12_isIn M a1 0 ((M 337 79) - 1)) (fun r2 M3 =>
  if r2 = 0 then (some (0, M3))
  else (ok (0 ≤ a1 ∧ a1 < 40) (if (M3 399 a1) = (-1) then (ok (in32 (5 + (M3 392 a1))) (ok (0 ≤ 5 + (M3 392 a1) ∧ 5 + (M3 392 a1) < 10) (ok (in32 ((M3 374 (5 + (M3 392 a1))) - 1)) (cl (f_X12_isIn M3 a2 0 ((M3 374 (5 + (M3 392 a1))) - 1)) (fun r12 M13 =>
  if r12 = 0 then (some (0, M13))
  else (bm (st M13 399 a1 a2) (fun M16 =>
  some (1, M16))))))))
  else (some (0, M3))))))
def f_X12_isLed (M : Mem) (a1 : Int) : Res :=
  ok (0 ≤ a1 ∧ a1 < 40) (if (M 399 a1) = (-1) then (some (0, M))
  else (if (M 399 a1) = (M 396 a1) then (some (1, M))
  else (some (0, M))))
def f_X12_isRight (M : Mem) (a1 : Int) : Res :=
  ok (0 ≤ a1 ∧ a1 < 40) (if (M 395 a1) = (M 396 a1) then (some (1, M))
  else (some (0, M)))
def f_X12_showsTrial (M : Mem) (a1 : Int) : Res :=
  ok (0 ≤ a1 ∧ a1 < 40) (cl (f_X12_shows M (M 392 a1) (M 393 a1) (M 394 a1)) (fun r2 M3 =>
  some (0, M3)))
def j_X12_kindOf_64 (a1 a2 : Int) (M : Mem) : Res :=
  ok (0 ≤ a2 ∧ a2 < 40) (cl (f_X12_isIsland M (M 393 a2)) (fun r21 M22 =>
  if r21 = 0 then (cl (f_X12_carried M22 a1 1) (fun r25 M26 =>
  if r25 ≤ 0 then (some (7, M26))
  else (cl (f_X12_lineOf M26 a1) (fun r29 M30 =>
  if r29 ≤ r25 then (some (7, M30))
  else (some (6, M30))))))
  else (some (5, M22))))
def f_X12_kindOf (M : Mem) (a1 a2 : Int) : Res :=
  cl (f_X12_isRight M a2) (fun r1 M2 =>
  if r1 = 0 then (some (0, M2))
  else (ok (0 ≤ a2 ∧ a2 < 40) (if (M2 398 a2) = 0 then (cl (f_X12_isLed M2 a2) (fun r8 M9 =>
  if r8 = 0 then (if (M9 397 a2) = 0 then (cl (f_X12_showsTrial M9 a2) (fun r14 M15 =>
  if (M15 337 71) = 0 then (if (M15 337 72) < 5 then (j_X12_kindOf_64 a1 a2 M15)
  else (some (4, M15)))
  else (j_X12_kindOf_64 a1 a2 M15)))
  else (some (3, M9)))
  else (some (2, M9))))
  else (some (1, M2)))))
def f_X12_kind (M : Mem) (a1 a2 : Int) : Res :=
  cl (f_X12_isLaw M a1) (fun r1 M2 =>
  if r1 = 0 then (some ((-1), M2))
  else (ok (in32 ((M2 337 79) - 1)) (cl (f_X12_isIn M2 a2 0 ((M2 337 79) - 1)) (fun r6 M7 =>
  if r6 = 0 then (some ((-1), M7))
  else (cl (f_X12_kindOf M7 a1 a2) (fun r10 M11 =>
  some (r10, M11)))))))
def b_X12_kinds_27 (a1 a2 : Int) (w27 : Mem → Int → Int → Res) (M : Mem) (x3 x4 : Int) : Res :=
  if (M 337 79) ≤ x4 then (some (x3, M))
  else (cl (f_X12_kindOf M a1 x4) (fun r11 M12 =>
  if r11 = a2 then (ok (in32 (x3 + 1)) (bi (x3 + 1) (fun y16 =>
  ok (in32 (x4 + 1)) (bi (x4 + 1) (fun y18 =>
  w27 M12 y16 y18)))))
  else (ok (in32 (x4 + 1)) (bi (x4 + 1) (fun y20 =>
  w27 M12 x3 y20)))))
def f_X12_kinds (M : Mem) (a1 a2 : Int) : Res :=
  cl (f_X12_isLaw M a1) (fun r1 M2 =>
  if r1 = 0 then (some ((-1), M2))
  else (cl (f_X12_isIn M2 a2 0 7) (fun r5 M6 =>
  if r5 = 0 then (some ((-1), M6))
  else (wl2 (b_X12_kinds_27 a1 a2) FU M6 0 0))))
def f_X12_trial (M : Mem) (a1 a2 a3 a4 a5 a6 a7 a8 : Int) : Res :=
  if (M 337 79) = 40 then (some ((-1), M))
  else (cl (f_X12_isShowing M a1 a2 a3 a4) (fun r3 M4 =>
  if r3 = 0 then (some ((-1), M4))
  else (cl (f_X12_isTrial M4 a1 a5 a6 a8) (fun r7 M8 =>
  if r7 = 0 then (some ((-1), M8))
  else (ok (in32 (12 * a3)) (ok (in32 ((12 * a3) + a2)) (cl (f_X12_lays M8 (M8 337 79) a1 ((12 * a3) + a2) a4 a5 a6 a7 a8) (fun r13 M14 =>
  ok (in32 ((M14 337 79) + 1)) (bm (st M14 337 79 ((M14 337 79) + 1)) (fun M16 =>
  some (M16 337 79, M16)))))))))))
def f_X12_undo (M : Mem) : Res :=
  if (M 337 79) = 0 then (some ((-1), M))
  else (ok (in32 ((M 337 79) - 1)) (bm (st M 337 79 ((M 337 79) - 1)) (fun M4 =>
  some (M4 337 79, M4))))
def f_X12_tried (M : Mem) (a1 a2 : Int) : Res :=
  ok (in32 ((M 337 79) - 1)) (cl (f_X12_isIn M a1 0 ((M 337 79) - 1)) (fun r2 M3 =>
  if r2 = 0 then (some ((-1), M3))
  else (if a2 = 0 then (ok (0 ≤ a1 ∧ a1 < 40) (some (M3 392 a1, M3)))
  else (if a2 = 1 then (ok (0 ≤ a1 ∧ a1 < 40) (ok (0 ≤ M3 393 a1) (some ((M3 393 a1) % 12, M3))))
  else (if a2 = 2 then (ok (0 ≤ a1 ∧ a1 < 40) (ok (0 ≤ M3 393 a1) (some ((M3 393 a1) / 12, M3))))
  else (if a2 = 3 then (ok (0 ≤ a1 ∧ a1 < 40) (some (M3 394 a1, M3)))
  else (if a2 = 4 then (ok (0 ≤ a1 ∧ a1 < 40) (some (M3 395 a1, M3)))
  else (if a2 = 5 then (ok (0 ≤ a1 ∧ a1 < 40) (some (M3 396 a1, M3)))
  else (if a2 = 6 then (ok (0 ≤ a1 ∧ a1 < 40) (if (M3 397 a1) = 0 then (some (0, M3))
  else (some (1, M3))))
  else (if a2 = 7 then (ok (0 ≤ a1 ∧ a1 < 40) (some (M3 400 a1, M3)))
  else (if a2 = 8 then (cl (f_X12_isRight M3 a1) (fun r36 M37 =>
  if r36 = 0 then (some (0, M37))
  else (some (1, M37))))
  else (if a2 = 9 then (ok (0 ≤ a1 ∧ a1 < 40) (cl (f_X12_lightAt M3 (M3 393 a1) (M3 394 a1)) (fun r43 M44 =>
  some (r43, M44))))
  else (if a2 = 10 then (ok (0 ≤ a1 ∧ a1 < 40) (if (M3 398 a1) = 0 then (some (0, M3))
  else (some (1, M3))))
  else (if a2 = 11 then (ok (0 ≤ a1 ∧ a1 < 40) (some (M3 399 a1, M3)))
  else (some ((-1), M3))))))))))))))))
def f_X12_isGone (M : Mem) (a1 : Int) : Res :=
  ok (0 ≤ a1 ∧ a1 < 40) (ok (0 ≤ M 393 a1 ∧ M 393 a1 < 96) (if (M 388 (M 393 a1)) = 0 then (if (M 393 a1) = (M 375 1) then (some (0, M))
  else (some (1, M)))
  else (some (0, M))))
def f_X12_isWhere (M : Mem) (a1 a2 : Int) : Res :=
  if a2 = 0 then (some (1, M))
  else (if a2 = 1 then (ok (0 ≤ a1 ∧ a1 < 40) (ok (M 397 a1 = 0 ∨ M 397 a1 = 1) (some (M 397 a1, M))))
  else (if a2 = 2 then (ok (0 ≤ a1 ∧ a1 < 40) (if (M 397 a1) = 0 then (some (1, M))
  else (some (0, M))))
  else (if a2 = 3 then (cl (f_X12_isGone M a1) (fun r14 M15 =>
  ok (r14 = 0 ∨ r14 = 1) (some (r14, M15))))
  else (if a2 = 4 then (ok (0 ≤ a1 ∧ a1 < 40) (if (M 393 a1) = (M 375 1) then (some (1, M))
  else (some (0, M))))
  else (if a2 = 5 then (ok (0 ≤ a1 ∧ a1 < 40) (if (M 394 a1) = 0 then (some (1, M))
  else (some (0, M))))
  else (if a2 = 6 then (ok (0 ≤ a1 ∧ a1 < 40) (cl (f_X12_isIsland M (M 393 a1)) (fun r30 M31 =>
  ok (r30 = 0 ∨ r30 = 1) (some (r30, M31)))))
  else (if a2 = 7 then (ok (0 ≤ a1 ∧ a1 < 40) (if (M 400 a1) < 5 then (some (0, M))
  else (some (1, M))))
  else (if a2 = 8 then (ok (0 ≤ a1 ∧ a1 < 40) (ok (M 398 a1 = 0 ∨ M 398 a1 = 1) (some (M 398 a1, M))))
  else (cl (f_X12_isLed M a1) (fun r42 M43 =>
  ok (r42 = 0 ∨ r42 = 1) (some (r42, M43))))))))))))
def f_X12_isOf (M : Mem) (a1 a2 : Int) : Res :=
  if a2 = (-1) then (some (1, M))
  else (ok (0 ≤ a1 ∧ a1 < 40) (if (M 392 a1) = a2 then (some (1, M))
  else (some (0, M))))
def b_X12_count_33 (a1 a2 a3 : Int) (w33 : Mem → Int → Int → Res) (M : Mem) (x4 x5 : Int) : Res :=
  if (M 337 79) ≤ x5 then (some (x4, M))
  else (cl (f_X12_isOf M x5 a1) (fun r9 M10 =>
  if r9 = 0 then (ok (in32 (x5 + 1)) (bi (x5 + 1) (fun y14 =>
  w33 M10 x4 y14)))
  else (cl (f_X12_isWhere M10 x5 a2) (fun r15 M16 =>
  if r15 = 0 then (ok (in32 (x5 + 1)) (bi (x5 + 1) (fun y20 =>
  w33 M16 x4 y20)))
  else (if a3 = 0 then (ok (in32 (x4 + 1)) (bi (x4 + 1) (fun y24 =>
  ok (in32 (x5 + 1)) (bi (x5 + 1) (fun y26 =>
  w33 M16 y24 y26)))))
  else (cl (f_X12_isRight M16 x5) (fun r27 M28 =>
  if r27 = 0 then (ok (in32 (x5 + 1)) (bi (x5 + 1) (fun y32 =>
  w33 M28 x4 y32)))
  else (ok (in32 (x4 + 1)) (bi (x4 + 1) (fun y34 =>
  ok (in32 (x5 + 1)) (bi (x5 + 1) (fun y36 =>
  w33 M28 y34 y36))))))))))))
def j_X12_count_13 (a1 a2 a3 : Int) (M : Mem) : Res :=
  cl (f_X12_isIn M a2 0 9) (fun r3 M4 =>
  if r3 = 0 then (some ((-1), M4))
  else (wl2 (b_X12_count_33 a1 a2 a3) FU M4 0 0))
def f_X12_count (M : Mem) (a1 a2 a3 : Int) : Res :=
  if a1 = (-1) then (j_X12_count_13 a1 a2 a3 M)
  else (cl (f_X12_isThing M a1) (fun r37 M38 =>
  if r37 = 0 then (some ((-1), M38))
  else (j_X12_count_13 a1 a2 a3 M38)))
def b_X12_chanceOf_177 (w177 : Mem → Int → Int → Res) (M : Mem) (x4 x6 : Int) : Res :=
  if 42 ≤ x6 then (some (x4, M))
  else (ok (0 ≤ x6 ∧ x6 < 42) (ok (in64 (x4 + (M 401 x6))) (bi (x4 + (M 401 x6)) (fun y10 =>
  bi (x6 + 1) (fun y11 =>
  w177 M y10 y11)))))
def b_X12_chanceOf_113 (a1 a2 : Int) (w35 : Mem → Int → Int → Res) (w113 : Mem → Int → Int → Int → Int → Res) (M : Mem) (x3 x4 x5 x7 : Int) : Res :=
  if x7 < 0 then (ok (in32 (x4 + 1)) (bi (x4 + 1) (fun y31 =>
  w35 M x3 y31)))
  else (ok (0 ≤ x7 ∧ x7 < 42) (ok (in64 (x5 - 1)) (ok (in64 ((M 401 x7) * (x5 - 1))) (if x7 ≤ 0 then (ok (in64 (((M 401 x7) * (x5 - 1)) + 0)) (ok (0 ≤ ((M 401 x7) * (x5 - 1)) + 0 ∧ 0 < x5) (bm (st M 401 x7 ((((M 401 x7) * (x5 - 1)) + 0) / x5)) (fun M39 =>
  bi (x7 + (-1)) (fun y40 =>
  w113 M39 x3 x4 x5 y40)))))
  else (ok (0 ≤ x7 - 1 ∧ x7 - 1 < 42) (ok (in64 (((M 401 x7) * (x5 - 1)) + (M 401 (x7 - 1)))) (ok (0 ≤ ((M 401 x7) * (x5 - 1)) + (M 401 (x7 - 1)) ∧ 0 < x5) (bm (st M 401 x7 ((((M 401 x7) * (x5 - 1)) + (M 401 (x7 - 1))) / x5)) (fun M44 =>
  bi (x7 + (-1)) (fun y45 =>
  w113 M44 x3 x4 x5 y45))))))))))
def j_X12_chanceOf_92 (a1 a2 : Int) (w35 : Mem → Int → Int → Res) (M : Mem) (x3 x4 : Int) : Res :=
  ok (0 ≤ x4 ∧ x4 < 40) (ok (in32 (5 + (M 392 x4))) (ok (0 ≤ 5 + (M 392 x4) ∧ 5 + (M 392 x4) < 10) (bi (M 374 (5 + (M 392 x4))) (fun y27 =>
  wl4 (b_X12_chanceOf_113 a1 a2 w35) FU M x3 x4 y27 41))))
def j_X12_chanceOf_80 (a1 a2 : Int) (w35 : Mem → Int → Int → Res) (M : Mem) (x3 x4 : Int) : Res :=
  cl (f_X12_isRight M x4) (fun r20 M21 =>
  if r20 = 0 then (j_X12_chanceOf_92 a1 a2 w35 M21 x3 x4)
  else (ok (in32 (x3 + 1)) (bi (x3 + 1) (fun y47 =>
  j_X12_chanceOf_92 a1 a2 w35 M21 y47 x4))))
def b_X12_chanceOf_35 (a1 a2 : Int) (w35 : Mem → Int → Int → Res) (M : Mem) (x3 x4 : Int) : Res :=
  if (M 337 79) ≤ x4 then (wl2 (b_X12_chanceOf_177) FU M 0 x3)
  else (cl (f_X12_isOf M x4 a1) (fun r12 M13 =>
  if r12 = 0 then (ok (in32 (x4 + 1)) (bi (x4 + 1) (fun y17 =>
  w35 M13 x3 y17)))
  else (if a2 = 0 then (j_X12_chanceOf_80 a1 a2 w35 M13 x3 x4)
  else (ok (0 ≤ x4 ∧ x4 < 40) (if (M13 398 x4) = 0 then (cl (f_X12_isLed M13 x4) (fun r51 M52 =>
  if r51 = 0 then (j_X12_chanceOf_80 a1 a2 w35 M52 x3 x4)
  else (bi (x4 + 1) (fun y55 =>
  w35 M52 x3 y55))))
  else (bi (x4 + 1) (fun y56 =>
  w35 M13 x3 y56)))))))
def b_X12_chanceOf_2 (a1 a2 : Int) (w2 : Mem → Int → Res) (M : Mem) (x3 : Int) : Res :=
  if 42 ≤ x3 then (bm (st M 401 0 1000000000000) (fun M3 =>
  wl2 (b_X12_chanceOf_35 a1 a2) FU M3 0 0))
  else (ok (0 ≤ x3 ∧ x3 < 42) (bm (st M 401 x3 0) (fun M58 =>
  bi (x3 + 1) (fun y59 =>
  w2 M58 y59))))
def f_X12_chanceOf (M : Mem) (a1 a2 : Int) : Res :=
  wl1 (b_X12_chanceOf_2 a1 a2) FU M 0
def j_X12_chance_19 (a1 : Int) (M : Mem) : Res :=
  cl (f_X12_chanceOf M a1 0) (fun r3 M4 =>
  some (r3, M4))
def f_X12_chance (M : Mem) (a1 : Int) : Res :=
  if a1 = (-1) then (j_X12_chance_19 a1 M)
  else (cl (f_X12_isThing M a1) (fun r5 M6 =>
  if r5 = 0 then (some ((-1), M6))
  else (j_X12_chance_19 a1 M6)))
def j_X12_honest_19 (a1 : Int) (M : Mem) : Res :=
  cl (f_X12_chanceOf M a1 1) (fun r3 M4 =>
  some (r3, M4))
def f_X12_honest (M : Mem) (a1 : Int) : Res :=
  if a1 = (-1) then (j_X12_honest_19 a1 M)
  else (cl (f_X12_isThing M a1) (fun r5 M6 =>
  if r5 = 0 then (some ((-1), M6))
  else (j_X12_honest_19 a1 M6)))
def b_X12_needed_18 (a1 a2 : Int) (w18 : Mem → Int → Int → Res) (M : Mem) (x4 x6 : Int) : Res :=
  if 60 < x6 then (some ((-1), M))
  else (ok (in32 (5 + a1)) (ok (0 ≤ 5 + a1 ∧ 5 + a1 < 10) (ok (0 ≤ x4 ∧ 0 < M 374 (5 + a1)) (bi (x4 / (M 374 (5 + a1))) (fun y10 =>
  if a2 < y10 then (ok (in32 (x6 + 1)) (bi (x6 + 1) (fun y14 =>
  w18 M y10 y14)))
  else (some (x6, M)))))))
def f_X12_needed (M : Mem) (a1 a2 : Int) : Res :=
  cl (f_X12_isThing M a1) (fun r1 M2 =>
  if r1 = 0 then (some ((-1), M2))
  else (wl2 (b_X12_needed_18 a1 a2) FU M2 1000000000000 1))
def f_X12_guessedAbove (M : Mem) (a1 a2 : Int) : Res :=
  cl (f_X12_showsTrial M a2) (fun r1 M2 =>
  cl (f_X12_carried M2 a1 0) (fun r3 M4 =>
  ok (0 ≤ a2 ∧ a2 < 40) (ok (in32 (5 + (M4 392 a2))) (ok (0 ≤ 5 + (M4 392 a2) ∧ 5 + (M4 392 a2) < 10) (cl (f_X12_isRight M4 a2) (fun r8 M9 =>
  cl (f_X12_above M9 r3 (M4 374 (5 + (M4 392 a2))) r8) (fun r10 M11 =>
  some (r10, M11))))))))
def b_X12_weightOf_7 (a1 : Int) (w7 : Mem → Int → Int → Res) (M : Mem) (x2 x4 : Int) : Res :=
  if (M 337 79) ≤ x4 then (some (x2, M))
  else (cl (f_X12_guessedAbove M a1 x4) (fun r3 M4 =>
  ok (in64 (x2 * r3)) (ok (0 ≤ x4 ∧ x4 < 40) (ok (in32 (5 + (M4 392 x4))) (ok (0 ≤ 5 + (M4 392 x4) ∧ 5 + (M4 392 x4) < 10) (ok (in64 (100 * (M4 374 (5 + (M4 392 x4))))) (ok (0 ≤ x2 * r3 ∧ 0 < 100 * (M4 374 (5 + (M4 392 x4)))) (bi ((x2 * r3) / (100 * (M4 374 (5 + (M4 392 x4))))) (fun y11 =>
  bi (x4 + 1) (fun y12 =>
  w7 M4 y11 y12))))))))))
def f_X12_weightOf (M : Mem) (a1 : Int) : Res :=
  wl2 (b_X12_weightOf_7 a1) FU M 1000000000000 0
def f_X12_weight (M : Mem) (a1 : Int) : Res :=
  cl (f_X12_isLaw M a1) (fun r1 M2 =>
  if r1 = 0 then (some ((-1), M2))
  else (cl (f_X12_weightOf M2 a1) (fun r5 M6 =>
  some (r5, M6))))
def b_X12_thrown_2 (a1 : Int) (w2 : Mem → Int → Res) (M : Mem) (x2 : Int) : Res :=
  if (M 337 79) ≤ x2 then (some ((-1), M))
  else (cl (f_X12_isLaw M a1) (fun r3 M4 =>
  if r3 = 0 then (some ((-1), M4))
  else (cl (f_X12_guessedAbove M4 a1 x2) (fun r7 M8 =>
  if r7 = 0 then (some (x2, M8))
  else (ok (in32 (x2 + 1)) (bi (x2 + 1) (fun y12 =>
  w2 M8 y12)))))))
def f_X12_thrown (M : Mem) (a1 : Int) : Res :=
  wl1 (b_X12_thrown_2 a1) FU M 0
def j_X12_likely_37 (w9 : Mem → Int → Int → Int → Res) (M : Mem) (x1 x2 x4 s0 : Int) : Res :=
  if x2 < s0 then (ok (in32 (x4 + 1)) (bi (x4 + 1) (fun y9 =>
  w9 M x4 s0 y9)))
  else (ok (in32 (x4 + 1)) (bi (x4 + 1) (fun y11 =>
  w9 M x1 x2 y11)))
def b_X12_likely_9 (w9 : Mem → Int → Int → Int → Res) (M : Mem) (x1 x2 x4 : Int) : Res :=
  if 3 ≤ x4 then (some (x1, M))
  else (ok (0 ≤ x4 ∧ x4 < 3) (if (M 386 x4) = 0 then (j_X12_likely_37 w9 M x1 x2 x4 (-1))
  else (cl (f_X12_weightOf M x4) (fun r12 M13 =>
  j_X12_likely_37 w9 M13 x1 x2 x4 r12))))
def f_X12_likely (M : Mem) : Res :=
  wl3 (b_X12_likely_9) FU M (-1) (-1) 0
def b_X12_lies_14 (a1 : Int) (w14 : Mem → Int → Int → Res) (M : Mem) (x2 x3 : Int) : Res :=
  if (M 337 79) ≤ x3 then (some (x2, M))
  else (cl (f_X12_showsTrial M x3) (fun r7 M8 =>
  cl (f_X12_isSaid M8 a1) (fun r9 M10 =>
  ok (0 ≤ x3 ∧ x3 < 40) (if r9 = (M10 397 x3) then (bi (x3 + 1) (fun y14 =>
  w14 M10 x2 y14))
  else (ok (in32 (x2 + 1)) (bi (x2 + 1) (fun y16 =>
  bi (x3 + 1) (fun y17 =>
  w14 M10 y16 y17))))))))
def f_X12_lies (M : Mem) (a1 : Int) : Res :=
  cl (f_X12_isLaw M a1) (fun r1 M2 =>
  if r1 = 0 then (some ((-1), M2))
  else (wl2 (b_X12_lies_14 a1) FU M2 0 0))
def j_X12_span_63 (a1 a2 : Int) (w19 : Mem → Int → Int → Int → Res) (M : Mem) (x3 x4 x5 x6 : Int) : Res :=
  ok (0 ≤ x5 ∧ x5 < 40) (if (M 397 x5) = 0 then (ok (in32 (x6 + 1)) (if (x6 + 1) ≤ x3 then (bi (x5 + 1) (fun y24 =>
  w19 M x3 x4 y24))
  else (bi (x6 + 1) (fun y25 =>
  bi (x5 + 1) (fun y26 =>
  w19 M y25 x4 y26)))))
  else (bi (x5 + 1) (fun y27 =>
  w19 M x3 x4 y27)))
def b_X12_span_19 (a1 a2 : Int) (w19 : Mem → Int → Int → Int → Res) (M : Mem) (x3 x4 x5 : Int) : Res :=
  if (M 337 79) ≤ x5 then (if x3 ≤ x4 then (if a2 = 0 then (some (x3, M))
  else (some (x4, M)))
  else (some ((-1), M)))
  else (cl (f_X12_showsTrial M x5) (fun r11 M12 =>
  cl (f_X12_carried M12 a1 1) (fun r13 M14 =>
  ok (0 ≤ x5 ∧ x5 < 40) (if (M14 397 x5) = 0 then (j_X12_span_63 a1 a2 w19 M14 x3 x4 x5 r13)
  else (if x4 ≤ r13 then (j_X12_span_63 a1 a2 w19 M14 x3 x4 x5 r13)
  else (j_X12_span_63 a1 a2 w19 M14 x3 r13 x5 r13))))))
def f_X12_span (M : Mem) (a1 a2 : Int) : Res :=
  cl (f_X12_isLaw M a1) (fun r1 M2 =>
  if r1 = 0 then (some ((-1), M2))
  else (wl3 (b_X12_span_19 a1 a2) FU M2 0 101 0))
def j_X12_bound_47 (w4 : Mem → Int → Int → Res) (M : Mem) (x1 x2 s0 : Int) : Res :=
  if s0 ≤ x1 then (ok (in32 (x2 + 1)) (bi (x2 + 1) (fun y11 =>
  w4 M x1 y11)))
  else (ok (in32 (x2 + 1)) (bi (x2 + 1) (fun y13 =>
  w4 M s0 y13)))
def b_X12_bound_4 (w4 : Mem → Int → Int → Res) (M : Mem) (x1 x2 : Int) : Res :=
  if (M 337 79) ≤ x2 then (some (x1, M))
  else (ok (0 ≤ x2 ∧ x2 < 40) (if (M 393 x2) = (M 375 1) then (cl (f_X12_lightAt M (M 393 x2) (M 394 x2)) (fun r6 M7 =>
  j_X12_bound_47 w4 M7 x1 x2 r6))
  else (j_X12_bound_47 w4 M x1 x2 0)))
def f_X12_bound (M : Mem) : Res :=
  wl2 (b_X12_bound_4) FU M 0 0
def b_X12_left_9 (w9 : Mem → Int → Int → Int → Res) (M : Mem) (x1 x2 x3 : Int) : Res :=
  if (M 337 79) ≤ x3 then (some (x2, M))
  else (cl (f_X12_isGone M x3) (fun r5 M6 =>
  if r5 = 0 then (ok (in32 (x3 + 1)) (bi (x3 + 1) (fun y10 =>
  w9 M6 x1 x2 y10)))
  else (cl (f_X12_isRight M6 x3) (fun r11 M12 =>
  if r11 = 0 then (ok (in32 (x3 + 1)) (bi (x3 + 1) (fun y16 =>
  w9 M12 x1 x2 y16)))
  else (ok (0 ≤ x3 ∧ x3 < 40) (cl (f_X12_lightAt M12 (M12 393 x3) (M12 394 x3)) (fun r18 M19 =>
  if x1 < r18 then (bi (x3 + 1) (fun y22 =>
  w9 M19 x1 x2 y22))
  else (ok (in32 (x2 + 1)) (bi (x2 + 1) (fun y24 =>
  bi (x3 + 1) (fun y25 =>
  w9 M19 x1 y24 y25)))))))))))
def f_X12_left (M : Mem) : Res :=
  cl (f_X12_bound M) (fun r1 M2 =>
  wl3 (b_X12_left_9) FU M2 r1 0 0)
def b_X12_isEnough_5 (a1 a2 : Int) (w5 : Mem → Int → Int → Res) (M : Mem) (x3 x4 : Int) : Res :=
  if a2 ≤ x4 then (ok (x3 = 0 ∨ x3 = 1) (some (x3, M)))
  else (if x3 = 0 then (ok (in32 (x4 + 1)) (bi (x4 + 1) (fun y7 =>
  w5 M 0 y7)))
  else (ok (0 ≤ x4 ∧ x4 < 40) (if (iand (M 402 x4) a1) = 0 then (bi (x4 + 1) (fun y11 =>
  w5 M 0 y11))
  else (bi (x4 + 1) (fun y12 =>
  w5 M 1 y12)))))
def f_X12_isEnough (M : Mem) (a1 a2 : Int) : Res :=
  wl2 (b_X12_isEnough_5 a1 a2) FU M 1 0
def b_X12_many_4 (w4 : Mem → Int → Int → Res) (M : Mem) (x1 x2 : Int) : Res :=
  if x2 ≤ 0 then (some (x1, M))
  else (ok (in32 (x1 + (iand x2 1))) (bi (x1 + (iand x2 1)) (fun y4 =>
  bi (ishr x2 1) (fun y5 =>
  w4 M y4 y5))))
def f_X12_many (M : Mem) (a0 : Int) : Res :=
  wl2 (b_X12_many_4) FU M 0 a0
def b_X12_fewest_119 (a1 a2 : Int) (w119 : Mem → Int → Int → Int → Res) (M : Mem) (x3 x4 x5 : Int) : Res :=
  ok (in32 (2 + a1)) (ok (0 ≤ 2 + a1 ∧ 2 + a1 < 5) (if (ishl 1 (M 366 (2 + a1))) ≤ x5 then (if x4 = (-1) then (some (x4, M))
  else (if a2 = 0 then (cl (f_X12_many M x4) (fun r15 M16 =>
  some (r15, M16)))
  else (some (x4, M))))
  else (cl (f_X12_isEnough M x5 x3) (fun r17 M18 =>
  if r17 = 0 then (ok (in32 (x5 + 1)) (bi (x5 + 1) (fun y22 =>
  w119 M18 x3 x4 y22)))
  else (if x4 = (-1) then (ok (in32 (x5 + 1)) (bi (x5 + 1) (fun y26 =>
  w119 M18 x3 x5 y26)))
  else (cl (f_X12_many M18 x5) (fun r27 M28 =>
  cl (f_X12_many M28 x4) (fun r29 M30 =>
  if r29 ≤ r27 then (ok (in32 (x5 + 1)) (bi (x5 + 1) (fun y34 =>
  w119 M30 x3 x4 y34)))
  else (ok (in32 (x5 + 1)) (bi (x5 + 1) (fun y36 =>
  w119 M30 x3 x5 y36)))))))))))
def b_X12_fewest_62 (a1 a2 : Int) (w15 : Mem → Int → Int → Res) (w62 : Mem → Int → Int → Int → Res) (M : Mem) (x3 x4 x5 : Int) : Res :=
  ok (in32 (2 + a1)) (ok (0 ≤ 2 + a1 ∧ 2 + a1 < 5) (if (M 366 (2 + a1)) ≤ x5 then (ok (in32 (x3 + 1)) (bi (x3 + 1) (fun y56 =>
  ok (in32 (x4 + 1)) (bi (x4 + 1) (fun y58 =>
  w15 M y56 y58)))))
  else (cl (f_X12_carriedBy M a1 x5) (fun r59 M60 =>
  if r59 ≤ 0 then (ok (in32 (x5 + 1)) (bi (x5 + 1) (fun y64 =>
  w62 M60 x3 x4 y64)))
  else (ok (0 ≤ x3 ∧ x3 < 40) (bm (st M60 402 x3 (ior (M60 402 x3) (ishl 1 x5))) (fun M66 =>
  ok (in32 (x5 + 1)) (bi (x5 + 1) (fun y68 =>
  w62 M66 x3 x4 y68)))))))))
def b_X12_fewest_15 (a1 a2 : Int) (w15 : Mem → Int → Int → Res) (M : Mem) (x3 x4 : Int) : Res :=
  if (M 337 79) ≤ x4 then (wl3 (b_X12_fewest_119 a1 a2) FU M x3 (-1) 0)
  else (cl (f_X12_isRight M x4) (fun r37 M38 =>
  if r37 = 0 then (ok (in32 (x4 + 1)) (bi (x4 + 1) (fun y42 =>
  w15 M38 x3 y42)))
  else (ok (0 ≤ x4 ∧ x4 < 40) (if (M38 394 x4) = 0 then (bi (x4 + 1) (fun y46 =>
  w15 M38 x3 y46))
  else (cl (f_X12_showsTrial M38 x4) (fun r47 M48 =>
  ok (0 ≤ x3 ∧ x3 < 40) (bm (st M48 402 x3 0) (fun M50 =>
  wl3 (b_X12_fewest_62 a1 a2 w15) FU M50 x3 x4 0))))))))
def f_X12_fewest (M : Mem) (a1 a2 : Int) : Res :=
  cl (f_X12_isLaw M a1) (fun r1 M2 =>
  if r1 = 0 then (some ((-1), M2))
  else (wl2 (b_X12_fewest_15 a1 a2) FU M2 0 0))
def f_X12_partedAt (M : Mem) (a1 a2 a3 a4 a5 : Int) : Res :=
  cl (f_X12_shows M a3 a4 a5) (fun r1 M2 =>
  cl (f_X12_carried M2 a1 0) (fun r3 M4 =>
  cl (f_X12_carried M4 a2 0) (fun r5 M6 =>
  ok (in32 (r3 - r5)) (bi (r3 - r5) (fun y8 =>
  ok (in32 (5 + a3)) (ok (0 ≤ 5 + a3 ∧ 5 + a3 < 10) (bi (M6 374 (5 + a3)) (fun y11 =>
  if 0 ≤ y8 then (ok (in32 (y11 - 1)) (ok (in32 (y8 * (y11 - 1))) (ok (in32 ((y8 * (y11 - 1)) * 10000)) (ok (0 ≤ (y8 * (y11 - 1)) * 10000 ∧ 0 < y11) (some (((y8 * (y11 - 1)) * 10000) / y11, M6))))))
  else (ok (in32 (-y8)) (ok (in32 (y11 - 1)) (ok (in32 ((-y8) * (y11 - 1))) (ok (in32 (((-y8) * (y11 - 1)) * 10000)) (ok (0 ≤ ((-y8) * (y11 - 1)) * 10000 ∧ 0 < y11) (some ((((-y8) * (y11 - 1)) * 10000) / y11, M6)))))))))))))))
def j_X12_whole_135 (a1 a2 a6 a7 a8 : Int) (w89 : Mem → Int → Int → Int → Int → Int → Res) (M : Mem) (x9 x10 x11 x12 x13 s0 : Int) : Res :=
  if s0 < x12 then (ok (in32 (x13 + 1)) (bi (x13 + 1) (fun y53 =>
  w89 M x9 x10 x13 s0 y53)))
  else (ok (in32 (x13 + 1)) (bi (x13 + 1) (fun y55 =>
  w89 M x9 x10 x11 x12 y55)))
def b_X12_whole_89 (a1 a2 a6 a7 a8 : Int) (w89 : Mem → Int → Int → Int → Int → Int → Res) (M : Mem) (x9 x10 x11 x12 x13 : Int) : Res :=
  if 100 ≤ x13 then (ok (in32 (12 * a7)) (ok (in32 ((12 * a7) + a6)) (cl (f_X12_shows M a2 ((12 * a7) + a6) x11) (fun r29 M30 =>
  if a8 = 0 then (some (x11, M30))
  else (if a8 = 1 then (cl (f_X12_carried M30 a1 0) (fun r35 M36 =>
  some (r35, M36)))
  else (cl (f_X12_carried M30 a1 1) (fun r37 M38 =>
  ok (in32 (r37 - x10)) (some (r37 - x10, M38)))))))))
  else (ok (in32 (12 * a7)) (ok (in32 ((12 * a7) + a6)) (cl (f_X12_shows M a2 ((12 * a7) + a6) x13) (fun r42 M43 =>
  cl (f_X12_carried M43 a1 0) (fun r44 M45 =>
  ok (in32 (r44 - x9)) (bi (r44 - x9) (fun y47 =>
  if 0 ≤ y47 then (j_X12_whole_135 a1 a2 a6 a7 a8 w89 M45 x9 x10 x11 x12 x13 y47)
  else (ok (in32 (-y47)) (j_X12_whole_135 a1 a2 a6 a7 a8 w89 M45 x9 x10 x11 x12 x13 (-y47))))))))))
def f_X12_whole (M : Mem) (a1 a2 a3 a4 a5 a6 a7 a8 : Int) : Res :=
  cl (f_X12_isLaw M a1) (fun r1 M2 =>
  if r1 = 0 then (some ((-1000), M2))
  else (cl (f_X12_isShowing M2 a2 a3 a4 a5) (fun r5 M6 =>
  if r5 = 0 then (some ((-1000), M6))
  else (cl (f_X12_isSquare M6 a6 a7) (fun r9 M10 =>
  if r9 = 0 then (some ((-1000), M10))
  else (cl (f_X12_isIn M10 a8 0 2) (fun r13 M14 =>
  if r13 = 0 then (some ((-1000), M14))
  else (ok (in32 (12 * a4)) (ok (in32 ((12 * a4) + a3)) (cl (f_X12_shows M14 a2 ((12 * a4) + a3) a5) (fun r19 M20 =>
  cl (f_X12_carried M20 a1 0) (fun r21 M22 =>
  cl (f_X12_carried M22 a1 1) (fun r23 M24 =>
  wl5 (b_X12_whole_89 a1 a2 a6 a7 a8) FU M24 r21 r23 0 1000 1)))))))))))))
def f_X12_parted (M : Mem) (a1 a2 a3 a4 a5 a6 : Int) : Res :=
  cl (f_X12_isLaw M a1) (fun r1 M2 =>
  if r1 = 0 then (some ((-1), M2))
  else (cl (f_X12_isLaw M2 a2) (fun r5 M6 =>
  if r5 = 0 then (some ((-1), M6))
  else (cl (f_X12_isShowing M6 a3 a4 a5 a6) (fun r9 M10 =>
  if r9 = 0 then (some ((-1), M10))
  else (ok (in32 (12 * a5)) (ok (in32 ((12 * a5) + a4)) (cl (f_X12_partedAt M10 a1 a2 a3 ((12 * a5) + a4) a6) (fun r15 M16 =>
  some (r15, M16))))))))))
def b_X12_next_61 (a1 a2 a3 a4 : Int) (w61 : Mem → Int → Int → Int → Res) (M : Mem) (x5 x6 x7 : Int) : Res :=
  ok (in32 ((M 372 1) * 96)) (if ((M 372 1) * 96) ≤ x7 then (ok (0 ≤ x5) (bi (x5 % 96) (fun y23 =>
  if a4 = 0 then (some (x5 / 96, M))
  else (if a4 = 1 then (ok (0 ≤ y23) (some (y23 % 12, M)))
  else (if a4 = 2 then (ok (0 ≤ y23) (some (y23 / 12, M)))
  else (some (x6, M)))))))
  else (ok (0 ≤ x7) (cl (f_X12_partedAt M a1 a2 (x7 / 96) (x7 % 96) a3) (fun r33 M34 =>
  if x6 < r33 then (ok (in32 (x7 + 1)) (bi (x7 + 1) (fun y38 =>
  w61 M34 x7 r33 y38)))
  else (ok (in32 (x7 + 1)) (bi (x7 + 1) (fun y40 =>
  w61 M34 x5 x6 y40)))))))
def f_X12_next (M : Mem) (a1 a2 a3 a4 : Int) : Res :=
  cl (f_X12_isLaw M a1) (fun r1 M2 =>
  if r1 = 0 then (some ((-1), M2))
  else (cl (f_X12_isLaw M2 a2) (fun r5 M6 =>
  if r5 = 0 then (some ((-1), M6))
  else (cl (f_X12_isIn M6 a3 0 99) (fun r9 M10 =>
  if r9 = 0 then (some ((-1), M10))
  else (cl (f_X12_isIn M10 a4 0 3) (fun r13 M14 =>
  if r13 = 0 then (some ((-1), M14))
  else (if (M14 372 1) = 0 then (some ((-1), M14))
  else (wl3 (b_X12_next_61 a1 a2 a3 a4) FU M14 0 (-1) 0)))))))))
def f_X12_chair (M : Mem) (a1 a2 a3 : Int) : Res :=
  cl (f_X12_isSquare M a1 a2) (fun r1 M2 =>
  if r1 = 0 then (some ((-1), M2))
  else (ok (in32 (12 * a2)) (ok (in32 ((12 * a2) + a1)) (ok (0 ≤ (12 * a2) + a1 ∧ (12 * a2) + a1 < 96) (if (M2 403 ((12 * a2) + a1)) = a3 then (some ((-1), M2))
  else (ok (a3 = 0 ∨ a3 = 1) (bm (st M2 403 ((12 * a2) + a1) a3) (fun M11 =>
  cl (f_X12_has M11 3) (fun r12 M13 =>
  some (r12, M13))))))))))
def b_X12_walked_231 (w231 : Mem → Int → Int → Res) (M : Mem) (x3 x5 : Int) : Res :=
  if 8 ≤ x5 then (some (x3, M))
  else (ok (0 ≤ x5 ∧ x5 < 8) (ok (in64 (x3 + (M 404 x5))) (bi (x3 + (M 404 x5)) (fun y9 =>
  bi (x5 + 1) (fun y10 =>
  w231 M y9 y10)))))
def b_X12_walked_193 (a2 : Int) (w44 : Mem → Int → Res) (w193 : Mem → Int → Int → Res) (M : Mem) (x3 x4 : Int) : Res :=
  if 8 ≤ x4 then (ok (in32 (x3 + 1)) (bi (x3 + 1) (fun y18 =>
  w44 M y18)))
  else (ok (0 ≤ x4 ∧ x4 < 8) (bm (st M 404 x4 (M 405 x4)) (fun M20 =>
  bi (x4 + 1) (fun y21 =>
  w193 M20 x3 y21))))
def b_X12_walked_129 (a2 : Int) (w44 : Mem → Int → Res) (w77 : Mem → Int → Int → Res) (w129 : Mem → Int → Int → Int → Int → Res) (M : Mem) (x3 x4 x5 x7 : Int) : Res :=
  ok (in32 (x4 + 1)) (if (x4 + 1) < x7 then (bi (x4 + 1) (fun y31 =>
  w77 M x3 y31))
  else (cl (f_X12_isIn M x7 0 7) (fun r32 M33 =>
  if r32 = 0 then (ok (in32 (x7 + 1)) (bi (x7 + 1) (fun y37 =>
  w129 M33 x3 x4 x5 y37)))
  else (ok (in32 (12 * x7)) (ok (in32 ((12 * x7) + x3)) (ok (0 ≤ (12 * x7) + x3 ∧ (12 * x7) + x3 < 96) (if (M33 403 ((12 * x7) + x3)) = 0 then (ok (0 ≤ x7 ∧ x7 < 8) (ok (in64 ((M33 405 x7) + x5)) (bm (st M33 405 x7 ((M33 405 x7) + x5)) (fun M45 =>
  bi (x7 + 1) (fun y46 =>
  w129 M45 x3 x4 x5 y46)))))
  else (ok (in32 (x7 + 1)) (bi (x7 + 1) (fun y48 =>
  w129 M33 x3 x4 x5 y48))))))))))
def b_X12_walked_77 (a2 : Int) (w44 : Mem → Int → Res) (w77 : Mem → Int → Int → Res) (M : Mem) (x3 x4 : Int) : Res :=
  if 8 ≤ x4 then (wl2 (b_X12_walked_193 a2 w44) FU M x3 0)
  else (ok (0 ≤ x4 ∧ x4 < 8) (if a2 = 0 then (ok (in64 ((M 404 x4) * 1)) (bi ((M 404 x4) * 1) (fun y26 =>
  bi (x4 - 1) (fun y27 =>
  wl4 (b_X12_walked_129 a2 w44 w77) FU M x3 x4 y26 y27))))
  else (if x4 = 0 then (ok (in64 ((M 404 x4) * 3)) (bi ((M 404 x4) * 3) (fun y52 =>
  bi (x4 - 1) (fun y53 =>
  wl4 (b_X12_walked_129 a2 w44 w77) FU M x3 x4 y52 y53))))
  else (if x4 = 7 then (ok (in64 ((M 404 x4) * 3)) (bi ((M 404 x4) * 3) (fun y57 =>
  bi (x4 - 1) (fun y58 =>
  wl4 (b_X12_walked_129 a2 w44 w77) FU M x3 x4 y57 y58))))
  else (ok (in64 ((M 404 x4) * 2)) (bi ((M 404 x4) * 2) (fun y60 =>
  bi (x4 - 1) (fun y61 =>
  wl4 (b_X12_walked_129 a2 w44 w77) FU M x3 x4 y60 y61))))))))
def b_X12_walked_53 (a2 : Int) (w44 : Mem → Int → Res) (w53 : Mem → Int → Int → Res) (M : Mem) (x3 x4 : Int) : Res :=
  if 8 ≤ x4 then (wl2 (b_X12_walked_77 a2 w44) FU M x3 0)
  else (ok (0 ≤ x4 ∧ x4 < 8) (bm (st M 405 x4 0) (fun M63 =>
  bi (x4 + 1) (fun y64 =>
  w53 M63 x3 y64))))
def b_X12_walked_44 (a2 : Int) (w44 : Mem → Int → Res) (M : Mem) (x3 : Int) : Res :=
  if 12 ≤ x3 then (wl2 (b_X12_walked_231) FU M 0 0)
  else (wl2 (b_X12_walked_53 a2 w44) FU M x3 0)
def b_X12_walked_2 (a1 a2 : Int) (w2 : Mem → Int → Res) (M : Mem) (x3 : Int) : Res :=
  if 8 ≤ x3 then (wl1 (b_X12_walked_44 a2) FU M 1)
  else (if x3 = a1 then (ok (in32 (12 * x3)) (ok (0 ≤ 12 * x3 ∧ 12 * x3 < 96) (if (M 403 (12 * x3)) = 0 then (ok (0 ≤ x3 ∧ x3 < 8) (bm (st M 404 x3 1) (fun M72 =>
  bi (x3 + 1) (fun y73 =>
  w2 M72 y73))))
  else (ok (0 ≤ x3 ∧ x3 < 8) (bm (st M 404 x3 0) (fun M75 =>
  bi (x3 + 1) (fun y76 =>
  w2 M75 y76)))))))
  else (ok (0 ≤ x3 ∧ x3 < 8) (bm (st M 404 x3 0) (fun M78 =>
  bi (x3 + 1) (fun y79 =>
  w2 M78 y79)))))
def f_X12_walked (M : Mem) (a1 a2 : Int) : Res :=
  wl1 (b_X12_walked_2 a1 a2) FU M 0
def f_X12_walks (M : Mem) (a1 : Int) : Res :=
  cl (f_X12_isIn M a1 0 7) (fun r1 M2 =>
  if r1 = 0 then (some ((-1), M2))
  else (cl (f_X12_walked M2 a1 0) (fun r5 M6 =>
  ok (in32 (r5)) (some (r5, M6)))))
def f_X12_walk (M : Mem) (a1 a2 : Int) : Res :=
  cl (f_X12_isIn M a1 0 7) (fun r1 M2 =>
  if r1 = 0 then (some ((-1), M2))
  else (cl (f_X12_walked M2 a1 1) (fun r5 M6 =>
  cl (f_X12_common M6 r5 362797056) (fun r7 M8 =>
  if a2 = 0 then (ok (0 ≤ 362797056 ∧ 0 < r7) (some (362797056 / r7, M8)))
  else (ok (0 ≤ r5 ∧ 0 < r7) (some (r5 / r7, M8)))))))
def f_X12_writes (M : Mem) (a1 : Int) : Res :=
  ok (0 ≤ M 337 95 ∧ M 337 95 < 330) (bm (st M 406 (M 337 95) a1) (fun M2 =>
  ok (in32 ((M2 337 95) + 1)) (bm (st M2 337 95 ((M2 337 95) + 1)) (fun M4 =>
  some (0, M4)))))
def b_X12_checked_4 (a0 a1 : Int) (w4 : Mem → Int → Int → Res) (M : Mem) (x2 x3 : Int) : Res :=
  if a1 ≤ x3 then (some (x2, M))
  else (ok (in32 (3 * x2)) (ok (0 ≤ x3 ∧ x3 < ln a0) (ok (in32 ((3 * x2) + (M a0 x3))) (ok (0 ≤ (3 * x2) + (M a0 x3)) (bi (((3 * x2) + (M a0 x3)) % 233) (fun y7 =>
  ok (in32 (x3 + 1)) (bi (x3 + 1) (fun y9 =>
  w4 M y7 y9))))))))
def f_X12_checked (M : Mem) (a0 a1 : Int) : Res :=
  wl2 (b_X12_checked_4 a0 a1) FU M 5 0
def j_X12_image_102 (w15 : Mem → Int → Res) (M : Mem) (x1 s0 s1 : Int) : Res :=
  ok (in32 (s1 + s0)) (cl (f_X12_writes M (s1 + s0)) (fun r27 M28 =>
  ok (0 ≤ x1 ∧ x1 < 40) (cl (f_X12_writes M28 (M28 400 x1)) (fun r30 M31 =>
  if (M31 399 x1) = (-1) then (cl (f_X12_writes M31 255) (fun r34 M35 =>
  bi (x1 + 1) (fun y36 =>
  w15 M35 y36)))
  else (cl (f_X12_writes M31 (M31 399 x1)) (fun r37 M38 =>
  bi (x1 + 1) (fun y39 =>
  w15 M38 y39)))))))
def j_X12_image_88 (w15 : Mem → Int → Res) (M : Mem) (x1 s0 : Int) : Res :=
  ok (0 ≤ x1 ∧ x1 < 40) (if (M 398 x1) = 0 then (j_X12_image_102 w15 M x1 0 s0)
  else (j_X12_image_102 w15 M x1 2 s0))
def b_X12_image_15 (w15 : Mem → Int → Res) (M : Mem) (x1 : Int) : Res :=
  if (M 337 79) ≤ x1 then (cl (f_X12_checked M 406 (M 337 95)) (fun r6 M7 =>
  cl (f_X12_writes M7 r6) (fun r8 M9 =>
  some (M9 337 95, M9))))
  else (ok (0 ≤ x1 ∧ x1 < 40) (cl (f_X12_writes M (M 392 x1)) (fun r11 M12 =>
  cl (f_X12_writes M12 (M12 393 x1)) (fun r13 M14 =>
  cl (f_X12_writes M14 (M14 394 x1)) (fun r15 M16 =>
  cl (f_X12_writes M16 (M16 395 x1)) (fun r17 M18 =>
  cl (f_X12_writes M18 (M18 396 x1)) (fun r19 M20 =>
  if (M20 397 x1) = 0 then (j_X12_image_88 w15 M20 x1 0)
  else (j_X12_image_88 w15 M20 x1 1))))))))
def f_X12_image (M : Mem) : Res :=
  bm (st M 337 95 0) (fun M1 =>
  cl (f_X12_writes M1 (M1 337 79)) (fun r2 M3 =>
  wl1 (b_X12_image_15) FU M3 0))
def f_X12_octet (M : Mem) (a1 : Int) : Res :=
  if a1 < 0 then (some ((-1), M))
  else (if (M 337 95) ≤ a1 then (some ((-1), M))
  else (ok (0 ≤ a1 ∧ a1 < 330) (some (M 406 a1, M))))
def f_X12_isTold (M : Mem) (a1 : Int) : Res :=
  ok (in32 (a1 + 1)) (ok (0 ≤ a1 + 1 ∧ a1 + 1 < 900) (if 96 ≤ (M 338 (a1 + 1)) then (some (0, M))
  else (ok (in32 (a1 + 2)) (ok (0 ≤ a1 + 2 ∧ a1 + 2 < 900) (if 99 < (M 338 (a1 + 2)) then (some (0, M))
  else (ok (in32 (a1 + 5)) (ok (0 ≤ a1 + 5 ∧ a1 + 5 < 900) (if 3 < (M 338 (a1 + 5)) then (some (0, M))
  else (ok (0 ≤ a1 ∧ a1 < 900) (ok (0 ≤ a1 + 3 ∧ a1 + 3 < 900) (ok (0 ≤ a1 + 4 ∧ a1 + 4 < 900) (ok (0 ≤ a1 + 6 ∧ a1 + 6 < 900) (cl (f_X12_isTrial M (M 338 a1) (M 338 (a1 + 3)) (M 338 (a1 + 4)) (M 338 (a1 + 6))) (fun r17 M18 =>
  if r17 = 0 then (some (0, M18))
  else (ok (0 ≤ a1 + 7 ∧ a1 + 7 < 900) (if (M18 338 (a1 + 7)) = 255 then (some (1, M18))
  else (ok (in32 (5 + (M18 338 a1))) (ok (0 ≤ 5 + (M18 338 a1) ∧ 5 + (M18 338 a1) < 10) (if (M18 374 (5 + (M18 338 a1))) ≤ (M18 338 (a1 + 7)) then (some (0, M18))
  else (some (1, M18)))))))))))))))))))))
def j_X12_on_209 (w101 : Mem → Int → Res) (M : Mem) (x2 x3 s0 s1 : Int) : Res :=
  ok (0 ≤ s1 ∧ s1 < 40) (ok (s0 = 0 ∨ s0 = 1) (bm (st M 398 s1 s0) (fun M45 =>
  ok (in32 (x3 + 7)) (ok (0 ≤ x3 + 7 ∧ x3 + 7 < 900) (if (M45 338 (x3 + 7)) = 255 then (ok (0 ≤ x2 ∧ x2 < 40) (bm (st M45 399 x2 (-1)) (fun M51 =>
  bi (x2 + 1) (fun y52 =>
  w101 M51 y52))))
  else (ok (0 ≤ x2 ∧ x2 < 40) (bm (st M45 399 x2 (M45 338 (x3 + 7))) (fun M54 =>
  bi (x2 + 1) (fun y55 =>
  w101 M54 y55)))))))))
def j_X12_on_175 (w101 : Mem → Int → Res) (M : Mem) (x2 x3 s0 s1 s2 s3 s4 s5 s6 : Int) : Res :=
  ok (in32 (x3 + 6)) (ok (0 ≤ x3 + 6 ∧ x3 + 6 < 900) (cl (f_X12_lays M s6 s5 s4 s3 s2 s1 s0 (M 338 (x3 + 6))) (fun r37 M38 =>
  ok (in32 (x3 + 5)) (ok (0 ≤ x3 + 5 ∧ x3 + 5 < 900) (if (M38 338 (x3 + 5)) ≤ 1 then (j_X12_on_209 w101 M38 x2 x3 0 x2)
  else (j_X12_on_209 w101 M38 x2 x3 1 x2))))))
def b_X12_on_101 (w101 : Mem → Int → Res) (M : Mem) (x2 : Int) : Res :=
  if (M 337 79) ≤ x2 then (some (1, M))
  else (ok (in32 (8 * x2)) (ok (in32 (1 + (8 * x2))) (bi (1 + (8 * x2)) (fun y25 =>
  ok (0 ≤ y25 ∧ y25 < 900) (ok (0 ≤ y25 + 1 ∧ y25 + 1 < 900) (ok (0 ≤ y25 + 2 ∧ y25 + 2 < 900) (ok (0 ≤ y25 + 3 ∧ y25 + 3 < 900) (ok (0 ≤ y25 + 4 ∧ y25 + 4 < 900) (ok (0 ≤ y25 + 5 ∧ y25 + 5 < 900) (ok (0 ≤ M 338 (y25 + 5)) (if ((M 338 (y25 + 5)) % 2) = 1 then (j_X12_on_175 w101 M x2 y25 1 (M 338 (y25 + 4)) (M 338 (y25 + 3)) (M 338 (y25 + 2)) (M 338 (y25 + 1)) (M 338 y25) x2)
  else (j_X12_on_175 w101 M x2 y25 0 (M 338 (y25 + 4)) (M 338 (y25 + 3)) (M 338 (y25 + 2)) (M 338 (y25 + 1)) (M 338 y25) x2))))))))))))
def b_X12_on_66 (w66 : Mem → Int → Int → Res) (M : Mem) (x1 x2 : Int) : Res :=
  ok (in32 (x1 - 1)) (if (x1 - 1) ≤ x2 then (bm (st M 337 79 (M 338 0)) (fun M20 =>
  wl1 (b_X12_on_101) FU M20 0))
  else (cl (f_X12_isTold M x2) (fun r56 M57 =>
  if r56 = 0 then (some (0, M57))
  else (ok (in32 (x2 + 8)) (bi (x2 + 8) (fun y61 =>
  w66 M57 x1 y61))))))
def f_X12_on (M : Mem) : Res :=
  bi (M 337 1) (fun y1 =>
  bm (st M 337 1 0) (fun M2 =>
  if y1 < 2 then (some (0, M2))
  else (if 40 < (M2 338 0) then (some (0, M2))
  else (ok (in32 (8 * (M2 338 0))) (ok (in32 (2 + (8 * (M2 338 0)))) (if y1 = (2 + (8 * (M2 338 0))) then (ok (in32 (y1 - 1)) (ok (0 ≤ y1 - 1 ∧ y1 - 1 < 900) (cl (f_X12_checked M2 338 (y1 - 1)) (fun r13 M14 =>
  if (M2 338 (y1 - 1)) = r13 then (wl2 (b_X12_on_66) FU M14 y1 1)
  else (some (0, M14))))))
  else (some (0, M2))))))))
