/-! the class as functions of the heap: printed by a program of ours -/
def f_X6_init (b : Nat) (g : HP) : Option HP :=
  (al_init (nx g) (newG g 31 3 [] [])).bind fun g1 =>
  (pfR 7 0 (some b) (some (nx g)) g1).bind fun g2 =>
  some g2
def f_X0_init (b : Nat) (s1 : Int32) (s2 : Int32) (g : HP) : Option HP :=
  (pfI 1 2 (some b) (-1) g).bind fun g1 =>
  (f_X6_init (nx g1) (newG g1 8 1 [] [])).bind fun g2 =>
  (pfR 1 3 (some b) (some (nx g1)) g2).bind fun g3 =>
  (al_init (nx g3) (newG g3 31 3 [] [])).bind fun g4 =>
  (pfR 1 4 (some b) (some (nx g3)) g4).bind fun g5 =>
  (pfI 1 0 (some b) s1 g5).bind fun g6 =>
  (pfI 1 1 (some b) s2 g6).bind fun g7 =>
  some g7
def f_X0_pieceNumbered (b : Nat) (s1 : Int32) (g : HP) : Option (Option Nat) :=
  (if s1 < 0 then
  some none
  else
  (gfR 1 4 (some b) g).bind fun r1 =>
  (rcv 0 r1 g).bind fun b2 =>
  (al_size b2 g).bind fun x3 =>
  (if x3 ≤ s1 then
  some none
  else
  (gfR 1 4 (some b) g).bind fun r4 =>
  (rcv 0 r4 g).bind fun b5 =>
  (al_get b5 s1 g).bind fun r6 =>
  (cst 5 r6 g).bind fun r7 =>
  some r7))
def f_X1_drop_L2 (p2_0 : Nat) (p2_1 : Option Nat) (w2 : HP) : Nat → Int32 → Option HP
  | 0, _ => none
  | m2 + 1, u2_2 =>
  (gfR 2 2 (some p2_0) w2).bind fun r1 =>
  (rcv 0 r1 w2).bind fun b2 =>
  (al_size b2 w2).bind fun x3 =>
  (if x3 ≤ u2_2 then
  some w2
  else
  (gfR 2 2 (some p2_0) w2).bind fun r4 =>
  (rcv 0 r4 w2).bind fun b5 =>
  (al_get b5 u2_2 w2).bind fun r6 =>
  (if r6 = p2_1 then
  (gfR 2 2 (some p2_0) w2).bind fun r7 =>
  (rcv 0 r7 w2).bind fun b8 =>
  (al_remove b8 u2_2 w2).bind fun v9 =>
  some v9.2
  else
  f_X1_drop_L2 p2_0 p2_1 w2 m2 (u2_2 + 1)))
def f_X1_drop (b : Nat) (s1 : Option Nat) (g : HP) : Option HP :=
  f_X1_drop_L2 b s1 g FU 0
def f_X4_release (b : Nat) (g : HP) : Option HP :=
  (gfR 5 5 (some b) g).bind fun r1 =>
  (if r1 = none then
  some g
  else
  (gfR 5 5 (some b) g).bind fun r2 =>
  (rcv 2 r2 g).bind fun b3 =>
  (f_X1_drop b3 (some b) g).bind fun g4 =>
  (pfR 5 5 (some b) none g4).bind fun g5 =>
  some g5)
def f_X6_count (b : Nat) (g : HP) : Option Int32 :=
  (gfR 7 0 (some b) g).bind fun r1 =>
  (rcv 0 r1 g).bind fun b2 =>
  (al_size b2 g).bind fun x3 =>
  some x3
def f_X0_forgetPieces_L2 (p2_0 : Nat) : Nat → Int32 → HP → Option HP
  | 0, _, _ => none
  | m2 + 1, u2_1, w2 =>
  (gfR 1 4 (some p2_0) w2).bind fun r1 =>
  (rcv 0 r1 w2).bind fun b2 =>
  (al_size b2 w2).bind fun x3 =>
  (if x3 ≤ u2_1 then
  some w2
  else
  (gfR 1 4 (some p2_0) w2).bind fun r4 =>
  (rcv 0 r4 w2).bind fun b5 =>
  (al_get b5 u2_1 w2).bind fun r6 =>
  (cst 5 r6 w2).bind fun r7 =>
  (rcv 5 r7 w2).bind fun b8 =>
  (f_X4_release b8 w2).bind fun g9 =>
  f_X0_forgetPieces_L2 p2_0 m2 (u2_1 + 1) g9)
def f_X0_forgetPieces_L42 (p42_0 : Nat) : Nat → Int32 → HP → Option HP
  | 0, _, _ => none
  | m42 + 1, u42_1, w42 =>
  (gfR 1 3 (some p42_0) w42).bind fun r14 =>
  (rcv 7 r14 w42).bind fun b15 =>
  (f_X6_count b15 w42).bind fun x16 =>
  (if x16 ≤ u42_1 then
  some w42
  else
  (gfR 1 3 (some p42_0) w42).bind fun r17 =>
  (gfR 7 0 r17 w42).bind fun r18 =>
  (rcv 0 r18 w42).bind fun b19 =>
  (al_get b19 u42_1 w42).bind fun r20 =>
  (cst 8 r20 w42).bind fun r21 =>
  (pfR 8 8 r21 none w42).bind fun g22 =>
  f_X0_forgetPieces_L42 p42_0 m42 (u42_1 + 1) g22)
def f_X0_forgetPieces (b : Nat) (g : HP) : Option HP :=
  (f_X0_forgetPieces_L2 b FU 0 g).bind fun q10 =>
  (gfR 1 4 (some b) q10).bind fun r11 =>
  (rcv 0 r11 q10).bind fun b12 =>
  (al_clear b12 q10).bind fun g13 =>
  (f_X0_forgetPieces_L42 b FU 0 g13).bind fun q23 =>
  some q23
def f_X0_addTrip (b : Nat) (s1 : Option Nat) (g : HP) : Option HP :=
  (rcv 1 (some b) g).bind fun b1 =>
  (f_X0_forgetPieces b1 g).bind fun g2 =>
  (gfR 1 3 (some b) g2).bind fun r3 =>
  (gfR 7 0 r3 g2).bind fun r4 =>
  (rcv 0 r4 g2).bind fun b5 =>
  (al_add b5 s1 g2).bind fun v6 =>
  (pfR 8 7 s1 (some b) v6.2).bind fun g7 =>
  some g7
def f_X6_get (b : Nat) (s1 : Int32) (g : HP) : Option (Option Nat) :=
  (if s1 < 0 then
  some none
  else
  (gfR 7 0 (some b) g).bind fun r1 =>
  (rcv 0 r1 g).bind fun b2 =>
  (al_size b2 g).bind fun x3 =>
  (if x3 ≤ s1 then
  some none
  else
  (gfR 7 0 (some b) g).bind fun r4 =>
  (rcv 0 r4 g).bind fun b5 =>
  (al_get b5 s1 g).bind fun r6 =>
  (cst 8 r6 g).bind fun r7 =>
  some r7))
def f_X6_last (b : Nat) (g : HP) : Option (Option Nat) :=
  (gfR 7 0 (some b) g).bind fun r1 =>
  (rcv 0 r1 g).bind fun b2 =>
  (al_size b2 g).bind fun x3 =>
  (rcv 7 (some b) g).bind fun b4 =>
  (f_X6_get b4 (x3 - 1) g).bind fun r5 =>
  some r5
def f_X0_removeLastTrip (b : Nat) (g : HP) : Option (Option Nat × HP) :=
  (gfR 1 3 (some b) g).bind fun r1 =>
  (rcv 7 r1 g).bind fun b2 =>
  (f_X6_last b2 g).bind fun r3 =>
  (if r3 = none then
  some (none, g)
  else
  (rcv 1 (some b) g).bind fun b4 =>
  (f_X0_forgetPieces b4 g).bind fun g5 =>
  (gfR 1 3 (some b) g5).bind fun r6 =>
  (gfR 7 0 r6 g5).bind fun r7 =>
  (gfR 1 3 (some b) g5).bind fun r8 =>
  (rcv 7 r8 g5).bind fun b9 =>
  (f_X6_count b9 g5).bind fun x10 =>
  (rcv 0 r7 g5).bind fun b11 =>
  (al_remove b11 (x10 - 1) g5).bind fun v12 =>
  (pfR 8 7 r3 none v12.2).bind fun g13 =>
  some (r3, g13))
def f_X6_addPart_L7 (p7_0 : Nat) (p7_1 : Option Nat) (p7_3 : Int32) : Nat → Int32 → HP → Option HP
  | 0, _, _ => none
  | m7 + 1, u7_4, w7 =>
  (if p7_3 ≤ u7_4 then
  some w7
  else
  (gfR 7 0 p7_1 w7).bind fun r1 =>
  (rcv 0 r1 w7).bind fun b2 =>
  (al_size b2 w7).bind fun x3 =>
  (if x3 ≤ u7_4 then
  some w7
  else
  (gfR 7 0 (some p7_0) w7).bind fun r4 =>
  (gfR 7 0 p7_1 w7).bind fun r5 =>
  (rcv 0 r5 w7).bind fun b6 =>
  (al_get b6 u7_4 w7).bind fun r7 =>
  (cst 8 r7 w7).bind fun r8 =>
  (rcv 0 r4 w7).bind fun b9 =>
  (al_add b9 r8 w7).bind fun v10 =>
  f_X6_addPart_L7 p7_0 p7_1 p7_3 m7 (u7_4 + 1) v10.2))
def f_X6_addPart (b : Nat) (s1 : Option Nat) (s2 : Int32) (s3 : Int32) (g : HP) : Option HP :=
  (f_X6_addPart_L7 b s1 s3 FU (if s2 < 0 then 0 else s2) g).bind fun q11 =>
  some q11
def f_X6_copy (b : Nat) (s1 : Option Nat) (g : HP) : Option HP :=
  (gfR 7 0 (some b) g).bind fun r1 =>
  (rcv 0 r1 g).bind fun b2 =>
  (al_clear b2 g).bind fun g3 =>
  (rcv 7 s1 g3).bind fun b4 =>
  (f_X6_count b4 g3).bind fun x5 =>
  (rcv 7 (some b) g3).bind fun b6 =>
  (f_X6_addPart b6 (some b4) 0 x5 g3).bind fun g7 =>
  some g7
def f_X0_takeOver_L14 (p14_0 : Nat) : Nat → Int32 → HP → Option HP
  | 0, _, _ => none
  | m14 + 1, u14_2, w14 =>
  (gfR 1 3 (some p14_0) w14).bind fun r6 =>
  (rcv 7 r6 w14).bind fun b7 =>
  (f_X6_count b7 w14).bind fun x8 =>
  (if x8 ≤ u14_2 then
  some w14
  else
  (gfR 1 3 (some p14_0) w14).bind fun r9 =>
  (gfR 7 0 r9 w14).bind fun r10 =>
  (rcv 0 r10 w14).bind fun b11 =>
  (al_get b11 u14_2 w14).bind fun r12 =>
  (cst 8 r12 w14).bind fun r13 =>
  (pfR 8 7 r13 (some p14_0) w14).bind fun g14 =>
  f_X0_takeOver_L14 p14_0 m14 (u14_2 + 1) g14)
def f_X0_takeOver (b : Nat) (s1 : Option Nat) (g : HP) : Option HP :=
  (rcv 1 (some b) g).bind fun b1 =>
  (f_X0_forgetPieces b1 g).bind fun g2 =>
  (gfR 1 3 (some b) g2).bind fun r3 =>
  (rcv 7 r3 g2).bind fun b4 =>
  (f_X6_copy b4 s1 g2).bind fun g5 =>
  (f_X0_takeOver_L14 b FU 0 g5).bind fun q15 =>
  some q15
def f_X4_init (b : Nat) (s1 : Int32) (s2 : Option Nat) (s3 : Option Nat) (s4 : Option Nat) (s5 : Int32) (g : HP) : Option HP :=
  (pfI 5 0 (some b) s1 g).bind fun g1 =>
  (pfR 5 1 (some b) s2 g1).bind fun g2 =>
  (pfR 5 2 (some b) s3 g2).bind fun g3 =>
  (pfR 5 3 (some b) s4 g3).bind fun g4 =>
  (pfI 5 4 (some b) s5 g4).bind fun g5 =>
  some g5
def f_X0_addPiece_L70 (p70_0 : Nat) (p70_2 : Int32) (p70_5 : Option Nat) : Nat → Int32 → HP → Option HP
  | 0, _, _ => none
  | m70 + 1, u70_6, w70 =>
  (if p70_2 < u70_6 then
  some w70
  else
  (gfR 1 3 (some p70_0) w70).bind fun r15 =>
  (gfR 7 0 r15 w70).bind fun r16 =>
  (rcv 0 r16 w70).bind fun b17 =>
  (al_get b17 u70_6 w70).bind fun r18 =>
  (cst 8 r18 w70).bind fun r19 =>
  (pfR 8 8 r19 p70_5 w70).bind fun g20 =>
  f_X0_addPiece_L70 p70_0 p70_2 p70_5 m70 (u70_6 + 1) g20)
def f_X0_addPiece (b : Nat) (s1 : Int32) (s2 : Int32) (g : HP) : Option HP :=
  (gfR 1 3 (some b) g).bind fun r1 =>
  (rcv 7 r1 g).bind fun b2 =>
  (f_X6_get b2 s1 g).bind fun r3 =>
  (gfR 1 3 (some b) g).bind fun r4 =>
  (rcv 7 r4 g).bind fun b5 =>
  (f_X6_get b5 s2 g).bind fun r6 =>
  (if r3 = none then
  some g
  else
  (if r6 = none then
  some g
  else
  (gfR 1 4 (some b) (newG g 6 6 [] [])).bind fun r7 =>
  (rcv 0 r7 (newG g 6 6 [] [])).bind fun b8 =>
  (al_size b8 (newG g 6 6 [] [])).bind fun x9 =>
  (gfR 1 3 (some b) (newG g 6 6 [] [])).bind fun r10 =>
  (f_X4_init (nx g) x9 r10 r3 r6 ((s2 - s1) + 1) (newG g 6 6 [] [])).bind fun g11 =>
  (gfR 1 4 (some b) g11).bind fun r12 =>
  (rcv 0 r12 g11).bind fun b13 =>
  (al_add b13 (some (nx g)) g11).bind fun v14 =>
  (f_X0_addPiece_L70 b s2 (some (nx g)) FU s1 v14.2).bind fun q21 =>
  some q21))
def f_X0_cutAt_L9 (p9_0 : Nat) (p9_1 : Option Nat) (p9_2 : Int32) : Nat → Int32 → Int32 → HP → Option HP
  | 0, _, _, _ => none
  | m9 + 1, u9_3, u9_4, w9 =>
  (if p9_2 ≤ u9_4 then
  some w9
  else
  (lnI p9_1 w9).bind fun x3 =>
  (if x3 ≤ u9_4 then
  some w9
  else
  (ldI p9_1 u9_4 w9).bind fun x4 =>
  (rcv 1 (some p9_0) w9).bind fun b5 =>
  (f_X0_addPiece b5 u9_3 x4 w9).bind fun g6 =>
  (ldI p9_1 u9_4 g6).bind fun x7 =>
  f_X0_cutAt_L9 p9_0 p9_1 p9_2 m9 (x7 + 1) (u9_4 + 1) g6))
def f_X0_cutAt (b : Nat) (s1 : Option Nat) (s2 : Int32) (g : HP) : Option HP :=
  (rcv 1 (some b) g).bind fun b1 =>
  (f_X0_forgetPieces b1 g).bind fun g2 =>
  (f_X0_cutAt_L9 b s1 s2 FU 0 0 g2).bind fun q8 =>
  some q8
def f_X7_late (b : Nat) (g : HP) : Option Int32 :=
  (gfI 8 10 (some b) g).bind fun x1 =>
  (gfI 8 4 (some b) g).bind fun x2 =>
  some (x1 - x2)
def f_X7_causeIf (b : Nat) (s1 : Int32) (g : HP) : Option Int32 :=
  (gfR 8 1 (some b) g).bind fun r1 =>
  (gfI 4 2 r1 g).bind fun x2 =>
  (if x2 = 0 then
  (if s1 = (-1) then
  (gfR 8 8 (some b) g).bind fun r3 =>
  ((if r3 = none then
  some none
  else
  (gfR 8 8 (some b) g).bind fun r4 =>
  (gfR 5 5 r4 g).bind fun r5 =>
  some r5)).bind fun q6 =>
  (if q6 = none then
  some 4
  else
  (gfI 2 1 q6 g).bind fun x7 =>
  (if x7 = 0 then
  (rcv 8 (some b) g).bind fun b8 =>
  (f_X7_late b8 g).bind fun x9 =>
  (if x9 ≤ 30 then
  some 0
  else
  some 6)
  else
  some 5))
  else
  (gfI 8 10 (some b) g).bind fun x10 =>
  (if x10 < s1 then
  (gfR 8 8 (some b) g).bind fun r11 =>
  ((if r11 = none then
  some none
  else
  (gfR 8 8 (some b) g).bind fun r12 =>
  (gfR 5 5 r12 g).bind fun r13 =>
  some r13)).bind fun q14 =>
  (if q14 = none then
  some 4
  else
  (gfI 2 1 q14 g).bind fun x15 =>
  (if x15 = 0 then
  (rcv 8 (some b) g).bind fun b16 =>
  (f_X7_late b16 g).bind fun x17 =>
  (if x17 ≤ 30 then
  some 0
  else
  some 6)
  else
  some 5))
  else
  some 3))
  else
  some 2)
def f_X7_runs (b : Nat) (g : HP) : Option Int32 :=
  (gfI 8 9 (some b) g).bind fun x1 =>
  (if x1 = 0 then
  some 1
  else
  some 0)
def f_X5_emptyTo (b : Nat) (s1 : Option Nat) (g : HP) : Option Int32 :=
  (gfI 6 1 (some b) g).bind fun x1 =>
  (gfI 6 1 s1 g).bind fun x2 =>
  (if x2 ≤ x1 then
  (gfI 6 1 (some b) g).bind fun x3 =>
  (gfI 6 1 s1 g).bind fun x4 =>
  some (x3 - x4)
  else
  (gfI 6 1 s1 g).bind fun x5 =>
  (gfI 6 1 (some b) g).bind fun x6 =>
  some (x5 - x6))
def f_X7_emptyTo (b : Nat) (s1 : Option Nat) (g : HP) : Option Int32 :=
  (gfR 8 3 (some b) g).bind fun r1 =>
  (gfR 8 2 s1 g).bind fun r2 =>
  (rcv 6 r1 g).bind fun b3 =>
  (f_X5_emptyTo b3 r2 g).bind fun x4 =>
  some x4
def f_X0_lostIf_L9 (p9_0 : Nat) (p9_1 : Int32) (p9_2 : Option Nat) (p9_3 : Int32) : Nat → Int32 → Option Nat → Int32 → HP → Option (Int32 × HP)
  | 0, _, _, _, _ => none
  | m9 + 1, u9_4, u9_5, u9_6, w9 =>
  (gfR 1 3 (some p9_0) w9).bind fun r1 =>
  (rcv 7 r1 w9).bind fun b2 =>
  (f_X6_count b2 w9).bind fun x3 =>
  (if x3 ≤ u9_6 then
  some (u9_4, w9)
  else
  (gfR 1 3 (some p9_0) w9).bind fun r4 =>
  (gfR 7 0 r4 w9).bind fun r5 =>
  (rcv 0 r5 w9).bind fun b6 =>
  (al_get b6 u9_6 w9).bind fun r7 =>
  (cst 8 r7 w9).bind fun r8 =>
  ((if u9_5 = none then
  some (u9_5, (0 : Int32))
  else
  (gfI 8 11 u9_5 w9).bind fun x9 =>
  (rcv 8 u9_5 w9).bind fun b10 =>
  (f_X7_emptyTo b10 r8 w9).bind fun x11 =>
  some ((some b10), x9 + x11))).bind fun q12 =>
  (gfI 8 4 r8 w9).bind fun x13 =>
  (pfI 8 10 r8 (if x13 < q12.2 then q12.2 else x13) w9).bind fun g14 =>
  (rcv 8 r8 g14).bind fun b15 =>
  (f_X7_causeIf b15 p9_1 g14).bind fun x16 =>
  (pfI 8 9 (some b15) x16 g14).bind fun g17 =>
  (rcv 8 (some b15) g17).bind fun b18 =>
  (f_X7_runs b18 g17).bind fun x19 =>
  (if x19 = 0 then
  f_X0_lostIf_L9 p9_0 p9_1 p9_2 p9_3 m9 (u9_4 + 1) q12.1 (u9_6 + 1) g17
  else
  ((if (some b15) = p9_2 then
  some p9_3
  else
  (gfI 8 6 (some b15) g17).bind fun x20 =>
  some x20)).bind fun q21 =>
  (gfI 8 10 (some b15) g17).bind fun x22 =>
  (gfI 8 5 (some b15) g17).bind fun x23 =>
  (pfI 8 11 (some b15) ((x22 + x23) + q21) g17).bind fun g24 =>
  f_X0_lostIf_L9 p9_0 p9_1 p9_2 p9_3 m9 u9_4 (some b15) (u9_6 + 1) g24))
def f_X0_lostIf (b : Nat) (s1 : Int32) (s2 : Option Nat) (s3 : Int32) (g : HP) : Option (Int32 × HP) :=
  (f_X0_lostIf_L9 b s1 s2 s3 FU 0 none 0 g).bind fun q25 =>
  some (q25.1, q25.2)
def f_X0_lostNow (b : Nat) (g : HP) : Option (Int32 × HP) :=
  (gfI 1 2 (some b) g).bind fun x1 =>
  (rcv 1 (some b) g).bind fun b2 =>
  (f_X0_lostIf b2 x1 none 0 g).bind fun v3 =>
  some (v3.1, v3.2)
def f_X1_init (b : Nat) (s1 : Int32) (g : HP) : Option HP :=
  (al_init (nx g) (newG g 31 3 [] [])).bind fun g1 =>
  (pfR 2 2 (some b) (some (nx g)) g1).bind fun g2 =>
  (pfI 2 0 (some b) s1 g2).bind fun g3 =>
  some g3
def f_X7_end (b : Nat) (g : HP) : Option Int32 :=
  (gfI 8 4 (some b) g).bind fun x1 =>
  (gfI 8 5 (some b) g).bind fun x2 =>
  some (x1 + x2)
def f_X4_isNear (b : Nat) (s1 : Option Nat) (g : HP) : Option Int32 :=
  (gfR 5 2 s1 g).bind fun r1 =>
  (gfI 8 4 r1 g).bind fun x2 =>
  (gfR 5 3 (some b) g).bind fun r3 =>
  (rcv 8 r3 g).bind fun b4 =>
  (f_X7_end b4 g).bind fun x5 =>
  (if x5 + 10 < x2 then
  some 0
  else
  (gfR 5 3 s1 g).bind fun r6 =>
  (rcv 8 r6 g).bind fun b7 =>
  (f_X7_end b7 g).bind fun x8 =>
  (gfR 5 2 (some b) g).bind fun r9 =>
  (gfI 8 4 r9 g).bind fun x10 =>
  (if x8 < x10 - 10 then
  some 0
  else
  some 1))
def f_X4_minutes (b : Nat) (g : HP) : Option Int32 :=
  (gfR 5 3 (some b) g).bind fun r1 =>
  (rcv 8 r1 g).bind fun b2 =>
  (f_X7_end b2 g).bind fun x3 =>
  (gfR 5 2 (some b) g).bind fun r4 =>
  (gfI 8 4 r4 g).bind fun x5 =>
  some (x3 - x5)
def f_X1_minutes_L4 (p4_0 : Nat) (w4 : HP) : Nat → Int32 → Int32 → Option Int32
  | 0, _, _ => none
  | m4 + 1, u4_1, u4_2 =>
  (gfR 2 2 (some p4_0) w4).bind fun r1 =>
  (rcv 0 r1 w4).bind fun b2 =>
  (al_size b2 w4).bind fun x3 =>
  (if x3 ≤ u4_2 then
  some u4_1
  else
  (gfR 2 2 (some p4_0) w4).bind fun r4 =>
  (rcv 0 r4 w4).bind fun b5 =>
  (al_get b5 u4_2 w4).bind fun r6 =>
  (cst 5 r6 w4).bind fun r7 =>
  (rcv 5 r7 w4).bind fun b8 =>
  (f_X4_minutes b8 w4).bind fun x9 =>
  f_X1_minutes_L4 p4_0 w4 m4 (u4_1 + x9) (u4_2 + 1))
def f_X1_minutes (b : Nat) (g : HP) : Option Int32 :=
  (f_X1_minutes_L4 b g FU 0 0).bind fun q10 =>
  some q10
def f_X1_canGet_L2 (p2_0 : Nat) (p2_1 : Option Nat) (w2 : HP) : Nat → Int32 → Option Int32
  | 0, _ => none
  | m2 + 1, u2_2 =>
  (gfR 2 2 (some p2_0) w2).bind fun r1 =>
  (rcv 0 r1 w2).bind fun b2 =>
  (al_size b2 w2).bind fun x3 =>
  (if x3 ≤ u2_2 then
  (rcv 2 (some p2_0) w2).bind fun b4 =>
  (f_X1_minutes b4 w2).bind fun x5 =>
  (rcv 5 p2_1 w2).bind fun b6 =>
  (f_X4_minutes b6 w2).bind fun x7 =>
  (if 600 < x5 + x7 then
  some 0
  else
  some 1)
  else
  (gfR 2 2 (some p2_0) w2).bind fun r8 =>
  (rcv 0 r8 w2).bind fun b9 =>
  (al_get b9 u2_2 w2).bind fun r10 =>
  (cst 5 r10 w2).bind fun r11 =>
  (rcv 5 p2_1 w2).bind fun b12 =>
  (f_X4_isNear b12 r11 w2).bind fun x13 =>
  (if x13 = 0 then
  f_X1_canGet_L2 p2_0 p2_1 w2 m2 (u2_2 + 1)
  else
  some 0))
def f_X1_canGet (b : Nat) (s1 : Option Nat) (g : HP) : Option Int32 :=
  f_X1_canGet_L2 b s1 g FU 0
def f_X4_worked_L23 (p23_0 : Nat) (w23 : HP) : Nat → Int32 → Int32 → Option Int32
  | 0, _, _ => none
  | m23 + 1, u23_1, u23_2 =>
  (gfR 5 1 (some p23_0) w23).bind fun r4 =>
  (rcv 7 r4 w23).bind fun b5 =>
  (f_X6_count b5 w23).bind fun x6 =>
  (if x6 ≤ u23_2 then
  some u23_1
  else
  (gfR 5 1 (some p23_0) w23).bind fun r7 =>
  (gfR 7 0 r7 w23).bind fun r8 =>
  (rcv 0 r8 w23).bind fun b9 =>
  (al_get b9 u23_2 w23).bind fun r10 =>
  (cst 8 r10 w23).bind fun r11 =>
  (gfR 8 8 r11 w23).bind fun r12 =>
  (if r12 = (some p23_0) then
  (rcv 8 r11 w23).bind fun b13 =>
  (f_X7_runs b13 w23).bind fun x14 =>
  (if x14 = 0 then
  f_X4_worked_L23 p23_0 w23 m23 u23_1 (u23_2 + 1)
  else
  (gfI 8 11 (some b13) w23).bind fun x15 =>
  (gfR 5 2 (some p23_0) w23).bind fun r16 =>
  (gfI 8 4 r16 w23).bind fun x17 =>
  f_X4_worked_L23 p23_0 w23 m23 (x15 - x17) (u23_2 + 1))
  else
  f_X4_worked_L23 p23_0 w23 m23 u23_1 (u23_2 + 1)))
def f_X4_worked (b : Nat) (g : HP) : Option Int32 :=
  (gfR 5 5 (some b) g).bind fun r1 =>
  (if r1 = none then
  some 0
  else
  (gfR 5 5 (some b) g).bind fun r2 =>
  (gfI 2 1 r2 g).bind fun x3 =>
  (if x3 = 0 then
  (f_X4_worked_L23 b g FU 0 0).bind fun q18 =>
  (if q18 ≤ 0 then
  some 0
  else
  some (q18 + 10))
  else
  some 0))
def f_X1_worked_L4 (p4_0 : Nat) (w4 : HP) : Nat → Int32 → Int32 → Option Int32
  | 0, _, _ => none
  | m4 + 1, u4_1, u4_2 =>
  (gfR 2 2 (some p4_0) w4).bind fun r1 =>
  (rcv 0 r1 w4).bind fun b2 =>
  (al_size b2 w4).bind fun x3 =>
  (if x3 ≤ u4_2 then
  some u4_1
  else
  (gfR 2 2 (some p4_0) w4).bind fun r4 =>
  (rcv 0 r4 w4).bind fun b5 =>
  (al_get b5 u4_2 w4).bind fun r6 =>
  (cst 5 r6 w4).bind fun r7 =>
  (rcv 5 r7 w4).bind fun b8 =>
  (f_X4_worked b8 w4).bind fun x9 =>
  f_X1_worked_L4 p4_0 w4 m4 (u4_1 + x9) (u4_2 + 1))
def f_X1_worked (b : Nat) (g : HP) : Option Int32 :=
  (f_X1_worked_L4 b g FU 0 0).bind fun q10 =>
  some q10
def f_X1_pay (b : Nat) (g : HP) : Option Int32 :=
  (rcv 2 (some b) g).bind fun b1 =>
  (f_X1_worked b1 g).bind fun x2 =>
  some ((x2 / 4) + ((if 0 < x2 - 480 then (x2 - 480) else 0) / 4))
def f_X2_init (b : Nat) (g : HP) : Option HP :=
  (nwI 20 16 g).bind fun a1 =>
  (pfR 3 0 (some b) (some a1.1) a1.2).bind fun g2 =>
  (nwI 21 16 g2).bind fun a3 =>
  (pfR 3 1 (some b) (some a3.1) a3.2).bind fun g4 =>
  some g4
def f_X7_canFollow (b : Nat) (s1 : Option Nat) (g : HP) : Option Int32 :=
  (rcv 8 s1 g).bind fun b1 =>
  (f_X7_end b1 g).bind fun x2 =>
  (gfR 8 3 (some b1) g).bind fun r3 =>
  (gfR 8 2 (some b) g).bind fun r4 =>
  (rcv 6 r3 g).bind fun b5 =>
  (f_X5_emptyTo b5 r4 g).bind fun x6 =>
  (gfI 8 4 (some b) g).bind fun x7 =>
  (if x7 < (x2 + x6) + 4 then
  some 0
  else
  some 1)
def f_X2_findsFollower_L50 (rec : Option Nat → Int32 → Option Nat → Option Nat → Int32 → HP → Option (Int32 × HP)) (p50_0 : Nat) (p50_1 : Int32) (p50_2 : Option Nat) (p50_3 : Option Nat) (p50_4 : Int32) (p50_5 : Option Nat) (p50_6 : Int32) : Nat → Int32 → HP → Option (Int32 × HP)
  | 0, _, _ => none
  | m50 + 1, u50_7, w50 =>
  (if p50_6 ≤ u50_7 then
  some (0, w50)
  else
  (ldZ p50_3 u50_7 w50).bind fun x10 =>
  (if x10 = 0 then
  (rcv 0 (some p50_0) w50).bind fun b11 =>
  (al_get b11 u50_7 w50).bind fun r12 =>
  (cst 8 r12 w50).bind fun r13 =>
  (rcv 8 r13 w50).bind fun b14 =>
  (f_X7_canFollow b14 p50_5 w50).bind fun x15 =>
  (if x15 = 0 then
  f_X2_findsFollower_L50 rec p50_0 p50_1 p50_2 p50_3 p50_4 p50_5 p50_6 m50 (u50_7 + 1) w50
  else
  (stZ p50_3 u50_7 1 w50).bind fun g16 =>
  (ldI p50_2 u50_7 g16).bind fun x17 =>
  (if x17 = (-1) then
  (stI p50_2 u50_7 p50_1 g16).bind fun g18 =>
  some (1, g18)
  else
  (ldI p50_2 u50_7 g16).bind fun x19 =>
  (rec (some p50_0) x19 p50_2 p50_3 (p50_4 + 1) g16).bind fun v20 =>
  (if v20.1 = 0 then
  f_X2_findsFollower_L50 rec p50_0 p50_1 p50_2 p50_3 p50_4 p50_5 p50_6 m50 (u50_7 + 1) v20.2
  else
  (stI p50_2 u50_7 p50_1 v20.2).bind fun g21 =>
  some (1, g21))))
  else
  f_X2_findsFollower_L50 rec p50_0 p50_1 p50_2 p50_3 p50_4 p50_5 p50_6 m50 (u50_7 + 1) w50))
def f_X2_findsFollower : Nat → Option Nat → Int32 → Option Nat → Option Nat → Int32 → HP → Option (Int32 × HP)
  | 0, _, _, _, _, _, _ => none
  | d + 1, s1, s2, s3, s4, s5, g =>
  (if 16 < s5 then
  some (0, g)
  else
  (if s2 < 0 then
  some (0, g)
  else
  (rcv 0 s1 g).bind fun b1 =>
  (al_size b1 g).bind fun x2 =>
  (if s2 < x2 then
  (rcv 0 (some b1) g).bind fun b3 =>
  (al_get b3 s2 g).bind fun r4 =>
  (cst 8 r4 g).bind fun r5 =>
  (rcv 0 (some b1) g).bind fun b6 =>
  (al_size b6 g).bind fun x7 =>
  (lnI s3 g).bind fun x8 =>
  (lnI s4 g).bind fun x9 =>
  f_X2_findsFollower_L50 (f_X2_findsFollower d) b1 s2 s3 s4 s5 r5 (if (if x9 < x8 then x9 else x8) < x7 then (if x9 < x8 then x9 else x8) else x7) FU 0 g
  else
  some (0, g))))
def f_X2_mostPairs_L2 (p2_0 : Nat) (p2_1 : Option Nat) : Nat → Int32 → HP → Option HP
  | 0, _, _ => none
  | m2 + 1, u2_2, w2 =>
  (gfR 3 0 (some p2_0) w2).bind fun r1 =>
  (lnI r1 w2).bind fun x2 =>
  (if x2 ≤ u2_2 then
  some w2
  else
  (gfR 3 0 (some p2_0) w2).bind fun r3 =>
  (stI r3 u2_2 (-1) w2).bind fun g4 =>
  f_X2_mostPairs_L2 p2_0 p2_1 m2 (u2_2 + 1) g4)
def f_X2_mostPairs_L39 (p39_0 : Nat) (p39_1 : Nat) (p39_2 : Int32) (p39_3 : Int32) : Nat → Int32 → HP → Option HP
  | 0, _, _ => none
  | m39 + 1, u39_4, w39 =>
  (gfR 3 1 (some p39_0) w39).bind fun r8 =>
  (lnI r8 w39).bind fun x9 =>
  (if x9 ≤ u39_4 then
  some w39
  else
  (gfR 3 1 (some p39_0) w39).bind fun r10 =>
  (stZ r10 u39_4 0 w39).bind fun g11 =>
  f_X2_mostPairs_L39 p39_0 p39_1 p39_2 p39_3 m39 (u39_4 + 1) g11)
def f_X2_mostPairs_L28 (p28_0 : Nat) (p28_1 : Option Nat) : Nat → Int32 → Int32 → HP → Option (Int32 × HP)
  | 0, _, _, _ => none
  | m28 + 1, u28_2, u28_3, w28 =>
  (rcv 0 p28_1 w28).bind fun b6 =>
  (al_size b6 w28).bind fun x7 =>
  (if x7 ≤ u28_3 then
  some (u28_2, w28)
  else
  (f_X2_mostPairs_L39 p28_0 b6 u28_2 u28_3 FU 0 w28).bind fun q12 =>
  (gfR 3 0 (some p28_0) q12).bind fun r13 =>
  (gfR 3 1 (some p28_0) q12).bind fun r14 =>
  (f_X2_findsFollower 20 (some b6) u28_3 r13 r14 0 q12).bind fun v15 =>
  (if v15.1 = 0 then
  f_X2_mostPairs_L28 p28_0 p28_1 m28 u28_2 (u28_3 + 1) v15.2
  else
  f_X2_mostPairs_L28 p28_0 p28_1 m28 (u28_2 + 1) (u28_3 + 1) v15.2))
def f_X2_mostPairs (b : Nat) (s1 : Option Nat) (g : HP) : Option (Int32 × HP) :=
  (f_X2_mostPairs_L2 b s1 FU 0 g).bind fun q5 =>
  (f_X2_mostPairs_L28 b s1 FU 0 0 q5).bind fun q16 =>
  some (q16.1, q16.2)
def f_X3_init (b : Nat) (s1 : Int32) (g : HP) : Option HP :=
  (pfI 4 1 (some b) 10 g).bind fun g1 =>
  (pfI 4 0 (some b) s1 g1).bind fun g2 =>
  some g2
def f_X4_driverNumber (b : Nat) (g : HP) : Option Int32 :=
  (gfR 5 5 (some b) g).bind fun r1 =>
  (if r1 = none then
  some (-1)
  else
  (gfR 5 5 (some b) g).bind fun r2 =>
  (gfI 2 0 r2 g).bind fun x3 =>
  some x3)
def f_X5_init (b : Nat) (s1 : Int32) (g : HP) : Option HP :=
  (pfI 6 0 (some b) s1 g).bind fun g1 =>
  (if s1 = 0 then
  (pfZ 6 3 (some b) 1 g1).bind fun g2 =>
  some g2
  else
  (pfZ 6 3 (some b) 0 g1).bind fun g3 =>
  some g3)
def f_X6_join (b : Nat) (s1 : Option Nat) (s2 : Int32) (s3 : Option Nat) (s4 : Int32) (g : HP) : Option HP :=
  (gfR 7 0 (some b) g).bind fun r1 =>
  (rcv 0 r1 g).bind fun b2 =>
  (al_clear b2 g).bind fun g3 =>
  (rcv 7 (some b) g3).bind fun b4 =>
  (f_X6_addPart b4 s1 0 s2 g3).bind fun g5 =>
  (rcv 7 s3 g5).bind fun b6 =>
  (f_X6_count b6 g5).bind fun x7 =>
  (rcv 7 (some b) g5).bind fun b8 =>
  (f_X6_addPart b8 (some b6) s4 x7 g5).bind fun g9 =>
  some g9
def f_X6_empty_L7 (p7_0 : Nat) (p7_1 : Option Nat) (w7 : HP) : Nat → Int32 → Option Nat → Int32 → Option (Int32 × (Option Nat))
  | 0, _, _, _ => none
  | m7 + 1, u7_2, u7_3, u7_4 =>
  (gfR 7 0 (some p7_0) w7).bind fun r1 =>
  (rcv 0 r1 w7).bind fun b2 =>
  (al_size b2 w7).bind fun x3 =>
  (if x3 ≤ u7_4 then
  some (u7_2, u7_3)
  else
  (gfR 7 0 (some p7_0) w7).bind fun r4 =>
  (rcv 0 r4 w7).bind fun b5 =>
  (al_get b5 u7_4 w7).bind fun r6 =>
  (cst 8 r6 w7).bind fun r7 =>
  (gfR 8 2 r7 w7).bind fun r8 =>
  (rcv 6 u7_3 w7).bind fun b9 =>
  (f_X5_emptyTo b9 r8 w7).bind fun x10 =>
  (gfR 8 3 r7 w7).bind fun r11 =>
  f_X6_empty_L7 p7_0 p7_1 w7 m7 (u7_2 + x10) r11 (u7_4 + 1))
def f_X6_empty (b : Nat) (s1 : Option Nat) (g : HP) : Option Int32 :=
  (f_X6_empty_L7 b s1 g FU 0 s1 0).bind fun q12 =>
  (rcv 6 q12.2 g).bind fun b13 =>
  (f_X5_emptyTo b13 s1 g).bind fun x14 =>
  some (q12.1 + x14)
def f_X6_leastCharge_L15 (p15_0 : Nat) (p15_1 : Option Nat) (p15_2 : Int32) (p15_3 : Int32) (w15 : HP) : Nat → Int32 → Int32 → Option Nat → Option Nat → Int32 → Option (Int32 × Int32 × (Option Nat))
  | 0, _, _, _, _, _ => none
  | m15 + 1, u15_4, u15_5, u15_6, u15_7, u15_8 =>
  (gfR 7 0 (some p15_0) w15).bind fun r1 =>
  (rcv 0 r1 w15).bind fun b2 =>
  (al_size b2 w15).bind fun x3 =>
  (if x3 ≤ u15_8 then
  some (u15_4, u15_5, u15_6)
  else
  (gfR 7 0 (some p15_0) w15).bind fun r4 =>
  (rcv 0 r4 w15).bind fun b5 =>
  (al_get b5 u15_8 w15).bind fun r6 =>
  (cst 8 r6 w15).bind fun r7 =>
  (gfR 8 2 r7 w15).bind fun r8 =>
  (rcv 6 u15_6 w15).bind fun b9 =>
  (f_X5_emptyTo b9 r8 w15).bind fun x10 =>
  ((if u15_7 = none then
  some (u15_4 - x10)
  else
  (gfI 8 4 r7 w15).bind fun x11 =>
  (rcv 8 u15_7 w15).bind fun b12 =>
  (f_X7_end b12 w15).bind fun x13 =>
  (gfR 8 2 r7 w15).bind fun r14 =>
  (gfI 6 2 r14 w15).bind fun x15 =>
  some (if (u15_4 - x10) + (x15 * ((x11 - x13) - x10)) < p15_2 then ((u15_4 - x10) + (x15 * ((x11 - x13) - x10))) else p15_2))).bind fun q16 =>
  (gfI 8 5 r7 w15).bind fun x17 =>
  (gfR 8 3 r7 w15).bind fun r18 =>
  f_X6_leastCharge_L15 p15_0 p15_1 p15_2 p15_3 w15 m15 (q16 - (x17 * (2 + p15_3))) (if q16 - (x17 * (2 + p15_3)) < (if u15_4 - x10 < u15_5 then (u15_4 - x10) else u15_5) then (q16 - (x17 * (2 + p15_3))) else (if u15_4 - x10 < u15_5 then (u15_4 - x10) else u15_5)) r18 r7 (u15_8 + 1))
def f_X6_leastCharge (b : Nat) (s1 : Option Nat) (s2 : Int32) (s3 : Int32) (g : HP) : Option Int32 :=
  (f_X6_leastCharge_L15 b s1 s2 s3 g FU s2 s2 s1 none 0).bind fun q19 =>
  (rcv 6 q19.2.2 g).bind fun b20 =>
  (f_X5_emptyTo b20 s1 g).bind fun x21 =>
  some (if q19.1 - x21 < q19.2.1 then (q19.1 - x21) else q19.2.1)
def f_X7_init (b : Nat) (s1 : Int32) (s2 : Option Nat) (s3 : Option Nat) (s4 : Option Nat) (s5 : Int32) (s6 : Int32) (g : HP) : Option HP :=
  (pfI 8 0 (some b) s1 g).bind fun g1 =>
  (pfR 8 1 (some b) s2 g1).bind fun g2 =>
  (pfR 8 2 (some b) s3 g2).bind fun g3 =>
  (pfR 8 3 (some b) s4 g3).bind fun g4 =>
  (pfI 8 4 (some b) s5 g4).bind fun g5 =>
  (pfI 8 5 (some b) s6 g5).bind fun g6 =>
  some g6
def f_X7_waitBehind (b : Nat) (s1 : Option Nat) (g : HP) : Option Int32 :=
  (gfI 8 4 (some b) g).bind fun x1 =>
  (rcv 8 s1 g).bind fun b2 =>
  (f_X7_end b2 g).bind fun x3 =>
  (gfR 8 3 (some b2) g).bind fun r4 =>
  (gfR 8 2 (some b) g).bind fun r5 =>
  (rcv 6 r4 g).bind fun b6 =>
  (f_X5_emptyTo b6 r5 g).bind fun x7 =>
  some ((x1 - x3) - x7)
def f_X7_blockNumber (b : Nat) (g : HP) : Option Int32 :=
  (gfR 8 7 (some b) g).bind fun r1 =>
  (if r1 = none then
  some (-1)
  else
  (gfR 8 7 (some b) g).bind fun r2 =>
  (gfI 1 0 r2 g).bind fun x3 =>
  some x3)
def f_X7_pieceNumber (b : Nat) (g : HP) : Option Int32 :=
  (gfR 8 8 (some b) g).bind fun r1 =>
  (if r1 = none then
  some (-1)
  else
  (gfR 8 8 (some b) g).bind fun r2 =>
  (gfI 5 0 r2 g).bind fun x3 =>
  some x3)
def f_X7_pay (b : Nat) (s1 : Int32) (g : HP) : Option Int32 :=
  (rcv 8 (some b) g).bind fun b1 =>
  (f_X7_runs b1 g).bind fun x2 =>
  (if x2 = 0 then
  (gfI 8 9 (some b) g).bind fun x3 =>
  (if x3 = 2 then
  some 0
  else
  some (-s1))
  else
  (gfR 8 1 (some b) g).bind fun r4 =>
  (gfI 4 1 r4 g).bind fun x5 =>
  (rcv 8 (some b) g).bind fun b6 =>
  (f_X7_late b6 g).bind fun x7 =>
  some (x5 - (x7 / 2)))
def f_X8_init (b : Nat) (g : HP) : Option HP :=
  (pfI 9 0 (some b) 600 g).bind fun g1 =>
  (pfI 9 1 (some b) 240 g1).bind fun g2 =>
  some g2
def f_X8_endOfLongest_L18 (p18_0 : Nat) (p18_1 : Nat) (p18_5 : Option Nat) (w18 : HP) : Nat → Int32 → Int32 → Option Nat → Int32 → Option Int32
  | 0, _, _, _, _ => none
  | m18 + 1, u18_3, u18_4, u18_6, u18_7 =>
  (rcv 7 (some p18_1) w18).bind fun b3 =>
  (f_X6_count b3 w18).bind fun x4 =>
  (if x4 ≤ u18_7 then
  some u18_3
  else
  (if p18_5 = none then
  some u18_3
  else
  (gfR 7 0 (some p18_1) w18).bind fun r5 =>
  (rcv 0 r5 w18).bind fun b6 =>
  (al_get b6 u18_7 w18).bind fun r7 =>
  (cst 8 r7 w18).bind fun r8 =>
  (if u18_6 = none then
  (gfI 8 5 r8 w18).bind fun x9 =>
  (gfI 9 1 (some p18_0) w18).bind fun x10 =>
  (if x10 < u18_4 + x9 then
  some u18_3
  else
  (rcv 8 r8 w18).bind fun b11 =>
  (f_X7_end b11 w18).bind fun x12 =>
  (gfI 8 4 p18_5 w18).bind fun x13 =>
  (gfI 9 0 (some p18_0) w18).bind fun x14 =>
  (if x12 - x13 ≤ x14 then
  (gfR 8 3 (some b11) w18).bind fun r15 =>
  (gfI 6 3 r15 w18).bind fun x16 =>
  (if x16 = 0 then
  (rcv 7 (some p18_1) w18).bind fun b17 =>
  (f_X6_count b17 w18).bind fun x18 =>
  (if u18_7 = x18 - 1 then
  f_X8_endOfLongest_L18 p18_0 p18_1 p18_5 w18 m18 u18_7 (u18_4 + x9) (some b11) (u18_7 + 1)
  else
  f_X8_endOfLongest_L18 p18_0 p18_1 p18_5 w18 m18 u18_3 (u18_4 + x9) (some b11) (u18_7 + 1))
  else
  f_X8_endOfLongest_L18 p18_0 p18_1 p18_5 w18 m18 u18_7 (u18_4 + x9) (some b11) (u18_7 + 1))
  else
  some u18_3))
  else
  (rcv 8 u18_6 w18).bind fun b19 =>
  (f_X7_emptyTo b19 r8 w18).bind fun x20 =>
  (gfI 9 1 (some p18_0) w18).bind fun x21 =>
  (if u18_4 + x20 ≤ x21 then
  (rcv 8 r8 w18).bind fun b22 =>
  (f_X7_waitBehind b22 (some b19) w18).bind fun x23 =>
  ((if x23 < 20 then
  some (u18_4 + x20)
  else
  some (0 : Int32))).bind fun q24 =>
  (gfI 8 5 (some b22) w18).bind fun x25 =>
  (gfI 9 1 (some p18_0) w18).bind fun x26 =>
  (if x26 < q24 + x25 then
  some u18_3
  else
  (rcv 8 (some b22) w18).bind fun b27 =>
  (f_X7_end b27 w18).bind fun x28 =>
  (gfI 8 4 p18_5 w18).bind fun x29 =>
  (gfI 9 0 (some p18_0) w18).bind fun x30 =>
  (if x28 - x29 ≤ x30 then
  (gfR 8 3 (some b22) w18).bind fun r31 =>
  (gfI 6 3 r31 w18).bind fun x32 =>
  (if x32 = 0 then
  (rcv 7 (some p18_1) w18).bind fun b33 =>
  (f_X6_count b33 w18).bind fun x34 =>
  (if u18_7 = x34 - 1 then
  f_X8_endOfLongest_L18 p18_0 p18_1 p18_5 w18 m18 u18_7 (q24 + x25) (some b22) (u18_7 + 1)
  else
  f_X8_endOfLongest_L18 p18_0 p18_1 p18_5 w18 m18 u18_3 (q24 + x25) (some b22) (u18_7 + 1))
  else
  f_X8_endOfLongest_L18 p18_0 p18_1 p18_5 w18 m18 u18_7 (q24 + x25) (some b22) (u18_7 + 1))
  else
  some u18_3))
  else
  some u18_3))))
def f_X8_endOfLongest (b : Nat) (s1 : Option Nat) (s2 : Int32) (g : HP) : Option Int32 :=
  (rcv 7 s1 g).bind fun b1 =>
  (f_X6_get b1 s2 g).bind fun r2 =>
  (f_X8_endOfLongest_L18 b b1 r2 g FU (-1) 0 none s2).bind fun q35 =>
  some q35
def f_X8_planPieces_L5 (p5_0 : Nat) (p5_1 : Option Nat) (p5_2 : Option Nat) : Nat → Int32 → Int32 → HP → Option (Int32 × HP)
  | 0, _, _, _ => none
  | m5 + 1, u5_3, u5_4, w5 =>
  (rcv 7 p5_1 w5).bind fun b1 =>
  (f_X6_count b1 w5).bind fun x2 =>
  (if x2 ≤ u5_3 then
  some (u5_4, w5)
  else
  (lnI p5_2 w5).bind fun x3 =>
  (if x3 ≤ u5_4 then
  some (u5_4, w5)
  else
  (rcv 9 (some p5_0) w5).bind fun b4 =>
  (f_X8_endOfLongest b4 (some b1) u5_3 w5).bind fun x5 =>
  (if u5_3 ≤ x5 then
  (stI p5_2 u5_4 x5 w5).bind fun g6 =>
  f_X8_planPieces_L5 p5_0 p5_1 p5_2 m5 (x5 + 1) (u5_4 + 1) g6
  else
  some (0, w5))))
def f_X8_planPieces (b : Nat) (s1 : Option Nat) (s2 : Option Nat) (g : HP) : Option (Int32 × HP) :=
  f_X8_planPieces_L5 b s1 s2 FU 0 0 g
def f_X9_init_L153 (p153_0 : Nat) : Nat → Int32 → HP → Option HP
  | 0, _, _ => none
  | m153 + 1, u153_1, w153 =>
  (if 8 ≤ u153_1 then
  some w153
  else
  (gfR 10 0 (some p153_0) w153).bind fun r30 =>
  (f_X5_init (nx w153) u153_1 (newG w153 7 4 [] [])).bind fun g31 =>
  (rcv 0 r30 g31).bind fun b32 =>
  (al_add b32 (some (nx w153)) g31).bind fun v33 =>
  f_X9_init_L153 p153_0 m153 (u153_1 + 1) v33.2)
def f_X9_init_L183 (p183_0 : Nat) : Nat → Int32 → HP → Option HP
  | 0, _, _ => none
  | m183 + 1, u183_1, w183 =>
  (if 4 ≤ u183_1 then
  some w183
  else
  (gfR 10 1 (some p183_0) w183).bind fun r35 =>
  (f_X3_init (nx w183) u183_1 (newG w183 5 3 [] [])).bind fun g36 =>
  (rcv 0 r35 g36).bind fun b37 =>
  (al_add b37 (some (nx w183)) g36).bind fun v38 =>
  f_X9_init_L183 p183_0 m183 (u183_1 + 1) v38.2)
def f_X9_init (b : Nat) (g : HP) : Option HP :=
  (al_init (nx g) (newG g 31 3 [] [])).bind fun g1 =>
  (pfR 10 0 (some b) (some (nx g)) g1).bind fun g2 =>
  (al_init (nx g2) (newG g2 31 3 [] [])).bind fun g3 =>
  (pfR 10 1 (some b) (some (nx g2)) g3).bind fun g4 =>
  (al_init (nx g4) (newG g4 31 3 [] [])).bind fun g5 =>
  (pfR 10 2 (some b) (some (nx g4)) g5).bind fun g6 =>
  (al_init (nx g6) (newG g6 31 3 [] [])).bind fun g7 =>
  (pfR 10 3 (some b) (some (nx g6)) g7).bind fun g8 =>
  (al_init (nx g8) (newG g8 31 3 [] [])).bind fun g9 =>
  (pfR 10 4 (some b) (some (nx g8)) g9).bind fun g10 =>
  (al_init (nx g10) (newG g10 31 3 [] [])).bind fun g11 =>
  (pfR 10 5 (some b) (some (nx g10)) g11).bind fun g12 =>
  (f_X8_init (nx g12) (newG g12 10 2 [] [])).bind fun g13 =>
  (pfR 10 7 (some b) (some (nx g12)) g13).bind fun g14 =>
  (pfI 10 9 (some b) 5 g14).bind fun g15 =>
  (f_X6_init (nx g15) (newG g15 8 1 [] [])).bind fun g16 =>
  (pfR 10 10 (some b) (some (nx g15)) g16).bind fun g17 =>
  (f_X6_init (nx g17) (newG g17 8 1 [] [])).bind fun g18 =>
  (pfR 10 11 (some b) (some (nx g17)) g18).bind fun g19 =>
  (nwI 20 16 g19).bind fun a20 =>
  (pfR 10 12 (some b) (some a20.1) a20.2).bind fun g21 =>
  (f_X2_init (nx g21) (newG g21 4 2 [] [])).bind fun g22 =>
  (pfR 10 13 (some b) (some (nx g21)) g22).bind fun g23 =>
  (f_X5_init (nx g23) 0 (newG g23 7 4 [] [])).bind fun g24 =>
  (pfR 10 6 (some b) (some (nx g23)) g24).bind fun g25 =>
  (gfR 10 0 (some b) g25).bind fun r26 =>
  (gfR 10 6 (some b) g25).bind fun r27 =>
  (rcv 0 r26 g25).bind fun b28 =>
  (al_add b28 r27 g25).bind fun v29 =>
  (f_X9_init_L153 b FU 1 v29.2).bind fun q34 =>
  (f_X9_init_L183 b FU 0 q34).bind fun q39 =>
  some q39
def f_X9_placeNumbered (b : Nat) (s1 : Int32) (g : HP) : Option (Option Nat) :=
  (if s1 < 0 then
  some none
  else
  (gfR 10 0 (some b) g).bind fun r1 =>
  (rcv 0 r1 g).bind fun b2 =>
  (al_size b2 g).bind fun x3 =>
  (if x3 ≤ s1 then
  some none
  else
  (gfR 10 0 (some b) g).bind fun r4 =>
  (rcv 0 r4 g).bind fun b5 =>
  (al_get b5 s1 g).bind fun r6 =>
  (cst 6 r6 g).bind fun r7 =>
  some r7))
def f_X9_isOutside (s1 : Int32) (s2 : Int32) (s3 : Int32) (g : HP) : Option Int32 :=
  (if s1 < s2 then
  some 1
  else
  (if s1 ≤ s3 then
  some 0
  else
  some 1))
def f_X9_place (b : Nat) (s1 : Int32) (s2 : Int32) (s3 : Int32) (s4 : Int32) (g : HP) : Option (Int32 × HP) :=
  (rcv 10 (some b) g).bind fun b1 =>
  (f_X9_placeNumbered b1 s1 g).bind fun r2 =>
  (if r2 = none then
  none
  else
  (f_X9_isOutside s2 0 60 g).bind fun x3 =>
  (if x3 = 0 then
  (f_X9_isOutside s3 0 5 g).bind fun x4 =>
  (if x4 = 0 then
  (gfR 10 2 (some b) g).bind fun r5 =>
  (rcv 0 r5 g).bind fun b6 =>
  (al_isEmpty b6 g).bind fun x7 =>
  (if x7 = 0 then
  none
  else
  (gfI 6 1 r2 g).bind fun x8 =>
  (pfI 6 1 r2 s2 g).bind fun g9 =>
  (pfI 6 2 r2 s3 g9).bind fun g10 =>
  (if s4 = 0 then
  (gfR 10 6 (some b) g10).bind fun r11 =>
  (if r2 = r11 then
  (pfZ 6 3 r2 1 g10).bind fun g12 =>
  some (x8, g12)
  else
  (pfZ 6 3 r2 0 g10).bind fun g13 =>
  some (x8, g13))
  else
  (pfZ 6 3 r2 1 g10).bind fun g14 =>
  some (x8, g14)))
  else
  none)
  else
  none))
def f_X9_lineNumbered (b : Nat) (s1 : Int32) (g : HP) : Option (Option Nat) :=
  (if s1 < 0 then
  some none
  else
  (gfR 10 1 (some b) g).bind fun r1 =>
  (rcv 0 r1 g).bind fun b2 =>
  (al_size b2 g).bind fun x3 =>
  (if x3 ≤ s1 then
  some none
  else
  (gfR 10 1 (some b) g).bind fun r4 =>
  (rcv 0 r4 g).bind fun b5 =>
  (al_get b5 s1 g).bind fun r6 =>
  (cst 4 r6 g).bind fun r7 =>
  some r7))
def f_X9_line (b : Nat) (s1 : Int32) (s2 : Int32) (s3 : Int32) (g : HP) : Option (Int32 × HP) :=
  (rcv 10 (some b) g).bind fun b1 =>
  (f_X9_lineNumbered b1 s1 g).bind fun r2 =>
  (if r2 = none then
  none
  else
  (f_X9_isOutside s2 0 99 g).bind fun x3 =>
  (if x3 = 0 then
  (gfI 4 1 r2 g).bind fun x4 =>
  (pfI 4 1 r2 s2 g).bind fun g5 =>
  (pfZ 4 2 r2 s3 g5).bind fun g6 =>
  some (x4, g6)
  else
  none))
def f_X9_addByStart_L2 (p2_0 : Nat) (p2_1 : Option Nat) (w2 : HP) : Nat → Int32 → Option Int32
  | 0, _ => none
  | m2 + 1, u2_2 =>
  (gfR 10 3 (some p2_0) w2).bind fun r1 =>
  (rcv 0 r1 w2).bind fun b2 =>
  (al_size b2 w2).bind fun x3 =>
  (if x3 ≤ u2_2 then
  some u2_2
  else
  (gfR 10 3 (some p2_0) w2).bind fun r4 =>
  (rcv 0 r4 w2).bind fun b5 =>
  (al_get b5 u2_2 w2).bind fun r6 =>
  (cst 8 r6 w2).bind fun r7 =>
  (gfI 8 4 r7 w2).bind fun x8 =>
  (gfI 8 4 p2_1 w2).bind fun x9 =>
  (if x9 < x8 then
  some u2_2
  else
  f_X9_addByStart_L2 p2_0 p2_1 w2 m2 (u2_2 + 1)))
def f_X9_addByStart (b : Nat) (s1 : Option Nat) (g : HP) : Option HP :=
  (f_X9_addByStart_L2 b s1 g FU 0).bind fun q10 =>
  (gfR 10 3 (some b) g).bind fun r11 =>
  (rcv 0 r11 g).bind fun b12 =>
  (al_addAt b12 q10 s1 g).bind fun g13 =>
  some g13
def f_X9_trip (b : Nat) (s1 : Int32) (s2 : Int32) (s3 : Int32) (s4 : Int32) (s5 : Int32) (g : HP) : Option (Int32 × HP) :=
  (rcv 10 (some b) g).bind fun b1 =>
  (f_X9_lineNumbered b1 s1 g).bind fun r2 =>
  (rcv 10 (some b) g).bind fun b3 =>
  (f_X9_placeNumbered b3 s2 g).bind fun r4 =>
  (rcv 10 (some b) g).bind fun b5 =>
  (f_X9_placeNumbered b5 s3 g).bind fun r6 =>
  (if r2 = none then
  none
  else
  (if r4 = none then
  none
  else
  (if r6 = none then
  none
  else
  (f_X9_isOutside s4 0 1439 g).bind fun x7 =>
  (if x7 = 0 then
  (f_X9_isOutside s5 5 120 g).bind fun x8 =>
  (if x8 = 0 then
  (gfR 10 2 (some b) g).bind fun r9 =>
  (rcv 0 r9 g).bind fun b10 =>
  (al_size b10 g).bind fun x11 =>
  (if x11 < 16 then
  (f_X7_init (nx g) x11 r2 r4 r6 s4 s5 (newG g 9 12 [] [])).bind fun g12 =>
  (gfR 10 2 (some b) g12).bind fun r13 =>
  (rcv 0 r13 g12).bind fun b14 =>
  (al_add b14 (some (nx g)) g12).bind fun v15 =>
  (rcv 10 (some b) v15.2).bind fun b16 =>
  (f_X9_addByStart b16 (some (nx g)) v15.2).bind fun g17 =>
  some (x11, g17)
  else
  none)
  else
  none)
  else
  none))))
def f_X9_driver (b : Nat) (g : HP) : Option (Int32 × HP) :=
  (gfR 10 5 (some b) g).bind fun r1 =>
  (rcv 0 r1 g).bind fun b2 =>
  (al_size b2 g).bind fun x3 =>
  (if x3 < 6 then
  (gfR 10 5 (some b) g).bind fun r4 =>
  (f_X1_init (nx g) x3 (newG g 3 3 [] [])).bind fun g5 =>
  (rcv 0 r4 g5).bind fun b6 =>
  (al_add b6 (some (nx g)) g5).bind fun v7 =>
  some (x3, v7.2)
  else
  none)
def f_X9_newBlock (b : Nat) (s1 : Int32) (g : HP) : Option (Option Nat × HP) :=
  (gfR 10 4 (some b) (newG g 2 5 [] [])).bind fun r1 =>
  (rcv 0 r1 (newG g 2 5 [] [])).bind fun b2 =>
  (al_size b2 (newG g 2 5 [] [])).bind fun x3 =>
  (f_X0_init (nx g) x3 s1 (newG g 2 5 [] [])).bind fun g4 =>
  (gfR 10 4 (some b) g4).bind fun r5 =>
  (rcv 0 r5 g4).bind fun b6 =>
  (al_add b6 (some (nx g)) g4).bind fun v7 =>
  some ((some (nx g)), v7.2)
def f_X9_block (b : Nat) (s1 : Int32) (g : HP) : Option (Int32 × HP) :=
  (f_X9_isOutside s1 50 999 g).bind fun x1 =>
  (if x1 = 0 then
  (gfR 10 4 (some b) g).bind fun r2 =>
  (rcv 0 r2 g).bind fun b3 =>
  (al_size b3 g).bind fun x4 =>
  (if x4 < 8 then
  (rcv 10 (some b) g).bind fun b5 =>
  (f_X9_newBlock b5 s1 g).bind fun v6 =>
  (gfI 1 0 v6.1 v6.2).bind fun x7 =>
  some (x7, v6.2)
  else
  none)
  else
  none)
def f_X9_tripNumbered (b : Nat) (s1 : Int32) (g : HP) : Option (Option Nat) :=
  (if s1 < 0 then
  some none
  else
  (gfR 10 2 (some b) g).bind fun r1 =>
  (rcv 0 r1 g).bind fun b2 =>
  (al_size b2 g).bind fun x3 =>
  (if x3 ≤ s1 then
  some none
  else
  (gfR 10 2 (some b) g).bind fun r4 =>
  (rcv 0 r4 g).bind fun b5 =>
  (al_get b5 s1 g).bind fun r6 =>
  (cst 8 r6 g).bind fun r7 =>
  some r7))
def f_X9_blockNumbered (b : Nat) (s1 : Int32) (g : HP) : Option (Option Nat) :=
  (if s1 < 0 then
  some none
  else
  (gfR 10 4 (some b) g).bind fun r1 =>
  (rcv 0 r1 g).bind fun b2 =>
  (al_size b2 g).bind fun x3 =>
  (if x3 ≤ s1 then
  some none
  else
  (gfR 10 4 (some b) g).bind fun r4 =>
  (rcv 0 r4 g).bind fun b5 =>
  (al_get b5 s1 g).bind fun r6 =>
  (cst 1 r6 g).bind fun r7 =>
  some r7))
def f_X9_append (b : Nat) (s1 : Int32) (s2 : Int32) (g : HP) : Option (Int32 × HP) :=
  (rcv 10 (some b) g).bind fun b1 =>
  (f_X9_blockNumbered b1 s1 g).bind fun r2 =>
  (rcv 10 (some b) g).bind fun b3 =>
  (f_X9_tripNumbered b3 s2 g).bind fun r4 =>
  (if r2 = none then
  none
  else
  (if r4 = none then
  none
  else
  (gfR 1 3 r2 g).bind fun r5 =>
  (rcv 7 r5 g).bind fun b6 =>
  (f_X6_last b6 g).bind fun r7 =>
  (gfR 8 7 r4 g).bind fun r8 =>
  (if r8 = none then
  ((if r7 = none then
  some r4
  else
  (rcv 8 r4 g).bind fun b9 =>
  (f_X7_canFollow b9 r7 g).bind fun x10 =>
  (if x10 = 0 then
  none
  else
  some (some b9)))).bind fun q11 =>
  (rcv 1 r2 g).bind fun b12 =>
  (f_X0_addTrip b12 q11 g).bind fun g13 =>
  (gfR 1 3 (some b12) g13).bind fun r14 =>
  (rcv 7 r14 g13).bind fun b15 =>
  (f_X6_count b15 g13).bind fun x16 =>
  some (x16, g13)
  else
  none)))
def f_X9_takeOff (b : Nat) (s1 : Int32) (g : HP) : Option (Int32 × HP) :=
  (rcv 10 (some b) g).bind fun b1 =>
  (f_X9_blockNumbered b1 s1 g).bind fun r2 =>
  (if r2 = none then
  none
  else
  (rcv 1 r2 g).bind fun b3 =>
  (f_X0_removeLastTrip b3 g).bind fun v4 =>
  (if v4.1 = none then
  none
  else
  (gfI 8 0 v4.1 v4.2).bind fun x5 =>
  some (x5, v4.2)))
def f_X9_isFlat (b : Nat) (s1 : Option Nat) (s2 : Int32) (g : HP) : Option Int32 :=
  (gfR 10 6 (some b) g).bind fun r1 =>
  (gfI 10 8 (some b) g).bind fun x2 =>
  (rcv 7 s1 g).bind fun b3 =>
  (f_X6_leastCharge b3 r1 s2 x2 g).bind fun x4 =>
  (if 0 ≤ x4 then
  some 0
  else
  some 1)
def f_X9_wouldBeFlat (b : Nat) (s1 : Option Nat) (s2 : Option Nat) (s3 : Int32) (g : HP) : Option (Int32 × HP) :=
  (gfR 10 10 (some b) g).bind fun r1 =>
  (rcv 7 r1 g).bind fun b2 =>
  (f_X6_copy b2 s1 g).bind fun g3 =>
  (gfR 10 10 (some b) g3).bind fun r4 =>
  (gfR 7 0 r4 g3).bind fun r5 =>
  (rcv 0 r5 g3).bind fun b6 =>
  (al_add b6 s2 g3).bind fun v7 =>
  (gfR 10 10 (some b) v7.2).bind fun r8 =>
  (rcv 10 (some b) v7.2).bind fun b9 =>
  (f_X9_isFlat b9 r8 s3 v7.2).bind fun x10 =>
  (retZ x10).bind fun z => some (z, v7.2)
def f_X9_nearestBlock_L7 (p7_0 : Nat) (p7_1 : Option Nat) : Nat → Option Nat → Int32 → Int32 → HP → Option ((Option Nat) × HP)
  | 0, _, _, _, _ => none
  | m7 + 1, u7_2, u7_3, u7_4, w7 =>
  (gfR 10 4 (some p7_0) w7).bind fun r1 =>
  (rcv 0 r1 w7).bind fun b2 =>
  (al_size b2 w7).bind fun x3 =>
  (if x3 ≤ u7_4 then
  some (u7_2, w7)
  else
  (gfR 10 4 (some p7_0) w7).bind fun r4 =>
  (rcv 0 r4 w7).bind fun b5 =>
  (al_get b5 u7_4 w7).bind fun r6 =>
  (cst 1 r6 w7).bind fun r7 =>
  (gfR 1 3 r7 w7).bind fun r8 =>
  (rcv 7 r8 w7).bind fun b9 =>
  (f_X6_last b9 w7).bind fun r10 =>
  (if r10 = none then
  f_X9_nearestBlock_L7 p7_0 p7_1 m7 u7_2 u7_3 (u7_4 + 1) w7
  else
  (rcv 8 p7_1 w7).bind fun b11 =>
  (f_X7_canFollow b11 r10 w7).bind fun x12 =>
  (if x12 = 0 then
  f_X9_nearestBlock_L7 p7_0 p7_1 m7 u7_2 u7_3 (u7_4 + 1) w7
  else
  (if u7_2 = none then
  (gfR 1 3 r7 w7).bind fun r13 =>
  (gfI 1 1 r7 w7).bind fun x14 =>
  (rcv 10 (some p7_0) w7).bind fun b15 =>
  (f_X9_wouldBeFlat b15 r13 (some b11) x14 w7).bind fun v16 =>
  (if v16.1 = 0 then
  (rcv 8 r10 v16.2).bind fun b17 =>
  (f_X7_emptyTo b17 (some b11) v16.2).bind fun x18 =>
  f_X9_nearestBlock_L7 p7_0 p7_1 m7 r7 x18 (u7_4 + 1) v16.2
  else
  f_X9_nearestBlock_L7 p7_0 p7_1 m7 u7_2 u7_3 (u7_4 + 1) v16.2)
  else
  (rcv 8 r10 w7).bind fun b19 =>
  (f_X7_emptyTo b19 (some b11) w7).bind fun x20 =>
  (if u7_3 ≤ x20 then
  f_X9_nearestBlock_L7 p7_0 p7_1 m7 u7_2 u7_3 (u7_4 + 1) w7
  else
  (gfR 1 3 r7 w7).bind fun r21 =>
  (gfI 1 1 r7 w7).bind fun x22 =>
  (rcv 10 (some p7_0) w7).bind fun b23 =>
  (f_X9_wouldBeFlat b23 r21 (some b11) x22 w7).bind fun v24 =>
  (if v24.1 = 0 then
  (rcv 8 (some b19) v24.2).bind fun b25 =>
  (f_X7_emptyTo b25 (some b11) v24.2).bind fun x26 =>
  f_X9_nearestBlock_L7 p7_0 p7_1 m7 r7 x26 (u7_4 + 1) v24.2
  else
  f_X9_nearestBlock_L7 p7_0 p7_1 m7 u7_2 u7_3 (u7_4 + 1) v24.2))))))
def f_X9_nearestBlock (b : Nat) (s1 : Option Nat) (g : HP) : Option (Option Nat × HP) :=
  (f_X9_nearestBlock_L7 b s1 FU none 0 0 g).bind fun q27 =>
  some (q27.1, q27.2)
def f_X9_wouldBeFlatAlone (b : Nat) (s1 : Option Nat) (s2 : Int32) (g : HP) : Option (Int32 × HP) :=
  (gfR 10 10 (some b) g).bind fun r1 =>
  (gfR 7 0 r1 g).bind fun r2 =>
  (rcv 0 r2 g).bind fun b3 =>
  (al_clear b3 g).bind fun g4 =>
  (gfR 10 10 (some b) g4).bind fun r5 =>
  (gfR 7 0 r5 g4).bind fun r6 =>
  (rcv 0 r6 g4).bind fun b7 =>
  (al_add b7 s1 g4).bind fun v8 =>
  (gfR 10 10 (some b) v8.2).bind fun r9 =>
  (rcv 10 (some b) v8.2).bind fun b10 =>
  (f_X9_isFlat b10 r9 s2 v8.2).bind fun x11 =>
  (retZ x11).bind fun z => some (z, v8.2)
def f_X9_putIntoSomeBlock (b : Nat) (s1 : Option Nat) (s2 : Int32) (g : HP) : Option (Int32 × HP) :=
  (rcv 10 (some b) g).bind fun b1 =>
  (f_X9_nearestBlock b1 s1 g).bind fun v2 =>
  (if v2.1 = none then
  (gfR 10 4 (some b) v2.2).bind fun r3 =>
  (rcv 0 r3 v2.2).bind fun b4 =>
  (al_size b4 v2.2).bind fun x5 =>
  (if 8 ≤ x5 then
  some (0, v2.2)
  else
  (rcv 10 (some b) v2.2).bind fun b6 =>
  (f_X9_wouldBeFlatAlone b6 s1 s2 v2.2).bind fun v7 =>
  (if v7.1 = 0 then
  (rcv 10 (some b) v7.2).bind fun b8 =>
  (f_X9_newBlock b8 s2 v7.2).bind fun v9 =>
  (rcv 1 v9.1 v9.2).bind fun b10 =>
  (f_X0_addTrip b10 s1 v9.2).bind fun g11 =>
  some (1, g11)
  else
  some (0, v7.2)))
  else
  (rcv 1 v2.1 v2.2).bind fun b12 =>
  (f_X0_addTrip b12 s1 v2.2).bind fun g13 =>
  some (1, g13))
def f_X9_build_L26 (p26_0 : Nat) (p26_1 : Int32) : Nat → Int32 → Int32 → HP → Option (Int32 × HP)
  | 0, _, _, _ => none
  | m26 + 1, u26_2, u26_3, w26 =>
  (gfR 10 3 (some p26_0) w26).bind fun r2 =>
  (rcv 0 r2 w26).bind fun b3 =>
  (al_size b3 w26).bind fun x4 =>
  (if x4 ≤ u26_3 then
  some (u26_2, w26)
  else
  (gfR 10 3 (some p26_0) w26).bind fun r5 =>
  (rcv 0 r5 w26).bind fun b6 =>
  (al_get b6 u26_3 w26).bind fun r7 =>
  (cst 8 r7 w26).bind fun r8 =>
  (gfR 8 7 r8 w26).bind fun r9 =>
  (if r9 = none then
  (rcv 10 (some p26_0) w26).bind fun b10 =>
  (f_X9_putIntoSomeBlock b10 r8 p26_1 w26).bind fun v11 =>
  (if v11.1 = 0 then
  f_X9_build_L26 p26_0 p26_1 m26 u26_2 (u26_3 + 1) v11.2
  else
  f_X9_build_L26 p26_0 p26_1 m26 (u26_2 + 1) (u26_3 + 1) v11.2)
  else
  f_X9_build_L26 p26_0 p26_1 m26 u26_2 (u26_3 + 1) w26))
def f_X9_build (b : Nat) (s1 : Int32) (g : HP) : Option (Int32 × HP) :=
  (f_X9_isOutside s1 50 999 g).bind fun x1 =>
  (if x1 = 0 then
  (f_X9_build_L26 b s1 FU 0 0 g).bind fun q12 =>
  some (q12.1, q12.2)
  else
  none)
def f_X9_canJoin (s1 : Option Nat) (s2 : Int32) (s3 : Option Nat) (s4 : Int32) (g : HP) : Option Int32 :=
  (rcv 7 s1 g).bind fun b1 =>
  (f_X6_get b1 (s2 - 1) g).bind fun r2 =>
  (rcv 7 s3 g).bind fun b3 =>
  (f_X6_get b3 s4 g).bind fun r4 =>
  (if r2 = none then
  some 1
  else
  (if r4 = none then
  some 1
  else
  (rcv 8 r4 g).bind fun b5 =>
  (f_X7_canFollow b5 r2 g).bind fun x6 =>
  (if x6 = 0 then
  some 0
  else
  some 1)))
def f_X9_canSwap (s1 : Option Nat) (s2 : Int32) (s3 : Option Nat) (s4 : Int32) (g : HP) : Option Int32 :=
  (f_X9_canJoin s1 s2 s3 s4 g).bind fun x1 =>
  (if x1 = 0 then
  some 0
  else
  (f_X9_canJoin s3 s4 s1 s2 g).bind fun x2 =>
  (if x2 = 0 then
  some 0
  else
  some 1))
def f_X9_trySwap (b : Nat) (s1 : Option Nat) (s2 : Int32) (s3 : Option Nat) (s4 : Int32) (g : HP) : Option HP :=
  (gfR 10 10 (some b) g).bind fun r1 =>
  (rcv 7 r1 g).bind fun b2 =>
  (f_X6_join b2 s1 s2 s3 s4 g).bind fun g3 =>
  (gfR 10 11 (some b) g3).bind fun r4 =>
  (rcv 7 r4 g3).bind fun b5 =>
  (f_X6_join b5 s3 s4 s1 s2 g3).bind fun g6 =>
  some g6
def f_X9_swap (b : Nat) (s1 : Int32) (s2 : Int32) (s3 : Int32) (s4 : Int32) (g : HP) : Option (Int32 × HP) :=
  (rcv 10 (some b) g).bind fun b1 =>
  (f_X9_blockNumbered b1 s1 g).bind fun r2 =>
  (rcv 10 (some b) g).bind fun b3 =>
  (f_X9_blockNumbered b3 s3 g).bind fun r4 =>
  (if r2 = none then
  none
  else
  (if r4 = none then
  none
  else
  (gfR 1 3 r2 g).bind fun r5 =>
  (gfR 1 3 r4 g).bind fun r6 =>
  (if s1 = s3 then
  none
  else
  (rcv 7 r5 g).bind fun b7 =>
  (f_X6_count b7 g).bind fun x8 =>
  (f_X9_isOutside s2 0 x8 g).bind fun x9 =>
  (if x9 = 0 then
  (rcv 7 r6 g).bind fun b10 =>
  (f_X6_count b10 g).bind fun x11 =>
  (f_X9_isOutside s4 0 x11 g).bind fun x12 =>
  (if x12 = 0 then
  (f_X9_canSwap (some b7) s2 (some b10) s4 g).bind fun x13 =>
  (if x13 = 0 then
  none
  else
  (rcv 7 (some b7) g).bind fun b14 =>
  (f_X6_count b14 g).bind fun x15 =>
  (rcv 7 (some b10) g).bind fun b16 =>
  (f_X6_count b16 g).bind fun x17 =>
  (rcv 10 (some b) g).bind fun b18 =>
  (f_X9_trySwap b18 (some b7) s2 (some b10) s4 g).bind fun g19 =>
  (gfR 10 10 (some b) g19).bind fun r20 =>
  (rcv 1 r2 g19).bind fun b21 =>
  (f_X0_takeOver b21 r20 g19).bind fun g22 =>
  (gfR 10 11 (some b) g22).bind fun r23 =>
  (rcv 1 r4 g22).bind fun b24 =>
  (f_X0_takeOver b24 r23 g22).bind fun g25 =>
  some (((x15 - s2) + x17) - s4, g25))
  else
  none)
  else
  none))))
def f_X9_cut (b : Nat) (s1 : Int32) (g : HP) : Option (Int32 × HP) :=
  (rcv 10 (some b) g).bind fun b1 =>
  (f_X9_blockNumbered b1 s1 g).bind fun r2 =>
  (if r2 = none then
  none
  else
  (gfR 10 7 (some b) g).bind fun r3 =>
  (gfR 1 3 r2 g).bind fun r4 =>
  (gfR 10 12 (some b) g).bind fun r5 =>
  (rcv 9 r3 g).bind fun b6 =>
  (f_X8_planPieces b6 r4 r5 g).bind fun v7 =>
  (if v7.1 = 0 then
  none
  else
  (gfR 10 12 (some b) v7.2).bind fun r8 =>
  (rcv 1 r2 v7.2).bind fun b9 =>
  (f_X0_cutAt b9 r8 v7.1 v7.2).bind fun g10 =>
  some (v7.1, g10)))
def f_X9_driverNumbered (b : Nat) (s1 : Int32) (g : HP) : Option (Option Nat) :=
  (if s1 < 0 then
  some none
  else
  (gfR 10 5 (some b) g).bind fun r1 =>
  (rcv 0 r1 g).bind fun b2 =>
  (al_size b2 g).bind fun x3 =>
  (if x3 ≤ s1 then
  some none
  else
  (gfR 10 5 (some b) g).bind fun r4 =>
  (rcv 0 r4 g).bind fun b5 =>
  (al_get b5 s1 g).bind fun r6 =>
  (cst 2 r6 g).bind fun r7 =>
  some r7))
def f_X9_pieceNumbered (b : Nat) (s1 : Int32) (s2 : Int32) (g : HP) : Option (Option Nat) :=
  (rcv 10 (some b) g).bind fun b1 =>
  (f_X9_blockNumbered b1 s1 g).bind fun r2 =>
  (if r2 = none then
  some none
  else
  (rcv 1 r2 g).bind fun b3 =>
  (f_X0_pieceNumbered b3 s2 g).bind fun r4 =>
  some r4)
def f_X9_give (b : Nat) (s1 : Int32) (s2 : Int32) (s3 : Int32) (g : HP) : Option (Int32 × HP) :=
  (rcv 10 (some b) g).bind fun b1 =>
  (f_X9_pieceNumbered b1 s1 s2 g).bind fun r2 =>
  (rcv 10 (some b) g).bind fun b3 =>
  (f_X9_driverNumbered b3 s3 g).bind fun r4 =>
  (if r2 = none then
  none
  else
  (if r4 = none then
  none
  else
  (gfR 5 5 r2 g).bind fun r5 =>
  (if r5 = none then
  (rcv 2 r4 g).bind fun b6 =>
  (f_X1_canGet b6 r2 g).bind fun x7 =>
  (if x7 = 0 then
  none
  else
  (pfR 5 5 r2 (some b6) g).bind fun g8 =>
  (gfR 2 2 (some b6) g8).bind fun r9 =>
  (rcv 0 r9 g8).bind fun b10 =>
  (al_add b10 r2 g8).bind fun v11 =>
  (rcv 2 (some b6) v11.2).bind fun b12 =>
  (f_X1_minutes b12 v11.2).bind fun x13 =>
  some (x13, v11.2))
  else
  none)))
def f_X9_delay (b : Nat) (s1 : Int32) (s2 : Int32) (g : HP) : Option (Int32 × HP) :=
  (rcv 10 (some b) g).bind fun b1 =>
  (f_X9_tripNumbered b1 s1 g).bind fun r2 =>
  (if r2 = none then
  none
  else
  (f_X9_isOutside s2 0 120 g).bind fun x3 =>
  (if x3 = 0 then
  (gfI 8 6 r2 g).bind fun x4 =>
  (pfI 8 6 r2 s2 g).bind fun g5 =>
  some (x4, g5)
  else
  none))
def f_X9_breakdown (b : Nat) (s1 : Int32) (s2 : Int32) (g : HP) : Option (Int32 × HP) :=
  (rcv 10 (some b) g).bind fun b1 =>
  (f_X9_blockNumbered b1 s1 g).bind fun r2 =>
  (if r2 = none then
  none
  else
  (f_X9_isOutside s2 (-1) 1600 g).bind fun x3 =>
  (if x3 = 0 then
  (gfI 1 2 r2 g).bind fun x4 =>
  (pfI 1 2 r2 s2 g).bind fun g5 =>
  some (x4, g5)
  else
  none))
def f_X9_sick (b : Nat) (s1 : Int32) (s2 : Int32) (g : HP) : Option (Int32 × HP) :=
  (rcv 10 (some b) g).bind fun b1 =>
  (f_X9_driverNumbered b1 s1 g).bind fun r2 =>
  (if r2 = none then
  none
  else
  (gfI 2 1 r2 g).bind fun x3 =>
  (pfZ 2 1 r2 s2 g).bind fun g4 =>
  (retZ x3).bind fun z => some (z, g4))
def f_X9_runDay_L2 (p2_0 : Nat) : Nat → Int32 → HP → Option HP
  | 0, _, _ => none
  | m2 + 1, u2_1, w2 =>
  (gfR 10 2 (some p2_0) w2).bind fun r1 =>
  (rcv 0 r1 w2).bind fun b2 =>
  (al_size b2 w2).bind fun x3 =>
  (if x3 ≤ u2_1 then
  some w2
  else
  (gfR 10 2 (some p2_0) w2).bind fun r4 =>
  (rcv 0 r4 w2).bind fun b5 =>
  (al_get b5 u2_1 w2).bind fun r6 =>
  (cst 8 r6 w2).bind fun r7 =>
  (pfI 8 9 r7 1 w2).bind fun g8 =>
  f_X9_runDay_L2 p2_0 m2 (u2_1 + 1) g8)
def f_X9_runDay_L36 (p36_0 : Nat) : Nat → Int32 → HP → Option HP
  | 0, _, _ => none
  | m36 + 1, u36_1, w36 =>
  (gfR 10 4 (some p36_0) w36).bind fun r10 =>
  (rcv 0 r10 w36).bind fun b11 =>
  (al_size b11 w36).bind fun x12 =>
  (if x12 ≤ u36_1 then
  some w36
  else
  (gfR 10 4 (some p36_0) w36).bind fun r13 =>
  (rcv 0 r13 w36).bind fun b14 =>
  (al_get b14 u36_1 w36).bind fun r15 =>
  (cst 1 r15 w36).bind fun r16 =>
  (gfI 1 2 r16 w36).bind fun x17 =>
  (rcv 1 r16 w36).bind fun b18 =>
  (f_X0_lostIf b18 x17 none 0 w36).bind fun v19 =>
  f_X9_runDay_L36 p36_0 m36 (u36_1 + 1) v19.2)
def f_X9_runDay (b : Nat) (g : HP) : Option HP :=
  (f_X9_runDay_L2 b FU 0 g).bind fun q9 =>
  (f_X9_runDay_L36 b FU 0 q9).bind fun q20 =>
  some q20
def f_X9_ofTrip (b : Nat) (s1 : Int32) (s2 : Int32) (g : HP) : Option (Int32 × HP) :=
  (rcv 10 (some b) g).bind fun b1 =>
  (f_X9_tripNumbered b1 s1 g).bind fun r2 =>
  (if r2 = none then
  none
  else
  (f_X9_isOutside s2 0 10 g).bind fun x3 =>
  (if x3 = 0 then
  (rcv 10 (some b) g).bind fun b4 =>
  (f_X9_runDay b4 g).bind fun g5 =>
  (if s2 = 0 then
  (gfR 8 1 r2 g5).bind fun r6 =>
  (gfI 4 0 r6 g5).bind fun x7 =>
  some (x7, g5)
  else
  (if s2 = 1 then
  (gfR 8 2 r2 g5).bind fun r8 =>
  (gfI 6 0 r8 g5).bind fun x9 =>
  some (x9, g5)
  else
  (if s2 = 2 then
  (gfR 8 3 r2 g5).bind fun r10 =>
  (gfI 6 0 r10 g5).bind fun x11 =>
  some (x11, g5)
  else
  (if s2 = 3 then
  (gfI 8 4 r2 g5).bind fun x12 =>
  some (x12, g5)
  else
  (if s2 = 4 then
  (rcv 8 r2 g5).bind fun b13 =>
  (f_X7_end b13 g5).bind fun x14 =>
  some (x14, g5)
  else
  (if s2 = 5 then
  (gfI 8 6 r2 g5).bind fun x15 =>
  some (x15, g5)
  else
  (if s2 = 6 then
  (rcv 8 r2 g5).bind fun b16 =>
  (f_X7_blockNumber b16 g5).bind fun x17 =>
  some (x17, g5)
  else
  (if s2 = 7 then
  (rcv 8 r2 g5).bind fun b18 =>
  (f_X7_pieceNumber b18 g5).bind fun x19 =>
  some (x19, g5)
  else
  (if s2 = 8 then
  (gfI 8 9 r2 g5).bind fun x20 =>
  some (x20, g5)
  else
  (if s2 = 9 then
  (rcv 8 r2 g5).bind fun b21 =>
  (f_X7_runs b21 g5).bind fun x22 =>
  (if x22 = 0 then
  some ((-1), g5)
  else
  (rcv 8 (some b21) g5).bind fun b23 =>
  (f_X7_late b23 g5).bind fun x24 =>
  some (x24, g5))
  else
  (rcv 8 r2 g5).bind fun b25 =>
  (f_X7_runs b25 g5).bind fun x26 =>
  (if x26 = 0 then
  some ((-1), g5)
  else
  (gfI 8 11 (some b25) g5).bind fun x27 =>
  some (x27, g5))))))))))))
  else
  none))
def f_X9_ofBlock (b : Nat) (s1 : Int32) (s2 : Int32) (g : HP) : Option (Int32 × HP) :=
  (rcv 10 (some b) g).bind fun b1 =>
  (f_X9_blockNumbered b1 s1 g).bind fun r2 =>
  (if r2 = none then
  none
  else
  (f_X9_isOutside s2 0 7 g).bind fun x3 =>
  (if x3 = 0 then
  (if s2 = 0 then
  (gfI 1 1 r2 g).bind fun x4 =>
  some (x4, g)
  else
  (if s2 = 1 then
  (gfR 1 3 r2 g).bind fun r5 =>
  (rcv 7 r5 g).bind fun b6 =>
  (f_X6_count b6 g).bind fun x7 =>
  some (x7, g)
  else
  (if s2 = 2 then
  (gfI 1 2 r2 g).bind fun x8 =>
  some (x8, g)
  else
  (if s2 = 3 then
  (gfR 1 4 r2 g).bind fun r9 =>
  (rcv 0 r9 g).bind fun b10 =>
  (al_size b10 g).bind fun x11 =>
  some (x11, g)
  else
  (if s2 = 4 then
  (gfR 1 3 r2 g).bind fun r12 =>
  (gfI 1 1 r2 g).bind fun x13 =>
  (rcv 10 (some b) g).bind fun b14 =>
  (f_X9_isFlat b14 r12 x13 g).bind fun x15 =>
  (if x15 = 0 then
  some (0, g)
  else
  some (1, g))
  else
  (if s2 = 5 then
  (gfR 1 3 r2 g).bind fun r16 =>
  (gfR 10 6 (some b) g).bind fun r17 =>
  (gfI 1 1 r2 g).bind fun x18 =>
  (gfI 10 8 (some b) g).bind fun x19 =>
  (rcv 7 r16 g).bind fun b20 =>
  (f_X6_leastCharge b20 r17 x18 x19 g).bind fun x21 =>
  some (x21, g)
  else
  (if s2 = 6 then
  (gfR 1 3 r2 g).bind fun r22 =>
  (gfR 10 6 (some b) g).bind fun r23 =>
  (rcv 7 r22 g).bind fun b24 =>
  (f_X6_empty b24 r23 g).bind fun x25 =>
  some (x25, g)
  else
  (gfR 1 3 r2 g).bind fun r26 =>
  (rcv 7 r26 g).bind fun b27 =>
  (f_X6_count b27 g).bind fun x28 =>
  (rcv 1 r2 g).bind fun b29 =>
  (f_X0_lostNow b29 g).bind fun v30 =>
  some (x28 - v30.1, v30.2))))))))
  else
  none))
def f_X9_at (b : Nat) (s1 : Int32) (s2 : Int32) (g : HP) : Option Int32 :=
  (rcv 10 (some b) g).bind fun b1 =>
  (f_X9_blockNumbered b1 s1 g).bind fun r2 =>
  (if r2 = none then
  none
  else
  (if 0 ≤ s2 then
  (gfR 1 3 r2 g).bind fun r3 =>
  (rcv 7 r3 g).bind fun b4 =>
  (f_X6_get b4 s2 g).bind fun r5 =>
  (if r5 = none then
  some (-1)
  else
  (gfI 8 0 r5 g).bind fun x6 =>
  some x6)
  else
  none))
def f_X9_ofPiece (b : Nat) (s1 : Int32) (s2 : Int32) (s3 : Int32) (g : HP) : Option (Int32 × HP) :=
  (rcv 10 (some b) g).bind fun b1 =>
  (f_X9_pieceNumbered b1 s1 s2 g).bind fun r2 =>
  (if r2 = none then
  none
  else
  (f_X9_isOutside s3 0 5 g).bind fun x3 =>
  (if x3 = 0 then
  (rcv 10 (some b) g).bind fun b4 =>
  (f_X9_runDay b4 g).bind fun g5 =>
  (if s3 = 0 then
  (gfR 5 2 r2 g5).bind fun r6 =>
  (gfI 8 0 r6 g5).bind fun x7 =>
  some (x7, g5)
  else
  (if s3 = 1 then
  (gfR 5 3 r2 g5).bind fun r8 =>
  (gfI 8 0 r8 g5).bind fun x9 =>
  some (x9, g5)
  else
  (if s3 = 2 then
  (gfI 5 4 r2 g5).bind fun x10 =>
  some (x10, g5)
  else
  (if s3 = 3 then
  (rcv 5 r2 g5).bind fun b11 =>
  (f_X4_minutes b11 g5).bind fun x12 =>
  some (x12, g5)
  else
  (if s3 = 4 then
  (rcv 5 r2 g5).bind fun b13 =>
  (f_X4_driverNumber b13 g5).bind fun x14 =>
  some (x14, g5)
  else
  (rcv 5 r2 g5).bind fun b15 =>
  (f_X4_worked b15 g5).bind fun x16 =>
  some (x16, g5))))))
  else
  none))
def f_X9_ofDriver (b : Nat) (s1 : Int32) (s2 : Int32) (g : HP) : Option (Int32 × HP) :=
  (rcv 10 (some b) g).bind fun b1 =>
  (f_X9_driverNumbered b1 s1 g).bind fun r2 =>
  (if r2 = none then
  none
  else
  (f_X9_isOutside s2 0 4 g).bind fun x3 =>
  (if x3 = 0 then
  (rcv 10 (some b) g).bind fun b4 =>
  (f_X9_runDay b4 g).bind fun g5 =>
  (if s2 = 0 then
  (gfR 2 2 r2 g5).bind fun r6 =>
  (rcv 0 r6 g5).bind fun b7 =>
  (al_size b7 g5).bind fun x8 =>
  some (x8, g5)
  else
  (if s2 = 1 then
  (rcv 2 r2 g5).bind fun b9 =>
  (f_X1_minutes b9 g5).bind fun x10 =>
  some (x10, g5)
  else
  (if s2 = 2 then
  (gfI 2 1 r2 g5).bind fun x11 =>
  (if x11 = 0 then
  some (0, g5)
  else
  some (1, g5))
  else
  (if s2 = 3 then
  (rcv 2 r2 g5).bind fun b12 =>
  (f_X1_worked b12 g5).bind fun x13 =>
  some (x13, g5)
  else
  (rcv 2 r2 g5).bind fun b14 =>
  (f_X1_pay b14 g5).bind fun x15 =>
  some (x15, g5)))))
  else
  none))
def f_X9_countyPays_L4 (p4_0 : Nat) (w4 : HP) : Nat → Int32 → Int32 → Option Int32
  | 0, _, _ => none
  | m4 + 1, u4_1, u4_2 =>
  (gfR 10 2 (some p4_0) w4).bind fun r1 =>
  (rcv 0 r1 w4).bind fun b2 =>
  (al_size b2 w4).bind fun x3 =>
  (if x3 ≤ u4_2 then
  some u4_1
  else
  (gfR 10 2 (some p4_0) w4).bind fun r4 =>
  (rcv 0 r4 w4).bind fun b5 =>
  (al_get b5 u4_2 w4).bind fun r6 =>
  (cst 8 r6 w4).bind fun r7 =>
  (gfI 10 9 (some p4_0) w4).bind fun x8 =>
  (rcv 8 r7 w4).bind fun b9 =>
  (f_X7_pay b9 x8 w4).bind fun x10 =>
  f_X9_countyPays_L4 p4_0 w4 m4 (u4_1 + x10) (u4_2 + 1))
def f_X9_countyPays (b : Nat) (g : HP) : Option Int32 :=
  (f_X9_countyPays_L4 b g FU 0 0).bind fun q11 =>
  some q11
def f_X9_allEmpty_L4 (p4_0 : Nat) (w4 : HP) : Nat → Int32 → Int32 → Option Int32
  | 0, _, _ => none
  | m4 + 1, u4_1, u4_2 =>
  (gfR 10 4 (some p4_0) w4).bind fun r1 =>
  (rcv 0 r1 w4).bind fun b2 =>
  (al_size b2 w4).bind fun x3 =>
  (if x3 ≤ u4_2 then
  some u4_1
  else
  (gfR 10 4 (some p4_0) w4).bind fun r4 =>
  (rcv 0 r4 w4).bind fun b5 =>
  (al_get b5 u4_2 w4).bind fun r6 =>
  (cst 1 r6 w4).bind fun r7 =>
  (gfR 1 3 r7 w4).bind fun r8 =>
  (gfR 10 6 (some p4_0) w4).bind fun r9 =>
  (rcv 7 r8 w4).bind fun b10 =>
  (f_X6_empty b10 r9 w4).bind fun x11 =>
  f_X9_allEmpty_L4 p4_0 w4 m4 (u4_1 + x11) (u4_2 + 1))
def f_X9_allEmpty (b : Nat) (g : HP) : Option Int32 :=
  (f_X9_allEmpty_L4 b g FU 0 0).bind fun q12 =>
  some q12
def f_X9_greatestLate_L4 (p4_0 : Nat) (w4 : HP) : Nat → Int32 → Int32 → Option Int32
  | 0, _, _ => none
  | m4 + 1, u4_1, u4_2 =>
  (gfR 10 2 (some p4_0) w4).bind fun r1 =>
  (rcv 0 r1 w4).bind fun b2 =>
  (al_size b2 w4).bind fun x3 =>
  (if x3 ≤ u4_2 then
  some u4_1
  else
  (gfR 10 2 (some p4_0) w4).bind fun r4 =>
  (rcv 0 r4 w4).bind fun b5 =>
  (al_get b5 u4_2 w4).bind fun r6 =>
  (cst 8 r6 w4).bind fun r7 =>
  (rcv 8 r7 w4).bind fun b8 =>
  (f_X7_runs b8 w4).bind fun x9 =>
  (if x9 = 0 then
  f_X9_greatestLate_L4 p4_0 w4 m4 u4_1 (u4_2 + 1)
  else
  (rcv 8 (some b8) w4).bind fun b10 =>
  (f_X7_late b10 w4).bind fun x11 =>
  f_X9_greatestLate_L4 p4_0 w4 m4 (if u4_1 < x11 then x11 else u4_1) (u4_2 + 1)))
def f_X9_greatestLate (b : Nat) (g : HP) : Option Int32 :=
  (f_X9_greatestLate_L4 b g FU 0 0).bind fun q12 =>
  some q12
def f_X9_driversArePaid_L4 (p4_0 : Nat) (w4 : HP) : Nat → Int32 → Int32 → Option Int32
  | 0, _, _ => none
  | m4 + 1, u4_1, u4_2 =>
  (gfR 10 5 (some p4_0) w4).bind fun r1 =>
  (rcv 0 r1 w4).bind fun b2 =>
  (al_size b2 w4).bind fun x3 =>
  (if x3 ≤ u4_2 then
  some u4_1
  else
  (gfR 10 5 (some p4_0) w4).bind fun r4 =>
  (rcv 0 r4 w4).bind fun b5 =>
  (al_get b5 u4_2 w4).bind fun r6 =>
  (cst 2 r6 w4).bind fun r7 =>
  (rcv 2 r7 w4).bind fun b8 =>
  (f_X1_pay b8 w4).bind fun x9 =>
  f_X9_driversArePaid_L4 p4_0 w4 m4 (u4_1 + x9) (u4_2 + 1))
def f_X9_driversArePaid (b : Nat) (g : HP) : Option Int32 :=
  (f_X9_driversArePaid_L4 b g FU 0 0).bind fun q10 =>
  some q10
def f_X9_countOfCause_L4 (p4_0 : Nat) (p4_1 : Int32) (w4 : HP) : Nat → Int32 → Int32 → Option Int32
  | 0, _, _ => none
  | m4 + 1, u4_2, u4_3 =>
  (gfR 10 2 (some p4_0) w4).bind fun r1 =>
  (rcv 0 r1 w4).bind fun b2 =>
  (al_size b2 w4).bind fun x3 =>
  (if x3 ≤ u4_3 then
  some u4_2
  else
  (gfR 10 2 (some p4_0) w4).bind fun r4 =>
  (rcv 0 r4 w4).bind fun b5 =>
  (al_get b5 u4_3 w4).bind fun r6 =>
  (cst 8 r6 w4).bind fun r7 =>
  (gfI 8 9 r7 w4).bind fun x8 =>
  (if x8 = p4_1 then
  f_X9_countOfCause_L4 p4_0 p4_1 w4 m4 (u4_2 + 1) (u4_3 + 1)
  else
  f_X9_countOfCause_L4 p4_0 p4_1 w4 m4 u4_2 (u4_3 + 1)))
def f_X9_countOfCause (b : Nat) (s1 : Int32) (g : HP) : Option Int32 :=
  (f_X9_countOfCause_L4 b s1 g FU 0 0).bind fun q9 =>
  some q9
def f_X9_many (b : Nat) (s1 : Int32) (g : HP) : Option (Int32 × HP) :=
  (f_X9_isOutside s1 0 8 g).bind fun x1 =>
  (if x1 = 0 then
  (rcv 10 (some b) g).bind fun b2 =>
  (f_X9_runDay b2 g).bind fun g3 =>
  (if s1 = 0 then
  (gfR 10 2 (some b) g3).bind fun r4 =>
  (rcv 0 r4 g3).bind fun b5 =>
  (al_size b5 g3).bind fun x6 =>
  some (x6, g3)
  else
  (if s1 = 1 then
  (gfR 10 4 (some b) g3).bind fun r7 =>
  (rcv 0 r7 g3).bind fun b8 =>
  (al_size b8 g3).bind fun x9 =>
  some (x9, g3)
  else
  (if s1 = 2 then
  (gfR 10 5 (some b) g3).bind fun r10 =>
  (rcv 0 r10 g3).bind fun b11 =>
  (al_size b11 g3).bind fun x12 =>
  some (x12, g3)
  else
  (if s1 = 3 then
  (rcv 10 (some b) g3).bind fun b13 =>
  (f_X9_countOfCause b13 1 g3).bind fun x14 =>
  some (x14, g3)
  else
  (if s1 = 4 then
  (rcv 10 (some b) g3).bind fun b15 =>
  (f_X9_countOfCause b15 0 g3).bind fun x16 =>
  some (x16, g3)
  else
  (if s1 = 5 then
  (rcv 10 (some b) g3).bind fun b17 =>
  (f_X9_countyPays b17 g3).bind fun x18 =>
  some (x18, g3)
  else
  (if s1 = 6 then
  (rcv 10 (some b) g3).bind fun b19 =>
  (f_X9_driversArePaid b19 g3).bind fun x20 =>
  some (x20, g3)
  else
  (if s1 = 7 then
  (rcv 10 (some b) g3).bind fun b21 =>
  (f_X9_allEmpty b21 g3).bind fun x22 =>
  some (x22, g3)
  else
  (rcv 10 (some b) g3).bind fun b23 =>
  (f_X9_greatestLate b23 g3).bind fun x24 =>
  some (x24, g3)))))))))
  else
  none)
def f_X9_lost (b : Nat) (s1 : Int32) (g : HP) : Option (Int32 × HP) :=
  (f_X9_isOutside s1 1 6 g).bind fun x1 =>
  (if x1 = 0 then
  (rcv 10 (some b) g).bind fun b2 =>
  (f_X9_runDay b2 g).bind fun g3 =>
  (rcv 10 (some b) g3).bind fun b4 =>
  (f_X9_countOfCause b4 s1 g3).bind fun x5 =>
  some (x5, g3)
  else
  none)
def f_X9_meanLate_L10 (p10_0 : Nat) (w10 : HP) : Nat → Int32 → Int32 → Int32 → Option (Int32 × Int32)
  | 0, _, _, _ => none
  | m10 + 1, u10_1, u10_2, u10_3 =>
  (gfR 10 2 (some p10_0) w10).bind fun r3 =>
  (rcv 0 r3 w10).bind fun b4 =>
  (al_size b4 w10).bind fun x5 =>
  (if x5 ≤ u10_3 then
  some (u10_1, u10_2)
  else
  (gfR 10 2 (some p10_0) w10).bind fun r6 =>
  (rcv 0 r6 w10).bind fun b7 =>
  (al_get b7 u10_3 w10).bind fun r8 =>
  (cst 8 r8 w10).bind fun r9 =>
  (rcv 8 r9 w10).bind fun b10 =>
  (f_X7_runs b10 w10).bind fun x11 =>
  (if x11 = 0 then
  f_X9_meanLate_L10 p10_0 w10 m10 u10_1 u10_2 (u10_3 + 1)
  else
  (rcv 8 (some b10) w10).bind fun b12 =>
  (f_X7_late b12 w10).bind fun x13 =>
  f_X9_meanLate_L10 p10_0 w10 m10 (u10_1 + 1) (u10_2 + x13) (u10_3 + 1)))
def f_X9_meanLate (b : Nat) (g : HP) : Option (UInt64 × HP) :=
  (rcv 10 (some b) g).bind fun b1 =>
  (f_X9_runDay b1 g).bind fun g2 =>
  (f_X9_meanLate_L10 b g2 FU 0 0 0).bind fun q14 =>
  (if q14.1 = 0 then
  some (FP.dconst0, g2)
  else
  (okD (FP.ddiv (FP.i2d q14.2) (FP.i2d q14.1))).bind fun d15 =>
  some (d15, g2))
def f_X9_leastBlocks (b : Nat) (g : HP) : Option (Int32 × HP) :=
  (gfR 10 2 (some b) g).bind fun r1 =>
  (rcv 0 r1 g).bind fun b2 =>
  (al_size b2 g).bind fun x3 =>
  (gfR 10 13 (some b) g).bind fun r4 =>
  (gfR 10 2 (some b) g).bind fun r5 =>
  (rcv 3 r4 g).bind fun b6 =>
  (f_X2_mostPairs b6 r5 g).bind fun v7 =>
  some (x3 - v7.1, v7.2)
def f_X9_wouldLose (b : Nat) (s1 : Int32) (s2 : Int32) (g : HP) : Option (Int32 × HP) :=
  (rcv 10 (some b) g).bind fun b1 =>
  (f_X9_blockNumbered b1 s1 g).bind fun r2 =>
  (if r2 = none then
  none
  else
  (f_X9_isOutside s2 0 1600 g).bind fun x3 =>
  (if x3 = 0 then
  (rcv 1 r2 g).bind fun b4 =>
  (f_X0_lostIf b4 s2 none 0 g).bind fun v5 =>
  (rcv 1 (some b4) v5.2).bind fun b6 =>
  (f_X0_lostNow b6 v5.2).bind fun v7 =>
  some (v5.1 - v7.1, v7.2)
  else
  none))
def f_X9_mayDelay_L53 (p53_2 : Option Nat) (p53_3 : Nat) (p53_4 : Int32) (p53_5 : Int32) : Nat → Int32 → HP → Option (Int32 × HP)
  | 0, _, _ => none
  | m53 + 1, u53_6, w53 =>
  (if u53_6 ≤ 0 then
  some (0, w53)
  else
  (rcv 1 (some p53_3) w53).bind fun b7 =>
  (f_X0_lostIf b7 p53_4 p53_2 u53_6 w53).bind fun v8 =>
  (if p53_5 < v8.1 then
  f_X9_mayDelay_L53 p53_2 p53_3 p53_4 p53_5 m53 (u53_6 + (-1)) v8.2
  else
  some (u53_6, v8.2)))
def f_X9_mayDelay (b : Nat) (s1 : Int32) (g : HP) : Option (Int32 × HP) :=
  (rcv 10 (some b) g).bind fun b1 =>
  (f_X9_tripNumbered b1 s1 g).bind fun r2 =>
  (if r2 = none then
  none
  else
  (gfR 8 7 r2 g).bind fun r3 =>
  (if r3 = none then
  some (120, g)
  else
  (gfI 1 2 r3 g).bind fun x4 =>
  (rcv 1 r3 g).bind fun b5 =>
  (f_X0_lostIf b5 x4 r2 0 g).bind fun v6 =>
  f_X9_mayDelay_L53 r2 b5 x4 v6.1 FU 120 v6.2))
def f_X9_emptyOfSwap (b : Nat) (s1 : Option Nat) (s2 : Int32) (s3 : Option Nat) (s4 : Int32) (g : HP) : Option (Int32 × HP) :=
  (gfR 1 3 s1 g).bind fun r1 =>
  (gfR 1 3 s3 g).bind fun r2 =>
  (f_X9_canSwap r1 s2 r2 s4 g).bind fun x3 =>
  (if x3 = 0 then
  some ((-1), g)
  else
  (gfR 1 3 s1 g).bind fun r4 =>
  (gfR 1 3 s3 g).bind fun r5 =>
  (rcv 10 (some b) g).bind fun b6 =>
  (f_X9_trySwap b6 r4 s2 r5 s4 g).bind fun g7 =>
  (gfR 10 10 (some b) g7).bind fun r8 =>
  (gfI 1 1 s1 g7).bind fun x9 =>
  (rcv 10 (some b) g7).bind fun b10 =>
  (f_X9_isFlat b10 r8 x9 g7).bind fun x11 =>
  (if x11 = 0 then
  (gfR 10 11 (some b) g7).bind fun r12 =>
  (gfI 1 1 s3 g7).bind fun x13 =>
  (rcv 10 (some b) g7).bind fun b14 =>
  (f_X9_isFlat b14 r12 x13 g7).bind fun x15 =>
  (if x15 = 0 then
  (gfR 10 10 (some b) g7).bind fun r16 =>
  (gfR 10 6 (some b) g7).bind fun r17 =>
  (rcv 7 r16 g7).bind fun b18 =>
  (f_X6_empty b18 r17 g7).bind fun x19 =>
  (gfR 10 11 (some b) g7).bind fun r20 =>
  (gfR 10 6 (some b) g7).bind fun r21 =>
  (rcv 7 r20 g7).bind fun b22 =>
  (f_X6_empty b22 r21 g7).bind fun x23 =>
  some (x19 + x23, g7)
  else
  some ((-1), g7))
  else
  some ((-1), g7)))
def f_X9_bestSwap_L72 (p72_0 : Nat) (p72_3 : Option Nat) (p72_4 : Option Nat) (p72_7 : Int32) : Nat → Int32 → Int32 → Int32 → HP → Option (Int32 × Int32 × HP)
  | 0, _, _, _, _ => none
  | m72 + 1, u72_5, u72_6, u72_8, w72 =>
  (gfR 1 3 p72_4 w72).bind fun r8 =>
  (rcv 7 r8 w72).bind fun b9 =>
  (f_X6_count b9 w72).bind fun x10 =>
  (if x10 < u72_8 then
  some (u72_5, u72_6, w72)
  else
  (rcv 10 (some p72_0) w72).bind fun b11 =>
  (f_X9_emptyOfSwap b11 p72_3 p72_7 p72_4 u72_8 w72).bind fun v12 =>
  (if v12.1 = (-1) then
  f_X9_bestSwap_L72 p72_0 p72_3 p72_4 p72_7 m72 u72_5 u72_6 (u72_8 + 1) v12.2
  else
  (if u72_5 = (-1) then
  f_X9_bestSwap_L72 p72_0 p72_3 p72_4 p72_7 m72 ((20 * p72_7) + u72_8) v12.1 (u72_8 + 1) v12.2
  else
  (if u72_6 ≤ v12.1 then
  f_X9_bestSwap_L72 p72_0 p72_3 p72_4 p72_7 m72 u72_5 u72_6 (u72_8 + 1) v12.2
  else
  f_X9_bestSwap_L72 p72_0 p72_3 p72_4 p72_7 m72 ((20 * p72_7) + u72_8) v12.1 (u72_8 + 1) v12.2))))
def f_X9_bestSwap_L57 (p57_0 : Nat) (p57_3 : Option Nat) (p57_4 : Option Nat) : Nat → Int32 → Int32 → Int32 → HP → Option (Int32 × HP)
  | 0, _, _, _, _ => none
  | m57 + 1, u57_5, u57_6, u57_7, w57 =>
  (gfR 1 3 p57_3 w57).bind fun r5 =>
  (rcv 7 r5 w57).bind fun b6 =>
  (f_X6_count b6 w57).bind fun x7 =>
  (if x7 < u57_7 then
  some (u57_5, w57)
  else
  (f_X9_bestSwap_L72 p57_0 p57_3 p57_4 u57_7 FU u57_5 u57_6 0 w57).bind fun q13 =>
  f_X9_bestSwap_L57 p57_0 p57_3 p57_4 m57 q13.1 q13.2.1 (u57_7 + 1) q13.2.2)
def f_X9_bestSwap (b : Nat) (s1 : Int32) (s2 : Int32) (g : HP) : Option (Int32 × HP) :=
  (rcv 10 (some b) g).bind fun b1 =>
  (f_X9_blockNumbered b1 s1 g).bind fun r2 =>
  (rcv 10 (some b) g).bind fun b3 =>
  (f_X9_blockNumbered b3 s2 g).bind fun r4 =>
  (if r2 = none then
  none
  else
  (if r4 = none then
  none
  else
  (if s1 = s2 then
  none
  else
  (f_X9_bestSwap_L57 b r2 r4 FU (-1) 0 0 g).bind fun q14 =>
  some (q14.1, q14.2))))
def f_X9_mix (s1 : Int64) (s2 : Int32) (g : HP) : Option Int64 :=
  some ((s1 * 31) + s2.toInt64)
def f_X9_mixTrip_L6 (p6_0 : Nat) (p6_3 : Int32) : Nat → Int64 → Int32 → HP → Option (Int64 × HP)
  | 0, _, _, _ => none
  | m6 + 1, u6_4, u6_6, w6 =>
  (if 10 < u6_6 then
  some (u6_4, w6)
  else
  (rcv 10 (some p6_0) w6).bind fun b1 =>
  (f_X9_ofTrip b1 p6_3 u6_6 w6).bind fun v2 =>
  (f_X9_mix u6_4 v2.1 v2.2).bind fun y3 =>
  f_X9_mixTrip_L6 p6_0 p6_3 m6 y3 (u6_6 + 1) v2.2)
def f_X9_mixTrip (b : Nat) (s1 : Int64) (s2 : Int32) (g : HP) : Option (Int64 × HP) :=
  (f_X9_mixTrip_L6 b s2 FU s1 0 g).bind fun q4 =>
  (rcv 10 (some b) q4.2).bind fun b5 =>
  (f_X9_mayDelay b5 s2 q4.2).bind fun v6 =>
  (f_X9_mix q4.1 v6.1 v6.2).bind fun y7 =>
  some (y7, v6.2)
def f_X9_mixBlock_L6 (p6_0 : Nat) (p6_3 : Int32) : Nat → Int64 → Int32 → HP → Option (Int64 × HP)
  | 0, _, _, _ => none
  | m6 + 1, u6_4, u6_6, w6 =>
  (if 7 < u6_6 then
  some (u6_4, w6)
  else
  (rcv 10 (some p6_0) w6).bind fun b1 =>
  (f_X9_ofBlock b1 p6_3 u6_6 w6).bind fun v2 =>
  (f_X9_mix u6_4 v2.1 v2.2).bind fun y3 =>
  f_X9_mixBlock_L6 p6_0 p6_3 m6 y3 (u6_6 + 1) v2.2)
def f_X9_mixBlock_L54 (p54_0 : Nat) (p54_3 : Int32) (p54_6 : Int32) (p54_7 : Int32) : Nat → Int64 → Int32 → HP → Option (Int64 × HP)
  | 0, _, _, _ => none
  | m54 + 1, u54_4, u54_8, w54 =>
  (if 5 < u54_8 then
  some (u54_4, w54)
  else
  (rcv 10 (some p54_0) w54).bind fun b7 =>
  (f_X9_ofPiece b7 p54_3 p54_7 u54_8 w54).bind fun v8 =>
  (f_X9_mix u54_4 v8.1 v8.2).bind fun y9 =>
  f_X9_mixBlock_L54 p54_0 p54_3 p54_6 p54_7 m54 y9 (u54_8 + 1) v8.2)
def f_X9_mixBlock_L44 (p44_0 : Nat) (p44_3 : Int32) (p44_6 : Int32) : Nat → Int64 → Int32 → HP → Option (Int64 × HP)
  | 0, _, _, _ => none
  | m44 + 1, u44_4, u44_7, w44 =>
  (if p44_6 ≤ u44_7 then
  some (u44_4, w44)
  else
  (f_X9_mixBlock_L54 p44_0 p44_3 p44_6 u44_7 FU u44_4 0 w44).bind fun q10 =>
  f_X9_mixBlock_L44 p44_0 p44_3 p44_6 m44 q10.1 (u44_7 + 1) q10.2)
def f_X9_mixBlock (b : Nat) (s1 : Int64) (s2 : Int32) (g : HP) : Option (Int64 × HP) :=
  (f_X9_mixBlock_L6 b s2 FU s1 0 g).bind fun q4 =>
  (rcv 10 (some b) q4.2).bind fun b5 =>
  (f_X9_ofBlock b5 s2 3 q4.2).bind fun v6 =>
  (f_X9_mixBlock_L44 b s2 v6.1 FU q4.1 0 v6.2).bind fun q11 =>
  (rcv 10 (some b) q11.2).bind fun b12 =>
  (f_X9_wouldLose b12 s2 600 q11.2).bind fun v13 =>
  (f_X9_mix q11.1 v13.1 v13.2).bind fun y14 =>
  some (y14, v13.2)
def f_X9_mixDriver_L6 (p6_0 : Nat) (p6_3 : Int32) : Nat → Int64 → Int32 → HP → Option (Int64 × HP)
  | 0, _, _, _ => none
  | m6 + 1, u6_4, u6_6, w6 =>
  (if 4 < u6_6 then
  some (u6_4, w6)
  else
  (rcv 10 (some p6_0) w6).bind fun b1 =>
  (f_X9_ofDriver b1 p6_3 u6_6 w6).bind fun v2 =>
  (f_X9_mix u6_4 v2.1 v2.2).bind fun y3 =>
  f_X9_mixDriver_L6 p6_0 p6_3 m6 y3 (u6_6 + 1) v2.2)
def f_X9_mixDriver (b : Nat) (s1 : Int64) (s2 : Int32) (g : HP) : Option (Int64 × HP) :=
  (f_X9_mixDriver_L6 b s2 FU s1 0 g).bind fun q4 =>
  some (q4.1, q4.2)
def f_X9_digest_L6 (p6_0 : Nat) : Nat → Int64 → Int32 → HP → Option (Int64 × HP)
  | 0, _, _, _ => none
  | m6 + 1, u6_1, u6_3, w6 =>
  (if 8 < u6_3 then
  some (u6_1, w6)
  else
  (rcv 10 (some p6_0) w6).bind fun b1 =>
  (f_X9_many b1 u6_3 w6).bind fun v2 =>
  (f_X9_mix u6_1 v2.1 v2.2).bind fun y3 =>
  f_X9_digest_L6 p6_0 m6 y3 (u6_3 + 1) v2.2)
def f_X9_digest_L30 (p30_0 : Nat) : Nat → Int64 → Int32 → HP → Option (Int64 × HP)
  | 0, _, _, _ => none
  | m30 + 1, u30_1, u30_3, w30 =>
  (if 6 < u30_3 then
  some (u30_1, w30)
  else
  (rcv 10 (some p30_0) w30).bind fun b5 =>
  (f_X9_lost b5 u30_3 w30).bind fun v6 =>
  (f_X9_mix u30_1 v6.1 v6.2).bind fun y7 =>
  f_X9_digest_L30 p30_0 m30 y7 (u30_3 + 1) v6.2)
def f_X9_digest_L54 (p54_0 : Nat) : Nat → Int64 → Int32 → HP → Option (Int64 × HP)
  | 0, _, _, _ => none
  | m54 + 1, u54_1, u54_3, w54 =>
  (gfR 10 2 (some p54_0) w54).bind fun r9 =>
  (rcv 0 r9 w54).bind fun b10 =>
  (al_size b10 w54).bind fun x11 =>
  (if x11 ≤ u54_3 then
  some (u54_1, w54)
  else
  (rcv 10 (some p54_0) w54).bind fun b12 =>
  (f_X9_mixTrip b12 u54_1 u54_3 w54).bind fun v13 =>
  f_X9_digest_L54 p54_0 m54 v13.1 (u54_3 + 1) v13.2)
def f_X9_digest_L80 (p80_0 : Nat) : Nat → Int64 → Int32 → HP → Option (Int64 × HP)
  | 0, _, _, _ => none
  | m80 + 1, u80_1, u80_3, w80 =>
  (gfR 10 4 (some p80_0) w80).bind fun r15 =>
  (rcv 0 r15 w80).bind fun b16 =>
  (al_size b16 w80).bind fun x17 =>
  (if x17 ≤ u80_3 then
  some (u80_1, w80)
  else
  (rcv 10 (some p80_0) w80).bind fun b18 =>
  (f_X9_mixBlock b18 u80_1 u80_3 w80).bind fun v19 =>
  f_X9_digest_L80 p80_0 m80 v19.1 (u80_3 + 1) v19.2)
def f_X9_digest_L106 (p106_0 : Nat) : Nat → Int64 → Int32 → HP → Option (Int64 × HP)
  | 0, _, _, _ => none
  | m106 + 1, u106_1, u106_3, w106 =>
  (gfR 10 5 (some p106_0) w106).bind fun r21 =>
  (rcv 0 r21 w106).bind fun b22 =>
  (al_size b22 w106).bind fun x23 =>
  (if x23 ≤ u106_3 then
  some (u106_1, w106)
  else
  (rcv 10 (some p106_0) w106).bind fun b24 =>
  (f_X9_mixDriver b24 u106_1 u106_3 w106).bind fun v25 =>
  f_X9_digest_L106 p106_0 m106 v25.1 (u106_3 + 1) v25.2)
def f_X9_digest (b : Nat) (g : HP) : Option (Int64 × HP) :=
  (f_X9_digest_L6 b FU 58195 0 g).bind fun q4 =>
  (f_X9_digest_L30 b FU q4.1 1 q4.2).bind fun q8 =>
  (f_X9_digest_L54 b FU q8.1 0 q8.2).bind fun q14 =>
  (f_X9_digest_L80 b FU q14.1 0 q14.2).bind fun q20 =>
  (f_X9_digest_L106 b FU q20.1 0 q20.2).bind fun q26 =>
  (rcv 10 (some b) q26.2).bind fun b27 =>
  (f_X9_leastBlocks b27 q26.2).bind fun v28 =>
  (f_X9_mix q26.1 v28.1 v28.2).bind fun y29 =>
  (gfR 10 4 (some b) v28.2).bind fun r30 =>
  (rcv 0 r30 v28.2).bind fun b31 =>
  (al_size b31 v28.2).bind fun x32 =>
  (if 2 ≤ x32 then
  (rcv 10 (some b) v28.2).bind fun b33 =>
  (f_X9_bestSwap b33 0 1 v28.2).bind fun v34 =>
  (f_X9_mix y29 v34.1 v34.2).bind fun y35 =>
  some (y35, v34.2)
  else
  some (y29, v28.2))
