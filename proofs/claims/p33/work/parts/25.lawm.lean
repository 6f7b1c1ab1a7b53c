/-! the law's own methods that catch nothing: printed by a program of ours -/
def f_L_below (s1 : Int32) (s2 : Int32) (g : HP) : Option Int32 :=
  (if s2 = 0 then none else some (0 : Int32)).bind fun _ =>
  some ((s1 &&& 2147483647) - (s1 &&& 2147483647) / s2 * s2)
def f_L_cell (s1 : Option Nat) (s2 : Int32) (g : HP) : Option Int32 :=
  (lnI s1 g).bind fun x1 =>
  (if x1 ≤ s2 then
  some (790386105 * (s2 + 3))
  else
  (ldI s1 s2 g).bind fun x2 =>
  some x2)
def f_L_follows (s1 : Option Nat) (s2 : Option Nat) (s3 : Int32) (s4 : Int32) (g : HP) : Option (Int32 × HP) :=
  (rcv 10 s1 g).bind fun b1 =>
  (f_X9_ofTrip b1 s4 4 g).bind fun v2 =>
  (rcv 10 (some b1) v2.2).bind fun b3 =>
  (f_X9_ofTrip b3 s4 2 v2.2).bind fun v4 =>
  (ldI s2 v4.1 v4.2).bind fun x5 =>
  (rcv 10 (some b1) v4.2).bind fun b6 =>
  (f_X9_ofTrip b6 s3 1 v4.2).bind fun v7 =>
  (ldI s2 v7.1 v7.2).bind fun x8 =>
  (rcv 10 (some b1) v7.2).bind fun b9 =>
  (f_X9_ofTrip b9 s3 3 v7.2).bind fun v10 =>
  (if v10.1 < (v2.1 + (if 0 ≤ x5 - x8 then (x5 - x8) else 0 - (x5 - x8))) + 4 then
  some (0, v10.2)
  else
  some (1, v10.2))
def f_L_isBuilt (s1 : Option Nat) (s2 : Int32) (g : HP) : Option (Int32 × HP) :=
  (rcv 10 s1 g).bind fun b1 =>
  (f_X9_many b1 3 g).bind fun v2 =>
  (rcv 10 (some b1) v2.2).bind fun b3 =>
  (f_X9_many b3 1 v2.2).bind fun v4 =>
  (rcv 10 (some b1) v4.2).bind fun b5 =>
  (f_X9_build b5 s2 v4.2).bind fun v6 =>
  (rcv 10 (some b1) v6.2).bind fun b7 =>
  (f_X9_many b7 3 v6.2).bind fun v8 =>
  (if v8.1 = v2.1 - v6.1 then
  (rcv 10 (some b1) v8.2).bind fun b9 =>
  (f_X9_many b9 1 v8.2).bind fun v10 =>
  (if v10.1 < v4.1 then
  none
  else
  (rcv 10 (some b1) v10.2).bind fun b11 =>
  (f_X9_many b11 1 v10.2).bind fun v12 =>
  (if v4.1 + v6.1 < v12.1 then
  none
  else
  (rcv 10 (some b1) v12.2).bind fun b13 =>
  (f_X9_build b13 s2 v12.2).bind fun v14 =>
  (if v14.1 = 0 then
  some (1, v14.2)
  else
  none)))
  else
  none)
def f_L_isBroken (s1 : Option Nat) (s2 : Int32) (s3 : Int32) (g : HP) : Option (Int32 × HP) :=
  (rcv 10 s1 g).bind fun b1 =>
  (f_X9_many b1 4 g).bind fun v2 =>
  (rcv 10 (some b1) v2.2).bind fun b3 =>
  (f_X9_wouldLose b3 s2 s3 v2.2).bind fun v4 =>
  (rcv 10 (some b1) v4.2).bind fun b5 =>
  (f_X9_breakdown b5 s2 s3 v4.2).bind fun v6 =>
  (rcv 10 (some b1) v6.2).bind fun b7 =>
  (f_X9_many b7 4 v6.2).bind fun v8 =>
  (if v8.1 = v2.1 - v4.1 then
  (rcv 10 (some b1) v8.2).bind fun b9 =>
  (f_X9_breakdown b9 s2 v6.1 v8.2).bind fun v10 =>
  (if v10.1 = s3 then
  (rcv 10 (some b1) v10.2).bind fun b11 =>
  (f_X9_many b11 4 v10.2).bind fun v12 =>
  (if v12.1 = v2.1 then
  (if 0 < s3 - s3 / 3 * 3 then
  some (1, v12.2)
  else
  (rcv 10 (some b1) v12.2).bind fun b13 =>
  (f_X9_breakdown b13 s2 s3 v12.2).bind fun v14 =>
  (if v14.1 = v6.1 then
  some (1, v14.2)
  else
  none))
  else
  none)
  else
  none)
  else
  none)
def f_L_isSound_L15 (p15_0 : Option Nat) (p15_1 : Option Nat) (p15_2 : Option Nat) (p15_3 : Int32) (p15_4 : Option Nat) (p15_5 : Int32) (p15_7 : Nat) : Nat → Int32 → Int32 → Int32 → HP → Option (Int32 × Int32 × HP)
  | 0, _, _, _, _ => none
  | m15 + 1, u15_6, u15_8, u15_9, w15 =>
  (if p15_3 ≤ u15_9 then
  some (u15_6, u15_8, w15)
  else
  (rcv 10 p15_0 w15).bind fun b2 =>
  (f_X9_ofTrip b2 u15_9 6 w15).bind fun v3 =>
  (rcv 10 (some b2) v3.2).bind fun b4 =>
  (f_X9_ofTrip b4 u15_9 8 v3.2).bind fun v5 =>
  (rcv 10 (some b2) v5.2).bind fun b6 =>
  (f_X9_ofTrip b6 u15_9 9 v5.2).bind fun v7 =>
  (ldI (some p15_7) v5.1 v7.2).bind fun x8 =>
  (stI (some p15_7) v5.1 (x8 + 1) v7.2).bind fun g9 =>
  ((if 0 ≤ v3.1 then
  some (0 : Int32)
  else
  some (1 : Int32))).bind fun q10 =>
  ((if 0 ≤ v3.1 then
  some (0 : Int32)
  else
  some (1 : Int32))).bind fun q11 =>
  ((if v5.1 = 1 then
  some (1 : Int32)
  else
  some (0 : Int32))).bind fun q12 =>
  (if q11 = q12 then
  ((if v5.1 ≤ 0 then
  some (0 : Int32)
  else
  some (1 : Int32))).bind fun q13 =>
  ((if 0 ≤ v7.1 then
  some (0 : Int32)
  else
  some (1 : Int32))).bind fun q14 =>
  (if q13 = q14 then
  ((if 0 ≤ v7.1 then
  some (0 : Int32)
  else
  some (1 : Int32))).bind fun q15 =>
  (rcv 10 (some b2) g9).bind fun b16 =>
  (f_X9_ofTrip b16 u15_9 10 g9).bind fun v17 =>
  ((if 0 ≤ v17.1 then
  some (0 : Int32)
  else
  some (1 : Int32))).bind fun q18 =>
  (if q15 = q18 then
  (if 30 < v7.1 then
  none
  else
  ((if 0 ≤ v3.1 then
  some v17.2
  else
  (rcv 10 (some b2) v17.2).bind fun b19 =>
  (f_X9_ofTrip b19 u15_9 7 v17.2).bind fun v20 =>
  (if v20.1 < 0 then
  some v20.2
  else
  none))).bind fun q21 =>
  ((if v5.1 = 0 then
  (rcv 10 (some b2) q21).bind fun b22 =>
  (f_X9_ofTrip b22 u15_9 0 q21).bind fun v23 =>
  (ldI p15_4 v23.1 v23.2).bind fun x24 =>
  some (x24 - (v7.1 / 2), v23.2)
  else
  (if v5.1 = 2 then
  some ((0 : Int32), q21)
  else
  some (-p15_5, q21)))).bind fun q25 =>
  (if v5.1 = 0 then
  (rcv 10 (some b2) q25.2).bind fun b26 =>
  (f_X9_ofTrip b26 u15_9 10 q25.2).bind fun v27 =>
  (rcv 10 (some b2) v27.2).bind fun b28 =>
  (f_X9_ofTrip b28 u15_9 4 v27.2).bind fun v29 =>
  (rcv 10 (some b2) v29.2).bind fun b30 =>
  (f_X9_ofTrip b30 u15_9 5 v29.2).bind fun v31 =>
  (if v27.1 = (v29.1 + v7.1) + v31.1 then
  f_L_isSound_L15 p15_0 p15_1 p15_2 p15_3 p15_4 p15_5 p15_7 m15 (u15_6 + q25.1) (u15_8 + q10) (u15_9 + 1) v31.2
  else
  none)
  else
  f_L_isSound_L15 p15_0 p15_1 p15_2 p15_3 p15_4 p15_5 p15_7 m15 (u15_6 + q25.1) (u15_8 + q10) (u15_9 + 1) q25.2))
  else
  none)
  else
  none)
  else
  none))
def f_L_isSound_L262 (p262_0 : Option Nat) (p262_1 : Option Nat) (p262_2 : Option Nat) (p262_3 : Int32) (p262_6 : Int32) (p262_7 : Nat) (p262_8 : Int32) : Nat → Int32 → HP → Option HP
  | 0, _, _ => none
  | m262 + 1, u262_9, w262 =>
  (if 7 ≤ u262_9 then
  some w262
  else
  (rcv 10 p262_0 w262).bind fun b33 =>
  (f_X9_lost b33 u262_9 w262).bind fun v34 =>
  (ldI (some p262_7) u262_9 v34.2).bind fun x35 =>
  (if v34.1 = x35 then
  f_L_isSound_L262 p262_0 p262_1 p262_2 p262_3 p262_6 p262_7 p262_8 m262 (u262_9 + 1) v34.2
  else
  none))
def f_L_isSound_L398 (p398_0 : Nat) (p398_1 : Option Nat) (p398_2 : Option Nat) (p398_3 : Int32) (p398_8 : Int32) (p398_9 : Int32) (p398_10 : Int32) (p398_11 : Nat) (p398_12 : Nat) (p398_13 : Nat) (p398_14 : Int32) (p398_15 : Int32) (p398_16 : Int32) : Nat → Int32 → HP → Option HP
  | 0, _, _ => none
  | m398 + 1, u398_17, w398 =>
  (if p398_16 ≤ u398_17 then
  some w398
  else
  (rcv 10 (some p398_0) w398).bind fun b52 =>
  (f_X9_at b52 p398_15 u398_17 w398).bind fun x53 =>
  (rcv 10 (some p398_0) w398).bind fun b54 =>
  (f_X9_ofTrip b54 x53 6 w398).bind fun v55 =>
  (if v55.1 = p398_15 then
  (if u398_17 ≤ 0 then
  f_L_isSound_L398 p398_0 p398_1 p398_2 p398_3 p398_8 p398_9 p398_10 p398_11 p398_12 p398_13 p398_14 p398_15 p398_16 m398 (u398_17 + 1) v55.2
  else
  (rcv 10 (some p398_0) v55.2).bind fun b56 =>
  (f_X9_at b56 p398_15 u398_17 v55.2).bind fun x57 =>
  (rcv 10 (some p398_0) v55.2).bind fun b58 =>
  (f_X9_at b58 p398_15 (u398_17 - 1) v55.2).bind fun x59 =>
  (f_L_follows (some p398_0) p398_1 x57 x59 v55.2).bind fun v60 =>
  (if v60.1 = 0 then
  none
  else
  f_L_isSound_L398 p398_0 p398_1 p398_2 p398_3 p398_8 p398_9 p398_10 p398_11 p398_12 p398_13 p398_14 p398_15 p398_16 m398 (u398_17 + 1) v60.2))
  else
  none))
def f_L_isSound_L740 (p740_0 : Nat) (p740_1 : Option Nat) (p740_2 : Option Nat) (p740_3 : Int32) (p740_8 : Int32) (p740_9 : Int32) (p740_10 : Int32) (p740_11 : Nat) (p740_12 : Nat) (p740_13 : Nat) (p740_14 : Int32) (p740_15 : Int32) (p740_16 : Int32) (p740_17 : Int32) (p740_18 : Int32) (p740_20 : Int32) (w740 : HP) : Nat → Int32 → Option Unit
  | 0, _ => none
  | m740 + 1, u740_21 =>
  (if p740_14 ≤ u740_21 then
  some ()
  else
  (ldB (some p740_13) u740_21 w740).bind fun r113 =>
  (ldI r113 0 w740).bind fun x114 =>
  (if x114 = p740_20 then
  (ldB (some p740_13) u740_21 w740).bind fun r115 =>
  (ldI r115 1 w740).bind fun x116 =>
  (ldB (some p740_13) p740_14 w740).bind fun r117 =>
  (ldI r117 2 w740).bind fun x118 =>
  (if x118 + 10 < x116 then
  f_L_isSound_L740 p740_0 p740_1 p740_2 p740_3 p740_8 p740_9 p740_10 p740_11 p740_12 p740_13 p740_14 p740_15 p740_16 p740_17 p740_18 p740_20 w740 m740 (u740_21 + 1)
  else
  (ldB (some p740_13) u740_21 w740).bind fun r119 =>
  (ldI r119 2 w740).bind fun x120 =>
  (ldB (some p740_13) p740_14 w740).bind fun r121 =>
  (ldI r121 1 w740).bind fun x122 =>
  (if x120 < x122 - 10 then
  f_L_isSound_L740 p740_0 p740_1 p740_2 p740_3 p740_8 p740_9 p740_10 p740_11 p740_12 p740_13 p740_14 p740_15 p740_16 p740_17 p740_18 p740_20 w740 m740 (u740_21 + 1)
  else
  none))
  else
  f_L_isSound_L740 p740_0 p740_1 p740_2 p740_3 p740_8 p740_9 p740_10 p740_11 p740_12 p740_13 p740_14 p740_15 p740_16 p740_17 p740_18 p740_20 w740 m740 (u740_21 + 1)))
def f_L_isSound_L534 (p534_0 : Nat) (p534_1 : Option Nat) (p534_2 : Option Nat) (p534_3 : Int32) (p534_8 : Int32) (p534_9 : Int32) (p534_10 : Int32) (p534_11 : Nat) (p534_12 : Nat) (p534_13 : Nat) (p534_15 : Int32) (p534_16 : Int32) : Nat → Int32 → Int32 → Int32 → HP → Option (Int32 × Int32 × HP)
  | 0, _, _, _, _ => none
  | m534 + 1, u534_14, u534_17, u534_18, w534 =>
  (rcv 10 (some p534_0) w534).bind fun b74 =>
  (f_X9_ofBlock b74 p534_15 3 w534).bind fun v75 =>
  (if v75.1 ≤ u534_18 then
  some (u534_14, u534_17, v75.2)
  else
  (rcv 10 (some p534_0) v75.2).bind fun b76 =>
  (f_X9_ofPiece b76 p534_15 u534_18 0 v75.2).bind fun v77 =>
  (rcv 10 (some p534_0) v77.2).bind fun b78 =>
  (f_X9_at b78 p534_15 u534_17 v77.2).bind fun x79 =>
  (if v77.1 = x79 then
  (rcv 10 (some p534_0) v77.2).bind fun b80 =>
  (f_X9_ofPiece b80 p534_15 u534_18 2 v77.2).bind fun v81 =>
  (rcv 10 (some p534_0) v81.2).bind fun b82 =>
  (f_X9_ofPiece b82 p534_15 u534_18 1 v81.2).bind fun v83 =>
  (rcv 10 (some p534_0) v83.2).bind fun b84 =>
  (f_X9_at b84 p534_15 ((u534_17 + v81.1) - 1) v83.2).bind fun x85 =>
  (if v83.1 = x85 then
  ((if p534_16 ≤ u534_17 + v81.1 then
  some v83.2
  else
  (rcv 10 (some p534_0) v83.2).bind fun b86 =>
  (f_X9_ofTrip b86 v83.1 2 v83.2).bind fun v87 =>
  (ldZ p534_2 v87.1 v87.2).bind fun x88 =>
  (if x88 = 0 then
  none
  else
  some v87.2))).bind fun q89 =>
  (rcv 10 (some p534_0) q89).bind fun b90 =>
  (f_X9_ofPiece b90 p534_15 u534_18 3 q89).bind fun v91 =>
  (rcv 10 (some p534_0) v91.2).bind fun b92 =>
  (f_X9_ofTrip b92 v83.1 4 v91.2).bind fun v93 =>
  (rcv 10 (some p534_0) v93.2).bind fun b94 =>
  (f_X9_ofPiece b94 p534_15 u534_18 0 v93.2).bind fun v95 =>
  (rcv 10 (some p534_0) v95.2).bind fun b96 =>
  (f_X9_ofTrip b96 v95.1 3 v95.2).bind fun v97 =>
  (if v91.1 = v93.1 - v97.1 then
  (rcv 10 (some p534_0) v97.2).bind fun b98 =>
  (f_X9_ofPiece b98 p534_15 u534_18 3 v97.2).bind fun v99 =>
  (if v99.1 ≤ 600 then
  (rcv 10 (some p534_0) v99.2).bind fun b100 =>
  (f_X9_ofPiece b100 p534_15 u534_18 4 v99.2).bind fun v101 =>
  (if 0 ≤ v101.1 then
  (nwI 20 3 v101.2).bind fun a102 =>
  (stI (some a102.1) 0 v101.1 a102.2).bind fun g103 =>
  (rcv 10 (some p534_0) g103).bind fun b104 =>
  (f_X9_ofPiece b104 p534_15 u534_18 0 g103).bind fun v105 =>
  (rcv 10 (some p534_0) v105.2).bind fun b106 =>
  (f_X9_ofTrip b106 v105.1 3 v105.2).bind fun v107 =>
  (stI (some a102.1) 1 v107.1 v107.2).bind fun g108 =>
  (rcv 10 (some p534_0) g108).bind fun b109 =>
  (f_X9_ofTrip b109 v83.1 4 g108).bind fun v110 =>
  (stI (some a102.1) 2 v110.1 v110.2).bind fun g111 =>
  (stB (some p534_13) u534_14 (some a102.1) g111).bind fun g112 =>
  (f_L_isSound_L740 p534_0 p534_1 p534_2 p534_3 p534_8 p534_9 p534_10 p534_11 p534_12 p534_13 u534_14 p534_15 p534_16 (u534_17 + v81.1) u534_18 v101.1 g112 FU 0).bind fun q123 =>
  (ldI (some p534_11) v101.1 g112).bind fun x124 =>
  (rcv 10 (some p534_0) g112).bind fun b125 =>
  (f_X9_ofPiece b125 p534_15 u534_18 3 g112).bind fun v126 =>
  (stI (some p534_11) v101.1 (x124 + v126.1) v126.2).bind fun g127 =>
  (ldI (some p534_12) v101.1 g127).bind fun x128 =>
  (stI (some p534_12) v101.1 (x128 + 1) g127).bind fun g129 =>
  f_L_isSound_L534 p534_0 p534_1 p534_2 p534_3 p534_8 p534_9 p534_10 p534_11 p534_12 p534_13 p534_15 p534_16 m534 (u534_14 + 1) (u534_17 + v81.1) (u534_18 + 1) g129
  else
  f_L_isSound_L534 p534_0 p534_1 p534_2 p534_3 p534_8 p534_9 p534_10 p534_11 p534_12 p534_13 p534_15 p534_16 m534 u534_14 (u534_17 + v81.1) (u534_18 + 1) v101.2)
  else
  none)
  else
  none)
  else
  none)
  else
  none))
def f_L_isSound_L354 (p354_0 : Nat) (p354_1 : Option Nat) (p354_2 : Option Nat) (p354_3 : Int32) (p354_8 : Int32) (p354_11 : Nat) (p354_12 : Nat) (p354_13 : Nat) : Nat → Int32 → Int32 → Int32 → Int32 → HP → Option (Int32 × Int32 × HP)
  | 0, _, _, _, _, _ => none
  | m354 + 1, u354_9, u354_10, u354_14, u354_15, w354 =>
  (rcv 10 (some p354_0) w354).bind fun b47 =>
  (f_X9_many b47 1 w354).bind fun v48 =>
  (if v48.1 ≤ u354_15 then
  some (u354_9, u354_10, v48.2)
  else
  (rcv 10 (some p354_0) v48.2).bind fun b49 =>
  (f_X9_ofBlock b49 u354_15 1 v48.2).bind fun v50 =>
  ((if v50.1 ≤ 0 then
  some (0 : Int32)
  else
  some (1 : Int32))).bind fun q51 =>
  (f_L_isSound_L398 p354_0 p354_1 p354_2 p354_3 p354_8 (u354_9 + q51) (u354_10 + v50.1) p354_11 p354_12 p354_13 u354_14 u354_15 v50.1 FU 0 v50.2).bind fun q61 =>
  (rcv 10 (some p354_0) q61).bind fun b62 =>
  (f_X9_at b62 u354_15 v50.1 q61).bind fun x63 =>
  (if x63 = (-1) then
  (rcv 10 (some p354_0) q61).bind fun b64 =>
  (f_X9_ofBlock b64 u354_15 4 q61).bind fun v65 =>
  ((if v65.1 = 1 then
  some (1 : Int32)
  else
  some (0 : Int32))).bind fun q66 =>
  (rcv 10 (some p354_0) v65.2).bind fun b67 =>
  (f_X9_ofBlock b67 u354_15 5 v65.2).bind fun v68 =>
  ((if 0 ≤ v68.1 then
  some (0 : Int32)
  else
  some (1 : Int32))).bind fun q69 =>
  (if q66 = q69 then
  (rcv 10 (some p354_0) v68.2).bind fun b70 =>
  (f_X9_ofBlock b70 u354_15 5 v68.2).bind fun v71 =>
  (rcv 10 (some p354_0) v71.2).bind fun b72 =>
  (f_X9_ofBlock b72 u354_15 0 v71.2).bind fun v73 =>
  (if v71.1 ≤ v73.1 then
  (f_L_isSound_L534 p354_0 p354_1 p354_2 p354_3 p354_8 (u354_9 + q51) (u354_10 + v50.1) p354_11 p354_12 p354_13 u354_15 v50.1 FU u354_14 0 0 v73.2).bind fun q130 =>
  (rcv 10 (some p354_0) q130.2.2).bind fun b131 =>
  (f_X9_ofBlock b131 u354_15 3 q130.2.2).bind fun v132 =>
  (if v132.1 ≤ 0 then
  f_L_isSound_L354 p354_0 p354_1 p354_2 p354_3 p354_8 p354_11 p354_12 p354_13 m354 (u354_9 + q51) (u354_10 + v50.1) q130.1 (u354_15 + 1) v132.2
  else
  (if q130.2.1 = v50.1 then
  f_L_isSound_L354 p354_0 p354_1 p354_2 p354_3 p354_8 p354_11 p354_12 p354_13 m354 (u354_9 + q51) (u354_10 + v50.1) q130.1 (u354_15 + 1) v132.2
  else
  none))
  else
  none)
  else
  none)
  else
  none))
def f_L_isSound_L873 (p873_0 : Nat) (p873_3 : Int32) (p873_8 : Int32) (p873_9 : Int32) (p873_10 : Int32) (p873_11 : Nat) (p873_12 : Nat) : Nat → Int32 → Int32 → HP → Option (Int32 × HP)
  | 0, _, _, _ => none
  | m873 + 1, u873_15, u873_16, w873 =>
  (if 4 ≤ u873_16 then
  some (u873_15, w873)
  else
  (rcv 10 (some p873_0) w873).bind fun b134 =>
  (f_X9_ofDriver b134 u873_16 0 w873).bind fun v135 =>
  (ldI (some p873_12) u873_16 v135.2).bind fun x136 =>
  (if v135.1 = x136 then
  (rcv 10 (some p873_0) v135.2).bind fun b137 =>
  (f_X9_ofDriver b137 u873_16 1 v135.2).bind fun v138 =>
  (ldI (some p873_11) u873_16 v138.2).bind fun x139 =>
  (if v138.1 = x139 then
  (ldI (some p873_11) u873_16 v138.2).bind fun x140 =>
  (if 600 < x140 then
  none
  else
  (rcv 10 (some p873_0) v138.2).bind fun b141 =>
  (f_X9_ofDriver b141 u873_16 2 v138.2).bind fun v142 =>
  ((if v142.1 = 1 then
  (rcv 10 (some p873_0) v142.2).bind fun b143 =>
  (f_X9_ofDriver b143 u873_16 3 v142.2).bind fun v144 =>
  (if v144.1 ≤ 0 then
  some v144.2
  else
  none)
  else
  some v142.2)).bind fun q145 =>
  (rcv 10 (some p873_0) q145).bind fun b146 =>
  (f_X9_ofDriver b146 u873_16 4 q145).bind fun v147 =>
  f_L_isSound_L873 p873_0 p873_3 p873_8 p873_9 p873_10 p873_11 p873_12 m873 (u873_15 + v147.1) (u873_16 + 1) v147.2)
  else
  none)
  else
  none))
def f_L_isSound (s1 : Option Nat) (s2 : Option Nat) (s3 : Option Nat) (s4 : Int32) (s5 : Option Nat) (s6 : Int32) (g : HP) : Option (Int32 × HP) :=
  (nwI 20 7 g).bind fun a1 =>
  (f_L_isSound_L15 s1 s2 s3 s4 s5 s6 a1.1 FU 0 0 0 a1.2).bind fun q32 =>
  (f_L_isSound_L262 s1 s2 s3 s4 q32.1 a1.1 q32.2.1 FU 1 q32.2.2).bind fun q36 =>
  (rcv 10 s1 q36).bind fun b37 =>
  (f_X9_many b37 4 q36).bind fun v38 =>
  (ldI (some a1.1) 0 v38.2).bind fun x39 =>
  (if v38.1 = x39 then
  (rcv 10 (some b37) v38.2).bind fun b40 =>
  (f_X9_many b40 5 v38.2).bind fun v41 =>
  (if v41.1 = q32.1 then
  (rcv 10 (some b37) v41.2).bind fun b42 =>
  (f_X9_many b42 3 v41.2).bind fun v43 =>
  (if v43.1 = q32.2.1 then
  (nwI 20 4 v43.2).bind fun a44 =>
  (nwI 20 4 a44.2).bind fun a45 =>
  (nwA 23 16 a45.2).bind fun a46 =>
  (f_L_isSound_L354 b37 s2 s3 s4 q32.2.1 a44.1 a45.1 a46.1 FU 0 0 0 0 a46.2).bind fun q133 =>
  (f_L_isSound_L873 b37 s4 q32.2.1 q133.1 q133.2.1 a44.1 a45.1 FU 0 0 q133.2.2).bind fun q148 =>
  (if q133.2.1 + q32.2.1 = s4 then
  (rcv 10 (some b37) q148.2).bind fun b149 =>
  (f_X9_many b149 6 q148.2).bind fun v150 =>
  (if q148.1 = v150.1 then
  (if 0 < q32.2.1 then
  some (1, v150.2)
  else
  (rcv 10 (some b37) v150.2).bind fun b151 =>
  (f_X9_leastBlocks b151 v150.2).bind fun v152 =>
  (if q133.1 < v152.1 then
  none
  else
  some (1, v152.2)))
  else
  none)
  else
  none)
  else
  none)
  else
  none)
  else
  none)
theorem f_L_follows_mono (s1 : Option Nat) (s2 : Option Nat) (s3 : Int32) (s4 : Int32) (g : HP) : Mono g (fun v => v.2) (f_L_follows s1 s2 s3 s4 g) := by
  unfold f_L_follows
  refine mo_p (fun b1 => ?_)
  refine mo_h (h0 := (fun v => v.2)) (f_X9_ofTrip_mono _ _ _ _) (fun v2 => ?_)
  refine mo_p (fun b3 => ?_)
  refine mo_h (h0 := (fun v => v.2)) (f_X9_ofTrip_mono _ _ _ _) (fun v4 => ?_)
  refine mo_p (fun x5 => ?_)
  refine mo_p (fun b6 => ?_)
  refine mo_h (h0 := (fun v => v.2)) (f_X9_ofTrip_mono _ _ _ _) (fun v7 => ?_)
  refine mo_p (fun x8 => ?_)
  refine mo_p (fun b9 => ?_)
  refine mo_h (h0 := (fun v => v.2)) (f_X9_ofTrip_mono _ _ _ _) (fun v10 => ?_)
  refine mo_ite ?_ ?_
  · exact mo_some rfl
  · exact mo_some rfl
theorem f_L_isBuilt_mono (s1 : Option Nat) (s2 : Int32) (g : HP) : Mono g (fun v => v.2) (f_L_isBuilt s1 s2 g) := by
  unfold f_L_isBuilt
  refine mo_p (fun b1 => ?_)
  refine mo_h (h0 := (fun v => v.2)) (f_X9_many_mono _ _ _) (fun v2 => ?_)
  refine mo_p (fun b3 => ?_)
  refine mo_h (h0 := (fun v => v.2)) (f_X9_many_mono _ _ _) (fun v4 => ?_)
  refine mo_p (fun b5 => ?_)
  refine mo_h (h0 := (fun v => v.2)) (f_X9_build_mono _ _ _) (fun v6 => ?_)
  refine mo_p (fun b7 => ?_)
  refine mo_h (h0 := (fun v => v.2)) (f_X9_many_mono _ _ _) (fun v8 => ?_)
  refine mo_ite ?_ ?_
  · refine mo_p (fun b9 => ?_)
    refine mo_h (h0 := (fun v => v.2)) (f_X9_many_mono _ _ _) (fun v10 => ?_)
    refine mo_ite ?_ ?_
    · exact mo_none
    · refine mo_p (fun b11 => ?_)
      refine mo_h (h0 := (fun v => v.2)) (f_X9_many_mono _ _ _) (fun v12 => ?_)
      refine mo_ite ?_ ?_
      · exact mo_none
      · refine mo_p (fun b13 => ?_)
        refine mo_h (h0 := (fun v => v.2)) (f_X9_build_mono _ _ _) (fun v14 => ?_)
        refine mo_ite ?_ ?_
        · exact mo_some rfl
        · exact mo_none
  · exact mo_none
theorem f_L_isBroken_mono (s1 : Option Nat) (s2 : Int32) (s3 : Int32) (g : HP) : Mono g (fun v => v.2) (f_L_isBroken s1 s2 s3 g) := by
  unfold f_L_isBroken
  refine mo_p (fun b1 => ?_)
  refine mo_h (h0 := (fun v => v.2)) (f_X9_many_mono _ _ _) (fun v2 => ?_)
  refine mo_p (fun b3 => ?_)
  refine mo_h (h0 := (fun v => v.2)) (f_X9_wouldLose_mono _ _ _ _) (fun v4 => ?_)
  refine mo_p (fun b5 => ?_)
  refine mo_h (h0 := (fun v => v.2)) (f_X9_breakdown_mono _ _ _ _) (fun v6 => ?_)
  refine mo_p (fun b7 => ?_)
  refine mo_h (h0 := (fun v => v.2)) (f_X9_many_mono _ _ _) (fun v8 => ?_)
  refine mo_ite ?_ ?_
  · refine mo_p (fun b9 => ?_)
    refine mo_h (h0 := (fun v => v.2)) (f_X9_breakdown_mono _ _ _ _) (fun v10 => ?_)
    refine mo_ite ?_ ?_
    · refine mo_p (fun b11 => ?_)
      refine mo_h (h0 := (fun v => v.2)) (f_X9_many_mono _ _ _) (fun v12 => ?_)
      refine mo_ite ?_ ?_
      · refine mo_ite ?_ ?_
        · exact mo_some rfl
        · refine mo_p (fun b13 => ?_)
          refine mo_h (h0 := (fun v => v.2)) (f_X9_breakdown_mono _ _ _ _) (fun v14 => ?_)
          refine mo_ite ?_ ?_
          · exact mo_some rfl
          · exact mo_none
      · exact mo_none
    · exact mo_none
  · exact mo_none
theorem f_L_isSound_L15_mono (p15_0 : Option Nat) (p15_1 : Option Nat) (p15_2 : Option Nat) (p15_3 : Int32) (p15_4 : Option Nat) (p15_5 : Int32) (p15_7 : Nat) : ∀ (m15 : Nat) (u15_6 : Int32) (u15_8 : Int32) (u15_9 : Int32) (w15 : HP), Mono w15 (fun v => v.2.2) (f_L_isSound_L15 p15_0 p15_1 p15_2 p15_3 p15_4 p15_5 p15_7 m15 u15_6 u15_8 u15_9 w15) := by
  intro m15
  induction m15 with
  | zero =>
    intro u15_6 u15_8 u15_9 w15
    exact mo_none
  | succ m15 ih =>
    intro u15_6 u15_8 u15_9 w15
    unfold f_L_isSound_L15
    refine mo_ite ?_ ?_
    · exact mo_some rfl
    · refine mo_p (fun b2 => ?_)
      refine mo_h (h0 := (fun v => v.2)) (f_X9_ofTrip_mono _ _ _ _) (fun v3 => ?_)
      refine mo_p (fun b4 => ?_)
      refine mo_h (h0 := (fun v => v.2)) (f_X9_ofTrip_mono _ _ _ _) (fun v5 => ?_)
      refine mo_p (fun b6 => ?_)
      refine mo_h (h0 := (fun v => v.2)) (f_X9_ofTrip_mono _ _ _ _) (fun v7 => ?_)
      refine mo_p (fun x8 => ?_)
      refine mo_h mo_stI (fun g9 => ?_)
      refine mo_p (fun q10 => ?_)
      refine mo_p (fun q11 => ?_)
      refine mo_p (fun q12 => ?_)
      refine mo_ite ?_ ?_
      · refine mo_p (fun q13 => ?_)
        refine mo_p (fun q14 => ?_)
        refine mo_ite ?_ ?_
        · refine mo_p (fun q15 => ?_)
          refine mo_p (fun b16 => ?_)
          refine mo_h (h0 := (fun v => v.2)) (f_X9_ofTrip_mono _ _ _ _) (fun v17 => ?_)
          refine mo_p (fun q18 => ?_)
          refine mo_ite ?_ ?_
          · refine mo_ite ?_ ?_
            · exact mo_none
            · refine mo_h (h0 := fun v => v) ?_ (fun q21 => ?_)
              · refine mo_ite ?_ ?_
                · exact mo_some rfl
                · refine mo_p (fun b19 => ?_)
                  refine mo_h (h0 := (fun v => v.2)) (f_X9_ofTrip_mono _ _ _ _) (fun v20 => ?_)
                  refine mo_ite ?_ ?_
                  · exact mo_some rfl
                  · exact mo_none
              · refine mo_h (h0 := fun v => v.2) ?_ (fun q25 => ?_)
                · refine mo_ite ?_ ?_
                  · refine mo_p (fun b22 => ?_)
                    refine mo_h (h0 := (fun v => v.2)) (f_X9_ofTrip_mono _ _ _ _) (fun v23 => ?_)
                    refine mo_p (fun x24 => ?_)
                    exact mo_some rfl
                  · refine mo_ite ?_ ?_
                    · exact mo_some rfl
                    · exact mo_some rfl
                · refine mo_ite ?_ ?_
                  · refine mo_p (fun b26 => ?_)
                    refine mo_h (h0 := (fun v => v.2)) (f_X9_ofTrip_mono _ _ _ _) (fun v27 => ?_)
                    refine mo_p (fun b28 => ?_)
                    refine mo_h (h0 := (fun v => v.2)) (f_X9_ofTrip_mono _ _ _ _) (fun v29 => ?_)
                    refine mo_p (fun b30 => ?_)
                    refine mo_h (h0 := (fun v => v.2)) (f_X9_ofTrip_mono _ _ _ _) (fun v31 => ?_)
                    refine mo_ite ?_ ?_
                    · exact ih _ _ _ _
                    · exact mo_none
                  · exact ih _ _ _ _
          · exact mo_none
        · exact mo_none
      · exact mo_none
theorem f_L_isSound_L262_mono (p262_0 : Option Nat) (p262_1 : Option Nat) (p262_2 : Option Nat) (p262_3 : Int32) (p262_6 : Int32) (p262_7 : Nat) (p262_8 : Int32) : ∀ (m262 : Nat) (u262_9 : Int32) (w262 : HP), Mono w262 (fun v => v) (f_L_isSound_L262 p262_0 p262_1 p262_2 p262_3 p262_6 p262_7 p262_8 m262 u262_9 w262) := by
  intro m262
  induction m262 with
  | zero =>
    intro u262_9 w262
    exact mo_none
  | succ m262 ih =>
    intro u262_9 w262
    unfold f_L_isSound_L262
    refine mo_ite ?_ ?_
    · exact mo_some rfl
    · refine mo_p (fun b33 => ?_)
      refine mo_h (h0 := (fun v => v.2)) (f_X9_lost_mono _ _ _) (fun v34 => ?_)
      refine mo_p (fun x35 => ?_)
      refine mo_ite ?_ ?_
      · exact ih _ _
      · exact mo_none
theorem f_L_isSound_L398_mono (p398_0 : Nat) (p398_1 : Option Nat) (p398_2 : Option Nat) (p398_3 : Int32) (p398_8 : Int32) (p398_9 : Int32) (p398_10 : Int32) (p398_11 : Nat) (p398_12 : Nat) (p398_13 : Nat) (p398_14 : Int32) (p398_15 : Int32) (p398_16 : Int32) : ∀ (m398 : Nat) (u398_17 : Int32) (w398 : HP), Mono w398 (fun v => v) (f_L_isSound_L398 p398_0 p398_1 p398_2 p398_3 p398_8 p398_9 p398_10 p398_11 p398_12 p398_13 p398_14 p398_15 p398_16 m398 u398_17 w398) := by
  intro m398
  induction m398 with
  | zero =>
    intro u398_17 w398
    exact mo_none
  | succ m398 ih =>
    intro u398_17 w398
    unfold f_L_isSound_L398
    refine mo_ite ?_ ?_
    · exact mo_some rfl
    · refine mo_p (fun b52 => ?_)
      refine mo_p (fun x53 => ?_)
      refine mo_p (fun b54 => ?_)
      refine mo_h (h0 := (fun v => v.2)) (f_X9_ofTrip_mono _ _ _ _) (fun v55 => ?_)
      refine mo_ite ?_ ?_
      · refine mo_ite ?_ ?_
        · exact ih _ _
        · refine mo_p (fun b56 => ?_)
          refine mo_p (fun x57 => ?_)
          refine mo_p (fun b58 => ?_)
          refine mo_p (fun x59 => ?_)
          refine mo_h (h0 := (fun v => v.2)) (f_L_follows_mono _ _ _ _ _) (fun v60 => ?_)
          refine mo_ite ?_ ?_
          · exact mo_none
          · exact ih _ _
      · exact mo_none
theorem f_L_isSound_L534_mono (p534_0 : Nat) (p534_1 : Option Nat) (p534_2 : Option Nat) (p534_3 : Int32) (p534_8 : Int32) (p534_9 : Int32) (p534_10 : Int32) (p534_11 : Nat) (p534_12 : Nat) (p534_13 : Nat) (p534_15 : Int32) (p534_16 : Int32) : ∀ (m534 : Nat) (u534_14 : Int32) (u534_17 : Int32) (u534_18 : Int32) (w534 : HP), Mono w534 (fun v => v.2.2) (f_L_isSound_L534 p534_0 p534_1 p534_2 p534_3 p534_8 p534_9 p534_10 p534_11 p534_12 p534_13 p534_15 p534_16 m534 u534_14 u534_17 u534_18 w534) := by
  intro m534
  induction m534 with
  | zero =>
    intro u534_14 u534_17 u534_18 w534
    exact mo_none
  | succ m534 ih =>
    intro u534_14 u534_17 u534_18 w534
    unfold f_L_isSound_L534
    refine mo_p (fun b74 => ?_)
    refine mo_h (h0 := (fun v => v.2)) (f_X9_ofBlock_mono _ _ _ _) (fun v75 => ?_)
    refine mo_ite ?_ ?_
    · exact mo_some rfl
    · refine mo_p (fun b76 => ?_)
      refine mo_h (h0 := (fun v => v.2)) (f_X9_ofPiece_mono _ _ _ _ _) (fun v77 => ?_)
      refine mo_p (fun b78 => ?_)
      refine mo_p (fun x79 => ?_)
      refine mo_ite ?_ ?_
      · refine mo_p (fun b80 => ?_)
        refine mo_h (h0 := (fun v => v.2)) (f_X9_ofPiece_mono _ _ _ _ _) (fun v81 => ?_)
        refine mo_p (fun b82 => ?_)
        refine mo_h (h0 := (fun v => v.2)) (f_X9_ofPiece_mono _ _ _ _ _) (fun v83 => ?_)
        refine mo_p (fun b84 => ?_)
        refine mo_p (fun x85 => ?_)
        refine mo_ite ?_ ?_
        · refine mo_h (h0 := fun v => v) ?_ (fun q89 => ?_)
          · refine mo_ite ?_ ?_
            · exact mo_some rfl
            · refine mo_p (fun b86 => ?_)
              refine mo_h (h0 := (fun v => v.2)) (f_X9_ofTrip_mono _ _ _ _) (fun v87 => ?_)
              refine mo_p (fun x88 => ?_)
              refine mo_ite ?_ ?_
              · exact mo_none
              · exact mo_some rfl
          · refine mo_p (fun b90 => ?_)
            refine mo_h (h0 := (fun v => v.2)) (f_X9_ofPiece_mono _ _ _ _ _) (fun v91 => ?_)
            refine mo_p (fun b92 => ?_)
            refine mo_h (h0 := (fun v => v.2)) (f_X9_ofTrip_mono _ _ _ _) (fun v93 => ?_)
            refine mo_p (fun b94 => ?_)
            refine mo_h (h0 := (fun v => v.2)) (f_X9_ofPiece_mono _ _ _ _ _) (fun v95 => ?_)
            refine mo_p (fun b96 => ?_)
            refine mo_h (h0 := (fun v => v.2)) (f_X9_ofTrip_mono _ _ _ _) (fun v97 => ?_)
            refine mo_ite ?_ ?_
            · refine mo_p (fun b98 => ?_)
              refine mo_h (h0 := (fun v => v.2)) (f_X9_ofPiece_mono _ _ _ _ _) (fun v99 => ?_)
              refine mo_ite ?_ ?_
              · refine mo_p (fun b100 => ?_)
                refine mo_h (h0 := (fun v => v.2)) (f_X9_ofPiece_mono _ _ _ _ _) (fun v101 => ?_)
                refine mo_ite ?_ ?_
                · refine mo_h mo_nwI (fun a102 => ?_)
                  refine mo_h mo_stI (fun g103 => ?_)
                  refine mo_p (fun b104 => ?_)
                  refine mo_h (h0 := (fun v => v.2)) (f_X9_ofPiece_mono _ _ _ _ _) (fun v105 => ?_)
                  refine mo_p (fun b106 => ?_)
                  refine mo_h (h0 := (fun v => v.2)) (f_X9_ofTrip_mono _ _ _ _) (fun v107 => ?_)
                  refine mo_h mo_stI (fun g108 => ?_)
                  refine mo_p (fun b109 => ?_)
                  refine mo_h (h0 := (fun v => v.2)) (f_X9_ofTrip_mono _ _ _ _) (fun v110 => ?_)
                  refine mo_h mo_stI (fun g111 => ?_)
                  refine mo_h mo_stB (fun g112 => ?_)
                  refine mo_p (fun q123 => ?_)
                  refine mo_p (fun x124 => ?_)
                  refine mo_p (fun b125 => ?_)
                  refine mo_h (h0 := (fun v => v.2)) (f_X9_ofPiece_mono _ _ _ _ _) (fun v126 => ?_)
                  refine mo_h mo_stI (fun g127 => ?_)
                  refine mo_p (fun x128 => ?_)
                  refine mo_h mo_stI (fun g129 => ?_)
                  exact ih _ _ _ _
                · exact ih _ _ _ _
              · exact mo_none
            · exact mo_none
        · exact mo_none
      · exact mo_none
theorem f_L_isSound_L354_mono (p354_0 : Nat) (p354_1 : Option Nat) (p354_2 : Option Nat) (p354_3 : Int32) (p354_8 : Int32) (p354_11 : Nat) (p354_12 : Nat) (p354_13 : Nat) : ∀ (m354 : Nat) (u354_9 : Int32) (u354_10 : Int32) (u354_14 : Int32) (u354_15 : Int32) (w354 : HP), Mono w354 (fun v => v.2.2) (f_L_isSound_L354 p354_0 p354_1 p354_2 p354_3 p354_8 p354_11 p354_12 p354_13 m354 u354_9 u354_10 u354_14 u354_15 w354) := by
  intro m354
  induction m354 with
  | zero =>
    intro u354_9 u354_10 u354_14 u354_15 w354
    exact mo_none
  | succ m354 ih =>
    intro u354_9 u354_10 u354_14 u354_15 w354
    unfold f_L_isSound_L354
    refine mo_p (fun b47 => ?_)
    refine mo_h (h0 := (fun v => v.2)) (f_X9_many_mono _ _ _) (fun v48 => ?_)
    refine mo_ite ?_ ?_
    · exact mo_some rfl
    · refine mo_p (fun b49 => ?_)
      refine mo_h (h0 := (fun v => v.2)) (f_X9_ofBlock_mono _ _ _ _) (fun v50 => ?_)
      refine mo_p (fun q51 => ?_)
      refine mo_h (h0 := fun v => v) (f_L_isSound_L398_mono _ _ _ _ _ _ _ _ _ _ _ _ _ _ _ _) (fun q61 => ?_)
      refine mo_p (fun b62 => ?_)
      refine mo_p (fun x63 => ?_)
      refine mo_ite ?_ ?_
      · refine mo_p (fun b64 => ?_)
        refine mo_h (h0 := (fun v => v.2)) (f_X9_ofBlock_mono _ _ _ _) (fun v65 => ?_)
        refine mo_p (fun q66 => ?_)
        refine mo_p (fun b67 => ?_)
        refine mo_h (h0 := (fun v => v.2)) (f_X9_ofBlock_mono _ _ _ _) (fun v68 => ?_)
        refine mo_p (fun q69 => ?_)
        refine mo_ite ?_ ?_
        · refine mo_p (fun b70 => ?_)
          refine mo_h (h0 := (fun v => v.2)) (f_X9_ofBlock_mono _ _ _ _) (fun v71 => ?_)
          refine mo_p (fun b72 => ?_)
          refine mo_h (h0 := (fun v => v.2)) (f_X9_ofBlock_mono _ _ _ _) (fun v73 => ?_)
          refine mo_ite ?_ ?_
          · refine mo_h (h0 := fun v => v.2.2) (f_L_isSound_L534_mono _ _ _ _ _ _ _ _ _ _ _ _ _ _ _ _ _) (fun q130 => ?_)
            refine mo_p (fun b131 => ?_)
            refine mo_h (h0 := (fun v => v.2)) (f_X9_ofBlock_mono _ _ _ _) (fun v132 => ?_)
            refine mo_ite ?_ ?_
            · exact ih _ _ _ _ _
            · refine mo_ite ?_ ?_
              · exact ih _ _ _ _ _
              · exact mo_none
          · exact mo_none
        · exact mo_none
      · exact mo_none
theorem f_L_isSound_L873_mono (p873_0 : Nat) (p873_3 : Int32) (p873_8 : Int32) (p873_9 : Int32) (p873_10 : Int32) (p873_11 : Nat) (p873_12 : Nat) : ∀ (m873 : Nat) (u873_15 : Int32) (u873_16 : Int32) (w873 : HP), Mono w873 (fun v => v.2) (f_L_isSound_L873 p873_0 p873_3 p873_8 p873_9 p873_10 p873_11 p873_12 m873 u873_15 u873_16 w873) := by
  intro m873
  induction m873 with
  | zero =>
    intro u873_15 u873_16 w873
    exact mo_none
  | succ m873 ih =>
    intro u873_15 u873_16 w873
    unfold f_L_isSound_L873
    refine mo_ite ?_ ?_
    · exact mo_some rfl
    · refine mo_p (fun b134 => ?_)
      refine mo_h (h0 := (fun v => v.2)) (f_X9_ofDriver_mono _ _ _ _) (fun v135 => ?_)
      refine mo_p (fun x136 => ?_)
      refine mo_ite ?_ ?_
      · refine mo_p (fun b137 => ?_)
        refine mo_h (h0 := (fun v => v.2)) (f_X9_ofDriver_mono _ _ _ _) (fun v138 => ?_)
        refine mo_p (fun x139 => ?_)
        refine mo_ite ?_ ?_
        · refine mo_p (fun x140 => ?_)
          refine mo_ite ?_ ?_
          · exact mo_none
          · refine mo_p (fun b141 => ?_)
            refine mo_h (h0 := (fun v => v.2)) (f_X9_ofDriver_mono _ _ _ _) (fun v142 => ?_)
            refine mo_h (h0 := fun v => v) ?_ (fun q145 => ?_)
            · refine mo_ite ?_ ?_
              · refine mo_p (fun b143 => ?_)
                refine mo_h (h0 := (fun v => v.2)) (f_X9_ofDriver_mono _ _ _ _) (fun v144 => ?_)
                refine mo_ite ?_ ?_
                · exact mo_some rfl
                · exact mo_none
              · exact mo_some rfl
            · refine mo_p (fun b146 => ?_)
              refine mo_h (h0 := (fun v => v.2)) (f_X9_ofDriver_mono _ _ _ _) (fun v147 => ?_)
              exact ih _ _ _
        · exact mo_none
      · exact mo_none
theorem f_L_isSound_mono (s1 : Option Nat) (s2 : Option Nat) (s3 : Option Nat) (s4 : Int32) (s5 : Option Nat) (s6 : Int32) (g : HP) : Mono g (fun v => v.2) (f_L_isSound s1 s2 s3 s4 s5 s6 g) := by
  unfold f_L_isSound
  refine mo_h mo_nwI (fun a1 => ?_)
  refine mo_h (h0 := fun v => v.2.2) (f_L_isSound_L15_mono _ _ _ _ _ _ _ _ _ _ _ _) (fun q32 => ?_)
  refine mo_h (h0 := fun v => v) (f_L_isSound_L262_mono _ _ _ _ _ _ _ _ _ _) (fun q36 => ?_)
  refine mo_p (fun b37 => ?_)
  refine mo_h (h0 := (fun v => v.2)) (f_X9_many_mono _ _ _) (fun v38 => ?_)
  refine mo_p (fun x39 => ?_)
  refine mo_ite ?_ ?_
  · refine mo_p (fun b40 => ?_)
    refine mo_h (h0 := (fun v => v.2)) (f_X9_many_mono _ _ _) (fun v41 => ?_)
    refine mo_ite ?_ ?_
    · refine mo_p (fun b42 => ?_)
      refine mo_h (h0 := (fun v => v.2)) (f_X9_many_mono _ _ _) (fun v43 => ?_)
      refine mo_ite ?_ ?_
      · refine mo_h mo_nwI (fun a44 => ?_)
        refine mo_h mo_nwI (fun a45 => ?_)
        refine mo_h mo_nwA (fun a46 => ?_)
        refine mo_h (h0 := fun v => v.2.2) (f_L_isSound_L354_mono _ _ _ _ _ _ _ _ _ _ _ _ _ _) (fun q133 => ?_)
        refine mo_h (h0 := fun v => v.2) (f_L_isSound_L873_mono _ _ _ _ _ _ _ _ _ _ _) (fun q148 => ?_)
        refine mo_ite ?_ ?_
        · refine mo_p (fun b149 => ?_)
          refine mo_h (h0 := (fun v => v.2)) (f_X9_many_mono _ _ _) (fun v150 => ?_)
          refine mo_ite ?_ ?_
          · refine mo_ite ?_ ?_
            · exact mo_some rfl
            · refine mo_p (fun b151 => ?_)
              refine mo_h (h0 := (fun v => v.2)) (f_X9_leastBlocks_mono _ _) (fun v152 => ?_)
              refine mo_ite ?_ ?_
              · exact mo_none
              · exact mo_some rfl
          · exact mo_none
        · exact mo_none
      · exact mo_none
    · exact mo_none
  · exact mo_none
