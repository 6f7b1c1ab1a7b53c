/-! The law, as a function of the heap. Printed by a program of ours. -/
theorem mfw_L_isAppended : MFW yL_isAppended cL_isAppended 7 (some .boolean) [(48, 93, 94, 124)] 4 := ⟨kt928, kt0, by decide +kernel, by decide⟩
theorem mfw_L_isSwapped : MFW yL_isSwapped cL_isSwapped 9 (some .boolean) [(51, 135, 196, 124), (136, 195, 196, 124)] 5 := ⟨kt949, kt0, by decide +kernel, by decide⟩
theorem mfw_L_isCut : MFW yL_isCut cL_isCut 4 (some .boolean) [(7, 41, 42, 124)] 2 := ⟨kt963, kt0, by decide +kernel, by decide⟩
theorem mfw_L_isGiven : MFW yL_isGiven cL_isGiven 6 (some .boolean) [(9, 51, 52, 124)] 4 := ⟨kt1029, kt0, by decide +kernel, by decide⟩
def f_L_isAppended (s1 : Option Nat) (s2 : Option Nat) (s3 : Int32) (s4 : Int32) (g : HP) : Option (Int32 × HP) :=
  (rcv 10 s1 g).bind fun b1 =>
  (f_X9_ofBlock b1 s3 1 g).bind fun v2 =>
  (rcv 10 (some b1) v2.2).bind fun b3 =>
  (f_X9_ofTrip b3 s4 6 v2.2).bind fun v4 =>
  ((if 0 ≤ v4.1 then
  some ((0 : Int32), v4.2)
  else
  (if v2.1 = 0 then
  some ((1 : Int32), v4.2)
  else
  (rcv 10 (some b1) v4.2).bind fun b5 =>
  (f_X9_at b5 s3 (v2.1 - 1) v4.2).bind fun x6 =>
  (f_L_follows (some b1) s2 s4 x6 v4.2).bind fun v7 =>
  (if v7.1 = 0 then
  some ((0 : Int32), v7.2)
  else
  some ((1 : Int32), v7.2))))).bind fun q8 =>
  (rcv 10 (some b1) q8.2).bind fun b9 =>
  tryG (f_X9_append b9 s3 s4 q8.2) (x_X9_append b9 s3 s4 q8.2) (fun v10 =>
  (if v10.1 = v2.1 + 1 then
  (if q8.1 = 0 then
  none
  else
  (rcv 10 (some b1) v10.2).bind fun b13 =>
  (f_X9_at b13 s3 v2.1 v10.2).bind fun x14 =>
  (if x14 = s4 then
  (rcv 10 (some b1) v10.2).bind fun b15 =>
  (f_X9_ofTrip b15 s4 7 v10.2).bind fun v16 =>
  (if v16.1 = (-1) then
  some (1, v16.2)
  else
  none)
  else
  none))
  else
  none)) (fun g12 =>
  (if q8.1 = 0 then
  (rcv 10 (some b1) g12).bind fun b17 =>
  (f_X9_ofBlock b17 s3 1 g12).bind fun v18 =>
  (if v18.1 = v2.1 then
  some (1, v18.2)
  else
  none)
  else
  none))
def f_L_isSwapped (s1 : Option Nat) (s2 : Int32) (s3 : Int32) (s4 : Int32) (s5 : Int32) (g : HP) : Option (Int32 × HP) :=
  (rcv 10 s1 g).bind fun b1 =>
  (f_X9_many b1 7 g).bind fun v2 =>
  (nwI 20 2 v2.2).bind fun a3 =>
  (rcv 10 (some b1) a3.2).bind fun b4 =>
  (f_X9_ofBlock b4 s2 1 a3.2).bind fun v5 =>
  (stI (some a3.1) 0 v5.1 v5.2).bind fun g6 =>
  (rcv 10 (some b1) g6).bind fun b7 =>
  (f_X9_ofBlock b7 s3 1 g6).bind fun v8 =>
  (stI (some a3.1) 1 v8.1 v8.2).bind fun g9 =>
  (ldI (some a3.1) 0 g9).bind fun x10 =>
  ((if x10 ≤ s4 then
  some (-1 : Int32)
  else
  (rcv 10 (some b1) g9).bind fun b11 =>
  (f_X9_at b11 s2 s4 g9).bind fun x12 =>
  some x12)).bind fun q13 =>
  (rcv 10 (some b1) g9).bind fun b14 =>
  tryG (f_X9_swap b14 s2 s4 s3 s5 g9) (x_X9_swap b14 s2 s4 s3 s5 g9) (fun v15 =>
  (ldI (some a3.1) 0 v15.2).bind fun x18 =>
  (ldI (some a3.1) 1 v15.2).bind fun x19 =>
  (if v15.1 = ((x18 - s4) + x19) - s5 then
  (rcv 10 (some b1) v15.2).bind fun b20 =>
  (f_X9_ofBlock b20 s2 1 v15.2).bind fun v21 =>
  (ldI (some a3.1) 1 v21.2).bind fun x22 =>
  (if v21.1 = (s4 + x22) - s5 then
  (rcv 10 (some b1) v21.2).bind fun b23 =>
  (f_X9_ofBlock b23 s3 1 v21.2).bind fun v24 =>
  (ldI (some a3.1) 0 v24.2).bind fun x25 =>
  (if v24.1 = (s5 + x25) - s4 then
  ((if q13 < 0 then
  some v24.2
  else
  (rcv 10 (some b1) v24.2).bind fun b26 =>
  (f_X9_ofTrip b26 q13 6 v24.2).bind fun v27 =>
  (if v27.1 = s3 then
  some v27.2
  else
  none))).bind fun q28 =>
  (rcv 10 (some b1) q28).bind fun b29 =>
  tryG (f_X9_swap b29 s2 s4 s3 s5 q28) (x_X9_swap b29 s2 s4 s3 s5 q28) (fun v30 =>
  (if v30.1 = v15.1 then
  (rcv 10 (some b1) v30.2).bind fun b33 =>
  (f_X9_many b33 7 v30.2).bind fun v34 =>
  (if v34.1 = v2.1 then
  (rcv 10 (some b1) v34.2).bind fun b35 =>
  (f_X9_ofBlock b35 s2 1 v34.2).bind fun v36 =>
  (ldI (some a3.1) 0 v36.2).bind fun x37 =>
  (if v36.1 = x37 then
  (rcv 10 (some b1) v36.2).bind fun b38 =>
  (f_X9_ofBlock b38 s2 3 v36.2).bind fun v39 =>
  (rcv 10 (some b1) v39.2).bind fun b40 =>
  (f_X9_ofBlock b40 s3 3 v39.2).bind fun v41 =>
  (if v39.1 + v41.1 = 0 then
  some (1, v41.2)
  else
  none)
  else
  none)
  else
  none)
  else
  none)) (fun g32 =>
  (rcv 10 (some b1) g32).bind fun b42 =>
  (f_X9_ofBlock b42 s2 1 g32).bind fun v43 =>
  (ldI (some a3.1) 0 v43.2).bind fun x44 =>
  (if v43.1 = x44 then
  (rcv 10 (some b1) v43.2).bind fun b45 =>
  (f_X9_many b45 7 v43.2).bind fun v46 =>
  (if v46.1 = v2.1 then
  some (1, v46.2)
  else
  none)
  else
  none))
  else
  none)
  else
  none)
  else
  none)) (fun g17 =>
  (rcv 10 (some b1) g17).bind fun b47 =>
  (f_X9_ofBlock b47 s2 1 g17).bind fun v48 =>
  (ldI (some a3.1) 0 v48.2).bind fun x49 =>
  (if v48.1 = x49 then
  (rcv 10 (some b1) v48.2).bind fun b50 =>
  (f_X9_many b50 7 v48.2).bind fun v51 =>
  (if v51.1 = v2.1 then
  some (1, v51.2)
  else
  none)
  else
  none))
def f_L_isCut (s1 : Option Nat) (s2 : Int32) (g : HP) : Option (Int32 × HP) :=
  (rcv 10 s1 g).bind fun b1 =>
  (f_X9_ofBlock b1 s2 3 g).bind fun v2 =>
  (rcv 10 (some b1) v2.2).bind fun b3 =>
  tryG (f_X9_cut b3 s2 v2.2) (x_X9_cut b3 s2 v2.2) (fun v4 =>
  (rcv 10 (some b1) v4.2).bind fun b7 =>
  (f_X9_ofBlock b7 s2 3 v4.2).bind fun v8 =>
  (if v4.1 = v8.1 then
  (rcv 10 (some b1) v8.2).bind fun b9 =>
  (f_X9_ofPiece b9 s2 (v4.1 - 1) 4 v8.2).bind fun v10 =>
  (if v10.1 = (-1) then
  some (1, v10.2)
  else
  none)
  else
  none)) (fun g6 =>
  (rcv 10 (some b1) g6).bind fun b11 =>
  (f_X9_ofBlock b11 s2 3 g6).bind fun v12 =>
  (if v12.1 = v2.1 then
  some (1, v12.2)
  else
  none))
def f_L_isGiven (s1 : Option Nat) (s2 : Int32) (s3 : Int32) (s4 : Int32) (g : HP) : Option (Int32 × HP) :=
  (rcv 10 s1 g).bind fun b1 =>
  (f_X9_ofPiece b1 s2 s3 4 g).bind fun v2 =>
  (rcv 10 (some b1) v2.2).bind fun b3 =>
  tryG (f_X9_give b3 s2 s3 s4 v2.2) (x_X9_give b3 s2 s3 s4 v2.2) (fun v4 =>
  (if v2.1 = (-1) then
  (rcv 10 (some b1) v4.2).bind fun b7 =>
  (f_X9_ofPiece b7 s2 s3 4 v4.2).bind fun v8 =>
  (if v8.1 = s4 then
  (rcv 10 (some b1) v8.2).bind fun b9 =>
  (f_X9_ofDriver b9 s4 1 v8.2).bind fun v10 =>
  (if v10.1 = v4.1 then
  some (1, v10.2)
  else
  none)
  else
  none)
  else
  none)) (fun g6 =>
  (rcv 10 (some b1) g6).bind fun b11 =>
  (f_X9_ofPiece b11 s2 s3 4 g6).bind fun v12 =>
  (if v12.1 = v2.1 then
  some (1, v12.2)
  else
  none))
def f_L_law_L21 (p21_0 : Option Nat) (p21_1 : Option Nat) (p21_2 : Nat) (p21_3 : Nat) : Nat → Int32 → HP → Option HP
  | 0, _, _ => none
  | m21 + 1, u21_4, w21 =>
  (if 8 ≤ u21_4 then
  some w21
  else
  (f_L_cell p21_0 u21_4 w21).bind fun x4 =>
  (f_L_below x4 16 w21).bind fun x5 =>
  (stI (some p21_2) u21_4 x5 w21).bind fun g6 =>
  ((if u21_4 = 0 then
  some (1 : Int32)
  else
  (f_L_below (x4 >>> (4 &&& 31)) 3 g6).bind fun x7 =>
  (if x7 ≤ 0 then
  some (0 : Int32)
  else
  some (1 : Int32)))).bind fun q8 =>
  (stZ (some p21_3) u21_4 q8 g6).bind fun g9 =>
  (ldI (some p21_2) u21_4 g9).bind fun x10 =>
  (f_L_below (x4 >>> (6 &&& 31)) 6 g9).bind fun x11 =>
  (ldZ (some p21_3) u21_4 g9).bind fun x12 =>
  (rcv 10 p21_1 g9).bind fun b13 =>
  (f_X9_place b13 u21_4 x10 x11 x12 g9).bind fun v14 =>
  (if v14.1 = 0 then
  f_L_law_L21 p21_0 p21_1 p21_2 p21_3 m21 (u21_4 + 1) v14.2
  else
  none))
def f_L_law_L125 (p125_0 : Option Nat) (p125_1 : Option Nat) (p125_2 : Nat) (p125_3 : Nat) (p125_4 : Int32) : Nat → Int32 → HP → Option HP
  | 0, _, _ => none
  | m125 + 1, u125_5, w125 =>
  (if p125_4 ≤ u125_5 then
  some w125
  else
  (f_L_cell p125_0 (u125_5 - u125_5 / 16 * 16) w125).bind fun x18 =>
  (f_L_below (x18 + (53 * u125_5)) 4 w125).bind fun x19 =>
  (f_L_below ((x18 + (53 * u125_5)) >>> (2 &&& 31)) 8 w125).bind fun x20 =>
  (f_L_below ((x18 + (53 * u125_5)) >>> (5 &&& 31)) 8 w125).bind fun x21 =>
  (f_L_below ((x18 + (53 * u125_5)) >>> (3 &&& 31)) 700 w125).bind fun x22 =>
  (f_L_below ((x18 + (53 * u125_5)) >>> (7 &&& 31)) 40 w125).bind fun x23 =>
  (rcv 10 p125_1 w125).bind fun b24 =>
  (f_X9_trip b24 x19 x20 x21 x22 (5 + x23) w125).bind fun v25 =>
  (if v25.1 = u125_5 then
  f_L_law_L125 p125_0 p125_1 p125_2 p125_3 p125_4 m125 (u125_5 + 1) v25.2
  else
  none))
def f_L_law_L215 (p215_0 : Option Nat) (p215_1 : Option Nat) (p215_2 : Nat) (p215_3 : Nat) (p215_4 : Int32) : Nat → Int32 → HP → Option HP
  | 0, _, _ => none
  | m215 + 1, u215_5, w215 =>
  (if 4 ≤ u215_5 then
  some w215
  else
  (rcv 10 p215_1 w215).bind fun b27 =>
  (f_X9_driver b27 w215).bind fun v28 =>
  (if v28.1 = u215_5 then
  f_L_law_L215 p215_0 p215_1 p215_2 p215_3 p215_4 m215 (u215_5 + 1) v28.2
  else
  none))
def f_L_law_L269 (p269_0 : Option Nat) (p269_1 : Option Nat) (p269_2 : Nat) (p269_3 : Nat) (p269_4 : Int32) (p269_5 : Int32) (p269_6 : Nat) : Nat → Int32 → HP → Option HP
  | 0, _, _ => none
  | m269 + 1, u269_7, w269 =>
  (if 50 ≤ u269_7 then
  some w269
  else
  (f_L_cell p269_0 (u269_7 - u269_7 / 16 * 16) w269).bind fun x35 =>
  (f_L_cell p269_0 (((7 * u269_7) + 3) - ((7 * u269_7) + 3) / 16 * 16) w269).bind fun x36 =>
  (rcv 10 p269_1 w269).bind fun b37 =>
  (f_X9_many b37 1 w269).bind fun v38 =>
  ((if v38.1 = 0 then
  some (-1 : Int32)
  else
  (f_L_below ((x36 + (5 * u269_7)) >>> (3 &&& 31)) v38.1 v38.2).bind fun x39 =>
  some x39)).bind fun q40 =>
  ((if v38.1 = 0 then
  some (-1 : Int32)
  else
  (f_L_below ((x35 + (31 * u269_7)) >>> (5 &&& 31)) v38.1 v38.2).bind fun x41 =>
  some x41)).bind fun q42 =>
  (f_L_below (x36 + (5 * u269_7)) p269_4 v38.2).bind fun x43 =>
  (f_L_below (x35 + (31 * u269_7)) 16 v38.2).bind fun x44 =>
  ((if x44 = 0 then
  (f_L_below ((x35 + (31 * u269_7)) >>> (4 &&& 31)) 3 v38.2).bind fun x46 =>
  (if x46 = 0 then
  (f_L_below (x36 + (5 * u269_7)) 400 v38.2).bind fun x47 =>
  (f_L_isBuilt (some b37) (80 + x47) v38.2).bind fun v48 =>
  (if v48.1 = 0 then
  none
  else
  some v48.2)
  else
  some v38.2)
  else
  (if x44 = 1 then
  (if 8 ≤ v38.1 then
  some v38.2
  else
  (f_L_below ((x35 + (31 * u269_7)) >>> (4 &&& 31)) 300 v38.2).bind fun x49 =>
  (rcv 10 (some b37) v38.2).bind fun b50 =>
  (f_X9_block b50 (80 + x49) v38.2).bind fun v51 =>
  (if v51.1 = v38.1 then
  some v51.2
  else
  none))
  else
  (if x44 = 2 then
  (if q40 < 0 then
  some v38.2
  else
  (f_L_isAppended (some b37) (some p269_2) q40 x43 v38.2).bind fun v52 =>
  (if v52.1 = 0 then
  none
  else
  some v52.2))
  else
  (if x44 = 3 then
  (if q40 < 0 then
  some v38.2
  else
  (f_L_isAppended (some b37) (some p269_2) q40 x43 v38.2).bind fun v53 =>
  (if v53.1 = 0 then
  none
  else
  some v53.2))
  else
  (if x44 = 4 then
  (if q40 < 0 then
  some v38.2
  else
  (f_L_isAppended (some b37) (some p269_2) q40 x43 v38.2).bind fun v54 =>
  (if v54.1 = 0 then
  none
  else
  some v54.2))
  else
  (if x44 = 5 then
  (if q40 < 0 then
  some v38.2
  else
  (rcv 10 (some b37) v38.2).bind fun b55 =>
  (f_X9_ofBlock b55 q40 1 v38.2).bind fun v56 =>
  (if v56.1 ≤ 0 then
  some v56.2
  else
  (rcv 10 (some b37) v56.2).bind fun b57 =>
  (f_X9_takeOff b57 q40 v56.2).bind fun v58 =>
  (if v58.1 < 0 then
  none
  else
  (rcv 10 (some b37) v58.2).bind fun b59 =>
  (f_X9_ofBlock b59 q40 3 v58.2).bind fun v60 =>
  (if v60.1 = 0 then
  some v60.2
  else
  none))))
  else
  (if x44 = 6 then
  (if q40 < 0 then
  some v38.2
  else
  (if q40 = q42 then
  some v38.2
  else
  (rcv 10 (some b37) v38.2).bind fun b61 =>
  (f_X9_ofBlock b61 q40 1 v38.2).bind fun v62 =>
  (f_L_below ((x35 + (31 * u269_7)) >>> (4 &&& 31)) (v62.1 + 1) v62.2).bind fun x63 =>
  (rcv 10 (some b37) v62.2).bind fun b64 =>
  (f_X9_ofBlock b64 q42 1 v62.2).bind fun v65 =>
  (f_L_below ((x36 + (5 * u269_7)) >>> (5 &&& 31)) (v65.1 + 1) v65.2).bind fun x66 =>
  (f_L_isSwapped (some b37) q40 q42 x63 x66 v65.2).bind fun v67 =>
  (if v67.1 = 0 then
  none
  else
  some v67.2)))
  else
  (if x44 = 7 then
  (if q40 < 0 then
  some v38.2
  else
  (f_L_isCut (some b37) q40 v38.2).bind fun v68 =>
  (if v68.1 = 0 then
  none
  else
  some v68.2))
  else
  (if x44 = 8 then
  (if q40 < 0 then
  some v38.2
  else
  (f_L_isCut (some b37) q40 v38.2).bind fun v69 =>
  (if v69.1 = 0 then
  none
  else
  some v69.2))
  else
  (if x44 = 9 then
  (if q40 < 0 then
  some v38.2
  else
  (rcv 10 (some b37) v38.2).bind fun b70 =>
  (f_X9_ofBlock b70 q40 3 v38.2).bind fun v71 =>
  (if v71.1 ≤ 0 then
  some v71.2
  else
  (rcv 10 (some b37) v71.2).bind fun b72 =>
  (f_X9_ofBlock b72 q40 3 v71.2).bind fun v73 =>
  (f_L_below ((x35 + (31 * u269_7)) >>> (4 &&& 31)) v73.1 v73.2).bind fun x74 =>
  (f_L_below ((x36 + (5 * u269_7)) >>> (5 &&& 31)) 4 v73.2).bind fun x75 =>
  (f_L_isGiven (some b37) q40 x74 x75 v73.2).bind fun v76 =>
  (if v76.1 = 0 then
  none
  else
  some v76.2)))
  else
  (if x44 = 10 then
  (if q40 < 0 then
  some v38.2
  else
  (rcv 10 (some b37) v38.2).bind fun b77 =>
  (f_X9_ofBlock b77 q40 3 v38.2).bind fun v78 =>
  (if v78.1 ≤ 0 then
  some v78.2
  else
  (rcv 10 (some b37) v78.2).bind fun b79 =>
  (f_X9_ofBlock b79 q40 3 v78.2).bind fun v80 =>
  (f_L_below ((x35 + (31 * u269_7)) >>> (4 &&& 31)) v80.1 v80.2).bind fun x81 =>
  (f_L_below ((x36 + (5 * u269_7)) >>> (5 &&& 31)) 4 v80.2).bind fun x82 =>
  (f_L_isGiven (some b37) q40 x81 x82 v80.2).bind fun v83 =>
  (if v83.1 = 0 then
  none
  else
  some v83.2)))
  else
  (if x44 = 11 then
  (f_L_below ((x35 + (31 * u269_7)) >>> (4 &&& 31)) 45 v38.2).bind fun x84 =>
  (rcv 10 (some b37) v38.2).bind fun b85 =>
  (f_X9_delay b85 x43 x84 v38.2).bind fun v86 =>
  (if v86.1 ≤ 44 then
  some v86.2
  else
  none)
  else
  (if x44 = 12 then
  (f_L_below (x36 + (5 * u269_7)) 4 v38.2).bind fun x87 =>
  (rcv 10 (some b37) v38.2).bind fun b88 =>
  (f_X9_ofDriver b88 x87 2 v38.2).bind fun v89 =>
  ((if v89.1 = 1 then
  some (1 : Int32)
  else
  some (0 : Int32))).bind fun q90 =>
  (f_L_below ((x35 + (31 * u269_7)) >>> (4 &&& 31)) 4 v89.2).bind fun x91 =>
  ((if x91 = 0 then
  some (1 : Int32)
  else
  some (0 : Int32))).bind fun q92 =>
  (f_L_below (x36 + (5 * u269_7)) 4 v89.2).bind fun x93 =>
  (rcv 10 (some b37) v89.2).bind fun b94 =>
  (f_X9_sick b94 x93 q92 v89.2).bind fun v95 =>
  (if v95.1 = q90 then
  (f_L_below (x36 + (5 * u269_7)) 4 v95.2).bind fun x96 =>
  (rcv 10 (some b37) v95.2).bind fun b97 =>
  (f_X9_ofDriver b97 x96 2 v95.2).bind fun v98 =>
  (if q92 = 0 then
  (if v98.1 = 0 then
  some v98.2
  else
  none)
  else
  (if v98.1 = 1 then
  some v98.2
  else
  none))
  else
  none)
  else
  (if x44 = 13 then
  (if q40 < 0 then
  some v38.2
  else
  (f_L_below ((x35 + (31 * u269_7)) >>> (4 &&& 31)) 900 v38.2).bind fun x99 =>
  (f_L_isBroken (some b37) q40 x99 v38.2).bind fun v100 =>
  (if v100.1 = 0 then
  none
  else
  some v100.2))
  else
  (if x44 = 14 then
  (f_L_below (x36 + (5 * u269_7)) 4 v38.2).bind fun x101 =>
  (f_L_below ((x35 + (31 * u269_7)) >>> (4 &&& 31)) 30 v38.2).bind fun x102 =>
  (stI (some p269_6) x101 x102 v38.2).bind fun g103 =>
  (f_L_below (x36 + (5 * u269_7)) 4 g103).bind fun x104 =>
  (f_L_below (x36 + (5 * u269_7)) 4 g103).bind fun x105 =>
  (ldI (some p269_6) x105 g103).bind fun x106 =>
  (f_L_below ((x36 + (5 * u269_7)) >>> (4 &&& 31)) 4 g103).bind fun x107 =>
  ((if x107 = 0 then
  some (1 : Int32)
  else
  some (0 : Int32))).bind fun q108 =>
  (rcv 10 (some b37) g103).bind fun b109 =>
  (f_X9_line b109 x104 x106 q108 g103).bind fun v110 =>
  (if v110.1 ≤ 29 then
  some v110.2
  else
  none)
  else
  (rcv 10 (some b37) v38.2).bind fun b111 =>
  (f_X9_ofTrip b111 x43 5 v38.2).bind fun v112 =>
  (rcv 10 (some b37) v112.2).bind fun b113 =>
  (f_X9_mayDelay b113 x43 v112.2).bind fun v114 =>
  (rcv 10 (some b37) v114.2).bind fun b115 =>
  (f_X9_delay b115 x43 0 v114.2).bind fun v116 =>
  (if v116.1 = v112.1 then
  (rcv 10 (some b37) v116.2).bind fun b117 =>
  (f_X9_many b117 4 v116.2).bind fun v118 =>
  (rcv 10 (some b37) v118.2).bind fun b119 =>
  (f_X9_delay b119 x43 v114.1 v118.2).bind fun v120 =>
  (if v120.1 = 0 then
  (rcv 10 (some b37) v120.2).bind fun b121 =>
  (f_X9_many b121 4 v120.2).bind fun v122 =>
  (if p269_4 - v118.1 < p269_4 - v122.1 then
  none
  else
  ((if 120 ≤ v114.1 then
  some v122.2
  else
  (rcv 10 (some b37) v122.2).bind fun b123 =>
  (f_X9_delay b123 x43 (v114.1 + 1) v122.2).bind fun v124 =>
  (if v124.1 = v114.1 then
  (rcv 10 (some b37) v124.2).bind fun b125 =>
  (f_X9_many b125 4 v124.2).bind fun v126 =>
  (if p269_4 - v118.1 < p269_4 - v126.1 then
  some v126.2
  else
  none)
  else
  none))).bind fun q127 =>
  (rcv 10 (some b37) q127).bind fun b128 =>
  (f_X9_delay b128 x43 v112.1 q127).bind fun v129 =>
  (if 0 ≤ v129.1 then
  some v129.2
  else
  none))
  else
  none)
  else
  none))))))))))))))))).bind fun q45 =>
  (if u269_7 - u269_7 / 3 * 3 = 1 then
  (f_L_isSound (some b37) (some p269_2) (some p269_3) p269_4 (some p269_6) p269_5 q45).bind fun v130 =>
  (if v130.1 = 0 then
  none
  else
  f_L_law_L269 p269_0 p269_1 p269_2 p269_3 p269_4 p269_5 p269_6 m269 (u269_7 + 1) v130.2)
  else
  f_L_law_L269 p269_0 p269_1 p269_2 p269_3 p269_4 p269_5 p269_6 m269 (u269_7 + 1) q45))
def f_L_law (s1 : Option Nat) (g : HP) : Option (Int32 × HP) :=
  (f_X9_init (nx g) (newG g 11 14 [] [])).bind fun g1 =>
  (nwI 20 8 g1).bind fun a2 =>
  (nwI 21 8 a2.2).bind fun a3 =>
  (f_L_law_L21 s1 (some (nx g)) a2.1 a3.1 FU 0 a3.2).bind fun q15 =>
  (f_L_cell s1 8 q15).bind fun x16 =>
  (f_L_below x16 12 q15).bind fun x17 =>
  (f_L_law_L125 s1 (some (nx g)) a2.1 a3.1 (5 + x17) FU 0 q15).bind fun q26 =>
  (f_L_law_L215 s1 (some (nx g)) a2.1 a3.1 (5 + x17) FU 0 q26).bind fun q29 =>
  (nwI 20 4 q29).bind fun a30 =>
  (stI (some a30.1) 0 10 a30.2).bind fun g31 =>
  (stI (some a30.1) 1 10 g31).bind fun g32 =>
  (stI (some a30.1) 2 10 g32).bind fun g33 =>
  (stI (some a30.1) 3 10 g33).bind fun g34 =>
  (f_L_law_L269 s1 (some (nx g)) a2.1 a3.1 (5 + x17) 5 a30.1 FU 0 g34).bind fun q131 =>
  (rcv 10 (some (nx g)) q131).bind fun b132 =>
  (f_X9_digest b132 q131).bind fun v133 =>
  (rcv 10 (some (nx g)) v133.2).bind fun b134 =>
  (f_X9_leastBlocks b134 v133.2).bind fun v135 =>
  (if 5 + x17 < v135.1 then
  none
  else
  (rcv 10 (some (nx g)) v135.2).bind fun b136 =>
  (f_X9_meanLate b136 v135.2).bind fun v137 =>
  (if Op.cmpValue (FP.dcmp v137.1 4629137466983448576) .l ≤ 0 then
  (rcv 10 (some (nx g)) v137.2).bind fun b138 =>
  (f_X9_digest b138 v137.2).bind fun v139 =>
  (if lg_cmp v139.1 v133.1 = 0 then
  some (1, v139.2)
  else
  none)
  else
  none))
theorem f_L_isAppended_mono (s1 : Option Nat) (s2 : Option Nat) (s3 : Int32) (s4 : Int32) (g : HP) : Mono g (fun v => v.2) (f_L_isAppended s1 s2 s3 s4 g) := by
  unfold f_L_isAppended
  refine mo_p (fun b1 => ?_)
  refine mo_h (h0 := (fun v => v.2)) (f_X9_ofBlock_mono _ _ _ _) (fun v2 => ?_)
  refine mo_p (fun b3 => ?_)
  refine mo_h (h0 := (fun v => v.2)) (f_X9_ofTrip_mono _ _ _ _) (fun v4 => ?_)
  refine mo_h (h0 := fun v => v.2) ?_ (fun q8 => ?_)
  · refine mo_ite ?_ ?_
    · exact mo_some rfl
    · refine mo_ite ?_ ?_
      · exact mo_some rfl
      · refine mo_p (fun b5 => ?_)
        refine mo_p (fun x6 => ?_)
        refine mo_h (h0 := (fun v => v.2)) (f_L_follows_mono _ _ _ _ _) (fun v7 => ?_)
        refine mo_ite ?_ ?_
        · exact mo_some rfl
        · exact mo_some rfl
  · refine mo_p (fun b9 => ?_)
    refine mo_try (f_X9_append_mono _ _ _ _) (x_X9_append_mono _ _ _ _) (fun v10 => ?_) (fun g12 => ?_)
    · refine mo_ite ?_ ?_
      · refine mo_ite ?_ ?_
        · exact mo_none
        · refine mo_p (fun b13 => ?_)
          refine mo_p (fun x14 => ?_)
          refine mo_ite ?_ ?_
          · refine mo_p (fun b15 => ?_)
            refine mo_h (h0 := (fun v => v.2)) (f_X9_ofTrip_mono _ _ _ _) (fun v16 => ?_)
            refine mo_ite ?_ ?_
            · exact mo_some rfl
            · exact mo_none
          · exact mo_none
      · exact mo_none
    · refine mo_ite ?_ ?_
      · refine mo_p (fun b17 => ?_)
        refine mo_h (h0 := (fun v => v.2)) (f_X9_ofBlock_mono _ _ _ _) (fun v18 => ?_)
        refine mo_ite ?_ ?_
        · exact mo_some rfl
        · exact mo_none
      · exact mo_none
theorem f_L_isSwapped_mono (s1 : Option Nat) (s2 : Int32) (s3 : Int32) (s4 : Int32) (s5 : Int32) (g : HP) : Mono g (fun v => v.2) (f_L_isSwapped s1 s2 s3 s4 s5 g) := by
  unfold f_L_isSwapped
  refine mo_p (fun b1 => ?_)
  refine mo_h (h0 := (fun v => v.2)) (f_X9_many_mono _ _ _) (fun v2 => ?_)
  refine mo_h mo_nwI (fun a3 => ?_)
  refine mo_p (fun b4 => ?_)
  refine mo_h (h0 := (fun v => v.2)) (f_X9_ofBlock_mono _ _ _ _) (fun v5 => ?_)
  refine mo_h mo_stI (fun g6 => ?_)
  refine mo_p (fun b7 => ?_)
  refine mo_h (h0 := (fun v => v.2)) (f_X9_ofBlock_mono _ _ _ _) (fun v8 => ?_)
  refine mo_h mo_stI (fun g9 => ?_)
  refine mo_p (fun x10 => ?_)
  refine mo_p (fun q13 => ?_)
  refine mo_p (fun b14 => ?_)
  refine mo_try (f_X9_swap_mono _ _ _ _ _ _) (x_X9_swap_mono _ _ _ _ _ _) (fun v15 => ?_) (fun g17 => ?_)
  · refine mo_p (fun x18 => ?_)
    refine mo_p (fun x19 => ?_)
    refine mo_ite ?_ ?_
    · refine mo_p (fun b20 => ?_)
      refine mo_h (h0 := (fun v => v.2)) (f_X9_ofBlock_mono _ _ _ _) (fun v21 => ?_)
      refine mo_p (fun x22 => ?_)
      refine mo_ite ?_ ?_
      · refine mo_p (fun b23 => ?_)
        refine mo_h (h0 := (fun v => v.2)) (f_X9_ofBlock_mono _ _ _ _) (fun v24 => ?_)
        refine mo_p (fun x25 => ?_)
        refine mo_ite ?_ ?_
        · refine mo_h (h0 := fun v => v) ?_ (fun q28 => ?_)
          · refine mo_ite ?_ ?_
            · exact mo_some rfl
            · refine mo_p (fun b26 => ?_)
              refine mo_h (h0 := (fun v => v.2)) (f_X9_ofTrip_mono _ _ _ _) (fun v27 => ?_)
              refine mo_ite ?_ ?_
              · exact mo_some rfl
              · exact mo_none
          · refine mo_p (fun b29 => ?_)
            refine mo_try (f_X9_swap_mono _ _ _ _ _ _) (x_X9_swap_mono _ _ _ _ _ _) (fun v30 => ?_) (fun g32 => ?_)
            · refine mo_ite ?_ ?_
              · refine mo_p (fun b33 => ?_)
                refine mo_h (h0 := (fun v => v.2)) (f_X9_many_mono _ _ _) (fun v34 => ?_)
                refine mo_ite ?_ ?_
                · refine mo_p (fun b35 => ?_)
                  refine mo_h (h0 := (fun v => v.2)) (f_X9_ofBlock_mono _ _ _ _) (fun v36 => ?_)
                  refine mo_p (fun x37 => ?_)
                  refine mo_ite ?_ ?_
                  · refine mo_p (fun b38 => ?_)
                    refine mo_h (h0 := (fun v => v.2)) (f_X9_ofBlock_mono _ _ _ _) (fun v39 => ?_)
                    refine mo_p (fun b40 => ?_)
                    refine mo_h (h0 := (fun v => v.2)) (f_X9_ofBlock_mono _ _ _ _) (fun v41 => ?_)
                    refine mo_ite ?_ ?_
                    · exact mo_some rfl
                    · exact mo_none
                  · exact mo_none
                · exact mo_none
              · exact mo_none
            · refine mo_p (fun b42 => ?_)
              refine mo_h (h0 := (fun v => v.2)) (f_X9_ofBlock_mono _ _ _ _) (fun v43 => ?_)
              refine mo_p (fun x44 => ?_)
              refine mo_ite ?_ ?_
              · refine mo_p (fun b45 => ?_)
                refine mo_h (h0 := (fun v => v.2)) (f_X9_many_mono _ _ _) (fun v46 => ?_)
                refine mo_ite ?_ ?_
                · exact mo_some rfl
                · exact mo_none
              · exact mo_none
        · exact mo_none
      · exact mo_none
    · exact mo_none
  · refine mo_p (fun b47 => ?_)
    refine mo_h (h0 := (fun v => v.2)) (f_X9_ofBlock_mono _ _ _ _) (fun v48 => ?_)
    refine mo_p (fun x49 => ?_)
    refine mo_ite ?_ ?_
    · refine mo_p (fun b50 => ?_)
      refine mo_h (h0 := (fun v => v.2)) (f_X9_many_mono _ _ _) (fun v51 => ?_)
      refine mo_ite ?_ ?_
      · exact mo_some rfl
      · exact mo_none
    · exact mo_none
theorem f_L_isCut_mono (s1 : Option Nat) (s2 : Int32) (g : HP) : Mono g (fun v => v.2) (f_L_isCut s1 s2 g) := by
  unfold f_L_isCut
  refine mo_p (fun b1 => ?_)
  refine mo_h (h0 := (fun v => v.2)) (f_X9_ofBlock_mono _ _ _ _) (fun v2 => ?_)
  refine mo_p (fun b3 => ?_)
  refine mo_try (f_X9_cut_mono _ _ _) (x_X9_cut_mono _ _ _) (fun v4 => ?_) (fun g6 => ?_)
  · refine mo_p (fun b7 => ?_)
    refine mo_h (h0 := (fun v => v.2)) (f_X9_ofBlock_mono _ _ _ _) (fun v8 => ?_)
    refine mo_ite ?_ ?_
    · refine mo_p (fun b9 => ?_)
      refine mo_h (h0 := (fun v => v.2)) (f_X9_ofPiece_mono _ _ _ _ _) (fun v10 => ?_)
      refine mo_ite ?_ ?_
      · exact mo_some rfl
      · exact mo_none
    · exact mo_none
  · refine mo_p (fun b11 => ?_)
    refine mo_h (h0 := (fun v => v.2)) (f_X9_ofBlock_mono _ _ _ _) (fun v12 => ?_)
    refine mo_ite ?_ ?_
    · exact mo_some rfl
    · exact mo_none
theorem f_L_isGiven_mono (s1 : Option Nat) (s2 : Int32) (s3 : Int32) (s4 : Int32) (g : HP) : Mono g (fun v => v.2) (f_L_isGiven s1 s2 s3 s4 g) := by
  unfold f_L_isGiven
  refine mo_p (fun b1 => ?_)
  refine mo_h (h0 := (fun v => v.2)) (f_X9_ofPiece_mono _ _ _ _ _) (fun v2 => ?_)
  refine mo_p (fun b3 => ?_)
  refine mo_try (f_X9_give_mono _ _ _ _ _) (x_X9_give_mono _ _ _ _ _) (fun v4 => ?_) (fun g6 => ?_)
  · refine mo_ite ?_ ?_
    · refine mo_p (fun b7 => ?_)
      refine mo_h (h0 := (fun v => v.2)) (f_X9_ofPiece_mono _ _ _ _ _) (fun v8 => ?_)
      refine mo_ite ?_ ?_
      · refine mo_p (fun b9 => ?_)
        refine mo_h (h0 := (fun v => v.2)) (f_X9_ofDriver_mono _ _ _ _) (fun v10 => ?_)
        refine mo_ite ?_ ?_
        · exact mo_some rfl
        · exact mo_none
      · exact mo_none
    · exact mo_none
  · refine mo_p (fun b11 => ?_)
    refine mo_h (h0 := (fun v => v.2)) (f_X9_ofPiece_mono _ _ _ _ _) (fun v12 => ?_)
    refine mo_ite ?_ ?_
    · exact mo_some rfl
    · exact mo_none
theorem f_L_law_L21_mono (p21_0 : Option Nat) (p21_1 : Option Nat) (p21_2 : Nat) (p21_3 : Nat) : ∀ (m21 : Nat) (u21_4 : Int32) (w21 : HP), Mono w21 (fun v => v) (f_L_law_L21 p21_0 p21_1 p21_2 p21_3 m21 u21_4 w21) := by
  intro m21
  induction m21 with
  | zero =>
    intro u21_4 w21
    exact mo_none
  | succ m21 ih =>
    intro u21_4 w21
    unfold f_L_law_L21
    refine mo_ite ?_ ?_
    · exact mo_some rfl
    · refine mo_p (fun x4 => ?_)
      refine mo_p (fun x5 => ?_)
      refine mo_h mo_stI (fun g6 => ?_)
      refine mo_p (fun q8 => ?_)
      refine mo_h mo_stZ (fun g9 => ?_)
      refine mo_p (fun x10 => ?_)
      refine mo_p (fun x11 => ?_)
      refine mo_p (fun x12 => ?_)
      refine mo_p (fun b13 => ?_)
      refine mo_h (h0 := (fun v => v.2)) (f_X9_place_mono _ _ _ _ _ _) (fun v14 => ?_)
      refine mo_ite ?_ ?_
      · exact ih _ _
      · exact mo_none
theorem f_L_law_L125_mono (p125_0 : Option Nat) (p125_1 : Option Nat) (p125_2 : Nat) (p125_3 : Nat) (p125_4 : Int32) : ∀ (m125 : Nat) (u125_5 : Int32) (w125 : HP), Mono w125 (fun v => v) (f_L_law_L125 p125_0 p125_1 p125_2 p125_3 p125_4 m125 u125_5 w125) := by
  intro m125
  induction m125 with
  | zero =>
    intro u125_5 w125
    exact mo_none
  | succ m125 ih =>
    intro u125_5 w125
    unfold f_L_law_L125
    refine mo_ite ?_ ?_
    · exact mo_some rfl
    · refine mo_p (fun x18 => ?_)
      refine mo_p (fun x19 => ?_)
      refine mo_p (fun x20 => ?_)
      refine mo_p (fun x21 => ?_)
      refine mo_p (fun x22 => ?_)
      refine mo_p (fun x23 => ?_)
      refine mo_p (fun b24 => ?_)
      refine mo_h (h0 := (fun v => v.2)) (f_X9_trip_mono _ _ _ _ _ _ _) (fun v25 => ?_)
      refine mo_ite ?_ ?_
      · exact ih _ _
      · exact mo_none
theorem f_L_law_L215_mono (p215_0 : Option Nat) (p215_1 : Option Nat) (p215_2 : Nat) (p215_3 : Nat) (p215_4 : Int32) : ∀ (m215 : Nat) (u215_5 : Int32) (w215 : HP), Mono w215 (fun v => v) (f_L_law_L215 p215_0 p215_1 p215_2 p215_3 p215_4 m215 u215_5 w215) := by
  intro m215
  induction m215 with
  | zero =>
    intro u215_5 w215
    exact mo_none
  | succ m215 ih =>
    intro u215_5 w215
    unfold f_L_law_L215
    refine mo_ite ?_ ?_
    · exact mo_some rfl
    · refine mo_p (fun b27 => ?_)
      refine mo_h (h0 := (fun v => v.2)) (f_X9_driver_mono _ _) (fun v28 => ?_)
      refine mo_ite ?_ ?_
      · exact ih _ _
      · exact mo_none
theorem f_L_law_L269_mono (p269_0 : Option Nat) (p269_1 : Option Nat) (p269_2 : Nat) (p269_3 : Nat) (p269_4 : Int32) (p269_5 : Int32) (p269_6 : Nat) : ∀ (m269 : Nat) (u269_7 : Int32) (w269 : HP), Mono w269 (fun v => v) (f_L_law_L269 p269_0 p269_1 p269_2 p269_3 p269_4 p269_5 p269_6 m269 u269_7 w269) := by
  intro m269
  induction m269 with
  | zero =>
    intro u269_7 w269
    exact mo_none
  | succ m269 ih =>
    intro u269_7 w269
    unfold f_L_law_L269
    refine mo_ite ?_ ?_
    · exact mo_some rfl
    · refine mo_p (fun x35 => ?_)
      refine mo_p (fun x36 => ?_)
      refine mo_p (fun b37 => ?_)
      refine mo_h (h0 := (fun v => v.2)) (f_X9_many_mono _ _ _) (fun v38 => ?_)
      refine mo_p (fun q40 => ?_)
      refine mo_p (fun q42 => ?_)
      refine mo_p (fun x43 => ?_)
      refine mo_p (fun x44 => ?_)
      refine mo_h (h0 := fun v => v) ?_ (fun q45 => ?_)
      · refine mo_ite ?_ ?_
        · refine mo_p (fun x46 => ?_)
          refine mo_ite ?_ ?_
          · refine mo_p (fun x47 => ?_)
            refine mo_h (h0 := (fun v => v.2)) (f_L_isBuilt_mono _ _ _) (fun v48 => ?_)
            refine mo_ite ?_ ?_
            · exact mo_none
            · exact mo_some rfl
          · exact mo_some rfl
        · refine mo_ite ?_ ?_
          · refine mo_ite ?_ ?_
            · exact mo_some rfl
            · refine mo_p (fun x49 => ?_)
              refine mo_p (fun b50 => ?_)
              refine mo_h (h0 := (fun v => v.2)) (f_X9_block_mono _ _ _) (fun v51 => ?_)
              refine mo_ite ?_ ?_
              · exact mo_some rfl
              · exact mo_none
          · refine mo_ite ?_ ?_
            · refine mo_ite ?_ ?_
              · exact mo_some rfl
              · refine mo_h (h0 := (fun v => v.2)) (f_L_isAppended_mono _ _ _ _ _) (fun v52 => ?_)
                refine mo_ite ?_ ?_
                · exact mo_none
                · exact mo_some rfl
            · refine mo_ite ?_ ?_
              · refine mo_ite ?_ ?_
                · exact mo_some rfl
                · refine mo_h (h0 := (fun v => v.2)) (f_L_isAppended_mono _ _ _ _ _) (fun v53 => ?_)
                  refine mo_ite ?_ ?_
                  · exact mo_none
                  · exact mo_some rfl
              · refine mo_ite ?_ ?_
                · refine mo_ite ?_ ?_
                  · exact mo_some rfl
                  · refine mo_h (h0 := (fun v => v.2)) (f_L_isAppended_mono _ _ _ _ _) (fun v54 => ?_)
                    refine mo_ite ?_ ?_
                    · exact mo_none
                    · exact mo_some rfl
                · refine mo_ite ?_ ?_
                  · refine mo_ite ?_ ?_
                    · exact mo_some rfl
                    · refine mo_p (fun b55 => ?_)
                      refine mo_h (h0 := (fun v => v.2)) (f_X9_ofBlock_mono _ _ _ _) (fun v56 => ?_)
                      refine mo_ite ?_ ?_
                      · exact mo_some rfl
                      · refine mo_p (fun b57 => ?_)
                        refine mo_h (h0 := (fun v => v.2)) (f_X9_takeOff_mono _ _ _) (fun v58 => ?_)
                        refine mo_ite ?_ ?_
                        · exact mo_none
                        · refine mo_p (fun b59 => ?_)
                          refine mo_h (h0 := (fun v => v.2)) (f_X9_ofBlock_mono _ _ _ _) (fun v60 => ?_)
                          refine mo_ite ?_ ?_
                          · exact mo_some rfl
                          · exact mo_none
                  · refine mo_ite ?_ ?_
                    · refine mo_ite ?_ ?_
                      · exact mo_some rfl
                      · refine mo_ite ?_ ?_
                        · exact mo_some rfl
                        · refine mo_p (fun b61 => ?_)
                          refine mo_h (h0 := (fun v => v.2)) (f_X9_ofBlock_mono _ _ _ _) (fun v62 => ?_)
                          refine mo_p (fun x63 => ?_)
                          refine mo_p (fun b64 => ?_)
                          refine mo_h (h0 := (fun v => v.2)) (f_X9_ofBlock_mono _ _ _ _) (fun v65 => ?_)
                          refine mo_p (fun x66 => ?_)
                          refine mo_h (h0 := (fun v => v.2)) (f_L_isSwapped_mono _ _ _ _ _ _) (fun v67 => ?_)
                          refine mo_ite ?_ ?_
                          · exact mo_none
                          · exact mo_some rfl
                    · refine mo_ite ?_ ?_
                      · refine mo_ite ?_ ?_
                        · exact mo_some rfl
                        · refine mo_h (h0 := (fun v => v.2)) (f_L_isCut_mono _ _ _) (fun v68 => ?_)
                          refine mo_ite ?_ ?_
                          · exact mo_none
                          · exact mo_some rfl
                      · refine mo_ite ?_ ?_
                        · refine mo_ite ?_ ?_
                          · exact mo_some rfl
                          · refine mo_h (h0 := (fun v => v.2)) (f_L_isCut_mono _ _ _) (fun v69 => ?_)
                            refine mo_ite ?_ ?_
                            · exact mo_none
                            · exact mo_some rfl
                        · refine mo_ite ?_ ?_
                          · refine mo_ite ?_ ?_
                            · exact mo_some rfl
                            · refine mo_p (fun b70 => ?_)
                              refine mo_h (h0 := (fun v => v.2)) (f_X9_ofBlock_mono _ _ _ _) (fun v71 => ?_)
                              refine mo_ite ?_ ?_
                              · exact mo_some rfl
                              · refine mo_p (fun b72 => ?_)
                                refine mo_h (h0 := (fun v => v.2)) (f_X9_ofBlock_mono _ _ _ _) (fun v73 => ?_)
                                refine mo_p (fun x74 => ?_)
                                refine mo_p (fun x75 => ?_)
                                refine mo_h (h0 := (fun v => v.2)) (f_L_isGiven_mono _ _ _ _ _) (fun v76 => ?_)
                                refine mo_ite ?_ ?_
                                · exact mo_none
                                · exact mo_some rfl
                          · refine mo_ite ?_ ?_
                            · refine mo_ite ?_ ?_
                              · exact mo_some rfl
                              · refine mo_p (fun b77 => ?_)
                                refine mo_h (h0 := (fun v => v.2)) (f_X9_ofBlock_mono _ _ _ _) (fun v78 => ?_)
                                refine mo_ite ?_ ?_
                                · exact mo_some rfl
                                · refine mo_p (fun b79 => ?_)
                                  refine mo_h (h0 := (fun v => v.2)) (f_X9_ofBlock_mono _ _ _ _) (fun v80 => ?_)
                                  refine mo_p (fun x81 => ?_)
                                  refine mo_p (fun x82 => ?_)
                                  refine mo_h (h0 := (fun v => v.2)) (f_L_isGiven_mono _ _ _ _ _) (fun v83 => ?_)
                                  refine mo_ite ?_ ?_
                                  · exact mo_none
                                  · exact mo_some rfl
                            · refine mo_ite ?_ ?_
                              · refine mo_p (fun x84 => ?_)
                                refine mo_p (fun b85 => ?_)
                                refine mo_h (h0 := (fun v => v.2)) (f_X9_delay_mono _ _ _ _) (fun v86 => ?_)
                                refine mo_ite ?_ ?_
                                · exact mo_some rfl
                                · exact mo_none
                              · refine mo_ite ?_ ?_
                                · refine mo_p (fun x87 => ?_)
                                  refine mo_p (fun b88 => ?_)
                                  refine mo_h (h0 := (fun v => v.2)) (f_X9_ofDriver_mono _ _ _ _) (fun v89 => ?_)
                                  refine mo_p (fun q90 => ?_)
                                  refine mo_p (fun x91 => ?_)
                                  refine mo_p (fun q92 => ?_)
                                  refine mo_p (fun x93 => ?_)
                                  refine mo_p (fun b94 => ?_)
                                  refine mo_h (h0 := (fun v => v.2)) (f_X9_sick_mono _ _ _ _) (fun v95 => ?_)
                                  refine mo_ite ?_ ?_
                                  · refine mo_p (fun x96 => ?_)
                                    refine mo_p (fun b97 => ?_)
                                    refine mo_h (h0 := (fun v => v.2)) (f_X9_ofDriver_mono _ _ _ _) (fun v98 => ?_)
                                    refine mo_ite ?_ ?_
                                    · refine mo_ite ?_ ?_
                                      · exact mo_some rfl
                                      · exact mo_none
                                    · refine mo_ite ?_ ?_
                                      · exact mo_some rfl
                                      · exact mo_none
                                  · exact mo_none
                                · refine mo_ite ?_ ?_
                                  · refine mo_ite ?_ ?_
                                    · exact mo_some rfl
                                    · refine mo_p (fun x99 => ?_)
                                      refine mo_h (h0 := (fun v => v.2)) (f_L_isBroken_mono _ _ _ _) (fun v100 => ?_)
                                      refine mo_ite ?_ ?_
                                      · exact mo_none
                                      · exact mo_some rfl
                                  · refine mo_ite ?_ ?_
                                    · refine mo_p (fun x101 => ?_)
                                      refine mo_p (fun x102 => ?_)
                                      refine mo_h mo_stI (fun g103 => ?_)
                                      refine mo_p (fun x104 => ?_)
                                      refine mo_p (fun x105 => ?_)
                                      refine mo_p (fun x106 => ?_)
                                      refine mo_p (fun x107 => ?_)
                                      refine mo_p (fun q108 => ?_)
                                      refine mo_p (fun b109 => ?_)
                                      refine mo_h (h0 := (fun v => v.2)) (f_X9_line_mono _ _ _ _ _) (fun v110 => ?_)
                                      refine mo_ite ?_ ?_
                                      · exact mo_some rfl
                                      · exact mo_none
                                    · refine mo_p (fun b111 => ?_)
                                      refine mo_h (h0 := (fun v => v.2)) (f_X9_ofTrip_mono _ _ _ _) (fun v112 => ?_)
                                      refine mo_p (fun b113 => ?_)
                                      refine mo_h (h0 := (fun v => v.2)) (f_X9_mayDelay_mono _ _ _) (fun v114 => ?_)
                                      refine mo_p (fun b115 => ?_)
                                      refine mo_h (h0 := (fun v => v.2)) (f_X9_delay_mono _ _ _ _) (fun v116 => ?_)
                                      refine mo_ite ?_ ?_
                                      · refine mo_p (fun b117 => ?_)
                                        refine mo_h (h0 := (fun v => v.2)) (f_X9_many_mono _ _ _) (fun v118 => ?_)
                                        refine mo_p (fun b119 => ?_)
                                        refine mo_h (h0 := (fun v => v.2)) (f_X9_delay_mono _ _ _ _) (fun v120 => ?_)
                                        refine mo_ite ?_ ?_
                                        · refine mo_p (fun b121 => ?_)
                                          refine mo_h (h0 := (fun v => v.2)) (f_X9_many_mono _ _ _) (fun v122 => ?_)
                                          refine mo_ite ?_ ?_
                                          · exact mo_none
                                          · refine mo_h (h0 := fun v => v) ?_ (fun q127 => ?_)
                                            · refine mo_ite ?_ ?_
                                              · exact mo_some rfl
                                              · refine mo_p (fun b123 => ?_)
                                                refine mo_h (h0 := (fun v => v.2)) (f_X9_delay_mono _ _ _ _) (fun v124 => ?_)
                                                refine mo_ite ?_ ?_
                                                · refine mo_p (fun b125 => ?_)
                                                  refine mo_h (h0 := (fun v => v.2)) (f_X9_many_mono _ _ _) (fun v126 => ?_)
                                                  refine mo_ite ?_ ?_
                                                  · exact mo_some rfl
                                                  · exact mo_none
                                                · exact mo_none
                                            · refine mo_p (fun b128 => ?_)
                                              refine mo_h (h0 := (fun v => v.2)) (f_X9_delay_mono _ _ _ _) (fun v129 => ?_)
                                              refine mo_ite ?_ ?_
                                              · exact mo_some rfl
                                              · exact mo_none
                                        · exact mo_none
                                      · exact mo_none
      · refine mo_ite ?_ ?_
        · refine mo_h (h0 := (fun v => v.2)) (f_L_isSound_mono _ _ _ _ _ _ _) (fun v130 => ?_)
          refine mo_ite ?_ ?_
          · exact mo_none
          · exact ih _ _
        · exact ih _ _
theorem f_L_law_mono (s1 : Option Nat) (g : HP) : Mono g (fun v => v.2) (f_L_law s1 g) := by
  unfold f_L_law
  refine mo_new (t := 11) (n := 14) (il := []) (ol := []) ?_
  refine mo_h (h0 := id) (f_X9_init_mono _ _) (fun g1 => ?_)
  refine mo_h mo_nwI (fun a2 => ?_)
  refine mo_h mo_nwI (fun a3 => ?_)
  refine mo_h (h0 := fun v => v) (f_L_law_L21_mono _ _ _ _ _ _ _) (fun q15 => ?_)
  refine mo_p (fun x16 => ?_)
  refine mo_p (fun x17 => ?_)
  refine mo_h (h0 := fun v => v) (f_L_law_L125_mono _ _ _ _ _ _ _ _) (fun q26 => ?_)
  refine mo_h (h0 := fun v => v) (f_L_law_L215_mono _ _ _ _ _ _ _ _) (fun q29 => ?_)
  refine mo_h mo_nwI (fun a30 => ?_)
  refine mo_h mo_stI (fun g31 => ?_)
  refine mo_h mo_stI (fun g32 => ?_)
  refine mo_h mo_stI (fun g33 => ?_)
  refine mo_h mo_stI (fun g34 => ?_)
  refine mo_h (h0 := fun v => v) (f_L_law_L269_mono _ _ _ _ _ _ _ _ _ _) (fun q131 => ?_)
  refine mo_p (fun b132 => ?_)
  refine mo_h (h0 := (fun v => v.2)) (f_X9_digest_mono _ _) (fun v133 => ?_)
  refine mo_p (fun b134 => ?_)
  refine mo_h (h0 := (fun v => v.2)) (f_X9_leastBlocks_mono _ _) (fun v135 => ?_)
  refine mo_ite ?_ ?_
  · exact mo_none
  · refine mo_p (fun b136 => ?_)
    refine mo_h (h0 := (fun v => v.2)) (f_X9_meanLate_mono _ _) (fun v137 => ?_)
    refine mo_ite ?_ ?_
    · refine mo_p (fun b138 => ?_)
      refine mo_h (h0 := (fun v => v.2)) (f_X9_digest_mono _ _) (fun v139 => ?_)
      refine mo_ite ?_ ?_
      · exact mo_some rfl
      · exact mo_none
    · exact mo_none
