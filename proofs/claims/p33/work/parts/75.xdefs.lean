/-! The heaps at which append, swap, cut, give throw; what the machine does there. Printed by a program of ours. -/
theorem kt26 : (Cond.classLink "BlockdutyLaw" 9 "Blockduty") ∈ gtbl := gtbl_tab (i := 26) rfl rfl
theorem kt27 : (Cond.instantiable "Blockduty" 14) ∈ gtbl := gtbl_tab (i := 27) rfl rfl
theorem kt28 : (Cond.methodLink "BlockdutyLaw" 11 ({ cls := "Blockduty", name := "<init>", desc := "()V" } : Jvm.MethodName)) ∈ gtbl := gtbl_tab (i := 28) rfl rfl
theorem kt29 : (Cond.instanceMethod ({ cls := "Blockduty", name := "<init>", desc := "()V" } : Jvm.MethodName)) ∈ gtbl := gtbl_tab (i := 29) rfl rfl
theorem kt252 : (Cond.methodLink "BlockdutyLaw" 22 ({ cls := "Blockduty", name := "place", desc := "(IIIZ)I" } : Jvm.MethodName)) ∈ gtbl := gtbl_tab (i := 252) rfl rfl
theorem kt253 : (Cond.instanceMethod ({ cls := "Blockduty", name := "place", desc := "(IIIZ)I" } : Jvm.MethodName)) ∈ gtbl := gtbl_tab (i := 253) rfl rfl
theorem kt254 : (Cond.selects "Blockduty" ({ cls := "Blockduty", name := "place", desc := "(IIIZ)I" } : Jvm.MethodName) ({ cls := "Blockduty", name := "place", desc := "(IIIZ)I" } : Jvm.MethodName)) ∈ gtbl := gtbl_tab (i := 254) rfl rfl
theorem kt385 : (Cond.methodLink "BlockdutyLaw" 80 ({ cls := "Blockduty", name := "line", desc := "(IIZ)I" } : Jvm.MethodName)) ∈ gtbl := gtbl_tab (i := 385) rfl rfl
theorem kt386 : (Cond.instanceMethod ({ cls := "Blockduty", name := "line", desc := "(IIZ)I" } : Jvm.MethodName)) ∈ gtbl := gtbl_tab (i := 386) rfl rfl
theorem kt387 : (Cond.selects "Blockduty" ({ cls := "Blockduty", name := "line", desc := "(IIZ)I" } : Jvm.MethodName) ({ cls := "Blockduty", name := "line", desc := "(IIZ)I" } : Jvm.MethodName)) ∈ gtbl := gtbl_tab (i := 387) rfl rfl
theorem kt395 : (Cond.methodLink "BlockdutyLaw" 26 ({ cls := "Blockduty", name := "trip", desc := "(IIIII)I" } : Jvm.MethodName)) ∈ gtbl := gtbl_tab (i := 395) rfl rfl
theorem kt396 : (Cond.instanceMethod ({ cls := "Blockduty", name := "trip", desc := "(IIIII)I" } : Jvm.MethodName)) ∈ gtbl := gtbl_tab (i := 396) rfl rfl
theorem kt397 : (Cond.selects "Blockduty" ({ cls := "Blockduty", name := "trip", desc := "(IIIII)I" } : Jvm.MethodName) ({ cls := "Blockduty", name := "trip", desc := "(IIIII)I" } : Jvm.MethodName)) ∈ gtbl := gtbl_tab (i := 397) rfl rfl
set_option maxRecDepth 20000 in
theorem kt483 : (Cond.methodLink "BlockdutyLaw" 30 ({ cls := "Blockduty", name := "driver", desc := "()I" } : Jvm.MethodName)) ∈ gtbl := gtbl_tab (i := 483) rfl rfl
set_option maxRecDepth 20000 in
theorem kt484 : (Cond.instanceMethod ({ cls := "Blockduty", name := "driver", desc := "()I" } : Jvm.MethodName)) ∈ gtbl := gtbl_tab (i := 484) rfl rfl
set_option maxRecDepth 20000 in
theorem kt485 : (Cond.selects "Blockduty" ({ cls := "Blockduty", name := "driver", desc := "()I" } : Jvm.MethodName) ({ cls := "Blockduty", name := "driver", desc := "()I" } : Jvm.MethodName)) ∈ gtbl := gtbl_tab (i := 485) rfl rfl
set_option maxRecDepth 20000 in
theorem kt510 : (Cond.methodLink "BlockdutyLaw" 42 ({ cls := "Blockduty", name := "block", desc := "(I)I" } : Jvm.MethodName)) ∈ gtbl := gtbl_tab (i := 510) rfl rfl
set_option maxRecDepth 20000 in
theorem kt511 : (Cond.instanceMethod ({ cls := "Blockduty", name := "block", desc := "(I)I" } : Jvm.MethodName)) ∈ gtbl := gtbl_tab (i := 511) rfl rfl
set_option maxRecDepth 20000 in
theorem kt512 : (Cond.selects "Blockduty" ({ cls := "Blockduty", name := "block", desc := "(I)I" } : Jvm.MethodName) ({ cls := "Blockduty", name := "block", desc := "(I)I" } : Jvm.MethodName)) ∈ gtbl := gtbl_tab (i := 512) rfl rfl
set_option maxRecDepth 20000 in
theorem kt552 : (Cond.methodLink "BlockdutyLaw" 52 ({ cls := "Blockduty", name := "takeOff", desc := "(I)I" } : Jvm.MethodName)) ∈ gtbl := gtbl_tab (i := 552) rfl rfl
set_option maxRecDepth 20000 in
theorem kt553 : (Cond.instanceMethod ({ cls := "Blockduty", name := "takeOff", desc := "(I)I" } : Jvm.MethodName)) ∈ gtbl := gtbl_tab (i := 553) rfl rfl
set_option maxRecDepth 20000 in
theorem kt554 : (Cond.selects "Blockduty" ({ cls := "Blockduty", name := "takeOff", desc := "(I)I" } : Jvm.MethodName) ({ cls := "Blockduty", name := "takeOff", desc := "(I)I" } : Jvm.MethodName)) ∈ gtbl := gtbl_tab (i := 554) rfl rfl
set_option maxRecDepth 20000 in
theorem kt612 : (Cond.methodLink "BlockdutyLaw" 66 ({ cls := "Blockduty", name := "delay", desc := "(II)I" } : Jvm.MethodName)) ∈ gtbl := gtbl_tab (i := 612) rfl rfl
set_option maxRecDepth 20000 in
theorem kt613 : (Cond.instanceMethod ({ cls := "Blockduty", name := "delay", desc := "(II)I" } : Jvm.MethodName)) ∈ gtbl := gtbl_tab (i := 613) rfl rfl
set_option maxRecDepth 20000 in
theorem kt614 : (Cond.selects "Blockduty" ({ cls := "Blockduty", name := "delay", desc := "(II)I" } : Jvm.MethodName) ({ cls := "Blockduty", name := "delay", desc := "(II)I" } : Jvm.MethodName)) ∈ gtbl := gtbl_tab (i := 614) rfl rfl
set_option maxRecDepth 20000 in
theorem kt622 : (Cond.methodLink "BlockdutyLaw" 72 ({ cls := "Blockduty", name := "sick", desc := "(IZ)Z" } : Jvm.MethodName)) ∈ gtbl := gtbl_tab (i := 622) rfl rfl
set_option maxRecDepth 20000 in
theorem kt623 : (Cond.instanceMethod ({ cls := "Blockduty", name := "sick", desc := "(IZ)Z" } : Jvm.MethodName)) ∈ gtbl := gtbl_tab (i := 623) rfl rfl
set_option maxRecDepth 20000 in
theorem kt624 : (Cond.selects "Blockduty" ({ cls := "Blockduty", name := "sick", desc := "(IZ)Z" } : Jvm.MethodName) ({ cls := "Blockduty", name := "sick", desc := "(IZ)Z" } : Jvm.MethodName)) ∈ gtbl := gtbl_tab (i := 624) rfl rfl
set_option maxRecDepth 20000 in
theorem kt766 : (Cond.methodLink "BlockdutyLaw" 101 ({ cls := "Blockduty", name := "meanLate", desc := "()D" } : Jvm.MethodName)) ∈ gtbl := gtbl_tab (i := 766) rfl rfl
set_option maxRecDepth 20000 in
theorem kt767 : (Cond.instanceMethod ({ cls := "Blockduty", name := "meanLate", desc := "()D" } : Jvm.MethodName)) ∈ gtbl := gtbl_tab (i := 767) rfl rfl
set_option maxRecDepth 20000 in
theorem kt768 : (Cond.selects "Blockduty" ({ cls := "Blockduty", name := "meanLate", desc := "()D" } : Jvm.MethodName) ({ cls := "Blockduty", name := "meanLate", desc := "()D" } : Jvm.MethodName)) ∈ gtbl := gtbl_tab (i := 768) rfl rfl
set_option maxRecDepth 20000 in
theorem kt790 : (Cond.methodLink "BlockdutyLaw" 87 ({ cls := "Blockduty", name := "mayDelay", desc := "(I)I" } : Jvm.MethodName)) ∈ gtbl := gtbl_tab (i := 790) rfl rfl
set_option maxRecDepth 20000 in
theorem kt794 : (Cond.methodLink "BlockdutyLaw" 94 ({ cls := "Blockduty", name := "digest", desc := "()J" } : Jvm.MethodName)) ∈ gtbl := gtbl_tab (i := 794) rfl rfl
set_option maxRecDepth 20000 in
theorem kt795 : (Cond.instanceMethod ({ cls := "Blockduty", name := "digest", desc := "()J" } : Jvm.MethodName)) ∈ gtbl := gtbl_tab (i := 795) rfl rfl
set_option maxRecDepth 20000 in
theorem kt796 : (Cond.selects "Blockduty" ({ cls := "Blockduty", name := "digest", desc := "()J" } : Jvm.MethodName) ({ cls := "Blockduty", name := "digest", desc := "()J" } : Jvm.MethodName)) ∈ gtbl := gtbl_tab (i := 796) rfl rfl
set_option maxRecDepth 20000 in
theorem kt883 : (Cond.methodLink "BlockdutyLaw" 18 ({ cls := "BlockdutyLaw", name := "below", desc := "(II)I" } : Jvm.MethodName)) ∈ gtbl := gtbl_tab (i := 883) rfl rfl
set_option maxRecDepth 20000 in
theorem kt884 : (Cond.static ({ cls := "BlockdutyLaw", name := "below", desc := "(II)I" } : Jvm.MethodName)) ∈ gtbl := gtbl_tab (i := 884) rfl rfl
set_option maxRecDepth 20000 in
theorem kt887 : (Cond.methodLink "BlockdutyLaw" 12 ({ cls := "BlockdutyLaw", name := "cell", desc := "([II)I" } : Jvm.MethodName)) ∈ gtbl := gtbl_tab (i := 887) rfl rfl
set_option maxRecDepth 20000 in
theorem kt888 : (Cond.static ({ cls := "BlockdutyLaw", name := "cell", desc := "([II)I" } : Jvm.MethodName)) ∈ gtbl := gtbl_tab (i := 888) rfl rfl
set_option maxRecDepth 20000 in
theorem kt891 : (Cond.methodLink "BlockdutyLaw" 38 ({ cls := "BlockdutyLaw", name := "isBuilt", desc := "(LBlockduty;I)Z" } : Jvm.MethodName)) ∈ gtbl := gtbl_tab (i := 891) rfl rfl
set_option maxRecDepth 20000 in
theorem kt892 : (Cond.static ({ cls := "BlockdutyLaw", name := "isBuilt", desc := "(LBlockduty;I)Z" } : Jvm.MethodName)) ∈ gtbl := gtbl_tab (i := 892) rfl rfl
set_option maxRecDepth 20000 in
theorem kt926 : (Cond.methodLink "BlockdutyLaw" 45 ({ cls := "BlockdutyLaw", name := "isAppended", desc := "(LBlockduty;[III)Z" } : Jvm.MethodName)) ∈ gtbl := gtbl_tab (i := 926) rfl rfl
set_option maxRecDepth 20000 in
theorem kt927 : (Cond.static ({ cls := "BlockdutyLaw", name := "isAppended", desc := "(LBlockduty;[III)Z" } : Jvm.MethodName)) ∈ gtbl := gtbl_tab (i := 927) rfl rfl
set_option maxRecDepth 20000 in
theorem kt928 : (Cond.codeWith ({ cls := "BlockdutyLaw", name := "isAppended", desc := "(LBlockduty;[III)Z" } : Jvm.MethodName) method_7_code 7 (Option.some Jvm.ClassFile.FieldType.boolean) [(48, 93, 94, 124)]) ∈ gtbl := gtbl_tab (i := 928) rfl rfl
set_option maxRecDepth 20000 in
theorem kt941 : (Cond.methodLink "BlockdutyLaw" 121 ({ cls := "Blockduty", name := "append", desc := "(II)I" } : Jvm.MethodName)) ∈ gtbl := gtbl_tab (i := 941) rfl rfl
set_option maxRecDepth 20000 in
theorem kt942 : (Cond.instanceMethod ({ cls := "Blockduty", name := "append", desc := "(II)I" } : Jvm.MethodName)) ∈ gtbl := gtbl_tab (i := 942) rfl rfl
set_option maxRecDepth 20000 in
theorem kt943 : (Cond.selects "Blockduty" ({ cls := "Blockduty", name := "append", desc := "(II)I" } : Jvm.MethodName) ({ cls := "Blockduty", name := "append", desc := "(II)I" } : Jvm.MethodName)) ∈ gtbl := gtbl_tab (i := 943) rfl rfl
set_option maxRecDepth 20000 in
theorem kt947 : (Cond.methodLink "BlockdutyLaw" 55 ({ cls := "BlockdutyLaw", name := "isSwapped", desc := "(LBlockduty;IIII)Z" } : Jvm.MethodName)) ∈ gtbl := gtbl_tab (i := 947) rfl rfl
set_option maxRecDepth 20000 in
theorem kt948 : (Cond.static ({ cls := "BlockdutyLaw", name := "isSwapped", desc := "(LBlockduty;IIII)Z" } : Jvm.MethodName)) ∈ gtbl := gtbl_tab (i := 948) rfl rfl
set_option maxRecDepth 20000 in
theorem kt949 : (Cond.codeWith ({ cls := "BlockdutyLaw", name := "isSwapped", desc := "(LBlockduty;IIII)Z" } : Jvm.MethodName) method_8_code 9 (Option.some Jvm.ClassFile.FieldType.boolean) [(51, 135, 196, 124), (136, 195, 196, 124)]) ∈ gtbl := gtbl_tab (i := 949) rfl rfl
set_option maxRecDepth 20000 in
theorem kt950 : (Cond.methodLink "BlockdutyLaw" 126 ({ cls := "Blockduty", name := "swap", desc := "(IIII)I" } : Jvm.MethodName)) ∈ gtbl := gtbl_tab (i := 950) rfl rfl
set_option maxRecDepth 20000 in
theorem kt951 : (Cond.instanceMethod ({ cls := "Blockduty", name := "swap", desc := "(IIII)I" } : Jvm.MethodName)) ∈ gtbl := gtbl_tab (i := 951) rfl rfl
set_option maxRecDepth 20000 in
theorem kt952 : (Cond.selects "Blockduty" ({ cls := "Blockduty", name := "swap", desc := "(IIII)I" } : Jvm.MethodName) ({ cls := "Blockduty", name := "swap", desc := "(IIII)I" } : Jvm.MethodName)) ∈ gtbl := gtbl_tab (i := 952) rfl rfl
set_option maxRecDepth 20000 in
theorem kt961 : (Cond.methodLink "BlockdutyLaw" 59 ({ cls := "BlockdutyLaw", name := "isCut", desc := "(LBlockduty;I)Z" } : Jvm.MethodName)) ∈ gtbl := gtbl_tab (i := 961) rfl rfl
set_option maxRecDepth 20000 in
theorem kt962 : (Cond.static ({ cls := "BlockdutyLaw", name := "isCut", desc := "(LBlockduty;I)Z" } : Jvm.MethodName)) ∈ gtbl := gtbl_tab (i := 962) rfl rfl
set_option maxRecDepth 20000 in
theorem kt963 : (Cond.codeWith ({ cls := "BlockdutyLaw", name := "isCut", desc := "(LBlockduty;I)Z" } : Jvm.MethodName) method_9_code 4 (Option.some Jvm.ClassFile.FieldType.boolean) [(7, 41, 42, 124)]) ∈ gtbl := gtbl_tab (i := 963) rfl rfl
set_option maxRecDepth 20000 in
theorem kt964 : (Cond.methodLink "BlockdutyLaw" 130 ({ cls := "Blockduty", name := "cut", desc := "(I)I" } : Jvm.MethodName)) ∈ gtbl := gtbl_tab (i := 964) rfl rfl
set_option maxRecDepth 20000 in
theorem kt965 : (Cond.instanceMethod ({ cls := "Blockduty", name := "cut", desc := "(I)I" } : Jvm.MethodName)) ∈ gtbl := gtbl_tab (i := 965) rfl rfl
set_option maxRecDepth 20000 in
theorem kt966 : (Cond.selects "Blockduty" ({ cls := "Blockduty", name := "cut", desc := "(I)I" } : Jvm.MethodName) ({ cls := "Blockduty", name := "cut", desc := "(I)I" } : Jvm.MethodName)) ∈ gtbl := gtbl_tab (i := 966) rfl rfl
set_option maxRecDepth 20000 in
theorem kt1027 : (Cond.methodLink "BlockdutyLaw" 62 ({ cls := "BlockdutyLaw", name := "isGiven", desc := "(LBlockduty;III)Z" } : Jvm.MethodName)) ∈ gtbl := gtbl_tab (i := 1027) rfl rfl
set_option maxRecDepth 20000 in
theorem kt1028 : (Cond.static ({ cls := "BlockdutyLaw", name := "isGiven", desc := "(LBlockduty;III)Z" } : Jvm.MethodName)) ∈ gtbl := gtbl_tab (i := 1028) rfl rfl
set_option maxRecDepth 20000 in
theorem kt1029 : (Cond.codeWith ({ cls := "BlockdutyLaw", name := "isGiven", desc := "(LBlockduty;III)Z" } : Jvm.MethodName) method_10_code 6 (Option.some Jvm.ClassFile.FieldType.boolean) [(9, 51, 52, 124)]) ∈ gtbl := gtbl_tab (i := 1029) rfl rfl
set_option maxRecDepth 20000 in
theorem kt1030 : (Cond.methodLink "BlockdutyLaw" 137 ({ cls := "Blockduty", name := "give", desc := "(III)I" } : Jvm.MethodName)) ∈ gtbl := gtbl_tab (i := 1030) rfl rfl
set_option maxRecDepth 20000 in
theorem kt1031 : (Cond.instanceMethod ({ cls := "Blockduty", name := "give", desc := "(III)I" } : Jvm.MethodName)) ∈ gtbl := gtbl_tab (i := 1031) rfl rfl
set_option maxRecDepth 20000 in
theorem kt1032 : (Cond.selects "Blockduty" ({ cls := "Blockduty", name := "give", desc := "(III)I" } : Jvm.MethodName) ({ cls := "Blockduty", name := "give", desc := "(III)I" } : Jvm.MethodName)) ∈ gtbl := gtbl_tab (i := 1032) rfl rfl
set_option maxRecDepth 20000 in
theorem kt1045 : (Cond.methodLink "BlockdutyLaw" 76 ({ cls := "BlockdutyLaw", name := "isBroken", desc := "(LBlockduty;II)Z" } : Jvm.MethodName)) ∈ gtbl := gtbl_tab (i := 1045) rfl rfl
set_option maxRecDepth 20000 in
theorem kt1046 : (Cond.static ({ cls := "BlockdutyLaw", name := "isBroken", desc := "(LBlockduty;II)Z" } : Jvm.MethodName)) ∈ gtbl := gtbl_tab (i := 1046) rfl rfl
set_option maxRecDepth 20000 in
theorem kt1053 : (Cond.methodLink "BlockdutyLaw" 90 ({ cls := "BlockdutyLaw", name := "isSound", desc := "(LBlockduty;[I[ZI[II)Z" } : Jvm.MethodName)) ∈ gtbl := gtbl_tab (i := 1053) rfl rfl
set_option maxRecDepth 20000 in
theorem kt1054 : (Cond.static ({ cls := "BlockdutyLaw", name := "isSound", desc := "(LBlockduty;[I[ZI[II)Z" } : Jvm.MethodName)) ∈ gtbl := gtbl_tab (i := 1054) rfl rfl
set_option maxRecDepth 20000 in
theorem kt1059 : (Cond.constantDouble "BlockdutyLaw" 105 (4629137466983448576 : UInt64)) ∈ gtbl := gtbl_tab (i := 1059) rfl rfl
def x_X9_append (b : Nat) (s1 : Int32) (s2 : Int32) (g : HP) : Option HP :=
  (rcv 10 (some b) g).bind fun b1 =>
  (f_X9_blockNumbered b1 s1 g).bind fun r2 =>
  (rcv 10 (some b) g).bind fun b3 =>
  (f_X9_tripNumbered b3 s2 g).bind fun r4 =>
  (if r2 = none then
  none
  else
  (if r4 = none then
  none
  else
  (gfR 1 3 r2 g).bind fun r5 =>
  (rcv 7 r5 g).bind fun b6 =>
  (f_X6_last b6 g).bind fun r7 =>
  (gfR 8 7 r4 g).bind fun r8 =>
  (if r8 = none then
  (if r7 = none then
  none
  else
  (rcv 8 r4 g).bind fun b9 =>
  (f_X7_canFollow b9 r7 g).bind fun x10 =>
  (if x10 = 0 then
  some g
  else
  none))
  else
  some g)))
def x_X9_swap (b : Nat) (s1 : Int32) (s2 : Int32) (s3 : Int32) (s4 : Int32) (g : HP) : Option HP :=
  (rcv 10 (some b) g).bind fun b1 =>
  (f_X9_blockNumbered b1 s1 g).bind fun r2 =>
  (rcv 10 (some b) g).bind fun b3 =>
  (f_X9_blockNumbered b3 s3 g).bind fun r4 =>
  (if r2 = none then
  none
  else
  (if r4 = none then
  none
  else
  (gfR 1 3 r2 g).bind fun r5 =>
  (gfR 1 3 r4 g).bind fun r6 =>
  (if s1 = s3 then
  none
  else
  (rcv 7 r5 g).bind fun b7 =>
  (f_X6_count b7 g).bind fun x8 =>
  (f_X9_isOutside s2 0 x8 g).bind fun x9 =>
  (if x9 = 0 then
  (rcv 7 r6 g).bind fun b10 =>
  (f_X6_count b10 g).bind fun x11 =>
  (f_X9_isOutside s4 0 x11 g).bind fun x12 =>
  (if x12 = 0 then
  (f_X9_canSwap (some b7) s2 (some b10) s4 g).bind fun x13 =>
  (if x13 = 0 then
  some g
  else
  none)
  else
  none)
  else
  none))))
def x_X9_cut (b : Nat) (s1 : Int32) (g : HP) : Option HP :=
  (rcv 10 (some b) g).bind fun b1 =>
  (f_X9_blockNumbered b1 s1 g).bind fun r2 =>
  (if r2 = none then
  none
  else
  (gfR 10 7 (some b) g).bind fun r3 =>
  (gfR 1 3 r2 g).bind fun r4 =>
  (gfR 10 12 (some b) g).bind fun r5 =>
  (rcv 9 r3 g).bind fun b6 =>
  (f_X8_planPieces b6 r4 r5 g).bind fun v7 =>
  (if v7.1 = 0 then
  some v7.2
  else
  none))
def x_X9_give (b : Nat) (s1 : Int32) (s2 : Int32) (s3 : Int32) (g : HP) : Option HP :=
  (rcv 10 (some b) g).bind fun b1 =>
  (f_X9_pieceNumbered b1 s1 s2 g).bind fun r2 =>
  (rcv 10 (some b) g).bind fun b3 =>
  (f_X9_driverNumbered b3 s3 g).bind fun r4 =>
  (if r2 = none then
  none
  else
  (if r4 = none then
  none
  else
  (gfR 5 5 r2 g).bind fun r5 =>
  (if r5 = none then
  (rcv 2 r4 g).bind fun b6 =>
  (f_X1_canGet b6 r2 g).bind fun x7 =>
  (if x7 = 0 then
  some g
  else
  none)
  else
  some g)))
theorem x_X9_append_mono (b : Nat) (s1 : Int32) (s2 : Int32) (g : HP) : Mono g id (x_X9_append b s1 s2 g) := by
  unfold x_X9_append
  refine mo_p (fun b1 => ?_)
  refine mo_p (fun r2 => ?_)
  refine mo_p (fun b3 => ?_)
  refine mo_p (fun r4 => ?_)
  refine mo_ite ?_ ?_
  · exact mo_none
  · refine mo_ite ?_ ?_
    · exact mo_none
    · refine mo_p (fun r5 => ?_)
      refine mo_p (fun b6 => ?_)
      refine mo_p (fun r7 => ?_)
      refine mo_p (fun r8 => ?_)
      refine mo_ite ?_ ?_
      · refine mo_ite ?_ ?_
        · exact mo_none
        · refine mo_p (fun b9 => ?_)
          refine mo_p (fun x10 => ?_)
          refine mo_ite ?_ ?_
          · exact mo_some rfl
          · exact mo_none
      · exact mo_some rfl
theorem x_X9_swap_mono (b : Nat) (s1 : Int32) (s2 : Int32) (s3 : Int32) (s4 : Int32) (g : HP) : Mono g id (x_X9_swap b s1 s2 s3 s4 g) := by
  unfold x_X9_swap
  refine mo_p (fun b1 => ?_)
  refine mo_p (fun r2 => ?_)
  refine mo_p (fun b3 => ?_)
  refine mo_p (fun r4 => ?_)
  refine mo_ite ?_ ?_
  · exact mo_none
  · refine mo_ite ?_ ?_
    · exact mo_none
    · refine mo_p (fun r5 => ?_)
      refine mo_p (fun r6 => ?_)
      refine mo_ite ?_ ?_
      · exact mo_none
      · refine mo_p (fun b7 => ?_)
        refine mo_p (fun x8 => ?_)
        refine mo_p (fun x9 => ?_)
        refine mo_ite ?_ ?_
        · refine mo_p (fun b10 => ?_)
          refine mo_p (fun x11 => ?_)
          refine mo_p (fun x12 => ?_)
          refine mo_ite ?_ ?_
          · refine mo_p (fun x13 => ?_)
            refine mo_ite ?_ ?_
            · exact mo_some rfl
            · exact mo_none
          · exact mo_none
        · exact mo_none
theorem x_X9_cut_mono (b : Nat) (s1 : Int32) (g : HP) : Mono g id (x_X9_cut b s1 g) := by
  unfold x_X9_cut
  refine mo_p (fun b1 => ?_)
  refine mo_p (fun r2 => ?_)
  refine mo_ite ?_ ?_
  · exact mo_none
  · refine mo_p (fun r3 => ?_)
    refine mo_p (fun r4 => ?_)
    refine mo_p (fun r5 => ?_)
    refine mo_p (fun b6 => ?_)
    refine mo_h (h0 := (fun v => v.2)) (f_X8_planPieces_mono _ _ _ _) (fun v7 => ?_)
    refine mo_ite ?_ ?_
    · exact mo_some rfl
    · exact mo_none
theorem x_X9_give_mono (b : Nat) (s1 : Int32) (s2 : Int32) (s3 : Int32) (g : HP) : Mono g id (x_X9_give b s1 s2 s3 g) := by
  unfold x_X9_give
  refine mo_p (fun b1 => ?_)
  refine mo_p (fun r2 => ?_)
  refine mo_p (fun b3 => ?_)
  refine mo_p (fun r4 => ?_)
  refine mo_ite ?_ ?_
  · exact mo_none
  · refine mo_ite ?_ ?_
    · exact mo_none
    · refine mo_p (fun r5 => ?_)
      refine mo_ite ?_ ?_
      · refine mo_p (fun b6 => ?_)
        refine mo_p (fun x7 => ?_)
        refine mo_ite ?_ ?_
        · exact mo_some rfl
        · exact mo_none
      · exact mo_some rfl
