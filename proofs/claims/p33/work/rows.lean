section
-- ===== PART A: goes FIRST, ahead of the names: the tables' words, and 'selects' of the private methods out of them =====
/-- a private method of a class that the tables say can be made, by its rows of tables_1 -/
def lw_okq (q : MethodName × Nat) : Prop := (q.1.cls ≠ "java/lang/invoke/MethodHandle" ∧ q.1.cls ≠ "java/lang/invoke/VarHandle") ∧ Cond.instantiable q.1.cls q.2 ∈ tables_1 ∧ Cond.privateMethod q.1 ∈ tables_1 ∧ Cond.instanceMethod q.1 ∈ tables_1
theorem lw_p0 : lw_okq (⟨"java/util/ArrayList", "add", "(Ljava/lang/Object;[Ljava/lang/Object;I)V"⟩, 3) := ⟨⟨by decide +kernel, by decide +kernel⟩, List.mem_of_getElem? (i := 35) (by decide +kernel), List.mem_of_getElem? (i := 133) (by decide +kernel), List.mem_of_getElem? (i := 134) (by decide +kernel)⟩
theorem lw_p1 : lw_okq (⟨"java/util/ArrayList", "grow", "()[Ljava/lang/Object;"⟩, 3) := ⟨⟨by decide +kernel, by decide +kernel⟩, List.mem_of_getElem? (i := 35) (by decide +kernel), List.mem_of_getElem? (i := 137) (by decide +kernel), List.mem_of_getElem? (i := 138) (by decide +kernel)⟩
theorem lw_p2 : lw_okq (⟨"java/util/ArrayList", "grow", "(I)[Ljava/lang/Object;"⟩, 3) := ⟨⟨by decide +kernel, by decide +kernel⟩, List.mem_of_getElem? (i := 35) (by decide +kernel), List.mem_of_getElem? (i := 141) (by decide +kernel), List.mem_of_getElem? (i := 142) (by decide +kernel)⟩
theorem lw_p3 : lw_okq (⟨"Blockduty", "placeNumbered", "(I)LBlockduty$Place;"⟩, 14) := ⟨⟨by decide +kernel, by decide +kernel⟩, List.mem_of_getElem? (i := 27) (by decide +kernel), List.mem_of_getElem? (i := 257) (by decide +kernel), List.mem_of_getElem? (i := 258) (by decide +kernel)⟩
theorem lw_p4 : lw_okq (⟨"java/lang/Throwable", "fillInStackTrace", "(I)Ljava/lang/Throwable;"⟩, 6) := ⟨⟨by decide +kernel, by decide +kernel⟩, List.mem_of_getElem? (i := 317) (by decide +kernel), List.mem_of_getElem? (i := 315) (by decide +kernel), List.mem_of_getElem? (i := 316) (by decide +kernel)⟩
theorem lw_p5 : lw_okq (⟨"Blockduty", "lineNumbered", "(I)LBlockduty$Line;"⟩, 14) := ⟨⟨by decide +kernel, by decide +kernel⟩, List.mem_of_getElem? (i := 27) (by decide +kernel), List.mem_of_getElem? (i := 390) (by decide +kernel), List.mem_of_getElem? (i := 391) (by decide +kernel)⟩
theorem lw_p6 : lw_okq (⟨"Blockduty", "addByStart", "(LBlockduty$Trip;)V"⟩, 14) := ⟨⟨by decide +kernel, by decide +kernel⟩, List.mem_of_getElem? (i := 27) (by decide +kernel), List.mem_of_getElem? (i := 471) (by decide +kernel), List.mem_of_getElem? (i := 472) (by decide +kernel)⟩
theorem lw_p7 : lw_okq (⟨"java/util/ArrayList", "rangeCheckForAdd", "(I)V"⟩, 3) := ⟨⟨by decide +kernel, by decide +kernel⟩, List.mem_of_getElem? (i := 35) (by decide +kernel), List.mem_of_getElem? (i := 479) (by decide +kernel), List.mem_of_getElem? (i := 480) (by decide +kernel)⟩
theorem lw_p8 : lw_okq (⟨"Blockduty", "newBlock", "(I)LBlockduty$Block;"⟩, 14) := ⟨⟨by decide +kernel, by decide +kernel⟩, List.mem_of_getElem? (i := 27) (by decide +kernel), List.mem_of_getElem? (i := 517) (by decide +kernel), List.mem_of_getElem? (i := 518) (by decide +kernel)⟩
theorem lw_p9 : lw_okq (⟨"Blockduty", "blockNumbered", "(I)LBlockduty$Block;"⟩, 14) := ⟨⟨by decide +kernel, by decide +kernel⟩, List.mem_of_getElem? (i := 27) (by decide +kernel), List.mem_of_getElem? (i := 557) (by decide +kernel), List.mem_of_getElem? (i := 558) (by decide +kernel)⟩
theorem lw_p10 : lw_okq (⟨"Blockduty$Block", "forgetPieces", "()V"⟩, 5) := ⟨⟨by decide +kernel, by decide +kernel⟩, List.mem_of_getElem? (i := 521) (by decide +kernel), List.mem_of_getElem? (i := 577) (by decide +kernel), List.mem_of_getElem? (i := 578) (by decide +kernel)⟩
theorem lw_p11 : lw_okq (⟨"java/util/ArrayList", "fastRemove", "([Ljava/lang/Object;I)V"⟩, 3) := ⟨⟨by decide +kernel, by decide +kernel⟩, List.mem_of_getElem? (i := 35) (by decide +kernel), List.mem_of_getElem? (i := 598) (by decide +kernel), List.mem_of_getElem? (i := 599) (by decide +kernel)⟩
theorem lw_p12 : lw_okq (⟨"Blockduty", "tripNumbered", "(I)LBlockduty$Trip;"⟩, 14) := ⟨⟨by decide +kernel, by decide +kernel⟩, List.mem_of_getElem? (i := 27) (by decide +kernel), List.mem_of_getElem? (i := 617) (by decide +kernel), List.mem_of_getElem? (i := 618) (by decide +kernel)⟩
theorem lw_p13 : lw_okq (⟨"Blockduty", "driverNumbered", "(I)LBlockduty$Driver;"⟩, 14) := ⟨⟨by decide +kernel, by decide +kernel⟩, List.mem_of_getElem? (i := 27) (by decide +kernel), List.mem_of_getElem? (i := 627) (by decide +kernel), List.mem_of_getElem? (i := 628) (by decide +kernel)⟩
theorem lw_p14 : lw_okq (⟨"Blockduty", "runDay", "()V"⟩, 14) := ⟨⟨by decide +kernel, by decide +kernel⟩, List.mem_of_getElem? (i := 27) (by decide +kernel), List.mem_of_getElem? (i := 637) (by decide +kernel), List.mem_of_getElem? (i := 638) (by decide +kernel)⟩
theorem lw_p15 : lw_okq (⟨"Blockduty", "isFlat", "(LBlockduty$Row;I)Z"⟩, 14) := ⟨⟨by decide +kernel, by decide +kernel⟩, List.mem_of_getElem? (i := 27) (by decide +kernel), List.mem_of_getElem? (i := 685) (by decide +kernel), List.mem_of_getElem? (i := 686) (by decide +kernel)⟩
def lw_privs_1 : List (MethodName × Nat) := [(⟨"java/util/ArrayList", "add", "(Ljava/lang/Object;[Ljava/lang/Object;I)V"⟩, 3), (⟨"java/util/ArrayList", "grow", "()[Ljava/lang/Object;"⟩, 3), (⟨"java/util/ArrayList", "grow", "(I)[Ljava/lang/Object;"⟩, 3), (⟨"Blockduty", "placeNumbered", "(I)LBlockduty$Place;"⟩, 14), (⟨"java/lang/Throwable", "fillInStackTrace", "(I)Ljava/lang/Throwable;"⟩, 6), (⟨"Blockduty", "lineNumbered", "(I)LBlockduty$Line;"⟩, 14), (⟨"Blockduty", "addByStart", "(LBlockduty$Trip;)V"⟩, 14), (⟨"java/util/ArrayList", "rangeCheckForAdd", "(I)V"⟩, 3), (⟨"Blockduty", "newBlock", "(I)LBlockduty$Block;"⟩, 14), (⟨"Blockduty", "blockNumbered", "(I)LBlockduty$Block;"⟩, 14), (⟨"Blockduty$Block", "forgetPieces", "()V"⟩, 5), (⟨"java/util/ArrayList", "fastRemove", "([Ljava/lang/Object;I)V"⟩, 3), (⟨"Blockduty", "tripNumbered", "(I)LBlockduty$Trip;"⟩, 14), (⟨"Blockduty", "driverNumbered", "(I)LBlockduty$Driver;"⟩, 14), (⟨"Blockduty", "runDay", "()V"⟩, 14), (⟨"Blockduty", "isFlat", "(LBlockduty$Row;I)Z"⟩, 14)]
theorem lw_r1 : ∀ q ∈ lw_privs_1, lw_okq q := List.forall_mem_cons.mpr ⟨lw_p0, List.forall_mem_cons.mpr ⟨lw_p1, List.forall_mem_cons.mpr ⟨lw_p2, List.forall_mem_cons.mpr ⟨lw_p3, List.forall_mem_cons.mpr ⟨lw_p4, List.forall_mem_cons.mpr ⟨lw_p5, List.forall_mem_cons.mpr ⟨lw_p6, List.forall_mem_cons.mpr ⟨lw_p7, List.forall_mem_cons.mpr ⟨lw_p8, List.forall_mem_cons.mpr ⟨lw_p9, List.forall_mem_cons.mpr ⟨lw_p10, List.forall_mem_cons.mpr ⟨lw_p11, List.forall_mem_cons.mpr ⟨lw_p12, List.forall_mem_cons.mpr ⟨lw_p13, List.forall_mem_cons.mpr ⟨lw_p14, List.forall_mem_cons.mpr ⟨lw_p15, fun _ h => absurd h List.not_mem_nil⟩⟩⟩⟩⟩⟩⟩⟩⟩⟩⟩⟩⟩⟩⟩⟩
theorem lw_p16 : lw_okq (⟨"Blockduty", "countOfCause", "(I)I"⟩, 14) := ⟨⟨by decide +kernel, by decide +kernel⟩, List.mem_of_getElem? (i := 27) (by decide +kernel), List.mem_of_getElem? (i := 741) (by decide +kernel), List.mem_of_getElem? (i := 742) (by decide +kernel)⟩
theorem lw_p17 : lw_okq (⟨"Blockduty", "countyPays", "()I"⟩, 14) := ⟨⟨by decide +kernel, by decide +kernel⟩, List.mem_of_getElem? (i := 27) (by decide +kernel), List.mem_of_getElem? (i := 745) (by decide +kernel), List.mem_of_getElem? (i := 746) (by decide +kernel)⟩
theorem lw_p18 : lw_okq (⟨"Blockduty", "driversArePaid", "()I"⟩, 14) := ⟨⟨by decide +kernel, by decide +kernel⟩, List.mem_of_getElem? (i := 27) (by decide +kernel), List.mem_of_getElem? (i := 754) (by decide +kernel), List.mem_of_getElem? (i := 755) (by decide +kernel)⟩
theorem lw_p19 : lw_okq (⟨"Blockduty", "allEmpty", "()I"⟩, 14) := ⟨⟨by decide +kernel, by decide +kernel⟩, List.mem_of_getElem? (i := 27) (by decide +kernel), List.mem_of_getElem? (i := 758) (by decide +kernel), List.mem_of_getElem? (i := 759) (by decide +kernel)⟩
theorem lw_p20 : lw_okq (⟨"Blockduty", "greatestLate", "()I"⟩, 14) := ⟨⟨by decide +kernel, by decide +kernel⟩, List.mem_of_getElem? (i := 27) (by decide +kernel), List.mem_of_getElem? (i := 762) (by decide +kernel), List.mem_of_getElem? (i := 763) (by decide +kernel)⟩
theorem lw_p21 : lw_okq (⟨"Blockduty", "mixTrip", "(JI)J"⟩, 14) := ⟨⟨by decide +kernel, by decide +kernel⟩, List.mem_of_getElem? (i := 27) (by decide +kernel), List.mem_of_getElem? (i := 810) (by decide +kernel), List.mem_of_getElem? (i := 811) (by decide +kernel)⟩
theorem lw_p22 : lw_okq (⟨"Blockduty", "mixBlock", "(JI)J"⟩, 14) := ⟨⟨by decide +kernel, by decide +kernel⟩, List.mem_of_getElem? (i := 27) (by decide +kernel), List.mem_of_getElem? (i := 816) (by decide +kernel), List.mem_of_getElem? (i := 817) (by decide +kernel)⟩
theorem lw_p23 : lw_okq (⟨"Blockduty", "pieceNumbered", "(II)LBlockduty$Piece;"⟩, 14) := ⟨⟨by decide +kernel, by decide +kernel⟩, List.mem_of_getElem? (i := 27) (by decide +kernel), List.mem_of_getElem? (i := 825) (by decide +kernel), List.mem_of_getElem? (i := 826) (by decide +kernel)⟩
theorem lw_p24 : lw_okq (⟨"Blockduty", "mixDriver", "(JI)J"⟩, 14) := ⟨⟨by decide +kernel, by decide +kernel⟩, List.mem_of_getElem? (i := 27) (by decide +kernel), List.mem_of_getElem? (i := 845) (by decide +kernel), List.mem_of_getElem? (i := 846) (by decide +kernel)⟩
theorem lw_p25 : lw_okq (⟨"Blockduty", "emptyOfSwap", "(LBlockduty$Block;ILBlockduty$Block;I)I"⟩, 14) := ⟨⟨by decide +kernel, by decide +kernel⟩, List.mem_of_getElem? (i := 27) (by decide +kernel), List.mem_of_getElem? (i := 856) (by decide +kernel), List.mem_of_getElem? (i := 857) (by decide +kernel)⟩
theorem lw_p26 : lw_okq (⟨"Blockduty", "trySwap", "(LBlockduty$Row;ILBlockduty$Row;I)V"⟩, 14) := ⟨⟨by decide +kernel, by decide +kernel⟩, List.mem_of_getElem? (i := 27) (by decide +kernel), List.mem_of_getElem? (i := 868) (by decide +kernel), List.mem_of_getElem? (i := 869) (by decide +kernel)⟩
theorem lw_p27 : lw_okq (⟨"Blockduty$Row", "addPart", "(LBlockduty$Row;II)V"⟩, 1) := ⟨⟨by decide +kernel, by decide +kernel⟩, List.mem_of_getElem? (i := 74) (by decide +kernel), List.mem_of_getElem? (i := 877) (by decide +kernel), List.mem_of_getElem? (i := 878) (by decide +kernel)⟩
theorem lw_p28 : lw_okq (⟨"Blockduty", "putIntoSomeBlock", "(LBlockduty$Trip;I)Z"⟩, 14) := ⟨⟨by decide +kernel, by decide +kernel⟩, List.mem_of_getElem? (i := 27) (by decide +kernel), List.mem_of_getElem? (i := 899) (by decide +kernel), List.mem_of_getElem? (i := 900) (by decide +kernel)⟩
theorem lw_p29 : lw_okq (⟨"Blockduty", "nearestBlock", "(LBlockduty$Trip;)LBlockduty$Block;"⟩, 14) := ⟨⟨by decide +kernel, by decide +kernel⟩, List.mem_of_getElem? (i := 27) (by decide +kernel), List.mem_of_getElem? (i := 903) (by decide +kernel), List.mem_of_getElem? (i := 904) (by decide +kernel)⟩
theorem lw_p30 : lw_okq (⟨"Blockduty", "wouldBeFlat", "(LBlockduty$Row;LBlockduty$Trip;I)Z"⟩, 14) := ⟨⟨by decide +kernel, by decide +kernel⟩, List.mem_of_getElem? (i := 27) (by decide +kernel), List.mem_of_getElem? (i := 909) (by decide +kernel), List.mem_of_getElem? (i := 910) (by decide +kernel)⟩
theorem lw_p31 : lw_okq (⟨"Blockduty", "wouldBeFlatAlone", "(LBlockduty$Trip;I)Z"⟩, 14) := ⟨⟨by decide +kernel, by decide +kernel⟩, List.mem_of_getElem? (i := 27) (by decide +kernel), List.mem_of_getElem? (i := 922) (by decide +kernel), List.mem_of_getElem? (i := 923) (by decide +kernel)⟩
def lw_privs_2 : List (MethodName × Nat) := [(⟨"Blockduty", "countOfCause", "(I)I"⟩, 14), (⟨"Blockduty", "countyPays", "()I"⟩, 14), (⟨"Blockduty", "driversArePaid", "()I"⟩, 14), (⟨"Blockduty", "allEmpty", "()I"⟩, 14), (⟨"Blockduty", "greatestLate", "()I"⟩, 14), (⟨"Blockduty", "mixTrip", "(JI)J"⟩, 14), (⟨"Blockduty", "mixBlock", "(JI)J"⟩, 14), (⟨"Blockduty", "pieceNumbered", "(II)LBlockduty$Piece;"⟩, 14), (⟨"Blockduty", "mixDriver", "(JI)J"⟩, 14), (⟨"Blockduty", "emptyOfSwap", "(LBlockduty$Block;ILBlockduty$Block;I)I"⟩, 14), (⟨"Blockduty", "trySwap", "(LBlockduty$Row;ILBlockduty$Row;I)V"⟩, 14), (⟨"Blockduty$Row", "addPart", "(LBlockduty$Row;II)V"⟩, 1), (⟨"Blockduty", "putIntoSomeBlock", "(LBlockduty$Trip;I)Z"⟩, 14), (⟨"Blockduty", "nearestBlock", "(LBlockduty$Trip;)LBlockduty$Block;"⟩, 14), (⟨"Blockduty", "wouldBeFlat", "(LBlockduty$Row;LBlockduty$Trip;I)Z"⟩, 14), (⟨"Blockduty", "wouldBeFlatAlone", "(LBlockduty$Trip;I)Z"⟩, 14)]
theorem lw_r2 : ∀ q ∈ lw_privs_2, lw_okq q := List.forall_mem_cons.mpr ⟨lw_p16, List.forall_mem_cons.mpr ⟨lw_p17, List.forall_mem_cons.mpr ⟨lw_p18, List.forall_mem_cons.mpr ⟨lw_p19, List.forall_mem_cons.mpr ⟨lw_p20, List.forall_mem_cons.mpr ⟨lw_p21, List.forall_mem_cons.mpr ⟨lw_p22, List.forall_mem_cons.mpr ⟨lw_p23, List.forall_mem_cons.mpr ⟨lw_p24, List.forall_mem_cons.mpr ⟨lw_p25, List.forall_mem_cons.mpr ⟨lw_p26, List.forall_mem_cons.mpr ⟨lw_p27, List.forall_mem_cons.mpr ⟨lw_p28, List.forall_mem_cons.mpr ⟨lw_p29, List.forall_mem_cons.mpr ⟨lw_p30, List.forall_mem_cons.mpr ⟨lw_p31, fun _ h => absurd h List.not_mem_nil⟩⟩⟩⟩⟩⟩⟩⟩⟩⟩⟩⟩⟩⟩⟩⟩
theorem lw_p32 : lw_okq (⟨"Blockduty$WorkRules", "endOfLongest", "(LBlockduty$Row;I)I"⟩, 2) := ⟨⟨by decide +kernel, by decide +kernel⟩, List.mem_of_getElem? (i := 61) (by decide +kernel), List.mem_of_getElem? (i := 974) (by decide +kernel), List.mem_of_getElem? (i := 975) (by decide +kernel)⟩
theorem lw_p33 : lw_okq (⟨"Blockduty$Block", "addPiece", "(II)V"⟩, 5) := ⟨⟨by decide +kernel, by decide +kernel⟩, List.mem_of_getElem? (i := 521) (by decide +kernel), List.mem_of_getElem? (i := 992) (by decide +kernel), List.mem_of_getElem? (i := 993) (by decide +kernel)⟩
def lw_privs_3 : List (MethodName × Nat) := [(⟨"Blockduty$WorkRules", "endOfLongest", "(LBlockduty$Row;I)I"⟩, 2), (⟨"Blockduty$Block", "addPiece", "(II)V"⟩, 5)]
theorem lw_r3 : ∀ q ∈ lw_privs_3, lw_okq q := List.forall_mem_cons.mpr ⟨lw_p32, List.forall_mem_cons.mpr ⟨lw_p33, fun _ h => absurd h List.not_mem_nil⟩⟩
def lw_privs : List (MethodName × Nat) := lw_privs_1 ++ (lw_privs_2 ++ (lw_privs_3))
def lw_tbl : List Cond := k2_sels lw_privs ++ tables_1
theorem lw_privs_ok : ∀ q ∈ lw_privs, lw_okq q := by
  show ∀ q ∈ lw_privs_1 ++ (lw_privs_2 ++ (lw_privs_3)), lw_okq q
  exact List.forall_mem_append.mpr ⟨lw_r1, List.forall_mem_append.mpr ⟨lw_r2, lw_r3⟩⟩
/-- the streams that the claim lets the run draw from -/
abbrev lw_cs : List Choice := [Jvm.Choice.named "NaN.bits"]
theorem lw_bits : nanBits ∈ lw_cs := by first | decide | exact List.mem_cons_self | simp [lw_cs, nanBits]
end
section
def RX0 : String := "Blockduty$Block"
def TX0 : u_T := fun k => match k with
  | 0 => ("Blockduty$Block", "number", "I", true)
  | 1 => ("Blockduty$Block", "capacity", "I", true)
  | 2 => ("Blockduty$Block", "breakdown", "I", false)
  | 3 => ("Blockduty$Block", "row", "LBlockduty$Row;", true)
  | _ => ("Blockduty$Block", "pieces", "Ljava/util/ArrayList;", true)
def tyX0 : Nat → FieldType := fun k => match k with
  | 0 => .int
  | 1 => .int
  | 2 => .int
  | 3 => .object "Blockduty$Row"
  | _ => .object "java/util/ArrayList"
abbrev wsX00 : List Cond := u_ws RX0 TX0 5
theorem nmX0 : ∀ a, a < 5 → ∀ b, b < 5 → a ≠ b → (TX0 a).2.1 ≠ (TX0 b).2.1 := by decide +kernel
theorem tyX0_ok : ∀ k, k < 5 → parseFieldDescriptor (TX0 k).2.2.1 = some (tyX0 k) := by decide +kernel
abbrev cX0_init : ByteArray := prog_2_method_1_code
def yX0_init : MethodName := ⟨RX0, "<init>", "(II)V"⟩
abbrev cX0_pieceNumbered : ByteArray := prog_2_method_2_code
def yX0_pieceNumbered : MethodName := ⟨RX0, "pieceNumbered", "(I)LBlockduty$Piece;"⟩
abbrev cX0_addTrip : ByteArray := prog_2_method_3_code
def yX0_addTrip : MethodName := ⟨RX0, "addTrip", "(LBlockduty$Trip;)V"⟩
abbrev cX0_removeLastTrip : ByteArray := prog_2_method_4_code
def yX0_removeLastTrip : MethodName := ⟨RX0, "removeLastTrip", "()LBlockduty$Trip;"⟩
abbrev cX0_takeOver : ByteArray := prog_2_method_5_code
def yX0_takeOver : MethodName := ⟨RX0, "takeOver", "(LBlockduty$Row;)V"⟩
abbrev cX0_forgetPieces : ByteArray := prog_2_method_6_code
def yX0_forgetPieces : MethodName := ⟨RX0, "forgetPieces", "()V"⟩
abbrev cX0_cutAt : ByteArray := prog_2_method_7_code
def yX0_cutAt : MethodName := ⟨RX0, "cutAt", "([II)V"⟩
abbrev cX0_addPiece : ByteArray := prog_2_method_8_code
def yX0_addPiece : MethodName := ⟨RX0, "addPiece", "(II)V"⟩
abbrev cX0_lostNow : ByteArray := prog_2_method_9_code
def yX0_lostNow : MethodName := ⟨RX0, "lostNow", "()I"⟩
abbrev cX0_lostIf : ByteArray := prog_2_method_10_code
def yX0_lostIf : MethodName := ⟨RX0, "lostIf", "(ILBlockduty$Trip;I)I"⟩
def RX1 : String := "Blockduty$Driver"
def TX1 : u_T := fun k => match k with
  | 0 => ("Blockduty$Driver", "number", "I", true)
  | 1 => ("Blockduty$Driver", "isSick", "Z", false)
  | _ => ("Blockduty$Driver", "pieces", "Ljava/util/ArrayList;", true)
def tyX1 : Nat → FieldType := fun k => match k with
  | 0 => .int
  | 1 => .boolean
  | _ => .object "java/util/ArrayList"
abbrev wsX10 : List Cond := u_ws RX1 TX1 3
theorem nmX1 : ∀ a, a < 3 → ∀ b, b < 3 → a ≠ b → (TX1 a).2.1 ≠ (TX1 b).2.1 := by decide +kernel
theorem tyX1_ok : ∀ k, k < 3 → parseFieldDescriptor (TX1 k).2.2.1 = some (tyX1 k) := by decide +kernel
abbrev cX1_init : ByteArray := prog_3_method_1_code
def yX1_init : MethodName := ⟨RX1, "<init>", "(I)V"⟩
abbrev cX1_canGet : ByteArray := prog_3_method_2_code
def yX1_canGet : MethodName := ⟨RX1, "canGet", "(LBlockduty$Piece;)Z"⟩
abbrev cX1_drop : ByteArray := prog_3_method_3_code
def yX1_drop : MethodName := ⟨RX1, "drop", "(LBlockduty$Piece;)V"⟩
abbrev cX1_minutes : ByteArray := prog_3_method_4_code
def yX1_minutes : MethodName := ⟨RX1, "minutes", "()I"⟩
abbrev cX1_worked : ByteArray := prog_3_method_5_code
def yX1_worked : MethodName := ⟨RX1, "worked", "()I"⟩
abbrev cX1_pay : ByteArray := prog_3_method_6_code
def yX1_pay : MethodName := ⟨RX1, "pay", "()I"⟩
def RX2 : String := "Blockduty$Followers"
def TX2 : u_T := fun k => match k with
  | 0 => ("Blockduty$Followers", "aheadOf", "[I", true)
  | _ => ("Blockduty$Followers", "isTried", "[Z", true)
def tyX2 : Nat → FieldType := fun k => match k with
  | 0 => .array .int
  | _ => .array .boolean
abbrev wsX20 : List Cond := u_ws RX2 TX2 2
theorem nmX2 : ∀ a, a < 2 → ∀ b, b < 2 → a ≠ b → (TX2 a).2.1 ≠ (TX2 b).2.1 := by decide +kernel
theorem tyX2_ok : ∀ k, k < 2 → parseFieldDescriptor (TX2 k).2.2.1 = some (tyX2 k) := by decide +kernel
abbrev cX2_init : ByteArray := prog_4_method_1_code
def yX2_init : MethodName := ⟨RX2, "<init>", "()V"⟩
abbrev cX2_mostPairs : ByteArray := prog_4_method_2_code
def yX2_mostPairs : MethodName := ⟨RX2, "mostPairs", "(Ljava/util/ArrayList;)I"⟩
abbrev cX2_findsFollower : ByteArray := prog_4_method_3_code
def yX2_findsFollower : MethodName := ⟨RX2, "findsFollower", "(Ljava/util/ArrayList;I[I[ZI)Z"⟩
def RX3 : String := "Blockduty$Line"
def TX3 : u_T := fun k => match k with
  | 0 => ("Blockduty$Line", "number", "I", true)
  | 1 => ("Blockduty$Line", "fee", "I", false)
  | _ => ("Blockduty$Line", "isClosed", "Z", false)
def tyX3 : Nat → FieldType := fun k => match k with
  | 0 => .int
  | 1 => .int
  | _ => .boolean
abbrev wsX30 : List Cond := u_ws RX3 TX3 3
theorem nmX3 : ∀ a, a < 3 → ∀ b, b < 3 → a ≠ b → (TX3 a).2.1 ≠ (TX3 b).2.1 := by decide +kernel
theorem tyX3_ok : ∀ k, k < 3 → parseFieldDescriptor (TX3 k).2.2.1 = some (tyX3 k) := by decide +kernel
abbrev cX3_init : ByteArray := prog_5_method_1_code
def yX3_init : MethodName := ⟨RX3, "<init>", "(I)V"⟩
def RX4 : String := "Blockduty$Piece"
def TX4 : u_T := fun k => match k with
  | 0 => ("Blockduty$Piece", "number", "I", true)
  | 1 => ("Blockduty$Piece", "row", "LBlockduty$Row;", true)
  | 2 => ("Blockduty$Piece", "first", "LBlockduty$Trip;", true)
  | 3 => ("Blockduty$Piece", "last", "LBlockduty$Trip;", true)
  | 4 => ("Blockduty$Piece", "tripCount", "I", true)
  | _ => ("Blockduty$Piece", "driver", "LBlockduty$Driver;", false)
def tyX4 : Nat → FieldType := fun k => match k with
  | 0 => .int
  | 1 => .object "Blockduty$Row"
  | 2 => .object "Blockduty$Trip"
  | 3 => .object "Blockduty$Trip"
  | 4 => .int
  | _ => .object "Blockduty$Driver"
abbrev wsX40 : List Cond := u_ws RX4 TX4 6
theorem nmX4 : ∀ a, a < 6 → ∀ b, b < 6 → a ≠ b → (TX4 a).2.1 ≠ (TX4 b).2.1 := by decide +kernel
theorem tyX4_ok : ∀ k, k < 6 → parseFieldDescriptor (TX4 k).2.2.1 = some (tyX4 k) := by decide +kernel
abbrev cX4_init : ByteArray := prog_6_method_1_code
def yX4_init : MethodName := ⟨RX4, "<init>", "(ILBlockduty$Row;LBlockduty$Trip;LBlockduty$Trip;I)V"⟩
abbrev cX4_minutes : ByteArray := prog_6_method_2_code
def yX4_minutes : MethodName := ⟨RX4, "minutes", "()I"⟩
abbrev cX4_isNear : ByteArray := prog_6_method_3_code
def yX4_isNear : MethodName := ⟨RX4, "isNear", "(LBlockduty$Piece;)Z"⟩
abbrev cX4_driverNumber : ByteArray := prog_6_method_4_code
def yX4_driverNumber : MethodName := ⟨RX4, "driverNumber", "()I"⟩
abbrev cX4_release : ByteArray := prog_6_method_5_code
def yX4_release : MethodName := ⟨RX4, "release", "()V"⟩
abbrev cX4_worked : ByteArray := prog_6_method_6_code
def yX4_worked : MethodName := ⟨RX4, "worked", "()I"⟩
def RX5 : String := "Blockduty$Place"
def TX5 : u_T := fun k => match k with
  | 0 => ("Blockduty$Place", "number", "I", true)
  | 1 => ("Blockduty$Place", "x", "I", false)
  | 2 => ("Blockduty$Place", "power", "I", false)
  | _ => ("Blockduty$Place", "isRelief", "Z", false)
def tyX5 : Nat → FieldType := fun k => match k with
  | 0 => .int
  | 1 => .int
  | 2 => .int
  | _ => .boolean
abbrev wsX50 : List Cond := u_ws RX5 TX5 4
theorem nmX5 : ∀ a, a < 4 → ∀ b, b < 4 → a ≠ b → (TX5 a).2.1 ≠ (TX5 b).2.1 := by decide +kernel
theorem tyX5_ok : ∀ k, k < 4 → parseFieldDescriptor (TX5 k).2.2.1 = some (tyX5 k) := by decide +kernel
abbrev cX5_init : ByteArray := prog_7_method_1_code
def yX5_init : MethodName := ⟨RX5, "<init>", "(I)V"⟩
abbrev cX5_emptyTo : ByteArray := prog_7_method_2_code
def yX5_emptyTo : MethodName := ⟨RX5, "emptyTo", "(LBlockduty$Place;)I"⟩
def RX6 : String := "Blockduty$Row"
def TX6 : u_T := fun k => match k with
  | _ => ("Blockduty$Row", "trips", "Ljava/util/ArrayList;", true)
def tyX6 : Nat → FieldType := fun k => match k with
  | _ => .object "java/util/ArrayList"
abbrev wsX60 : List Cond := u_ws RX6 TX6 1
theorem nmX6 : ∀ a, a < 1 → ∀ b, b < 1 → a ≠ b → (TX6 a).2.1 ≠ (TX6 b).2.1 := by decide +kernel
theorem tyX6_ok : ∀ k, k < 1 → parseFieldDescriptor (TX6 k).2.2.1 = some (tyX6 k) := by decide +kernel
abbrev cX6_init : ByteArray := prog_8_method_1_code
def yX6_init : MethodName := ⟨RX6, "<init>", "()V"⟩
abbrev cX6_count : ByteArray := prog_8_method_2_code
def yX6_count : MethodName := ⟨RX6, "count", "()I"⟩
abbrev cX6_get : ByteArray := prog_8_method_3_code
def yX6_get : MethodName := ⟨RX6, "get", "(I)LBlockduty$Trip;"⟩
abbrev cX6_last : ByteArray := prog_8_method_4_code
def yX6_last : MethodName := ⟨RX6, "last", "()LBlockduty$Trip;"⟩
abbrev cX6_join : ByteArray := prog_8_method_5_code
def yX6_join : MethodName := ⟨RX6, "join", "(LBlockduty$Row;ILBlockduty$Row;I)V"⟩
abbrev cX6_copy : ByteArray := prog_8_method_6_code
def yX6_copy : MethodName := ⟨RX6, "copy", "(LBlockduty$Row;)V"⟩
abbrev cX6_addPart : ByteArray := prog_8_method_7_code
def yX6_addPart : MethodName := ⟨RX6, "addPart", "(LBlockduty$Row;II)V"⟩
abbrev cX6_empty : ByteArray := prog_8_method_8_code
def yX6_empty : MethodName := ⟨RX6, "empty", "(LBlockduty$Place;)I"⟩
abbrev cX6_leastCharge : ByteArray := prog_8_method_9_code
def yX6_leastCharge : MethodName := ⟨RX6, "leastCharge", "(LBlockduty$Place;II)I"⟩
def RX7 : String := "Blockduty$Trip"
def TX7 : u_T := fun k => match k with
  | 0 => ("Blockduty$Trip", "number", "I", true)
  | 1 => ("Blockduty$Trip", "line", "LBlockduty$Line;", true)
  | 2 => ("Blockduty$Trip", "from", "LBlockduty$Place;", true)
  | 3 => ("Blockduty$Trip", "to", "LBlockduty$Place;", true)
  | 4 => ("Blockduty$Trip", "start", "I", true)
  | 5 => ("Blockduty$Trip", "minutes", "I", true)
  | 6 => ("Blockduty$Trip", "delay", "I", false)
  | 7 => ("Blockduty$Trip", "block", "LBlockduty$Block;", false)
  | 8 => ("Blockduty$Trip", "piece", "LBlockduty$Piece;", false)
  | 9 => ("Blockduty$Trip", "cause", "I", false)
  | 10 => ("Blockduty$Trip", "realStart", "I", false)
  | _ => ("Blockduty$Trip", "realEnd", "I", false)
def tyX7 : Nat → FieldType := fun k => match k with
  | 0 => .int
  | 1 => .object "Blockduty$Line"
  | 2 => .object "Blockduty$Place"
  | 3 => .object "Blockduty$Place"
  | 4 => .int
  | 5 => .int
  | 6 => .int
  | 7 => .object "Blockduty$Block"
  | 8 => .object "Blockduty$Piece"
  | 9 => .int
  | 10 => .int
  | _ => .int
abbrev wsX70 : List Cond := u_ws RX7 TX7 12
theorem nmX7 : ∀ a, a < 12 → ∀ b, b < 12 → a ≠ b → (TX7 a).2.1 ≠ (TX7 b).2.1 := by decide +kernel
theorem tyX7_ok : ∀ k, k < 12 → parseFieldDescriptor (TX7 k).2.2.1 = some (tyX7 k) := by decide +kernel
abbrev cX7_init : ByteArray := prog_9_method_1_code
def yX7_init : MethodName := ⟨RX7, "<init>", "(ILBlockduty$Line;LBlockduty$Place;LBlockduty$Place;II)V"⟩
abbrev cX7_end : ByteArray := prog_9_method_2_code
def yX7_end : MethodName := ⟨RX7, "end", "()I"⟩
abbrev cX7_emptyTo : ByteArray := prog_9_method_3_code
def yX7_emptyTo : MethodName := ⟨RX7, "emptyTo", "(LBlockduty$Trip;)I"⟩
abbrev cX7_waitBehind : ByteArray := prog_9_method_4_code
def yX7_waitBehind : MethodName := ⟨RX7, "waitBehind", "(LBlockduty$Trip;)I"⟩
abbrev cX7_canFollow : ByteArray := prog_9_method_5_code
def yX7_canFollow : MethodName := ⟨RX7, "canFollow", "(LBlockduty$Trip;)Z"⟩
abbrev cX7_blockNumber : ByteArray := prog_9_method_6_code
def yX7_blockNumber : MethodName := ⟨RX7, "blockNumber", "()I"⟩
abbrev cX7_pieceNumber : ByteArray := prog_9_method_7_code
def yX7_pieceNumber : MethodName := ⟨RX7, "pieceNumber", "()I"⟩
abbrev cX7_runs : ByteArray := prog_9_method_8_code
def yX7_runs : MethodName := ⟨RX7, "runs", "()Z"⟩
abbrev cX7_late : ByteArray := prog_9_method_9_code
def yX7_late : MethodName := ⟨RX7, "late", "()I"⟩
abbrev cX7_causeIf : ByteArray := prog_9_method_10_code
def yX7_causeIf : MethodName := ⟨RX7, "causeIf", "(I)I"⟩
abbrev cX7_pay : ByteArray := prog_9_method_11_code
def yX7_pay : MethodName := ⟨RX7, "pay", "(I)I"⟩
def RX8 : String := "Blockduty$WorkRules"
def TX8 : u_T := fun k => match k with
  | 0 => ("Blockduty$WorkRules", "spread", "I", false)
  | _ => ("Blockduty$WorkRules", "drive", "I", false)
def tyX8 : Nat → FieldType := fun k => match k with
  | 0 => .int
  | _ => .int
abbrev wsX80 : List Cond := u_ws RX8 TX8 2
theorem nmX8 : ∀ a, a < 2 → ∀ b, b < 2 → a ≠ b → (TX8 a).2.1 ≠ (TX8 b).2.1 := by decide +kernel
theorem tyX8_ok : ∀ k, k < 2 → parseFieldDescriptor (TX8 k).2.2.1 = some (tyX8 k) := by decide +kernel
abbrev cX8_init : ByteArray := prog_10_method_1_code
def yX8_init : MethodName := ⟨RX8, "<init>", "()V"⟩
abbrev cX8_planPieces : ByteArray := prog_10_method_2_code
def yX8_planPieces : MethodName := ⟨RX8, "planPieces", "(LBlockduty$Row;[I)I"⟩
abbrev cX8_endOfLongest : ByteArray := prog_10_method_3_code
def yX8_endOfLongest : MethodName := ⟨RX8, "endOfLongest", "(LBlockduty$Row;I)I"⟩
def RX9 : String := "Blockduty"
def TX9 : u_T := fun k => match k with
  | 0 => ("Blockduty", "places", "Ljava/util/ArrayList;", true)
  | 1 => ("Blockduty", "lines", "Ljava/util/ArrayList;", true)
  | 2 => ("Blockduty", "trips", "Ljava/util/ArrayList;", true)
  | 3 => ("Blockduty", "tripsByStart", "Ljava/util/ArrayList;", true)
  | 4 => ("Blockduty", "blocks", "Ljava/util/ArrayList;", true)
  | 5 => ("Blockduty", "drivers", "Ljava/util/ArrayList;", true)
  | 6 => ("Blockduty", "depot", "LBlockduty$Place;", true)
  | 7 => ("Blockduty", "workRules", "LBlockduty$WorkRules;", true)
  | 8 => ("Blockduty", "coldness", "I", false)
  | 9 => ("Blockduty", "finePerLost", "I", false)
  | 10 => ("Blockduty", "oneTrial", "LBlockduty$Row;", true)
  | 11 => ("Blockduty", "otherTrial", "LBlockduty$Row;", true)
  | 12 => ("Blockduty", "pieceEnds", "[I", true)
  | _ => ("Blockduty", "followers", "LBlockduty$Followers;", true)
def tyX9 : Nat → FieldType := fun k => match k with
  | 0 => .object "java/util/ArrayList"
  | 1 => .object "java/util/ArrayList"
  | 2 => .object "java/util/ArrayList"
  | 3 => .object "java/util/ArrayList"
  | 4 => .object "java/util/ArrayList"
  | 5 => .object "java/util/ArrayList"
  | 6 => .object "Blockduty$Place"
  | 7 => .object "Blockduty$WorkRules"
  | 8 => .int
  | 9 => .int
  | 10 => .object "Blockduty$Row"
  | 11 => .object "Blockduty$Row"
  | 12 => .array .int
  | _ => .object "Blockduty$Followers"
abbrev wsX90 : List Cond := u_ws RX9 TX9 14
theorem nmX9 : ∀ a, a < 14 → ∀ b, b < 14 → a ≠ b → (TX9 a).2.1 ≠ (TX9 b).2.1 := by decide +kernel
theorem tyX9_ok : ∀ k, k < 14 → parseFieldDescriptor (TX9 k).2.2.1 = some (tyX9 k) := by decide +kernel
abbrev cX9_init : ByteArray := prog_1_method_1_code
def yX9_init : MethodName := ⟨RX9, "<init>", "()V"⟩
abbrev cX9_place : ByteArray := prog_1_method_2_code
def yX9_place : MethodName := ⟨RX9, "place", "(IIIZ)I"⟩
abbrev cX9_line : ByteArray := prog_1_method_3_code
def yX9_line : MethodName := ⟨RX9, "line", "(IIZ)I"⟩
abbrev cX9_trip : ByteArray := prog_1_method_4_code
def yX9_trip : MethodName := ⟨RX9, "trip", "(IIIII)I"⟩
abbrev cX9_driver : ByteArray := prog_1_method_7_code
def yX9_driver : MethodName := ⟨RX9, "driver", "()I"⟩
abbrev cX9_block : ByteArray := prog_1_method_8_code
def yX9_block : MethodName := ⟨RX9, "block", "(I)I"⟩
abbrev cX9_append : ByteArray := prog_1_method_9_code
def yX9_append : MethodName := ⟨RX9, "append", "(II)I"⟩
abbrev cX9_takeOff : ByteArray := prog_1_method_10_code
def yX9_takeOff : MethodName := ⟨RX9, "takeOff", "(I)I"⟩
abbrev cX9_build : ByteArray := prog_1_method_11_code
def yX9_build : MethodName := ⟨RX9, "build", "(I)I"⟩
abbrev cX9_swap : ByteArray := prog_1_method_12_code
def yX9_swap : MethodName := ⟨RX9, "swap", "(IIII)I"⟩
abbrev cX9_cut : ByteArray := prog_1_method_13_code
def yX9_cut : MethodName := ⟨RX9, "cut", "(I)I"⟩
abbrev cX9_give : ByteArray := prog_1_method_14_code
def yX9_give : MethodName := ⟨RX9, "give", "(III)I"⟩
abbrev cX9_delay : ByteArray := prog_1_method_16_code
def yX9_delay : MethodName := ⟨RX9, "delay", "(II)I"⟩
abbrev cX9_breakdown : ByteArray := prog_1_method_17_code
def yX9_breakdown : MethodName := ⟨RX9, "breakdown", "(II)I"⟩
abbrev cX9_sick : ByteArray := prog_1_method_18_code
def yX9_sick : MethodName := ⟨RX9, "sick", "(IZ)Z"⟩
abbrev cX9_ofTrip : ByteArray := prog_1_method_19_code
def yX9_ofTrip : MethodName := ⟨RX9, "ofTrip", "(II)I"⟩
abbrev cX9_ofBlock : ByteArray := prog_1_method_20_code
def yX9_ofBlock : MethodName := ⟨RX9, "ofBlock", "(II)I"⟩
abbrev cX9_at : ByteArray := prog_1_method_21_code
def yX9_at : MethodName := ⟨RX9, "at", "(II)I"⟩
abbrev cX9_ofPiece : ByteArray := prog_1_method_22_code
def yX9_ofPiece : MethodName := ⟨RX9, "ofPiece", "(III)I"⟩
abbrev cX9_ofDriver : ByteArray := prog_1_method_23_code
def yX9_ofDriver : MethodName := ⟨RX9, "ofDriver", "(II)I"⟩
abbrev cX9_many : ByteArray := prog_1_method_24_code
def yX9_many : MethodName := ⟨RX9, "many", "(I)I"⟩
abbrev cX9_lost : ByteArray := prog_1_method_25_code
def yX9_lost : MethodName := ⟨RX9, "lost", "(I)I"⟩
abbrev cX9_meanLate : ByteArray := prog_1_method_26_code
def yX9_meanLate : MethodName := ⟨RX9, "meanLate", "()D"⟩
abbrev cX9_leastBlocks : ByteArray := prog_1_method_27_code
def yX9_leastBlocks : MethodName := ⟨RX9, "leastBlocks", "()I"⟩
abbrev cX9_wouldLose : ByteArray := prog_1_method_28_code
def yX9_wouldLose : MethodName := ⟨RX9, "wouldLose", "(II)I"⟩
abbrev cX9_mayDelay : ByteArray := prog_1_method_29_code
def yX9_mayDelay : MethodName := ⟨RX9, "mayDelay", "(I)I"⟩
abbrev cX9_bestSwap : ByteArray := prog_1_method_30_code
def yX9_bestSwap : MethodName := ⟨RX9, "bestSwap", "(II)I"⟩
abbrev cX9_digest : ByteArray := prog_1_method_31_code
def yX9_digest : MethodName := ⟨RX9, "digest", "()J"⟩
abbrev cX9_mix : ByteArray := prog_1_method_32_code
def yX9_mix : MethodName := ⟨RX9, "mix", "(JI)J"⟩
abbrev cX9_mixTrip : ByteArray := prog_1_method_33_code
def yX9_mixTrip : MethodName := ⟨RX9, "mixTrip", "(JI)J"⟩
abbrev cX9_mixBlock : ByteArray := prog_1_method_34_code
def yX9_mixBlock : MethodName := ⟨RX9, "mixBlock", "(JI)J"⟩
abbrev cX9_mixDriver : ByteArray := prog_1_method_35_code
def yX9_mixDriver : MethodName := ⟨RX9, "mixDriver", "(JI)J"⟩
abbrev cX9_isOutside : ByteArray := prog_1_method_36_code
def yX9_isOutside : MethodName := ⟨RX9, "isOutside", "(III)Z"⟩
abbrev cX9_placeNumbered : ByteArray := prog_1_method_37_code
def yX9_placeNumbered : MethodName := ⟨RX9, "placeNumbered", "(I)LBlockduty$Place;"⟩
abbrev cX9_lineNumbered : ByteArray := prog_1_method_38_code
def yX9_lineNumbered : MethodName := ⟨RX9, "lineNumbered", "(I)LBlockduty$Line;"⟩
abbrev cX9_tripNumbered : ByteArray := prog_1_method_39_code
def yX9_tripNumbered : MethodName := ⟨RX9, "tripNumbered", "(I)LBlockduty$Trip;"⟩
abbrev cX9_blockNumbered : ByteArray := prog_1_method_40_code
def yX9_blockNumbered : MethodName := ⟨RX9, "blockNumbered", "(I)LBlockduty$Block;"⟩
abbrev cX9_pieceNumbered : ByteArray := prog_1_method_41_code
def yX9_pieceNumbered : MethodName := ⟨RX9, "pieceNumbered", "(II)LBlockduty$Piece;"⟩
abbrev cX9_driverNumbered : ByteArray := prog_1_method_42_code
def yX9_driverNumbered : MethodName := ⟨RX9, "driverNumbered", "(I)LBlockduty$Driver;"⟩
abbrev cX9_addByStart : ByteArray := prog_1_method_43_code
def yX9_addByStart : MethodName := ⟨RX9, "addByStart", "(LBlockduty$Trip;)V"⟩
abbrev cX9_newBlock : ByteArray := prog_1_method_44_code
def yX9_newBlock : MethodName := ⟨RX9, "newBlock", "(I)LBlockduty$Block;"⟩
abbrev cX9_isFlat : ByteArray := prog_1_method_45_code
def yX9_isFlat : MethodName := ⟨RX9, "isFlat", "(LBlockduty$Row;I)Z"⟩
abbrev cX9_wouldBeFlat : ByteArray := prog_1_method_46_code
def yX9_wouldBeFlat : MethodName := ⟨RX9, "wouldBeFlat", "(LBlockduty$Row;LBlockduty$Trip;I)Z"⟩
abbrev cX9_wouldBeFlatAlone : ByteArray := prog_1_method_47_code
def yX9_wouldBeFlatAlone : MethodName := ⟨RX9, "wouldBeFlatAlone", "(LBlockduty$Trip;I)Z"⟩
abbrev cX9_putIntoSomeBlock : ByteArray := prog_1_method_48_code
def yX9_putIntoSomeBlock : MethodName := ⟨RX9, "putIntoSomeBlock", "(LBlockduty$Trip;I)Z"⟩
abbrev cX9_nearestBlock : ByteArray := prog_1_method_49_code
def yX9_nearestBlock : MethodName := ⟨RX9, "nearestBlock", "(LBlockduty$Trip;)LBlockduty$Block;"⟩
abbrev cX9_canSwap : ByteArray := prog_1_method_50_code
def yX9_canSwap : MethodName := ⟨RX9, "canSwap", "(LBlockduty$Row;ILBlockduty$Row;I)Z"⟩
abbrev cX9_canJoin : ByteArray := prog_1_method_51_code
def yX9_canJoin : MethodName := ⟨RX9, "canJoin", "(LBlockduty$Row;ILBlockduty$Row;I)Z"⟩
abbrev cX9_trySwap : ByteArray := prog_1_method_52_code
def yX9_trySwap : MethodName := ⟨RX9, "trySwap", "(LBlockduty$Row;ILBlockduty$Row;I)V"⟩
abbrev cX9_emptyOfSwap : ByteArray := prog_1_method_53_code
def yX9_emptyOfSwap : MethodName := ⟨RX9, "emptyOfSwap", "(LBlockduty$Block;ILBlockduty$Block;I)I"⟩
abbrev cX9_runDay : ByteArray := prog_1_method_54_code
def yX9_runDay : MethodName := ⟨RX9, "runDay", "()V"⟩
abbrev cX9_countOfCause : ByteArray := prog_1_method_55_code
def yX9_countOfCause : MethodName := ⟨RX9, "countOfCause", "(I)I"⟩
abbrev cX9_countyPays : ByteArray := prog_1_method_56_code
def yX9_countyPays : MethodName := ⟨RX9, "countyPays", "()I"⟩
abbrev cX9_driversArePaid : ByteArray := prog_1_method_57_code
def yX9_driversArePaid : MethodName := ⟨RX9, "driversArePaid", "()I"⟩
abbrev cX9_allEmpty : ByteArray := prog_1_method_58_code
def yX9_allEmpty : MethodName := ⟨RX9, "allEmpty", "()I"⟩
abbrev cX9_greatestLate : ByteArray := prog_1_method_59_code
def yX9_greatestLate : MethodName := ⟨RX9, "greatestLate", "()I"⟩
def RX10 : String := "BlockdutyModel$Block"
def TX10 : u_T := fun k => match k with
  | _ => ("", "", "", false)
def tyX10 : Nat → FieldType := fun k => match k with
  | _ => .int
abbrev wsX100 : List Cond := u_ws RX10 TX10 0
theorem nmX10 : ∀ a, a < 0 → ∀ b, b < 0 → a ≠ b → (TX10 a).2.1 ≠ (TX10 b).2.1 := by decide +kernel
theorem tyX10_ok : ∀ k, k < 0 → parseFieldDescriptor (TX10 k).2.2.1 = some (tyX10 k) := by decide +kernel
def RX11 : String := "BlockdutyModel$Piece"
def TX11 : u_T := fun k => match k with
  | _ => ("", "", "", false)
def tyX11 : Nat → FieldType := fun k => match k with
  | _ => .int
abbrev wsX110 : List Cond := u_ws RX11 TX11 0
theorem nmX11 : ∀ a, a < 0 → ∀ b, b < 0 → a ≠ b → (TX11 a).2.1 ≠ (TX11 b).2.1 := by decide +kernel
theorem tyX11_ok : ∀ k, k < 0 → parseFieldDescriptor (TX11 k).2.2.1 = some (tyX11 k) := by decide +kernel
def RX12 : String := "BlockdutyModel$Trip"
def TX12 : u_T := fun k => match k with
  | _ => ("", "", "", false)
def tyX12 : Nat → FieldType := fun k => match k with
  | _ => .int
abbrev wsX120 : List Cond := u_ws RX12 TX12 0
theorem nmX12 : ∀ a, a < 0 → ∀ b, b < 0 → a ≠ b → (TX12 a).2.1 ≠ (TX12 b).2.1 := by decide +kernel
theorem tyX12_ok : ∀ k, k < 0 → parseFieldDescriptor (TX12 k).2.2.1 = some (tyX12 k) := by decide +kernel
def RX13 : String := "BlockdutyModel"
def TX13 : u_T := fun k => match k with
  | _ => ("", "", "", false)
def tyX13 : Nat → FieldType := fun k => match k with
  | _ => .int
abbrev wsX130 : List Cond := u_ws RX13 TX13 0
theorem nmX13 : ∀ a, a < 0 → ∀ b, b < 0 → a ≠ b → (TX13 a).2.1 ≠ (TX13 b).2.1 := by decide +kernel
theorem tyX13_ok : ∀ k, k < 0 → parseFieldDescriptor (TX13 k).2.2.1 = some (tyX13 k) := by decide +kernel
def RJx145de : String := "java/io/Serializable"
def TJx145de : u_T := fun k => match k with
  | _ => ("", "", "", false)
def tyJx145de : Nat → FieldType := fun k => match k with
  | _ => .int
abbrev wsJx145de0 : List Cond := u_ws RJx145de TJx145de 0
theorem nmJx145de : ∀ a, a < 0 → ∀ b, b < 0 → a ≠ b → (TJx145de a).2.1 ≠ (TJx145de b).2.1 := by decide +kernel
theorem tyJx145de_ok : ∀ k, k < 0 → parseFieldDescriptor (TJx145de k).2.2.1 = some (tyJx145de k) := by decide +kernel
def RJx8e188 : String := "java/lang/Cloneable"
def TJx8e188 : u_T := fun k => match k with
  | _ => ("", "", "", false)
def tyJx8e188 : Nat → FieldType := fun k => match k with
  | _ => .int
abbrev wsJx8e1880 : List Cond := u_ws RJx8e188 TJx8e188 0
theorem nmJx8e188 : ∀ a, a < 0 → ∀ b, b < 0 → a ≠ b → (TJx8e188 a).2.1 ≠ (TJx8e188 b).2.1 := by decide +kernel
theorem tyJx8e188_ok : ∀ k, k < 0 → parseFieldDescriptor (TJx8e188 k).2.2.1 = some (tyJx8e188 k) := by decide +kernel
def RJxab1ab : String := "java/lang/Iterable"
def TJxab1ab : u_T := fun k => match k with
  | _ => ("", "", "", false)
def tyJxab1ab : Nat → FieldType := fun k => match k with
  | _ => .int
abbrev wsJxab1ab0 : List Cond := u_ws RJxab1ab TJxab1ab 0
theorem nmJxab1ab : ∀ a, a < 0 → ∀ b, b < 0 → a ≠ b → (TJxab1ab a).2.1 ≠ (TJxab1ab b).2.1 := by decide +kernel
theorem tyJxab1ab_ok : ∀ k, k < 0 → parseFieldDescriptor (TJxab1ab k).2.2.1 = some (tyJxab1ab k) := by decide +kernel
def RJ9 : String := "java/lang/Math"
def TJ9 : u_T := fun k => match k with
  | _ => ("", "", "", false)
def tyJ9 : Nat → FieldType := fun k => match k with
  | _ => .int
abbrev wsJ90 : List Cond := u_ws RJ9 TJ9 0
theorem nmJ9 : ∀ a, a < 0 → ∀ b, b < 0 → a ≠ b → (TJ9 a).2.1 ≠ (TJ9 b).2.1 := by decide +kernel
theorem tyJ9_ok : ∀ k, k < 0 → parseFieldDescriptor (TJ9 k).2.2.1 = some (tyJ9 k) := by decide +kernel
abbrev cJ9_abs_0f7a4 : ByteArray := prog_23_method_59_code
def yJ9_abs_0f7a4 : MethodName := ⟨RJ9, "abs", "(I)I"⟩
abbrev cJ9_max_7cf53 : ByteArray := prog_23_method_65_code
def yJ9_max_7cf53 : MethodName := ⟨RJ9, "max", "(II)I"⟩
abbrev cJ9_min_7cf53 : ByteArray := prog_23_method_69_code
def yJ9_min_7cf53 : MethodName := ⟨RJ9, "min", "(II)I"⟩
def RJ0 : String := "java/lang/String"
def TJ0 : u_T := fun k => match k with
  | _ => ("", "", "", false)
def tyJ0 : Nat → FieldType := fun k => match k with
  | _ => .int
abbrev wsJ00 : List Cond := u_ws RJ0 TJ0 0
theorem nmJ0 : ∀ a, a < 0 → ∀ b, b < 0 → a ≠ b → (TJ0 a).2.1 ≠ (TJ0 b).2.1 := by decide +kernel
theorem tyJ0_ok : ∀ k, k < 0 → parseFieldDescriptor (TJ0 k).2.2.1 = some (tyJ0 k) := by decide +kernel
def RJ10 : String := "java/lang/System"
def TJ10 : u_T := fun k => match k with
  | _ => ("", "", "", false)
def tyJ10 : Nat → FieldType := fun k => match k with
  | _ => .int
abbrev wsJ100 : List Cond := u_ws RJ10 TJ10 0
theorem nmJ10 : ∀ a, a < 0 → ∀ b, b < 0 → a ≠ b → (TJ10 a).2.1 ≠ (TJ10 b).2.1 := by decide +kernel
theorem tyJ10_ok : ∀ k, k < 0 → parseFieldDescriptor (TJ10 k).2.2.1 = some (tyJ10 k) := by decide +kernel
def RJxa1e45 : String := "java/util/AbstractCollection"
def TJxa1e45 : u_T := fun k => match k with
  | _ => ("", "", "", false)
def tyJxa1e45 : Nat → FieldType := fun k => match k with
  | _ => .int
abbrev wsJxa1e450 : List Cond := u_ws RJxa1e45 TJxa1e45 0
theorem nmJxa1e45 : ∀ a, a < 0 → ∀ b, b < 0 → a ≠ b → (TJxa1e45 a).2.1 ≠ (TJxa1e45 b).2.1 := by decide +kernel
theorem tyJxa1e45_ok : ∀ k, k < 0 → parseFieldDescriptor (TJxa1e45 k).2.2.1 = some (tyJxa1e45 k) := by decide +kernel
abbrev cJxa1e45_init_da8c8 : ByteArray := prog_28_method_1_code
def yJxa1e45_init_da8c8 : MethodName := ⟨RJxa1e45, "<init>", "()V"⟩
def RJxc12de : String := "java/util/AbstractList"
def TJxc12de : u_T := fun k => match k with
  | _ => ("", "", "", false)
def tyJxc12de : Nat → FieldType := fun k => match k with
  | _ => .int
abbrev wsJxc12de0 : List Cond := u_ws RJxc12de TJxc12de 0
theorem nmJxc12de : ∀ a, a < 0 → ∀ b, b < 0 → a ≠ b → (TJxc12de a).2.1 ≠ (TJxc12de b).2.1 := by decide +kernel
theorem tyJxc12de_ok : ∀ k, k < 0 → parseFieldDescriptor (TJxc12de k).2.2.1 = some (tyJxc12de k) := by decide +kernel
abbrev cJxc12de_init_da8c8 : ByteArray := prog_29_method_1_code
def yJxc12de_init_da8c8 : MethodName := ⟨RJxc12de, "<init>", "()V"⟩
def RJx4a65c : String := "java/util/ArrayList"
def TJx4a65c : u_T := fun k => match k with
  | 0 => ("java/util/AbstractList", "modCount", "I", false)
  | 1 => ("java/util/ArrayList", "elementData", "[Ljava/lang/Object;", false)
  | _ => ("java/util/ArrayList", "size", "I", false)
def tyJx4a65c : Nat → FieldType := fun k => match k with
  | 0 => .int
  | 1 => .array (.object "java/lang/Object")
  | _ => .int
abbrev wsJx4a65c0 : List Cond := u_ws RJx4a65c TJx4a65c 3
theorem nmJx4a65c : ∀ a, a < 3 → ∀ b, b < 3 → a ≠ b → (TJx4a65c a).2.1 ≠ (TJx4a65c b).2.1 := by decide +kernel
theorem tyJx4a65c_ok : ∀ k, k < 3 → parseFieldDescriptor (TJx4a65c k).2.2.1 = some (tyJx4a65c k) := by decide +kernel
abbrev cJx4a65c_init_da8c8 : ByteArray := prog_30_method_2_code
def yJx4a65c_init_da8c8 : MethodName := ⟨RJx4a65c, "<init>", "()V"⟩
abbrev cJx4a65c_grow_92f84 : ByteArray := prog_30_method_6_code
def yJx4a65c_grow_92f84 : MethodName := ⟨RJx4a65c, "grow", "(I)[Ljava/lang/Object;"⟩
abbrev cJx4a65c_grow_d5877 : ByteArray := prog_30_method_7_code
def yJx4a65c_grow_d5877 : MethodName := ⟨RJx4a65c, "grow", "()[Ljava/lang/Object;"⟩
abbrev cJx4a65c_size_8abf5 : ByteArray := prog_30_method_8_code
def yJx4a65c_size_8abf5 : MethodName := ⟨RJx4a65c, "size", "()I"⟩
abbrev cJx4a65c_isEmpty_aae02 : ByteArray := prog_30_method_9_code
def yJx4a65c_isEmpty_aae02 : MethodName := ⟨RJx4a65c, "isEmpty", "()Z"⟩
abbrev cJx4a65c_elementData_915e3 : ByteArray := prog_30_method_18_code
def yJx4a65c_elementData_915e3 : MethodName := ⟨RJx4a65c, "elementData", "(I)Ljava/lang/Object;"⟩
abbrev cJx4a65c_get_915e3 : ByteArray := prog_30_method_20_code
def yJx4a65c_get_915e3 : MethodName := ⟨RJx4a65c, "get", "(I)Ljava/lang/Object;"⟩
abbrev cJx4a65c_add_72be8 : ByteArray := prog_30_method_24_code
def yJx4a65c_add_72be8 : MethodName := ⟨RJx4a65c, "add", "(Ljava/lang/Object;[Ljava/lang/Object;I)V"⟩
abbrev cJx4a65c_add_9ea2d : ByteArray := prog_30_method_25_code
def yJx4a65c_add_9ea2d : MethodName := ⟨RJx4a65c, "add", "(Ljava/lang/Object;)Z"⟩
abbrev cJx4a65c_add_7a177 : ByteArray := prog_30_method_26_code
def yJx4a65c_add_7a177 : MethodName := ⟨RJx4a65c, "add", "(ILjava/lang/Object;)V"⟩
abbrev cJx4a65c_remove_915e3 : ByteArray := prog_30_method_29_code
def yJx4a65c_remove_915e3 : MethodName := ⟨RJx4a65c, "remove", "(I)Ljava/lang/Object;"⟩
abbrev cJx4a65c_fastRemove_b59b0 : ByteArray := prog_30_method_39_code
def yJx4a65c_fastRemove_b59b0 : MethodName := ⟨RJx4a65c, "fastRemove", "([Ljava/lang/Object;I)V"⟩
abbrev cJx4a65c_clear_da8c8 : ByteArray := prog_30_method_40_code
def yJx4a65c_clear_da8c8 : MethodName := ⟨RJx4a65c, "clear", "()V"⟩
abbrev cJx4a65c_rangeCheckForAdd_d00df : ByteArray := prog_30_method_45_code
def yJx4a65c_rangeCheckForAdd_d00df : MethodName := ⟨RJx4a65c, "rangeCheckForAdd", "(I)V"⟩
def RJ7 : String := "java/util/Arrays"
def TJ7 : u_T := fun k => match k with
  | _ => ("", "", "", false)
def tyJ7 : Nat → FieldType := fun k => match k with
  | _ => .int
abbrev wsJ70 : List Cond := u_ws RJ7 TJ7 0
theorem nmJ7 : ∀ a, a < 0 → ∀ b, b < 0 → a ≠ b → (TJ7 a).2.1 ≠ (TJ7 b).2.1 := by decide +kernel
theorem tyJ7_ok : ∀ k, k < 0 → parseFieldDescriptor (TJ7 k).2.2.1 = some (tyJ7 k) := by decide +kernel
abbrev cJ7_copyOf_1904c : ByteArray := prog_31_method_119_code
def yJ7_copyOf_1904c : MethodName := ⟨RJ7, "copyOf", "([Ljava/lang/Object;I)[Ljava/lang/Object;"⟩
abbrev cJ7_copyOf_6403c : ByteArray := prog_31_method_120_code
def yJ7_copyOf_6403c : MethodName := ⟨RJ7, "copyOf", "([Ljava/lang/Object;ILjava/lang/Class;)[Ljava/lang/Object;"⟩
def RJx5ef63 : String := "java/util/Collection"
def TJx5ef63 : u_T := fun k => match k with
  | _ => ("", "", "", false)
def tyJx5ef63 : Nat → FieldType := fun k => match k with
  | _ => .int
abbrev wsJx5ef630 : List Cond := u_ws RJx5ef63 TJx5ef63 0
theorem nmJx5ef63 : ∀ a, a < 0 → ∀ b, b < 0 → a ≠ b → (TJx5ef63 a).2.1 ≠ (TJx5ef63 b).2.1 := by decide +kernel
theorem tyJx5ef63_ok : ∀ k, k < 0 → parseFieldDescriptor (TJx5ef63 k).2.2.1 = some (tyJx5ef63 k) := by decide +kernel
def RJxbd725 : String := "java/util/List"
def TJxbd725 : u_T := fun k => match k with
  | _ => ("", "", "", false)
def tyJxbd725 : Nat → FieldType := fun k => match k with
  | _ => .int
abbrev wsJxbd7250 : List Cond := u_ws RJxbd725 TJxbd725 0
theorem nmJxbd725 : ∀ a, a < 0 → ∀ b, b < 0 → a ≠ b → (TJxbd725 a).2.1 ≠ (TJxbd725 b).2.1 := by decide +kernel
theorem tyJxbd725_ok : ∀ k, k < 0 → parseFieldDescriptor (TJxbd725 k).2.2.1 = some (tyJxbd725 k) := by decide +kernel
def RJ15 : String := "java/util/Objects"
def TJ15 : u_T := fun k => match k with
  | _ => ("", "", "", false)
def tyJ15 : Nat → FieldType := fun k => match k with
  | _ => .int
abbrev wsJ150 : List Cond := u_ws RJ15 TJ15 0
theorem nmJ15 : ∀ a, a < 0 → ∀ b, b < 0 → a ≠ b → (TJ15 a).2.1 ≠ (TJ15 b).2.1 := by decide +kernel
theorem tyJ15_ok : ∀ k, k < 0 → parseFieldDescriptor (TJ15 k).2.2.1 = some (tyJ15 k) := by decide +kernel
abbrev cJ15_checkIndex_7cf53 : ByteArray := prog_34_method_17_code
def yJ15_checkIndex_7cf53 : MethodName := ⟨RJ15, "checkIndex", "(II)I"⟩
def RJxf0a74 : String := "java/util/RandomAccess"
def TJxf0a74 : u_T := fun k => match k with
  | _ => ("", "", "", false)
def tyJxf0a74 : Nat → FieldType := fun k => match k with
  | _ => .int
abbrev wsJxf0a740 : List Cond := u_ws RJxf0a74 TJxf0a74 0
theorem nmJxf0a74 : ∀ a, a < 0 → ∀ b, b < 0 → a ≠ b → (TJxf0a74 a).2.1 ≠ (TJxf0a74 b).2.1 := by decide +kernel
theorem tyJxf0a74_ok : ∀ k, k < 0 → parseFieldDescriptor (TJxf0a74 k).2.2.1 = some (tyJxf0a74 k) := by decide +kernel
def RJxa66e6 : String := "java/util/SequencedCollection"
def TJxa66e6 : u_T := fun k => match k with
  | _ => ("", "", "", false)
def tyJxa66e6 : Nat → FieldType := fun k => match k with
  | _ => .int
abbrev wsJxa66e60 : List Cond := u_ws RJxa66e6 TJxa66e6 0
theorem nmJxa66e6 : ∀ a, a < 0 → ∀ b, b < 0 → a ≠ b → (TJxa66e6 a).2.1 ≠ (TJxa66e6 b).2.1 := by decide +kernel
theorem tyJxa66e6_ok : ∀ k, k < 0 → parseFieldDescriptor (TJxa66e6 k).2.2.1 = some (tyJxa66e6 k) := by decide +kernel
def RJ8 : String := "jdk/internal/util/ArraysSupport"
def TJ8 : u_T := fun k => match k with
  | _ => ("", "", "", false)
def tyJ8 : Nat → FieldType := fun k => match k with
  | _ => .int
abbrev wsJ80 : List Cond := u_ws RJ8 TJ8 0
theorem nmJ8 : ∀ a, a < 0 → ∀ b, b < 0 → a ≠ b → (TJ8 a).2.1 ≠ (TJ8 b).2.1 := by decide +kernel
theorem tyJ8_ok : ∀ k, k < 0 → parseFieldDescriptor (TJ8 k).2.2.1 = some (tyJ8 k) := by decide +kernel
abbrev cJ8_newLength_cabcc : ByteArray := prog_37_method_27_code
def yJ8_newLength_cabcc : MethodName := ⟨RJ8, "newLength", "(III)I"⟩
abbrev cJ8_hugeLength_7cf53 : ByteArray := prog_37_method_28_code
def yJ8_hugeLength_7cf53 : MethodName := ⟨RJ8, "hugeLength", "(II)I"⟩
def RJ3 : String := "jdk/internal/util/Preconditions"
def TJ3 : u_T := fun k => match k with
  | _ => ("", "", "", false)
def tyJ3 : Nat → FieldType := fun k => match k with
  | _ => .int
abbrev wsJ30 : List Cond := u_ws RJ3 TJ3 0
theorem nmJ3 : ∀ a, a < 0 → ∀ b, b < 0 → a ≠ b → (TJ3 a).2.1 ≠ (TJ3 b).2.1 := by decide +kernel
theorem tyJ3_ok : ∀ k, k < 0 → parseFieldDescriptor (TJ3 k).2.2.1 = some (tyJ3 k) := by decide +kernel
abbrev cJ3_checkIndex_8e157 : ByteArray := prog_38_method_11_code
def yJ3_checkIndex_8e157 : MethodName := ⟨RJ3, "checkIndex", "(IILjava/util/function/BiFunction;)I"⟩
def RL : String := "BlockdutyLaw"
abbrev cL_below : ByteArray := method_2_code
def yL_below : MethodName := ⟨RL, "below", "(II)I"⟩
abbrev cL_cell : ByteArray := method_3_code
def yL_cell : MethodName := ⟨RL, "cell", "([II)I"⟩
abbrev cL_law : ByteArray := code
def yL_law : MethodName := ⟨RL, "law", "([I)Z"⟩
abbrev cL_isBuilt : ByteArray := method_5_code
def yL_isBuilt : MethodName := ⟨RL, "isBuilt", "(LBlockduty;I)Z"⟩
abbrev cL_follows : ByteArray := method_6_code
def yL_follows : MethodName := ⟨RL, "follows", "(LBlockduty;[III)Z"⟩
abbrev cL_isAppended : ByteArray := method_7_code
def yL_isAppended : MethodName := ⟨RL, "isAppended", "(LBlockduty;[III)Z"⟩
abbrev cL_isSwapped : ByteArray := method_8_code
def yL_isSwapped : MethodName := ⟨RL, "isSwapped", "(LBlockduty;IIII)Z"⟩
abbrev cL_isCut : ByteArray := method_9_code
def yL_isCut : MethodName := ⟨RL, "isCut", "(LBlockduty;I)Z"⟩
abbrev cL_isGiven : ByteArray := method_10_code
def yL_isGiven : MethodName := ⟨RL, "isGiven", "(LBlockduty;III)Z"⟩
abbrev cL_isBroken : ByteArray := method_11_code
def yL_isBroken : MethodName := ⟨RL, "isBroken", "(LBlockduty;II)Z"⟩
abbrev cL_isSound : ByteArray := method_12_code
def yL_isSound : MethodName := ⟨RL, "isSound", "(LBlockduty;[I[ZI[II)Z"⟩
abbrev vwCl : List vw_C := [(RJx4a65c, TJx4a65c, 3), (RX0, TX0, 5), (RX1, TX1, 3), (RX2, TX2, 2), (RX3, TX3, 3), (RX4, TX4, 6), (RX5, TX5, 4), (RX6, TX6, 1), (RX7, TX7, 12), (RX8, TX8, 2), (RX9, TX9, 14)]
end
section
theorem dX0_init_0 : decode cX0_init 0 = .ok (.aload_n 0, 1) := by decide +kernel
theorem dX0_init_1 : decode cX0_init 1 = .ok (.invokespecial 3, 3) := by decide +kernel
theorem dX0_init_4 : decode cX0_init 4 = .ok (.aload_n 0, 1) := by decide +kernel
theorem dX0_init_5 : decode cX0_init 5 = .ok (.iconst (-1), 1) := by decide +kernel
theorem dX0_init_6 : decode cX0_init 6 = .ok (.putfield 9, 3) := by decide +kernel
theorem dX0_init_9 : decode cX0_init 9 = .ok (.aload_n 0, 1) := by decide +kernel
theorem dX0_init_10 : decode cX0_init 10 = .ok (.new 15, 3) := by decide +kernel
theorem dX0_init_13 : decode cX0_init 13 = .ok (.dup, 1) := by decide +kernel
theorem dX0_init_14 : decode cX0_init 14 = .ok (.invokespecial 17, 3) := by decide +kernel
theorem dX0_init_17 : decode cX0_init 17 = .ok (.putfield 18, 3) := by decide +kernel
theorem dX0_init_20 : decode cX0_init 20 = .ok (.aload_n 0, 1) := by decide +kernel
theorem dX0_init_21 : decode cX0_init 21 = .ok (.new 22, 3) := by decide +kernel
theorem dX0_init_24 : decode cX0_init 24 = .ok (.dup, 1) := by decide +kernel
theorem dX0_init_25 : decode cX0_init 25 = .ok (.invokespecial 24, 3) := by decide +kernel
theorem dX0_init_28 : decode cX0_init 28 = .ok (.putfield 25, 3) := by decide +kernel
theorem dX0_init_31 : decode cX0_init 31 = .ok (.aload_n 0, 1) := by decide +kernel
theorem dX0_init_32 : decode cX0_init 32 = .ok (.iload_n 1, 1) := by decide +kernel
theorem dX0_init_33 : decode cX0_init 33 = .ok (.putfield 29, 3) := by decide +kernel
theorem dX0_init_36 : decode cX0_init 36 = .ok (.aload_n 0, 1) := by decide +kernel
theorem dX0_init_37 : decode cX0_init 37 = .ok (.iload_n 2, 1) := by decide +kernel
theorem dX0_init_38 : decode cX0_init 38 = .ok (.putfield 32, 3) := by decide +kernel
theorem dX0_init_41 : decode cX0_init 41 = .ok (.return_, 1) := by decide +kernel
theorem dX0_pieceNumbered_0 : decode cX0_pieceNumbered 0 = .ok (.iload_n 1, 1) := by decide +kernel
theorem dX0_pieceNumbered_1 : decode cX0_pieceNumbered 1 = .ok (.ifCond .lt 28, 3) := by decide +kernel
theorem dX0_pieceNumbered_4 : decode cX0_pieceNumbered 4 = .ok (.iload_n 1, 1) := by decide +kernel
theorem dX0_pieceNumbered_5 : decode cX0_pieceNumbered 5 = .ok (.aload_n 0, 1) := by decide +kernel
theorem dX0_pieceNumbered_6 : decode cX0_pieceNumbered 6 = .ok (.getfield 25, 3) := by decide +kernel
theorem dX0_pieceNumbered_9 : decode cX0_pieceNumbered 9 = .ok (.invokevirtual 35, 3) := by decide +kernel
theorem dX0_pieceNumbered_12 : decode cX0_pieceNumbered 12 = .ok (.if_icmp .ge 17, 3) := by decide +kernel
theorem dX0_pieceNumbered_15 : decode cX0_pieceNumbered 15 = .ok (.aload_n 0, 1) := by decide +kernel
theorem dX0_pieceNumbered_16 : decode cX0_pieceNumbered 16 = .ok (.getfield 25, 3) := by decide +kernel
theorem dX0_pieceNumbered_19 : decode cX0_pieceNumbered 19 = .ok (.iload_n 1, 1) := by decide +kernel
theorem dX0_pieceNumbered_20 : decode cX0_pieceNumbered 20 = .ok (.invokevirtual 39, 3) := by decide +kernel
theorem dX0_pieceNumbered_23 : decode cX0_pieceNumbered 23 = .ok (.checkcast 43, 3) := by decide +kernel
theorem dX0_pieceNumbered_26 : decode cX0_pieceNumbered 26 = .ok (.goto 4, 3) := by decide +kernel
theorem dX0_pieceNumbered_29 : decode cX0_pieceNumbered 29 = .ok (.aconst_null, 1) := by decide +kernel
theorem dX0_pieceNumbered_30 : decode cX0_pieceNumbered 30 = .ok (.areturn, 1) := by decide +kernel
theorem dX0_addTrip_0 : decode cX0_addTrip 0 = .ok (.aload_n 0, 1) := by decide +kernel
theorem dX0_addTrip_1 : decode cX0_addTrip 1 = .ok (.invokevirtual 45, 3) := by decide +kernel
theorem dX0_addTrip_4 : decode cX0_addTrip 4 = .ok (.aload_n 0, 1) := by decide +kernel
theorem dX0_addTrip_5 : decode cX0_addTrip 5 = .ok (.getfield 18, 3) := by decide +kernel
theorem dX0_addTrip_8 : decode cX0_addTrip 8 = .ok (.getfield 48, 3) := by decide +kernel
theorem dX0_addTrip_11 : decode cX0_addTrip 11 = .ok (.aload_n 1, 1) := by decide +kernel
theorem dX0_addTrip_12 : decode cX0_addTrip 12 = .ok (.invokevirtual 51, 3) := by decide +kernel
theorem dX0_addTrip_15 : decode cX0_addTrip 15 = .ok (.pop, 1) := by decide +kernel
theorem dX0_addTrip_16 : decode cX0_addTrip 16 = .ok (.aload_n 1, 1) := by decide +kernel
theorem dX0_addTrip_17 : decode cX0_addTrip 17 = .ok (.aload_n 0, 1) := by decide +kernel
theorem dX0_addTrip_18 : decode cX0_addTrip 18 = .ok (.putfield 55, 3) := by decide +kernel
theorem dX0_addTrip_21 : decode cX0_addTrip 21 = .ok (.return_, 1) := by decide +kernel
theorem dX0_removeLastTrip_0 : decode cX0_removeLastTrip 0 = .ok (.aload_n 0, 1) := by decide +kernel
theorem dX0_removeLastTrip_1 : decode cX0_removeLastTrip 1 = .ok (.getfield 18, 3) := by decide +kernel
theorem dX0_removeLastTrip_4 : decode cX0_removeLastTrip 4 = .ok (.invokevirtual 61, 3) := by decide +kernel
theorem dX0_removeLastTrip_7 : decode cX0_removeLastTrip 7 = .ok (.astore_n 1, 1) := by decide +kernel
theorem dX0_removeLastTrip_8 : decode cX0_removeLastTrip 8 = .ok (.aload_n 1, 1) := by decide +kernel
theorem dX0_removeLastTrip_9 : decode cX0_removeLastTrip 9 = .ok (.ifnonnull 5, 3) := by decide +kernel
theorem dX0_removeLastTrip_12 : decode cX0_removeLastTrip 12 = .ok (.aconst_null, 1) := by decide +kernel
theorem dX0_removeLastTrip_13 : decode cX0_removeLastTrip 13 = .ok (.areturn, 1) := by decide +kernel
theorem dX0_removeLastTrip_14 : decode cX0_removeLastTrip 14 = .ok (.aload_n 0, 1) := by decide +kernel
theorem dX0_removeLastTrip_15 : decode cX0_removeLastTrip 15 = .ok (.invokevirtual 45, 3) := by decide +kernel
theorem dX0_removeLastTrip_18 : decode cX0_removeLastTrip 18 = .ok (.aload_n 0, 1) := by decide +kernel
theorem dX0_removeLastTrip_19 : decode cX0_removeLastTrip 19 = .ok (.getfield 18, 3) := by decide +kernel
theorem dX0_removeLastTrip_22 : decode cX0_removeLastTrip 22 = .ok (.getfield 48, 3) := by decide +kernel
theorem dX0_removeLastTrip_25 : decode cX0_removeLastTrip 25 = .ok (.aload_n 0, 1) := by decide +kernel
theorem dX0_removeLastTrip_26 : decode cX0_removeLastTrip 26 = .ok (.getfield 18, 3) := by decide +kernel
theorem dX0_removeLastTrip_29 : decode cX0_removeLastTrip 29 = .ok (.invokevirtual 65, 3) := by decide +kernel
theorem dX0_removeLastTrip_32 : decode cX0_removeLastTrip 32 = .ok (.iconst 1, 1) := by decide +kernel
theorem dX0_removeLastTrip_33 : decode cX0_removeLastTrip 33 = .ok (.isub, 1) := by decide +kernel
theorem dX0_removeLastTrip_34 : decode cX0_removeLastTrip 34 = .ok (.invokevirtual 68, 3) := by decide +kernel
theorem dX0_removeLastTrip_37 : decode cX0_removeLastTrip 37 = .ok (.pop, 1) := by decide +kernel
theorem dX0_removeLastTrip_38 : decode cX0_removeLastTrip 38 = .ok (.aload_n 1, 1) := by decide +kernel
theorem dX0_removeLastTrip_39 : decode cX0_removeLastTrip 39 = .ok (.aconst_null, 1) := by decide +kernel
theorem dX0_removeLastTrip_40 : decode cX0_removeLastTrip 40 = .ok (.putfield 55, 3) := by decide +kernel
theorem dX0_removeLastTrip_43 : decode cX0_removeLastTrip 43 = .ok (.aload_n 1, 1) := by decide +kernel
theorem dX0_removeLastTrip_44 : decode cX0_removeLastTrip 44 = .ok (.areturn, 1) := by decide +kernel
theorem dX0_takeOver_0 : decode cX0_takeOver 0 = .ok (.aload_n 0, 1) := by decide +kernel
theorem dX0_takeOver_1 : decode cX0_takeOver 1 = .ok (.invokevirtual 45, 3) := by decide +kernel
theorem dX0_takeOver_4 : decode cX0_takeOver 4 = .ok (.aload_n 0, 1) := by decide +kernel
theorem dX0_takeOver_5 : decode cX0_takeOver 5 = .ok (.getfield 18, 3) := by decide +kernel
theorem dX0_takeOver_8 : decode cX0_takeOver 8 = .ok (.aload_n 1, 1) := by decide +kernel
theorem dX0_takeOver_9 : decode cX0_takeOver 9 = .ok (.invokevirtual 71, 3) := by decide +kernel
theorem dX0_takeOver_12 : decode cX0_takeOver 12 = .ok (.iconst 0, 1) := by decide +kernel
theorem dX0_takeOver_13 : decode cX0_takeOver 13 = .ok (.istore_n 2, 1) := by decide +kernel
theorem dX0_takeOver_14 : decode cX0_takeOver 14 = .ok (.iload_n 2, 1) := by decide +kernel
theorem dX0_takeOver_15 : decode cX0_takeOver 15 = .ok (.aload_n 0, 1) := by decide +kernel
theorem dX0_takeOver_16 : decode cX0_takeOver 16 = .ok (.getfield 18, 3) := by decide +kernel
theorem dX0_takeOver_19 : decode cX0_takeOver 19 = .ok (.invokevirtual 65, 3) := by decide +kernel
theorem dX0_takeOver_22 : decode cX0_takeOver 22 = .ok (.if_icmp .ge 27, 3) := by decide +kernel
theorem dX0_takeOver_25 : decode cX0_takeOver 25 = .ok (.aload_n 0, 1) := by decide +kernel
theorem dX0_takeOver_26 : decode cX0_takeOver 26 = .ok (.getfield 18, 3) := by decide +kernel
theorem dX0_takeOver_29 : decode cX0_takeOver 29 = .ok (.getfield 48, 3) := by decide +kernel
theorem dX0_takeOver_32 : decode cX0_takeOver 32 = .ok (.iload_n 2, 1) := by decide +kernel
theorem dX0_takeOver_33 : decode cX0_takeOver 33 = .ok (.invokevirtual 39, 3) := by decide +kernel
theorem dX0_takeOver_36 : decode cX0_takeOver 36 = .ok (.checkcast 56, 3) := by decide +kernel
theorem dX0_takeOver_39 : decode cX0_takeOver 39 = .ok (.aload_n 0, 1) := by decide +kernel
theorem dX0_takeOver_40 : decode cX0_takeOver 40 = .ok (.putfield 55, 3) := by decide +kernel
theorem dX0_takeOver_43 : decode cX0_takeOver 43 = .ok (.iinc 2 1, 3) := by decide +kernel
theorem dX0_takeOver_46 : decode cX0_takeOver 46 = .ok (.goto (-32), 3) := by decide +kernel
theorem dX0_takeOver_49 : decode cX0_takeOver 49 = .ok (.return_, 1) := by decide +kernel
theorem dX0_forgetPieces_0 : decode cX0_forgetPieces 0 = .ok (.iconst 0, 1) := by decide +kernel
theorem dX0_forgetPieces_1 : decode cX0_forgetPieces 1 = .ok (.istore_n 1, 1) := by decide +kernel
theorem dX0_forgetPieces_2 : decode cX0_forgetPieces 2 = .ok (.iload_n 1, 1) := by decide +kernel
theorem dX0_forgetPieces_3 : decode cX0_forgetPieces 3 = .ok (.aload_n 0, 1) := by decide +kernel
theorem dX0_forgetPieces_4 : decode cX0_forgetPieces 4 = .ok (.getfield 25, 3) := by decide +kernel
theorem dX0_forgetPieces_7 : decode cX0_forgetPieces 7 = .ok (.invokevirtual 35, 3) := by decide +kernel
theorem dX0_forgetPieces_10 : decode cX0_forgetPieces 10 = .ok (.if_icmp .ge 23, 3) := by decide +kernel
theorem dX0_forgetPieces_13 : decode cX0_forgetPieces 13 = .ok (.aload_n 0, 1) := by decide +kernel
theorem dX0_forgetPieces_14 : decode cX0_forgetPieces 14 = .ok (.getfield 25, 3) := by decide +kernel
theorem dX0_forgetPieces_17 : decode cX0_forgetPieces 17 = .ok (.iload_n 1, 1) := by decide +kernel
theorem dX0_forgetPieces_18 : decode cX0_forgetPieces 18 = .ok (.invokevirtual 39, 3) := by decide +kernel
theorem dX0_forgetPieces_21 : decode cX0_forgetPieces 21 = .ok (.checkcast 43, 3) := by decide +kernel
theorem dX0_forgetPieces_24 : decode cX0_forgetPieces 24 = .ok (.invokevirtual 75, 3) := by decide +kernel
theorem dX0_forgetPieces_27 : decode cX0_forgetPieces 27 = .ok (.iinc 1 1, 3) := by decide +kernel
theorem dX0_forgetPieces_30 : decode cX0_forgetPieces 30 = .ok (.goto (-28), 3) := by decide +kernel
theorem dX0_forgetPieces_33 : decode cX0_forgetPieces 33 = .ok (.aload_n 0, 1) := by decide +kernel
theorem dX0_forgetPieces_34 : decode cX0_forgetPieces 34 = .ok (.getfield 25, 3) := by decide +kernel
theorem dX0_forgetPieces_37 : decode cX0_forgetPieces 37 = .ok (.invokevirtual 78, 3) := by decide +kernel
theorem dX0_forgetPieces_40 : decode cX0_forgetPieces 40 = .ok (.iconst 0, 1) := by decide +kernel
theorem dX0_forgetPieces_41 : decode cX0_forgetPieces 41 = .ok (.istore_n 1, 1) := by decide +kernel
theorem dX0_forgetPieces_42 : decode cX0_forgetPieces 42 = .ok (.iload_n 1, 1) := by decide +kernel
theorem dX0_forgetPieces_43 : decode cX0_forgetPieces 43 = .ok (.aload_n 0, 1) := by decide +kernel
theorem dX0_forgetPieces_44 : decode cX0_forgetPieces 44 = .ok (.getfield 18, 3) := by decide +kernel
theorem dX0_forgetPieces_47 : decode cX0_forgetPieces 47 = .ok (.invokevirtual 65, 3) := by decide +kernel
theorem dX0_forgetPieces_50 : decode cX0_forgetPieces 50 = .ok (.if_icmp .ge 27, 3) := by decide +kernel
theorem dX0_forgetPieces_53 : decode cX0_forgetPieces 53 = .ok (.aload_n 0, 1) := by decide +kernel
theorem dX0_forgetPieces_54 : decode cX0_forgetPieces 54 = .ok (.getfield 18, 3) := by decide +kernel
theorem dX0_forgetPieces_57 : decode cX0_forgetPieces 57 = .ok (.getfield 48, 3) := by decide +kernel
theorem dX0_forgetPieces_60 : decode cX0_forgetPieces 60 = .ok (.iload_n 1, 1) := by decide +kernel
theorem dX0_forgetPieces_61 : decode cX0_forgetPieces 61 = .ok (.invokevirtual 39, 3) := by decide +kernel
theorem dX0_forgetPieces_64 : decode cX0_forgetPieces 64 = .ok (.checkcast 56, 3) := by decide +kernel
theorem dX0_forgetPieces_67 : decode cX0_forgetPieces 67 = .ok (.aconst_null, 1) := by decide +kernel
theorem dX0_forgetPieces_68 : decode cX0_forgetPieces 68 = .ok (.putfield 81, 3) := by decide +kernel
theorem dX0_forgetPieces_71 : decode cX0_forgetPieces 71 = .ok (.iinc 1 1, 3) := by decide +kernel
theorem dX0_forgetPieces_74 : decode cX0_forgetPieces 74 = .ok (.goto (-32), 3) := by decide +kernel
theorem dX0_forgetPieces_77 : decode cX0_forgetPieces 77 = .ok (.return_, 1) := by decide +kernel
theorem dX0_cutAt_0 : decode cX0_cutAt 0 = .ok (.aload_n 0, 1) := by decide +kernel
theorem dX0_cutAt_1 : decode cX0_cutAt 1 = .ok (.invokevirtual 45, 3) := by decide +kernel
theorem dX0_cutAt_4 : decode cX0_cutAt 4 = .ok (.iconst 0, 1) := by decide +kernel
theorem dX0_cutAt_5 : decode cX0_cutAt 5 = .ok (.istore_n 3, 1) := by decide +kernel
theorem dX0_cutAt_6 : decode cX0_cutAt 6 = .ok (.iconst 0, 1) := by decide +kernel
theorem dX0_cutAt_7 : decode cX0_cutAt 7 = .ok (.istore 4, 2) := by decide +kernel
theorem dX0_cutAt_9 : decode cX0_cutAt 9 = .ok (.iload 4, 2) := by decide +kernel
theorem dX0_cutAt_11 : decode cX0_cutAt 11 = .ok (.iload_n 2, 1) := by decide +kernel
theorem dX0_cutAt_12 : decode cX0_cutAt 12 = .ok (.if_icmp .ge 32, 3) := by decide +kernel
theorem dX0_cutAt_15 : decode cX0_cutAt 15 = .ok (.iload 4, 2) := by decide +kernel
theorem dX0_cutAt_17 : decode cX0_cutAt 17 = .ok (.aload_n 1, 1) := by decide +kernel
theorem dX0_cutAt_18 : decode cX0_cutAt 18 = .ok (.arraylength, 1) := by decide +kernel
theorem dX0_cutAt_19 : decode cX0_cutAt 19 = .ok (.if_icmp .ge 25, 3) := by decide +kernel
theorem dX0_cutAt_22 : decode cX0_cutAt 22 = .ok (.aload_n 0, 1) := by decide +kernel
theorem dX0_cutAt_23 : decode cX0_cutAt 23 = .ok (.iload_n 3, 1) := by decide +kernel
theorem dX0_cutAt_24 : decode cX0_cutAt 24 = .ok (.aload_n 1, 1) := by decide +kernel
theorem dX0_cutAt_25 : decode cX0_cutAt 25 = .ok (.iload 4, 2) := by decide +kernel
theorem dX0_cutAt_27 : decode cX0_cutAt 27 = .ok (.iaload, 1) := by decide +kernel
theorem dX0_cutAt_28 : decode cX0_cutAt 28 = .ok (.invokevirtual 85, 3) := by decide +kernel
theorem dX0_cutAt_31 : decode cX0_cutAt 31 = .ok (.aload_n 1, 1) := by decide +kernel
theorem dX0_cutAt_32 : decode cX0_cutAt 32 = .ok (.iload 4, 2) := by decide +kernel
theorem dX0_cutAt_34 : decode cX0_cutAt 34 = .ok (.iaload, 1) := by decide +kernel
theorem dX0_cutAt_35 : decode cX0_cutAt 35 = .ok (.iconst 1, 1) := by decide +kernel
theorem dX0_cutAt_36 : decode cX0_cutAt 36 = .ok (.iadd, 1) := by decide +kernel
theorem dX0_cutAt_37 : decode cX0_cutAt 37 = .ok (.istore_n 3, 1) := by decide +kernel
theorem dX0_cutAt_38 : decode cX0_cutAt 38 = .ok (.iinc 4 1, 3) := by decide +kernel
theorem dX0_cutAt_41 : decode cX0_cutAt 41 = .ok (.goto (-32), 3) := by decide +kernel
theorem dX0_cutAt_44 : decode cX0_cutAt 44 = .ok (.return_, 1) := by decide +kernel
theorem dX0_addPiece_0 : decode cX0_addPiece 0 = .ok (.aload_n 0, 1) := by decide +kernel
theorem dX0_addPiece_1 : decode cX0_addPiece 1 = .ok (.getfield 18, 3) := by decide +kernel
theorem dX0_addPiece_4 : decode cX0_addPiece 4 = .ok (.iload_n 1, 1) := by decide +kernel
theorem dX0_addPiece_5 : decode cX0_addPiece 5 = .ok (.invokevirtual 89, 3) := by decide +kernel
theorem dX0_addPiece_8 : decode cX0_addPiece 8 = .ok (.astore_n 3, 1) := by decide +kernel
theorem dX0_addPiece_9 : decode cX0_addPiece 9 = .ok (.aload_n 0, 1) := by decide +kernel
theorem dX0_addPiece_10 : decode cX0_addPiece 10 = .ok (.getfield 18, 3) := by decide +kernel
theorem dX0_addPiece_13 : decode cX0_addPiece 13 = .ok (.iload_n 2, 1) := by decide +kernel
theorem dX0_addPiece_14 : decode cX0_addPiece 14 = .ok (.invokevirtual 89, 3) := by decide +kernel
theorem dX0_addPiece_17 : decode cX0_addPiece 17 = .ok (.astore 4, 2) := by decide +kernel
theorem dX0_addPiece_19 : decode cX0_addPiece 19 = .ok (.aload_n 3, 1) := by decide +kernel
theorem dX0_addPiece_20 : decode cX0_addPiece 20 = .ok (.ifnull 8, 3) := by decide +kernel
theorem dX0_addPiece_23 : decode cX0_addPiece 23 = .ok (.aload 4, 2) := by decide +kernel
theorem dX0_addPiece_25 : decode cX0_addPiece 25 = .ok (.ifnonnull 4, 3) := by decide +kernel
theorem dX0_addPiece_28 : decode cX0_addPiece 28 = .ok (.return_, 1) := by decide +kernel
theorem dX0_addPiece_29 : decode cX0_addPiece 29 = .ok (.new 43, 3) := by decide +kernel
theorem dX0_addPiece_32 : decode cX0_addPiece 32 = .ok (.dup, 1) := by decide +kernel
theorem dX0_addPiece_33 : decode cX0_addPiece 33 = .ok (.aload_n 0, 1) := by decide +kernel
theorem dX0_addPiece_34 : decode cX0_addPiece 34 = .ok (.getfield 25, 3) := by decide +kernel
theorem dX0_addPiece_37 : decode cX0_addPiece 37 = .ok (.invokevirtual 35, 3) := by decide +kernel
theorem dX0_addPiece_40 : decode cX0_addPiece 40 = .ok (.aload_n 0, 1) := by decide +kernel
theorem dX0_addPiece_41 : decode cX0_addPiece 41 = .ok (.getfield 18, 3) := by decide +kernel
theorem dX0_addPiece_44 : decode cX0_addPiece 44 = .ok (.aload_n 3, 1) := by decide +kernel
theorem dX0_addPiece_45 : decode cX0_addPiece 45 = .ok (.aload 4, 2) := by decide +kernel
theorem dX0_addPiece_47 : decode cX0_addPiece 47 = .ok (.iload_n 2, 1) := by decide +kernel
theorem dX0_addPiece_48 : decode cX0_addPiece 48 = .ok (.iload_n 1, 1) := by decide +kernel
theorem dX0_addPiece_49 : decode cX0_addPiece 49 = .ok (.isub, 1) := by decide +kernel
theorem dX0_addPiece_50 : decode cX0_addPiece 50 = .ok (.iconst 1, 1) := by decide +kernel
theorem dX0_addPiece_51 : decode cX0_addPiece 51 = .ok (.iadd, 1) := by decide +kernel
theorem dX0_addPiece_52 : decode cX0_addPiece 52 = .ok (.invokespecial 92, 3) := by decide +kernel
theorem dX0_addPiece_55 : decode cX0_addPiece 55 = .ok (.astore 5, 2) := by decide +kernel
theorem dX0_addPiece_57 : decode cX0_addPiece 57 = .ok (.aload_n 0, 1) := by decide +kernel
theorem dX0_addPiece_58 : decode cX0_addPiece 58 = .ok (.getfield 25, 3) := by decide +kernel
theorem dX0_addPiece_61 : decode cX0_addPiece 61 = .ok (.aload 5, 2) := by decide +kernel
theorem dX0_addPiece_63 : decode cX0_addPiece 63 = .ok (.invokevirtual 51, 3) := by decide +kernel
theorem dX0_addPiece_66 : decode cX0_addPiece 66 = .ok (.pop, 1) := by decide +kernel
theorem dX0_addPiece_67 : decode cX0_addPiece 67 = .ok (.iload_n 1, 1) := by decide +kernel
theorem dX0_addPiece_68 : decode cX0_addPiece 68 = .ok (.istore 6, 2) := by decide +kernel
theorem dX0_addPiece_70 : decode cX0_addPiece 70 = .ok (.iload 6, 2) := by decide +kernel
theorem dX0_addPiece_72 : decode cX0_addPiece 72 = .ok (.iload_n 2, 1) := by decide +kernel
theorem dX0_addPiece_73 : decode cX0_addPiece 73 = .ok (.if_icmp .gt 29, 3) := by decide +kernel
theorem dX0_addPiece_76 : decode cX0_addPiece 76 = .ok (.aload_n 0, 1) := by decide +kernel
theorem dX0_addPiece_77 : decode cX0_addPiece 77 = .ok (.getfield 18, 3) := by decide +kernel
theorem dX0_addPiece_80 : decode cX0_addPiece 80 = .ok (.getfield 48, 3) := by decide +kernel
theorem dX0_addPiece_83 : decode cX0_addPiece 83 = .ok (.iload 6, 2) := by decide +kernel
theorem dX0_addPiece_85 : decode cX0_addPiece 85 = .ok (.invokevirtual 39, 3) := by decide +kernel
theorem dX0_addPiece_88 : decode cX0_addPiece 88 = .ok (.checkcast 56, 3) := by decide +kernel
theorem dX0_addPiece_91 : decode cX0_addPiece 91 = .ok (.aload 5, 2) := by decide +kernel
theorem dX0_addPiece_93 : decode cX0_addPiece 93 = .ok (.putfield 81, 3) := by decide +kernel
theorem dX0_addPiece_96 : decode cX0_addPiece 96 = .ok (.iinc 6 1, 3) := by decide +kernel
theorem dX0_addPiece_99 : decode cX0_addPiece 99 = .ok (.goto (-29), 3) := by decide +kernel
theorem dX0_addPiece_102 : decode cX0_addPiece 102 = .ok (.return_, 1) := by decide +kernel
theorem dX0_lostNow_0 : decode cX0_lostNow 0 = .ok (.aload_n 0, 1) := by decide +kernel
theorem dX0_lostNow_1 : decode cX0_lostNow 1 = .ok (.aload_n 0, 1) := by decide +kernel
theorem dX0_lostNow_2 : decode cX0_lostNow 2 = .ok (.getfield 9, 3) := by decide +kernel
theorem dX0_lostNow_5 : decode cX0_lostNow 5 = .ok (.aconst_null, 1) := by decide +kernel
theorem dX0_lostNow_6 : decode cX0_lostNow 6 = .ok (.iconst 0, 1) := by decide +kernel
theorem dX0_lostNow_7 : decode cX0_lostNow 7 = .ok (.invokevirtual 95, 3) := by decide +kernel
theorem dX0_lostNow_10 : decode cX0_lostNow 10 = .ok (.ireturn, 1) := by decide +kernel
theorem dX0_lostIf_0 : decode cX0_lostIf 0 = .ok (.iconst 0, 1) := by decide +kernel
theorem dX0_lostIf_1 : decode cX0_lostIf 1 = .ok (.istore 4, 2) := by decide +kernel
theorem dX0_lostIf_3 : decode cX0_lostIf 3 = .ok (.aconst_null, 1) := by decide +kernel
theorem dX0_lostIf_4 : decode cX0_lostIf 4 = .ok (.astore 5, 2) := by decide +kernel
theorem dX0_lostIf_6 : decode cX0_lostIf 6 = .ok (.iconst 0, 1) := by decide +kernel
theorem dX0_lostIf_7 : decode cX0_lostIf 7 = .ok (.istore 6, 2) := by decide +kernel
theorem dX0_lostIf_9 : decode cX0_lostIf 9 = .ok (.iload 6, 2) := by decide +kernel
theorem dX0_lostIf_11 : decode cX0_lostIf 11 = .ok (.aload_n 0, 1) := by decide +kernel
theorem dX0_lostIf_12 : decode cX0_lostIf 12 = .ok (.getfield 18, 3) := by decide +kernel
theorem dX0_lostIf_15 : decode cX0_lostIf 15 = .ok (.invokevirtual 65, 3) := by decide +kernel
theorem dX0_lostIf_18 : decode cX0_lostIf 18 = .ok (.if_icmp .ge 130, 3) := by decide +kernel
theorem dX0_lostIf_21 : decode cX0_lostIf 21 = .ok (.aload_n 0, 1) := by decide +kernel
theorem dX0_lostIf_22 : decode cX0_lostIf 22 = .ok (.getfield 18, 3) := by decide +kernel
theorem dX0_lostIf_25 : decode cX0_lostIf 25 = .ok (.getfield 48, 3) := by decide +kernel
theorem dX0_lostIf_28 : decode cX0_lostIf 28 = .ok (.iload 6, 2) := by decide +kernel
theorem dX0_lostIf_30 : decode cX0_lostIf 30 = .ok (.invokevirtual 39, 3) := by decide +kernel
theorem dX0_lostIf_33 : decode cX0_lostIf 33 = .ok (.checkcast 56, 3) := by decide +kernel
theorem dX0_lostIf_36 : decode cX0_lostIf 36 = .ok (.astore 7, 2) := by decide +kernel
theorem dX0_lostIf_38 : decode cX0_lostIf 38 = .ok (.aload 5, 2) := by decide +kernel
theorem dX0_lostIf_40 : decode cX0_lostIf 40 = .ok (.ifnonnull 7, 3) := by decide +kernel
theorem dX0_lostIf_43 : decode cX0_lostIf 43 = .ok (.iconst 0, 1) := by decide +kernel
theorem dX0_lostIf_44 : decode cX0_lostIf 44 = .ok (.goto 16, 3) := by decide +kernel
theorem dX0_lostIf_47 : decode cX0_lostIf 47 = .ok (.aload 5, 2) := by decide +kernel
theorem dX0_lostIf_49 : decode cX0_lostIf 49 = .ok (.getfield 99, 3) := by decide +kernel
theorem dX0_lostIf_52 : decode cX0_lostIf 52 = .ok (.aload 5, 2) := by decide +kernel
theorem dX0_lostIf_54 : decode cX0_lostIf 54 = .ok (.aload 7, 2) := by decide +kernel
theorem dX0_lostIf_56 : decode cX0_lostIf 56 = .ok (.invokevirtual 102, 3) := by decide +kernel
theorem dX0_lostIf_59 : decode cX0_lostIf 59 = .ok (.iadd, 1) := by decide +kernel
theorem dX0_lostIf_60 : decode cX0_lostIf 60 = .ok (.istore 8, 2) := by decide +kernel
theorem dX0_lostIf_62 : decode cX0_lostIf 62 = .ok (.aload 7, 2) := by decide +kernel
theorem dX0_lostIf_64 : decode cX0_lostIf 64 = .ok (.aload 7, 2) := by decide +kernel
theorem dX0_lostIf_66 : decode cX0_lostIf 66 = .ok (.getfield 106, 3) := by decide +kernel
theorem dX0_lostIf_69 : decode cX0_lostIf 69 = .ok (.iload 8, 2) := by decide +kernel
theorem dX0_lostIf_71 : decode cX0_lostIf 71 = .ok (.invokestatic 109, 3) := by decide +kernel
theorem dX0_lostIf_74 : decode cX0_lostIf 74 = .ok (.putfield 115, 3) := by decide +kernel
theorem dX0_lostIf_77 : decode cX0_lostIf 77 = .ok (.aload 7, 2) := by decide +kernel
theorem dX0_lostIf_79 : decode cX0_lostIf 79 = .ok (.aload 7, 2) := by decide +kernel
theorem dX0_lostIf_81 : decode cX0_lostIf 81 = .ok (.iload_n 1, 1) := by decide +kernel
theorem dX0_lostIf_82 : decode cX0_lostIf 82 = .ok (.invokevirtual 118, 3) := by decide +kernel
theorem dX0_lostIf_85 : decode cX0_lostIf 85 = .ok (.putfield 122, 3) := by decide +kernel
theorem dX0_lostIf_88 : decode cX0_lostIf 88 = .ok (.aload 7, 2) := by decide +kernel
theorem dX0_lostIf_90 : decode cX0_lostIf 90 = .ok (.invokevirtual 125, 3) := by decide +kernel
theorem dX0_lostIf_93 : decode cX0_lostIf 93 = .ok (.ifCond .eq 46, 3) := by decide +kernel
theorem dX0_lostIf_96 : decode cX0_lostIf 96 = .ok (.aload 7, 2) := by decide +kernel
theorem dX0_lostIf_98 : decode cX0_lostIf 98 = .ok (.aload_n 2, 1) := by decide +kernel
theorem dX0_lostIf_99 : decode cX0_lostIf 99 = .ok (.if_acmp .ne 7, 3) := by decide +kernel
theorem dX0_lostIf_102 : decode cX0_lostIf 102 = .ok (.iload_n 3, 1) := by decide +kernel
theorem dX0_lostIf_103 : decode cX0_lostIf 103 = .ok (.goto 8, 3) := by decide +kernel
theorem dX0_lostIf_106 : decode cX0_lostIf 106 = .ok (.aload 7, 2) := by decide +kernel
theorem dX0_lostIf_108 : decode cX0_lostIf 108 = .ok (.getfield 129, 3) := by decide +kernel
theorem dX0_lostIf_111 : decode cX0_lostIf 111 = .ok (.istore 9, 2) := by decide +kernel
theorem dX0_lostIf_113 : decode cX0_lostIf 113 = .ok (.aload 7, 2) := by decide +kernel
theorem dX0_lostIf_115 : decode cX0_lostIf 115 = .ok (.aload 7, 2) := by decide +kernel
theorem dX0_lostIf_117 : decode cX0_lostIf 117 = .ok (.getfield 115, 3) := by decide +kernel
theorem dX0_lostIf_120 : decode cX0_lostIf 120 = .ok (.aload 7, 2) := by decide +kernel
theorem dX0_lostIf_122 : decode cX0_lostIf 122 = .ok (.getfield 132, 3) := by decide +kernel
theorem dX0_lostIf_125 : decode cX0_lostIf 125 = .ok (.iadd, 1) := by decide +kernel
theorem dX0_lostIf_126 : decode cX0_lostIf 126 = .ok (.iload 9, 2) := by decide +kernel
theorem dX0_lostIf_128 : decode cX0_lostIf 128 = .ok (.iadd, 1) := by decide +kernel
theorem dX0_lostIf_129 : decode cX0_lostIf 129 = .ok (.putfield 99, 3) := by decide +kernel
theorem dX0_lostIf_132 : decode cX0_lostIf 132 = .ok (.aload 7, 2) := by decide +kernel
theorem dX0_lostIf_134 : decode cX0_lostIf 134 = .ok (.astore 5, 2) := by decide +kernel
theorem dX0_lostIf_136 : decode cX0_lostIf 136 = .ok (.goto 6, 3) := by decide +kernel
theorem dX0_lostIf_139 : decode cX0_lostIf 139 = .ok (.iinc 4 1, 3) := by decide +kernel
theorem dX0_lostIf_142 : decode cX0_lostIf 142 = .ok (.iinc 6 1, 3) := by decide +kernel
theorem dX0_lostIf_145 : decode cX0_lostIf 145 = .ok (.goto (-136), 3) := by decide +kernel
theorem dX0_lostIf_148 : decode cX0_lostIf 148 = .ok (.iload 4, 2) := by decide +kernel
theorem dX0_lostIf_150 : decode cX0_lostIf 150 = .ok (.ireturn, 1) := by decide +kernel
theorem dX1_init_0 : decode cX1_init 0 = .ok (.aload_n 0, 1) := by decide +kernel
theorem dX1_init_1 : decode cX1_init 1 = .ok (.invokespecial 3, 3) := by decide +kernel
theorem dX1_init_4 : decode cX1_init 4 = .ok (.aload_n 0, 1) := by decide +kernel
theorem dX1_init_5 : decode cX1_init 5 = .ok (.new 9, 3) := by decide +kernel
theorem dX1_init_8 : decode cX1_init 8 = .ok (.dup, 1) := by decide +kernel
theorem dX1_init_9 : decode cX1_init 9 = .ok (.invokespecial 11, 3) := by decide +kernel
theorem dX1_init_12 : decode cX1_init 12 = .ok (.putfield 12, 3) := by decide +kernel
theorem dX1_init_15 : decode cX1_init 15 = .ok (.aload_n 0, 1) := by decide +kernel
theorem dX1_init_16 : decode cX1_init 16 = .ok (.iload_n 1, 1) := by decide +kernel
theorem dX1_init_17 : decode cX1_init 17 = .ok (.putfield 18, 3) := by decide +kernel
theorem dX1_init_20 : decode cX1_init 20 = .ok (.return_, 1) := by decide +kernel
theorem dX1_canGet_0 : decode cX1_canGet 0 = .ok (.iconst 0, 1) := by decide +kernel
theorem dX1_canGet_1 : decode cX1_canGet 1 = .ok (.istore_n 2, 1) := by decide +kernel
theorem dX1_canGet_2 : decode cX1_canGet 2 = .ok (.iload_n 2, 1) := by decide +kernel
theorem dX1_canGet_3 : decode cX1_canGet 3 = .ok (.aload_n 0, 1) := by decide +kernel
theorem dX1_canGet_4 : decode cX1_canGet 4 = .ok (.getfield 12, 3) := by decide +kernel
theorem dX1_canGet_7 : decode cX1_canGet 7 = .ok (.invokevirtual 22, 3) := by decide +kernel
theorem dX1_canGet_10 : decode cX1_canGet 10 = .ok (.if_icmp .ge 29, 3) := by decide +kernel
theorem dX1_canGet_13 : decode cX1_canGet 13 = .ok (.aload_n 1, 1) := by decide +kernel
theorem dX1_canGet_14 : decode cX1_canGet 14 = .ok (.aload_n 0, 1) := by decide +kernel
theorem dX1_canGet_15 : decode cX1_canGet 15 = .ok (.getfield 12, 3) := by decide +kernel
theorem dX1_canGet_18 : decode cX1_canGet 18 = .ok (.iload_n 2, 1) := by decide +kernel
theorem dX1_canGet_19 : decode cX1_canGet 19 = .ok (.invokevirtual 26, 3) := by decide +kernel
theorem dX1_canGet_22 : decode cX1_canGet 22 = .ok (.checkcast 30, 3) := by decide +kernel
theorem dX1_canGet_25 : decode cX1_canGet 25 = .ok (.invokevirtual 32, 3) := by decide +kernel
theorem dX1_canGet_28 : decode cX1_canGet 28 = .ok (.ifCond .eq 5, 3) := by decide +kernel
theorem dX1_canGet_31 : decode cX1_canGet 31 = .ok (.iconst 0, 1) := by decide +kernel
theorem dX1_canGet_32 : decode cX1_canGet 32 = .ok (.ireturn, 1) := by decide +kernel
theorem dX1_canGet_33 : decode cX1_canGet 33 = .ok (.iinc 2 1, 3) := by decide +kernel
theorem dX1_canGet_36 : decode cX1_canGet 36 = .ok (.goto (-34), 3) := by decide +kernel
theorem dX1_canGet_39 : decode cX1_canGet 39 = .ok (.aload_n 0, 1) := by decide +kernel
theorem dX1_canGet_40 : decode cX1_canGet 40 = .ok (.invokevirtual 36, 3) := by decide +kernel
theorem dX1_canGet_43 : decode cX1_canGet 43 = .ok (.aload_n 1, 1) := by decide +kernel
theorem dX1_canGet_44 : decode cX1_canGet 44 = .ok (.invokevirtual 39, 3) := by decide +kernel
theorem dX1_canGet_47 : decode cX1_canGet 47 = .ok (.iadd, 1) := by decide +kernel
theorem dX1_canGet_48 : decode cX1_canGet 48 = .ok (.sipush 600, 3) := by decide +kernel
theorem dX1_canGet_51 : decode cX1_canGet 51 = .ok (.if_icmp .gt 7, 3) := by decide +kernel
theorem dX1_canGet_54 : decode cX1_canGet 54 = .ok (.iconst 1, 1) := by decide +kernel
theorem dX1_canGet_55 : decode cX1_canGet 55 = .ok (.goto 4, 3) := by decide +kernel
theorem dX1_canGet_58 : decode cX1_canGet 58 = .ok (.iconst 0, 1) := by decide +kernel
theorem dX1_canGet_59 : decode cX1_canGet 59 = .ok (.ireturn, 1) := by decide +kernel
theorem dX1_drop_0 : decode cX1_drop 0 = .ok (.iconst 0, 1) := by decide +kernel
theorem dX1_drop_1 : decode cX1_drop 1 = .ok (.istore_n 2, 1) := by decide +kernel
theorem dX1_drop_2 : decode cX1_drop 2 = .ok (.iload_n 2, 1) := by decide +kernel
theorem dX1_drop_3 : decode cX1_drop 3 = .ok (.aload_n 0, 1) := by decide +kernel
theorem dX1_drop_4 : decode cX1_drop 4 = .ok (.getfield 12, 3) := by decide +kernel
theorem dX1_drop_7 : decode cX1_drop 7 = .ok (.invokevirtual 22, 3) := by decide +kernel
theorem dX1_drop_10 : decode cX1_drop 10 = .ok (.if_icmp .ge 31, 3) := by decide +kernel
theorem dX1_drop_13 : decode cX1_drop 13 = .ok (.aload_n 0, 1) := by decide +kernel
theorem dX1_drop_14 : decode cX1_drop 14 = .ok (.getfield 12, 3) := by decide +kernel
theorem dX1_drop_17 : decode cX1_drop 17 = .ok (.iload_n 2, 1) := by decide +kernel
theorem dX1_drop_18 : decode cX1_drop 18 = .ok (.invokevirtual 26, 3) := by decide +kernel
theorem dX1_drop_21 : decode cX1_drop 21 = .ok (.aload_n 1, 1) := by decide +kernel
theorem dX1_drop_22 : decode cX1_drop 22 = .ok (.if_acmp .ne 13, 3) := by decide +kernel
theorem dX1_drop_25 : decode cX1_drop 25 = .ok (.aload_n 0, 1) := by decide +kernel
theorem dX1_drop_26 : decode cX1_drop 26 = .ok (.getfield 12, 3) := by decide +kernel
theorem dX1_drop_29 : decode cX1_drop 29 = .ok (.iload_n 2, 1) := by decide +kernel
theorem dX1_drop_30 : decode cX1_drop 30 = .ok (.invokevirtual 40, 3) := by decide +kernel
theorem dX1_drop_33 : decode cX1_drop 33 = .ok (.pop, 1) := by decide +kernel
theorem dX1_drop_34 : decode cX1_drop 34 = .ok (.return_, 1) := by decide +kernel
theorem dX1_drop_35 : decode cX1_drop 35 = .ok (.iinc 2 1, 3) := by decide +kernel
theorem dX1_drop_38 : decode cX1_drop 38 = .ok (.goto (-36), 3) := by decide +kernel
theorem dX1_drop_41 : decode cX1_drop 41 = .ok (.return_, 1) := by decide +kernel
theorem dX1_minutes_0 : decode cX1_minutes 0 = .ok (.iconst 0, 1) := by decide +kernel
theorem dX1_minutes_1 : decode cX1_minutes 1 = .ok (.istore_n 1, 1) := by decide +kernel
theorem dX1_minutes_2 : decode cX1_minutes 2 = .ok (.iconst 0, 1) := by decide +kernel
theorem dX1_minutes_3 : decode cX1_minutes 3 = .ok (.istore_n 2, 1) := by decide +kernel
theorem dX1_minutes_4 : decode cX1_minutes 4 = .ok (.iload_n 2, 1) := by decide +kernel
theorem dX1_minutes_5 : decode cX1_minutes 5 = .ok (.aload_n 0, 1) := by decide +kernel
theorem dX1_minutes_6 : decode cX1_minutes 6 = .ok (.getfield 12, 3) := by decide +kernel
theorem dX1_minutes_9 : decode cX1_minutes 9 = .ok (.invokevirtual 22, 3) := by decide +kernel
theorem dX1_minutes_12 : decode cX1_minutes 12 = .ok (.if_icmp .ge 26, 3) := by decide +kernel
theorem dX1_minutes_15 : decode cX1_minutes 15 = .ok (.iload_n 1, 1) := by decide +kernel
theorem dX1_minutes_16 : decode cX1_minutes 16 = .ok (.aload_n 0, 1) := by decide +kernel
theorem dX1_minutes_17 : decode cX1_minutes 17 = .ok (.getfield 12, 3) := by decide +kernel
theorem dX1_minutes_20 : decode cX1_minutes 20 = .ok (.iload_n 2, 1) := by decide +kernel
theorem dX1_minutes_21 : decode cX1_minutes 21 = .ok (.invokevirtual 26, 3) := by decide +kernel
theorem dX1_minutes_24 : decode cX1_minutes 24 = .ok (.checkcast 30, 3) := by decide +kernel
theorem dX1_minutes_27 : decode cX1_minutes 27 = .ok (.invokevirtual 39, 3) := by decide +kernel
theorem dX1_minutes_30 : decode cX1_minutes 30 = .ok (.iadd, 1) := by decide +kernel
theorem dX1_minutes_31 : decode cX1_minutes 31 = .ok (.istore_n 1, 1) := by decide +kernel
theorem dX1_minutes_32 : decode cX1_minutes 32 = .ok (.iinc 2 1, 3) := by decide +kernel
theorem dX1_minutes_35 : decode cX1_minutes 35 = .ok (.goto (-31), 3) := by decide +kernel
theorem dX1_minutes_38 : decode cX1_minutes 38 = .ok (.iload_n 1, 1) := by decide +kernel
theorem dX1_minutes_39 : decode cX1_minutes 39 = .ok (.ireturn, 1) := by decide +kernel
theorem dX1_worked_0 : decode cX1_worked 0 = .ok (.iconst 0, 1) := by decide +kernel
theorem dX1_worked_1 : decode cX1_worked 1 = .ok (.istore_n 1, 1) := by decide +kernel
theorem dX1_worked_2 : decode cX1_worked 2 = .ok (.iconst 0, 1) := by decide +kernel
theorem dX1_worked_3 : decode cX1_worked 3 = .ok (.istore_n 2, 1) := by decide +kernel
theorem dX1_worked_4 : decode cX1_worked 4 = .ok (.iload_n 2, 1) := by decide +kernel
theorem dX1_worked_5 : decode cX1_worked 5 = .ok (.aload_n 0, 1) := by decide +kernel
theorem dX1_worked_6 : decode cX1_worked 6 = .ok (.getfield 12, 3) := by decide +kernel
theorem dX1_worked_9 : decode cX1_worked 9 = .ok (.invokevirtual 22, 3) := by decide +kernel
theorem dX1_worked_12 : decode cX1_worked 12 = .ok (.if_icmp .ge 26, 3) := by decide +kernel
theorem dX1_worked_15 : decode cX1_worked 15 = .ok (.iload_n 1, 1) := by decide +kernel
theorem dX1_worked_16 : decode cX1_worked 16 = .ok (.aload_n 0, 1) := by decide +kernel
theorem dX1_worked_17 : decode cX1_worked 17 = .ok (.getfield 12, 3) := by decide +kernel
theorem dX1_worked_20 : decode cX1_worked 20 = .ok (.iload_n 2, 1) := by decide +kernel
theorem dX1_worked_21 : decode cX1_worked 21 = .ok (.invokevirtual 26, 3) := by decide +kernel
theorem dX1_worked_24 : decode cX1_worked 24 = .ok (.checkcast 30, 3) := by decide +kernel
theorem dX1_worked_27 : decode cX1_worked 27 = .ok (.invokevirtual 43, 3) := by decide +kernel
theorem dX1_worked_30 : decode cX1_worked 30 = .ok (.iadd, 1) := by decide +kernel
theorem dX1_worked_31 : decode cX1_worked 31 = .ok (.istore_n 1, 1) := by decide +kernel
theorem dX1_worked_32 : decode cX1_worked 32 = .ok (.iinc 2 1, 3) := by decide +kernel
theorem dX1_worked_35 : decode cX1_worked 35 = .ok (.goto (-31), 3) := by decide +kernel
theorem dX1_worked_38 : decode cX1_worked 38 = .ok (.iload_n 1, 1) := by decide +kernel
theorem dX1_worked_39 : decode cX1_worked 39 = .ok (.ireturn, 1) := by decide +kernel
theorem dX1_pay_0 : decode cX1_pay 0 = .ok (.aload_n 0, 1) := by decide +kernel
theorem dX1_pay_1 : decode cX1_pay 1 = .ok (.invokevirtual 46, 3) := by decide +kernel
theorem dX1_pay_4 : decode cX1_pay 4 = .ok (.istore_n 1, 1) := by decide +kernel
theorem dX1_pay_5 : decode cX1_pay 5 = .ok (.iconst 0, 1) := by decide +kernel
theorem dX1_pay_6 : decode cX1_pay 6 = .ok (.iload_n 1, 1) := by decide +kernel
theorem dX1_pay_7 : decode cX1_pay 7 = .ok (.sipush 480, 3) := by decide +kernel
theorem dX1_pay_10 : decode cX1_pay 10 = .ok (.isub, 1) := by decide +kernel
theorem dX1_pay_11 : decode cX1_pay 11 = .ok (.invokestatic 47, 3) := by decide +kernel
theorem dX1_pay_14 : decode cX1_pay 14 = .ok (.istore_n 2, 1) := by decide +kernel
theorem dX1_pay_15 : decode cX1_pay 15 = .ok (.iload_n 1, 1) := by decide +kernel
theorem dX1_pay_16 : decode cX1_pay 16 = .ok (.iconst 4, 1) := by decide +kernel
theorem dX1_pay_17 : decode cX1_pay 17 = .ok (.idiv, 1) := by decide +kernel
theorem dX1_pay_18 : decode cX1_pay 18 = .ok (.iload_n 2, 1) := by decide +kernel
theorem dX1_pay_19 : decode cX1_pay 19 = .ok (.iconst 4, 1) := by decide +kernel
theorem dX1_pay_20 : decode cX1_pay 20 = .ok (.idiv, 1) := by decide +kernel
theorem dX1_pay_21 : decode cX1_pay 21 = .ok (.iadd, 1) := by decide +kernel
theorem dX1_pay_22 : decode cX1_pay 22 = .ok (.ireturn, 1) := by decide +kernel
theorem dX2_init_0 : decode cX2_init 0 = .ok (.aload_n 0, 1) := by decide +kernel
theorem dX2_init_1 : decode cX2_init 1 = .ok (.invokespecial 3, 3) := by decide +kernel
theorem dX2_init_4 : decode cX2_init 4 = .ok (.aload_n 0, 1) := by decide +kernel
theorem dX2_init_5 : decode cX2_init 5 = .ok (.bipush 16, 2) := by decide +kernel
theorem dX2_init_7 : decode cX2_init 7 = .ok (.newarray .int, 2) := by decide +kernel
theorem dX2_init_9 : decode cX2_init 9 = .ok (.putfield 9, 3) := by decide +kernel
theorem dX2_init_12 : decode cX2_init 12 = .ok (.aload_n 0, 1) := by decide +kernel
theorem dX2_init_13 : decode cX2_init 13 = .ok (.bipush 16, 2) := by decide +kernel
theorem dX2_init_15 : decode cX2_init 15 = .ok (.newarray .boolean, 2) := by decide +kernel
theorem dX2_init_17 : decode cX2_init 17 = .ok (.putfield 15, 3) := by decide +kernel
theorem dX2_init_20 : decode cX2_init 20 = .ok (.return_, 1) := by decide +kernel
theorem dX2_mostPairs_0 : decode cX2_mostPairs 0 = .ok (.iconst 0, 1) := by decide +kernel
theorem dX2_mostPairs_1 : decode cX2_mostPairs 1 = .ok (.istore_n 2, 1) := by decide +kernel
theorem dX2_mostPairs_2 : decode cX2_mostPairs 2 = .ok (.iload_n 2, 1) := by decide +kernel
theorem dX2_mostPairs_3 : decode cX2_mostPairs 3 = .ok (.aload_n 0, 1) := by decide +kernel
theorem dX2_mostPairs_4 : decode cX2_mostPairs 4 = .ok (.getfield 9, 3) := by decide +kernel
theorem dX2_mostPairs_7 : decode cX2_mostPairs 7 = .ok (.arraylength, 1) := by decide +kernel
theorem dX2_mostPairs_8 : decode cX2_mostPairs 8 = .ok (.if_icmp .ge 16, 3) := by decide +kernel
theorem dX2_mostPairs_11 : decode cX2_mostPairs 11 = .ok (.aload_n 0, 1) := by decide +kernel
theorem dX2_mostPairs_12 : decode cX2_mostPairs 12 = .ok (.getfield 9, 3) := by decide +kernel
theorem dX2_mostPairs_15 : decode cX2_mostPairs 15 = .ok (.iload_n 2, 1) := by decide +kernel
theorem dX2_mostPairs_16 : decode cX2_mostPairs 16 = .ok (.iconst (-1), 1) := by decide +kernel
theorem dX2_mostPairs_17 : decode cX2_mostPairs 17 = .ok (.iastore, 1) := by decide +kernel
theorem dX2_mostPairs_18 : decode cX2_mostPairs 18 = .ok (.iinc 2 1, 3) := by decide +kernel
theorem dX2_mostPairs_21 : decode cX2_mostPairs 21 = .ok (.goto (-19), 3) := by decide +kernel
theorem dX2_mostPairs_24 : decode cX2_mostPairs 24 = .ok (.iconst 0, 1) := by decide +kernel
theorem dX2_mostPairs_25 : decode cX2_mostPairs 25 = .ok (.istore_n 2, 1) := by decide +kernel
theorem dX2_mostPairs_26 : decode cX2_mostPairs 26 = .ok (.iconst 0, 1) := by decide +kernel
theorem dX2_mostPairs_27 : decode cX2_mostPairs 27 = .ok (.istore_n 3, 1) := by decide +kernel
theorem dX2_mostPairs_28 : decode cX2_mostPairs 28 = .ok (.iload_n 3, 1) := by decide +kernel
theorem dX2_mostPairs_29 : decode cX2_mostPairs 29 = .ok (.aload_n 1, 1) := by decide +kernel
theorem dX2_mostPairs_30 : decode cX2_mostPairs 30 = .ok (.invokevirtual 19, 3) := by decide +kernel
theorem dX2_mostPairs_33 : decode cX2_mostPairs 33 = .ok (.if_icmp .ge 56, 3) := by decide +kernel
theorem dX2_mostPairs_36 : decode cX2_mostPairs 36 = .ok (.iconst 0, 1) := by decide +kernel
theorem dX2_mostPairs_37 : decode cX2_mostPairs 37 = .ok (.istore 4, 2) := by decide +kernel
theorem dX2_mostPairs_39 : decode cX2_mostPairs 39 = .ok (.iload 4, 2) := by decide +kernel
theorem dX2_mostPairs_41 : decode cX2_mostPairs 41 = .ok (.aload_n 0, 1) := by decide +kernel
theorem dX2_mostPairs_42 : decode cX2_mostPairs 42 = .ok (.getfield 15, 3) := by decide +kernel
theorem dX2_mostPairs_45 : decode cX2_mostPairs 45 = .ok (.arraylength, 1) := by decide +kernel
theorem dX2_mostPairs_46 : decode cX2_mostPairs 46 = .ok (.if_icmp .ge 17, 3) := by decide +kernel
theorem dX2_mostPairs_49 : decode cX2_mostPairs 49 = .ok (.aload_n 0, 1) := by decide +kernel
theorem dX2_mostPairs_50 : decode cX2_mostPairs 50 = .ok (.getfield 15, 3) := by decide +kernel
theorem dX2_mostPairs_53 : decode cX2_mostPairs 53 = .ok (.iload 4, 2) := by decide +kernel
theorem dX2_mostPairs_55 : decode cX2_mostPairs 55 = .ok (.iconst 0, 1) := by decide +kernel
theorem dX2_mostPairs_56 : decode cX2_mostPairs 56 = .ok (.bastore, 1) := by decide +kernel
theorem dX2_mostPairs_57 : decode cX2_mostPairs 57 = .ok (.iinc 4 1, 3) := by decide +kernel
theorem dX2_mostPairs_60 : decode cX2_mostPairs 60 = .ok (.goto (-21), 3) := by decide +kernel
theorem dX2_mostPairs_63 : decode cX2_mostPairs 63 = .ok (.aload_n 1, 1) := by decide +kernel
theorem dX2_mostPairs_64 : decode cX2_mostPairs 64 = .ok (.iload_n 3, 1) := by decide +kernel
theorem dX2_mostPairs_65 : decode cX2_mostPairs 65 = .ok (.aload_n 0, 1) := by decide +kernel
theorem dX2_mostPairs_66 : decode cX2_mostPairs 66 = .ok (.getfield 9, 3) := by decide +kernel
theorem dX2_mostPairs_69 : decode cX2_mostPairs 69 = .ok (.aload_n 0, 1) := by decide +kernel
theorem dX2_mostPairs_70 : decode cX2_mostPairs 70 = .ok (.getfield 15, 3) := by decide +kernel
theorem dX2_mostPairs_73 : decode cX2_mostPairs 73 = .ok (.iconst 0, 1) := by decide +kernel
theorem dX2_mostPairs_74 : decode cX2_mostPairs 74 = .ok (.invokestatic 25, 3) := by decide +kernel
theorem dX2_mostPairs_77 : decode cX2_mostPairs 77 = .ok (.ifCond .eq 6, 3) := by decide +kernel
theorem dX2_mostPairs_80 : decode cX2_mostPairs 80 = .ok (.iinc 2 1, 3) := by decide +kernel
theorem dX2_mostPairs_83 : decode cX2_mostPairs 83 = .ok (.iinc 3 1, 3) := by decide +kernel
theorem dX2_mostPairs_86 : decode cX2_mostPairs 86 = .ok (.goto (-58), 3) := by decide +kernel
theorem dX2_mostPairs_89 : decode cX2_mostPairs 89 = .ok (.iload_n 2, 1) := by decide +kernel
theorem dX2_mostPairs_90 : decode cX2_mostPairs 90 = .ok (.ireturn, 1) := by decide +kernel
theorem dX2_findsFollower_0 : decode cX2_findsFollower 0 = .ok (.iload 4, 2) := by decide +kernel
theorem dX2_findsFollower_2 : decode cX2_findsFollower 2 = .ok (.bipush 16, 2) := by decide +kernel
theorem dX2_findsFollower_4 : decode cX2_findsFollower 4 = .ok (.if_icmp .gt 15, 3) := by decide +kernel
theorem dX2_findsFollower_7 : decode cX2_findsFollower 7 = .ok (.iload_n 1, 1) := by decide +kernel
theorem dX2_findsFollower_8 : decode cX2_findsFollower 8 = .ok (.ifCond .lt 11, 3) := by decide +kernel
theorem dX2_findsFollower_11 : decode cX2_findsFollower 11 = .ok (.iload_n 1, 1) := by decide +kernel
theorem dX2_findsFollower_12 : decode cX2_findsFollower 12 = .ok (.aload_n 0, 1) := by decide +kernel
theorem dX2_findsFollower_13 : decode cX2_findsFollower 13 = .ok (.invokevirtual 19, 3) := by decide +kernel
theorem dX2_findsFollower_16 : decode cX2_findsFollower 16 = .ok (.if_icmp .lt 5, 3) := by decide +kernel
theorem dX2_findsFollower_19 : decode cX2_findsFollower 19 = .ok (.iconst 0, 1) := by decide +kernel
theorem dX2_findsFollower_20 : decode cX2_findsFollower 20 = .ok (.ireturn, 1) := by decide +kernel
theorem dX2_findsFollower_21 : decode cX2_findsFollower 21 = .ok (.aload_n 0, 1) := by decide +kernel
theorem dX2_findsFollower_22 : decode cX2_findsFollower 22 = .ok (.iload_n 1, 1) := by decide +kernel
theorem dX2_findsFollower_23 : decode cX2_findsFollower 23 = .ok (.invokevirtual 29, 3) := by decide +kernel
theorem dX2_findsFollower_26 : decode cX2_findsFollower 26 = .ok (.checkcast 33, 3) := by decide +kernel
theorem dX2_findsFollower_29 : decode cX2_findsFollower 29 = .ok (.astore 5, 2) := by decide +kernel
theorem dX2_findsFollower_31 : decode cX2_findsFollower 31 = .ok (.aload_n 0, 1) := by decide +kernel
theorem dX2_findsFollower_32 : decode cX2_findsFollower 32 = .ok (.invokevirtual 19, 3) := by decide +kernel
theorem dX2_findsFollower_35 : decode cX2_findsFollower 35 = .ok (.aload_n 2, 1) := by decide +kernel
theorem dX2_findsFollower_36 : decode cX2_findsFollower 36 = .ok (.arraylength, 1) := by decide +kernel
theorem dX2_findsFollower_37 : decode cX2_findsFollower 37 = .ok (.aload_n 3, 1) := by decide +kernel
theorem dX2_findsFollower_38 : decode cX2_findsFollower 38 = .ok (.arraylength, 1) := by decide +kernel
theorem dX2_findsFollower_39 : decode cX2_findsFollower 39 = .ok (.invokestatic 35, 3) := by decide +kernel
theorem dX2_findsFollower_42 : decode cX2_findsFollower 42 = .ok (.invokestatic 35, 3) := by decide +kernel
theorem dX2_findsFollower_45 : decode cX2_findsFollower 45 = .ok (.istore 6, 2) := by decide +kernel
theorem dX2_findsFollower_47 : decode cX2_findsFollower 47 = .ok (.iconst 0, 1) := by decide +kernel
theorem dX2_findsFollower_48 : decode cX2_findsFollower 48 = .ok (.istore 7, 2) := by decide +kernel
theorem dX2_findsFollower_50 : decode cX2_findsFollower 50 = .ok (.iload 7, 2) := by decide +kernel
theorem dX2_findsFollower_52 : decode cX2_findsFollower 52 = .ok (.iload 6, 2) := by decide +kernel
theorem dX2_findsFollower_54 : decode cX2_findsFollower 54 = .ok (.if_icmp .ge 73, 3) := by decide +kernel
theorem dX2_findsFollower_57 : decode cX2_findsFollower 57 = .ok (.aload_n 3, 1) := by decide +kernel
theorem dX2_findsFollower_58 : decode cX2_findsFollower 58 = .ok (.iload 7, 2) := by decide +kernel
theorem dX2_findsFollower_60 : decode cX2_findsFollower 60 = .ok (.baload, 1) := by decide +kernel
theorem dX2_findsFollower_61 : decode cX2_findsFollower 61 = .ok (.ifCond .ne 60, 3) := by decide +kernel
theorem dX2_findsFollower_64 : decode cX2_findsFollower 64 = .ok (.aload_n 0, 1) := by decide +kernel
theorem dX2_findsFollower_65 : decode cX2_findsFollower 65 = .ok (.iload 7, 2) := by decide +kernel
theorem dX2_findsFollower_67 : decode cX2_findsFollower 67 = .ok (.invokevirtual 29, 3) := by decide +kernel
theorem dX2_findsFollower_70 : decode cX2_findsFollower 70 = .ok (.checkcast 33, 3) := by decide +kernel
theorem dX2_findsFollower_73 : decode cX2_findsFollower 73 = .ok (.aload 5, 2) := by decide +kernel
theorem dX2_findsFollower_75 : decode cX2_findsFollower 75 = .ok (.invokevirtual 41, 3) := by decide +kernel
theorem dX2_findsFollower_78 : decode cX2_findsFollower 78 = .ok (.ifCond .ne 6, 3) := by decide +kernel
theorem dX2_findsFollower_81 : decode cX2_findsFollower 81 = .ok (.goto 40, 3) := by decide +kernel
theorem dX2_findsFollower_84 : decode cX2_findsFollower 84 = .ok (.aload_n 3, 1) := by decide +kernel
theorem dX2_findsFollower_85 : decode cX2_findsFollower 85 = .ok (.iload 7, 2) := by decide +kernel
theorem dX2_findsFollower_87 : decode cX2_findsFollower 87 = .ok (.iconst 1, 1) := by decide +kernel
theorem dX2_findsFollower_88 : decode cX2_findsFollower 88 = .ok (.bastore, 1) := by decide +kernel
theorem dX2_findsFollower_89 : decode cX2_findsFollower 89 = .ok (.aload_n 2, 1) := by decide +kernel
theorem dX2_findsFollower_90 : decode cX2_findsFollower 90 = .ok (.iload 7, 2) := by decide +kernel
theorem dX2_findsFollower_92 : decode cX2_findsFollower 92 = .ok (.iaload, 1) := by decide +kernel
theorem dX2_findsFollower_93 : decode cX2_findsFollower 93 = .ok (.iconst (-1), 1) := by decide +kernel
theorem dX2_findsFollower_94 : decode cX2_findsFollower 94 = .ok (.if_icmp .eq 20, 3) := by decide +kernel
theorem dX2_findsFollower_97 : decode cX2_findsFollower 97 = .ok (.aload_n 0, 1) := by decide +kernel
theorem dX2_findsFollower_98 : decode cX2_findsFollower 98 = .ok (.aload_n 2, 1) := by decide +kernel
theorem dX2_findsFollower_99 : decode cX2_findsFollower 99 = .ok (.iload 7, 2) := by decide +kernel
theorem dX2_findsFollower_101 : decode cX2_findsFollower 101 = .ok (.iaload, 1) := by decide +kernel
theorem dX2_findsFollower_102 : decode cX2_findsFollower 102 = .ok (.aload_n 2, 1) := by decide +kernel
theorem dX2_findsFollower_103 : decode cX2_findsFollower 103 = .ok (.aload_n 3, 1) := by decide +kernel
theorem dX2_findsFollower_104 : decode cX2_findsFollower 104 = .ok (.iload 4, 2) := by decide +kernel
theorem dX2_findsFollower_106 : decode cX2_findsFollower 106 = .ok (.iconst 1, 1) := by decide +kernel
theorem dX2_findsFollower_107 : decode cX2_findsFollower 107 = .ok (.iadd, 1) := by decide +kernel
theorem dX2_findsFollower_108 : decode cX2_findsFollower 108 = .ok (.invokestatic 25, 3) := by decide +kernel
theorem dX2_findsFollower_111 : decode cX2_findsFollower 111 = .ok (.ifCond .eq 10, 3) := by decide +kernel
theorem dX2_findsFollower_114 : decode cX2_findsFollower 114 = .ok (.aload_n 2, 1) := by decide +kernel
theorem dX2_findsFollower_115 : decode cX2_findsFollower 115 = .ok (.iload 7, 2) := by decide +kernel
theorem dX2_findsFollower_117 : decode cX2_findsFollower 117 = .ok (.iload_n 1, 1) := by decide +kernel
theorem dX2_findsFollower_118 : decode cX2_findsFollower 118 = .ok (.iastore, 1) := by decide +kernel
theorem dX2_findsFollower_119 : decode cX2_findsFollower 119 = .ok (.iconst 1, 1) := by decide +kernel
theorem dX2_findsFollower_120 : decode cX2_findsFollower 120 = .ok (.ireturn, 1) := by decide +kernel
theorem dX2_findsFollower_121 : decode cX2_findsFollower 121 = .ok (.iinc 7 1, 3) := by decide +kernel
theorem dX2_findsFollower_124 : decode cX2_findsFollower 124 = .ok (.goto (-74), 3) := by decide +kernel
theorem dX2_findsFollower_127 : decode cX2_findsFollower 127 = .ok (.iconst 0, 1) := by decide +kernel
theorem dX2_findsFollower_128 : decode cX2_findsFollower 128 = .ok (.ireturn, 1) := by decide +kernel
theorem dX3_init_0 : decode cX3_init 0 = .ok (.aload_n 0, 1) := by decide +kernel
theorem dX3_init_1 : decode cX3_init 1 = .ok (.invokespecial 3, 3) := by decide +kernel
theorem dX3_init_4 : decode cX3_init 4 = .ok (.aload_n 0, 1) := by decide +kernel
theorem dX3_init_5 : decode cX3_init 5 = .ok (.bipush 10, 2) := by decide +kernel
theorem dX3_init_7 : decode cX3_init 7 = .ok (.putfield 9, 3) := by decide +kernel
theorem dX3_init_10 : decode cX3_init 10 = .ok (.aload_n 0, 1) := by decide +kernel
theorem dX3_init_11 : decode cX3_init 11 = .ok (.iload_n 1, 1) := by decide +kernel
theorem dX3_init_12 : decode cX3_init 12 = .ok (.putfield 15, 3) := by decide +kernel
theorem dX3_init_15 : decode cX3_init 15 = .ok (.return_, 1) := by decide +kernel
theorem dX4_init_0 : decode cX4_init 0 = .ok (.aload_n 0, 1) := by decide +kernel
theorem dX4_init_1 : decode cX4_init 1 = .ok (.invokespecial 3, 3) := by decide +kernel
theorem dX4_init_4 : decode cX4_init 4 = .ok (.aload_n 0, 1) := by decide +kernel
theorem dX4_init_5 : decode cX4_init 5 = .ok (.iload_n 1, 1) := by decide +kernel
theorem dX4_init_6 : decode cX4_init 6 = .ok (.putfield 9, 3) := by decide +kernel
theorem dX4_init_9 : decode cX4_init 9 = .ok (.aload_n 0, 1) := by decide +kernel
theorem dX4_init_10 : decode cX4_init 10 = .ok (.aload_n 2, 1) := by decide +kernel
theorem dX4_init_11 : decode cX4_init 11 = .ok (.putfield 15, 3) := by decide +kernel
theorem dX4_init_14 : decode cX4_init 14 = .ok (.aload_n 0, 1) := by decide +kernel
theorem dX4_init_15 : decode cX4_init 15 = .ok (.aload_n 3, 1) := by decide +kernel
theorem dX4_init_16 : decode cX4_init 16 = .ok (.putfield 19, 3) := by decide +kernel
theorem dX4_init_19 : decode cX4_init 19 = .ok (.aload_n 0, 1) := by decide +kernel
theorem dX4_init_20 : decode cX4_init 20 = .ok (.aload 4, 2) := by decide +kernel
theorem dX4_init_22 : decode cX4_init 22 = .ok (.putfield 23, 3) := by decide +kernel
theorem dX4_init_25 : decode cX4_init 25 = .ok (.aload_n 0, 1) := by decide +kernel
theorem dX4_init_26 : decode cX4_init 26 = .ok (.iload 5, 2) := by decide +kernel
theorem dX4_init_28 : decode cX4_init 28 = .ok (.putfield 26, 3) := by decide +kernel
theorem dX4_init_31 : decode cX4_init 31 = .ok (.return_, 1) := by decide +kernel
theorem dX4_minutes_0 : decode cX4_minutes 0 = .ok (.aload_n 0, 1) := by decide +kernel
theorem dX4_minutes_1 : decode cX4_minutes 1 = .ok (.getfield 23, 3) := by decide +kernel
theorem dX4_minutes_4 : decode cX4_minutes 4 = .ok (.invokevirtual 29, 3) := by decide +kernel
theorem dX4_minutes_7 : decode cX4_minutes 7 = .ok (.aload_n 0, 1) := by decide +kernel
theorem dX4_minutes_8 : decode cX4_minutes 8 = .ok (.getfield 19, 3) := by decide +kernel
theorem dX4_minutes_11 : decode cX4_minutes 11 = .ok (.getfield 35, 3) := by decide +kernel
theorem dX4_minutes_14 : decode cX4_minutes 14 = .ok (.isub, 1) := by decide +kernel
theorem dX4_minutes_15 : decode cX4_minutes 15 = .ok (.ireturn, 1) := by decide +kernel
theorem dX4_isNear_0 : decode cX4_isNear 0 = .ok (.aload_n 1, 1) := by decide +kernel
theorem dX4_isNear_1 : decode cX4_isNear 1 = .ok (.getfield 19, 3) := by decide +kernel
theorem dX4_isNear_4 : decode cX4_isNear 4 = .ok (.getfield 35, 3) := by decide +kernel
theorem dX4_isNear_7 : decode cX4_isNear 7 = .ok (.aload_n 0, 1) := by decide +kernel
theorem dX4_isNear_8 : decode cX4_isNear 8 = .ok (.getfield 23, 3) := by decide +kernel
theorem dX4_isNear_11 : decode cX4_isNear 11 = .ok (.invokevirtual 29, 3) := by decide +kernel
theorem dX4_isNear_14 : decode cX4_isNear 14 = .ok (.bipush 10, 2) := by decide +kernel
theorem dX4_isNear_16 : decode cX4_isNear 16 = .ok (.iadd, 1) := by decide +kernel
theorem dX4_isNear_17 : decode cX4_isNear 17 = .ok (.if_icmp .gt 27, 3) := by decide +kernel
theorem dX4_isNear_20 : decode cX4_isNear 20 = .ok (.aload_n 1, 1) := by decide +kernel
theorem dX4_isNear_21 : decode cX4_isNear 21 = .ok (.getfield 23, 3) := by decide +kernel
theorem dX4_isNear_24 : decode cX4_isNear 24 = .ok (.invokevirtual 29, 3) := by decide +kernel
theorem dX4_isNear_27 : decode cX4_isNear 27 = .ok (.aload_n 0, 1) := by decide +kernel
theorem dX4_isNear_28 : decode cX4_isNear 28 = .ok (.getfield 19, 3) := by decide +kernel
theorem dX4_isNear_31 : decode cX4_isNear 31 = .ok (.getfield 35, 3) := by decide +kernel
theorem dX4_isNear_34 : decode cX4_isNear 34 = .ok (.bipush 10, 2) := by decide +kernel
theorem dX4_isNear_36 : decode cX4_isNear 36 = .ok (.isub, 1) := by decide +kernel
theorem dX4_isNear_37 : decode cX4_isNear 37 = .ok (.if_icmp .lt 7, 3) := by decide +kernel
theorem dX4_isNear_40 : decode cX4_isNear 40 = .ok (.iconst 1, 1) := by decide +kernel
theorem dX4_isNear_41 : decode cX4_isNear 41 = .ok (.goto 4, 3) := by decide +kernel
theorem dX4_isNear_44 : decode cX4_isNear 44 = .ok (.iconst 0, 1) := by decide +kernel
theorem dX4_isNear_45 : decode cX4_isNear 45 = .ok (.ireturn, 1) := by decide +kernel
theorem dX4_driverNumber_0 : decode cX4_driverNumber 0 = .ok (.aload_n 0, 1) := by decide +kernel
theorem dX4_driverNumber_1 : decode cX4_driverNumber 1 = .ok (.getfield 38, 3) := by decide +kernel
theorem dX4_driverNumber_4 : decode cX4_driverNumber 4 = .ok (.ifnonnull 7, 3) := by decide +kernel
theorem dX4_driverNumber_7 : decode cX4_driverNumber 7 = .ok (.iconst (-1), 1) := by decide +kernel
theorem dX4_driverNumber_8 : decode cX4_driverNumber 8 = .ok (.goto 10, 3) := by decide +kernel
theorem dX4_driverNumber_11 : decode cX4_driverNumber 11 = .ok (.aload_n 0, 1) := by decide +kernel
theorem dX4_driverNumber_12 : decode cX4_driverNumber 12 = .ok (.getfield 38, 3) := by decide +kernel
theorem dX4_driverNumber_15 : decode cX4_driverNumber 15 = .ok (.getfield 42, 3) := by decide +kernel
theorem dX4_driverNumber_18 : decode cX4_driverNumber 18 = .ok (.ireturn, 1) := by decide +kernel
theorem dX4_release_0 : decode cX4_release 0 = .ok (.aload_n 0, 1) := by decide +kernel
theorem dX4_release_1 : decode cX4_release 1 = .ok (.getfield 38, 3) := by decide +kernel
theorem dX4_release_4 : decode cX4_release 4 = .ok (.ifnull 16, 3) := by decide +kernel
theorem dX4_release_7 : decode cX4_release 7 = .ok (.aload_n 0, 1) := by decide +kernel
theorem dX4_release_8 : decode cX4_release 8 = .ok (.getfield 38, 3) := by decide +kernel
theorem dX4_release_11 : decode cX4_release 11 = .ok (.aload_n 0, 1) := by decide +kernel
theorem dX4_release_12 : decode cX4_release 12 = .ok (.invokevirtual 45, 3) := by decide +kernel
theorem dX4_release_15 : decode cX4_release 15 = .ok (.aload_n 0, 1) := by decide +kernel
theorem dX4_release_16 : decode cX4_release 16 = .ok (.aconst_null, 1) := by decide +kernel
theorem dX4_release_17 : decode cX4_release 17 = .ok (.putfield 38, 3) := by decide +kernel
theorem dX4_release_20 : decode cX4_release 20 = .ok (.return_, 1) := by decide +kernel
theorem dX4_worked_0 : decode cX4_worked 0 = .ok (.aload_n 0, 1) := by decide +kernel
theorem dX4_worked_1 : decode cX4_worked 1 = .ok (.getfield 38, 3) := by decide +kernel
theorem dX4_worked_4 : decode cX4_worked 4 = .ok (.ifnull 13, 3) := by decide +kernel
theorem dX4_worked_7 : decode cX4_worked 7 = .ok (.aload_n 0, 1) := by decide +kernel
theorem dX4_worked_8 : decode cX4_worked 8 = .ok (.getfield 38, 3) := by decide +kernel
theorem dX4_worked_11 : decode cX4_worked 11 = .ok (.getfield 49, 3) := by decide +kernel
theorem dX4_worked_14 : decode cX4_worked 14 = .ok (.ifCond .eq 5, 3) := by decide +kernel
theorem dX4_worked_17 : decode cX4_worked 17 = .ok (.iconst 0, 1) := by decide +kernel
theorem dX4_worked_18 : decode cX4_worked 18 = .ok (.ireturn, 1) := by decide +kernel
theorem dX4_worked_19 : decode cX4_worked 19 = .ok (.iconst 0, 1) := by decide +kernel
theorem dX4_worked_20 : decode cX4_worked 20 = .ok (.istore_n 1, 1) := by decide +kernel
theorem dX4_worked_21 : decode cX4_worked 21 = .ok (.iconst 0, 1) := by decide +kernel
theorem dX4_worked_22 : decode cX4_worked 22 = .ok (.istore_n 2, 1) := by decide +kernel
theorem dX4_worked_23 : decode cX4_worked 23 = .ok (.iload_n 2, 1) := by decide +kernel
theorem dX4_worked_24 : decode cX4_worked 24 = .ok (.aload_n 0, 1) := by decide +kernel
theorem dX4_worked_25 : decode cX4_worked 25 = .ok (.getfield 15, 3) := by decide +kernel
theorem dX4_worked_28 : decode cX4_worked 28 = .ok (.invokevirtual 53, 3) := by decide +kernel
theorem dX4_worked_31 : decode cX4_worked 31 = .ok (.if_icmp .ge 52, 3) := by decide +kernel
theorem dX4_worked_34 : decode cX4_worked 34 = .ok (.aload_n 0, 1) := by decide +kernel
theorem dX4_worked_35 : decode cX4_worked 35 = .ok (.getfield 15, 3) := by decide +kernel
theorem dX4_worked_38 : decode cX4_worked 38 = .ok (.getfield 58, 3) := by decide +kernel
theorem dX4_worked_41 : decode cX4_worked 41 = .ok (.iload_n 2, 1) := by decide +kernel
theorem dX4_worked_42 : decode cX4_worked 42 = .ok (.invokevirtual 62, 3) := by decide +kernel
theorem dX4_worked_45 : decode cX4_worked 45 = .ok (.checkcast 30, 3) := by decide +kernel
theorem dX4_worked_48 : decode cX4_worked 48 = .ok (.astore_n 3, 1) := by decide +kernel
theorem dX4_worked_49 : decode cX4_worked 49 = .ok (.aload_n 3, 1) := by decide +kernel
theorem dX4_worked_50 : decode cX4_worked 50 = .ok (.getfield 68, 3) := by decide +kernel
theorem dX4_worked_53 : decode cX4_worked 53 = .ok (.aload_n 0, 1) := by decide +kernel
theorem dX4_worked_54 : decode cX4_worked 54 = .ok (.if_acmp .ne 23, 3) := by decide +kernel
theorem dX4_worked_57 : decode cX4_worked 57 = .ok (.aload_n 3, 1) := by decide +kernel
theorem dX4_worked_58 : decode cX4_worked 58 = .ok (.invokevirtual 72, 3) := by decide +kernel
theorem dX4_worked_61 : decode cX4_worked 61 = .ok (.ifCond .eq 16, 3) := by decide +kernel
theorem dX4_worked_64 : decode cX4_worked 64 = .ok (.aload_n 3, 1) := by decide +kernel
theorem dX4_worked_65 : decode cX4_worked 65 = .ok (.getfield 76, 3) := by decide +kernel
theorem dX4_worked_68 : decode cX4_worked 68 = .ok (.aload_n 0, 1) := by decide +kernel
theorem dX4_worked_69 : decode cX4_worked 69 = .ok (.getfield 19, 3) := by decide +kernel
theorem dX4_worked_72 : decode cX4_worked 72 = .ok (.getfield 35, 3) := by decide +kernel
theorem dX4_worked_75 : decode cX4_worked 75 = .ok (.isub, 1) := by decide +kernel
theorem dX4_worked_76 : decode cX4_worked 76 = .ok (.istore_n 1, 1) := by decide +kernel
theorem dX4_worked_77 : decode cX4_worked 77 = .ok (.iinc 2 1, 3) := by decide +kernel
theorem dX4_worked_80 : decode cX4_worked 80 = .ok (.goto (-57), 3) := by decide +kernel
theorem dX4_worked_83 : decode cX4_worked 83 = .ok (.iload_n 1, 1) := by decide +kernel
theorem dX4_worked_84 : decode cX4_worked 84 = .ok (.ifCond .le 10, 3) := by decide +kernel
theorem dX4_worked_87 : decode cX4_worked 87 = .ok (.iload_n 1, 1) := by decide +kernel
theorem dX4_worked_88 : decode cX4_worked 88 = .ok (.bipush 10, 2) := by decide +kernel
theorem dX4_worked_90 : decode cX4_worked 90 = .ok (.iadd, 1) := by decide +kernel
theorem dX4_worked_91 : decode cX4_worked 91 = .ok (.goto 4, 3) := by decide +kernel
theorem dX4_worked_94 : decode cX4_worked 94 = .ok (.iconst 0, 1) := by decide +kernel
theorem dX4_worked_95 : decode cX4_worked 95 = .ok (.ireturn, 1) := by decide +kernel
theorem dX5_init_0 : decode cX5_init 0 = .ok (.aload_n 0, 1) := by decide +kernel
theorem dX5_init_1 : decode cX5_init 1 = .ok (.invokespecial 3, 3) := by decide +kernel
theorem dX5_init_4 : decode cX5_init 4 = .ok (.aload_n 0, 1) := by decide +kernel
theorem dX5_init_5 : decode cX5_init 5 = .ok (.iload_n 1, 1) := by decide +kernel
theorem dX5_init_6 : decode cX5_init 6 = .ok (.putfield 9, 3) := by decide +kernel
theorem dX5_init_9 : decode cX5_init 9 = .ok (.aload_n 0, 1) := by decide +kernel
theorem dX5_init_10 : decode cX5_init 10 = .ok (.iload_n 1, 1) := by decide +kernel
theorem dX5_init_11 : decode cX5_init 11 = .ok (.ifCond .ne 7, 3) := by decide +kernel
theorem dX5_init_14 : decode cX5_init 14 = .ok (.iconst 1, 1) := by decide +kernel
theorem dX5_init_15 : decode cX5_init 15 = .ok (.goto 4, 3) := by decide +kernel
theorem dX5_init_18 : decode cX5_init 18 = .ok (.iconst 0, 1) := by decide +kernel
theorem dX5_init_19 : decode cX5_init 19 = .ok (.putfield 15, 3) := by decide +kernel
theorem dX5_init_22 : decode cX5_init 22 = .ok (.return_, 1) := by decide +kernel
theorem dX5_emptyTo_0 : decode cX5_emptyTo 0 = .ok (.aload_n 0, 1) := by decide +kernel
theorem dX5_emptyTo_1 : decode cX5_emptyTo 1 = .ok (.getfield 19, 3) := by decide +kernel
theorem dX5_emptyTo_4 : decode cX5_emptyTo 4 = .ok (.aload_n 1, 1) := by decide +kernel
theorem dX5_emptyTo_5 : decode cX5_emptyTo 5 = .ok (.getfield 19, 3) := by decide +kernel
theorem dX5_emptyTo_8 : decode cX5_emptyTo 8 = .ok (.if_icmp .ge 15, 3) := by decide +kernel
theorem dX5_emptyTo_11 : decode cX5_emptyTo 11 = .ok (.aload_n 1, 1) := by decide +kernel
theorem dX5_emptyTo_12 : decode cX5_emptyTo 12 = .ok (.getfield 19, 3) := by decide +kernel
theorem dX5_emptyTo_15 : decode cX5_emptyTo 15 = .ok (.aload_n 0, 1) := by decide +kernel
theorem dX5_emptyTo_16 : decode cX5_emptyTo 16 = .ok (.getfield 19, 3) := by decide +kernel
theorem dX5_emptyTo_19 : decode cX5_emptyTo 19 = .ok (.isub, 1) := by decide +kernel
theorem dX5_emptyTo_20 : decode cX5_emptyTo 20 = .ok (.goto 12, 3) := by decide +kernel
theorem dX5_emptyTo_23 : decode cX5_emptyTo 23 = .ok (.aload_n 0, 1) := by decide +kernel
theorem dX5_emptyTo_24 : decode cX5_emptyTo 24 = .ok (.getfield 19, 3) := by decide +kernel
theorem dX5_emptyTo_27 : decode cX5_emptyTo 27 = .ok (.aload_n 1, 1) := by decide +kernel
theorem dX5_emptyTo_28 : decode cX5_emptyTo 28 = .ok (.getfield 19, 3) := by decide +kernel
theorem dX5_emptyTo_31 : decode cX5_emptyTo 31 = .ok (.isub, 1) := by decide +kernel
theorem dX5_emptyTo_32 : decode cX5_emptyTo 32 = .ok (.ireturn, 1) := by decide +kernel
theorem dX6_init_0 : decode cX6_init 0 = .ok (.aload_n 0, 1) := by decide +kernel
theorem dX6_init_1 : decode cX6_init 1 = .ok (.invokespecial 3, 3) := by decide +kernel
theorem dX6_init_4 : decode cX6_init 4 = .ok (.aload_n 0, 1) := by decide +kernel
theorem dX6_init_5 : decode cX6_init 5 = .ok (.new 9, 3) := by decide +kernel
theorem dX6_init_8 : decode cX6_init 8 = .ok (.dup, 1) := by decide +kernel
theorem dX6_init_9 : decode cX6_init 9 = .ok (.invokespecial 11, 3) := by decide +kernel
theorem dX6_init_12 : decode cX6_init 12 = .ok (.putfield 12, 3) := by decide +kernel
theorem dX6_init_15 : decode cX6_init 15 = .ok (.return_, 1) := by decide +kernel
theorem dX6_count_0 : decode cX6_count 0 = .ok (.aload_n 0, 1) := by decide +kernel
theorem dX6_count_1 : decode cX6_count 1 = .ok (.getfield 12, 3) := by decide +kernel
theorem dX6_count_4 : decode cX6_count 4 = .ok (.invokevirtual 18, 3) := by decide +kernel
theorem dX6_count_7 : decode cX6_count 7 = .ok (.ireturn, 1) := by decide +kernel
theorem dX6_get_0 : decode cX6_get 0 = .ok (.iload_n 1, 1) := by decide +kernel
theorem dX6_get_1 : decode cX6_get 1 = .ok (.ifCond .lt 28, 3) := by decide +kernel
theorem dX6_get_4 : decode cX6_get 4 = .ok (.iload_n 1, 1) := by decide +kernel
theorem dX6_get_5 : decode cX6_get 5 = .ok (.aload_n 0, 1) := by decide +kernel
theorem dX6_get_6 : decode cX6_get 6 = .ok (.getfield 12, 3) := by decide +kernel
theorem dX6_get_9 : decode cX6_get 9 = .ok (.invokevirtual 18, 3) := by decide +kernel
theorem dX6_get_12 : decode cX6_get 12 = .ok (.if_icmp .ge 17, 3) := by decide +kernel
theorem dX6_get_15 : decode cX6_get 15 = .ok (.aload_n 0, 1) := by decide +kernel
theorem dX6_get_16 : decode cX6_get 16 = .ok (.getfield 12, 3) := by decide +kernel
theorem dX6_get_19 : decode cX6_get 19 = .ok (.iload_n 1, 1) := by decide +kernel
theorem dX6_get_20 : decode cX6_get 20 = .ok (.invokevirtual 22, 3) := by decide +kernel
theorem dX6_get_23 : decode cX6_get 23 = .ok (.checkcast 26, 3) := by decide +kernel
theorem dX6_get_26 : decode cX6_get 26 = .ok (.goto 4, 3) := by decide +kernel
theorem dX6_get_29 : decode cX6_get 29 = .ok (.aconst_null, 1) := by decide +kernel
theorem dX6_get_30 : decode cX6_get 30 = .ok (.areturn, 1) := by decide +kernel
theorem dX6_last_0 : decode cX6_last 0 = .ok (.aload_n 0, 1) := by decide +kernel
theorem dX6_last_1 : decode cX6_last 1 = .ok (.aload_n 0, 1) := by decide +kernel
theorem dX6_last_2 : decode cX6_last 2 = .ok (.getfield 12, 3) := by decide +kernel
theorem dX6_last_5 : decode cX6_last 5 = .ok (.invokevirtual 18, 3) := by decide +kernel
theorem dX6_last_8 : decode cX6_last 8 = .ok (.iconst 1, 1) := by decide +kernel
theorem dX6_last_9 : decode cX6_last 9 = .ok (.isub, 1) := by decide +kernel
theorem dX6_last_10 : decode cX6_last 10 = .ok (.invokevirtual 28, 3) := by decide +kernel
theorem dX6_last_13 : decode cX6_last 13 = .ok (.areturn, 1) := by decide +kernel
theorem dX6_join_0 : decode cX6_join 0 = .ok (.aload_n 0, 1) := by decide +kernel
theorem dX6_join_1 : decode cX6_join 1 = .ok (.getfield 12, 3) := by decide +kernel
theorem dX6_join_4 : decode cX6_join 4 = .ok (.invokevirtual 31, 3) := by decide +kernel
theorem dX6_join_7 : decode cX6_join 7 = .ok (.aload_n 0, 1) := by decide +kernel
theorem dX6_join_8 : decode cX6_join 8 = .ok (.aload_n 1, 1) := by decide +kernel
theorem dX6_join_9 : decode cX6_join 9 = .ok (.iconst 0, 1) := by decide +kernel
theorem dX6_join_10 : decode cX6_join 10 = .ok (.iload_n 2, 1) := by decide +kernel
theorem dX6_join_11 : decode cX6_join 11 = .ok (.invokevirtual 34, 3) := by decide +kernel
theorem dX6_join_14 : decode cX6_join 14 = .ok (.aload_n 0, 1) := by decide +kernel
theorem dX6_join_15 : decode cX6_join 15 = .ok (.aload_n 3, 1) := by decide +kernel
theorem dX6_join_16 : decode cX6_join 16 = .ok (.iload 4, 2) := by decide +kernel
theorem dX6_join_18 : decode cX6_join 18 = .ok (.aload_n 3, 1) := by decide +kernel
theorem dX6_join_19 : decode cX6_join 19 = .ok (.invokevirtual 38, 3) := by decide +kernel
theorem dX6_join_22 : decode cX6_join 22 = .ok (.invokevirtual 34, 3) := by decide +kernel
theorem dX6_join_25 : decode cX6_join 25 = .ok (.return_, 1) := by decide +kernel
theorem dX6_copy_0 : decode cX6_copy 0 = .ok (.aload_n 0, 1) := by decide +kernel
theorem dX6_copy_1 : decode cX6_copy 1 = .ok (.getfield 12, 3) := by decide +kernel
theorem dX6_copy_4 : decode cX6_copy 4 = .ok (.invokevirtual 31, 3) := by decide +kernel
theorem dX6_copy_7 : decode cX6_copy 7 = .ok (.aload_n 0, 1) := by decide +kernel
theorem dX6_copy_8 : decode cX6_copy 8 = .ok (.aload_n 1, 1) := by decide +kernel
theorem dX6_copy_9 : decode cX6_copy 9 = .ok (.iconst 0, 1) := by decide +kernel
theorem dX6_copy_10 : decode cX6_copy 10 = .ok (.aload_n 1, 1) := by decide +kernel
theorem dX6_copy_11 : decode cX6_copy 11 = .ok (.invokevirtual 38, 3) := by decide +kernel
theorem dX6_copy_14 : decode cX6_copy 14 = .ok (.invokevirtual 34, 3) := by decide +kernel
theorem dX6_copy_17 : decode cX6_copy 17 = .ok (.return_, 1) := by decide +kernel
theorem dX6_addPart_0 : decode cX6_addPart 0 = .ok (.iload_n 2, 1) := by decide +kernel
theorem dX6_addPart_1 : decode cX6_addPart 1 = .ok (.iconst 0, 1) := by decide +kernel
theorem dX6_addPart_2 : decode cX6_addPart 2 = .ok (.invokestatic 41, 3) := by decide +kernel
theorem dX6_addPart_5 : decode cX6_addPart 5 = .ok (.istore 4, 2) := by decide +kernel
theorem dX6_addPart_7 : decode cX6_addPart 7 = .ok (.iload 4, 2) := by decide +kernel
theorem dX6_addPart_9 : decode cX6_addPart 9 = .ok (.iload_n 3, 1) := by decide +kernel
theorem dX6_addPart_10 : decode cX6_addPart 10 = .ok (.if_icmp .ge 41, 3) := by decide +kernel
theorem dX6_addPart_13 : decode cX6_addPart 13 = .ok (.iload 4, 2) := by decide +kernel
theorem dX6_addPart_15 : decode cX6_addPart 15 = .ok (.aload_n 1, 1) := by decide +kernel
theorem dX6_addPart_16 : decode cX6_addPart 16 = .ok (.getfield 12, 3) := by decide +kernel
theorem dX6_addPart_19 : decode cX6_addPart 19 = .ok (.invokevirtual 18, 3) := by decide +kernel
theorem dX6_addPart_22 : decode cX6_addPart 22 = .ok (.if_icmp .ge 29, 3) := by decide +kernel
theorem dX6_addPart_25 : decode cX6_addPart 25 = .ok (.aload_n 0, 1) := by decide +kernel
theorem dX6_addPart_26 : decode cX6_addPart 26 = .ok (.getfield 12, 3) := by decide +kernel
theorem dX6_addPart_29 : decode cX6_addPart 29 = .ok (.aload_n 1, 1) := by decide +kernel
theorem dX6_addPart_30 : decode cX6_addPart 30 = .ok (.getfield 12, 3) := by decide +kernel
theorem dX6_addPart_33 : decode cX6_addPart 33 = .ok (.iload 4, 2) := by decide +kernel
theorem dX6_addPart_35 : decode cX6_addPart 35 = .ok (.invokevirtual 22, 3) := by decide +kernel
theorem dX6_addPart_38 : decode cX6_addPart 38 = .ok (.checkcast 26, 3) := by decide +kernel
theorem dX6_addPart_41 : decode cX6_addPart 41 = .ok (.invokevirtual 47, 3) := by decide +kernel
theorem dX6_addPart_44 : decode cX6_addPart 44 = .ok (.pop, 1) := by decide +kernel
theorem dX6_addPart_45 : decode cX6_addPart 45 = .ok (.iinc 4 1, 3) := by decide +kernel
theorem dX6_addPart_48 : decode cX6_addPart 48 = .ok (.goto (-41), 3) := by decide +kernel
theorem dX6_addPart_51 : decode cX6_addPart 51 = .ok (.return_, 1) := by decide +kernel
theorem dX6_empty_0 : decode cX6_empty 0 = .ok (.iconst 0, 1) := by decide +kernel
theorem dX6_empty_1 : decode cX6_empty 1 = .ok (.istore_n 2, 1) := by decide +kernel
theorem dX6_empty_2 : decode cX6_empty 2 = .ok (.aload_n 1, 1) := by decide +kernel
theorem dX6_empty_3 : decode cX6_empty 3 = .ok (.astore_n 3, 1) := by decide +kernel
theorem dX6_empty_4 : decode cX6_empty 4 = .ok (.iconst 0, 1) := by decide +kernel
theorem dX6_empty_5 : decode cX6_empty 5 = .ok (.istore 4, 2) := by decide +kernel
theorem dX6_empty_7 : decode cX6_empty 7 = .ok (.iload 4, 2) := by decide +kernel
theorem dX6_empty_9 : decode cX6_empty 9 = .ok (.aload_n 0, 1) := by decide +kernel
theorem dX6_empty_10 : decode cX6_empty 10 = .ok (.getfield 12, 3) := by decide +kernel
theorem dX6_empty_13 : decode cX6_empty 13 = .ok (.invokevirtual 18, 3) := by decide +kernel
theorem dX6_empty_16 : decode cX6_empty 16 = .ok (.if_icmp .ge 41, 3) := by decide +kernel
theorem dX6_empty_19 : decode cX6_empty 19 = .ok (.aload_n 0, 1) := by decide +kernel
theorem dX6_empty_20 : decode cX6_empty 20 = .ok (.getfield 12, 3) := by decide +kernel
theorem dX6_empty_23 : decode cX6_empty 23 = .ok (.iload 4, 2) := by decide +kernel
theorem dX6_empty_25 : decode cX6_empty 25 = .ok (.invokevirtual 22, 3) := by decide +kernel
theorem dX6_empty_28 : decode cX6_empty 28 = .ok (.checkcast 26, 3) := by decide +kernel
theorem dX6_empty_31 : decode cX6_empty 31 = .ok (.astore 5, 2) := by decide +kernel
theorem dX6_empty_33 : decode cX6_empty 33 = .ok (.iload_n 2, 1) := by decide +kernel
theorem dX6_empty_34 : decode cX6_empty 34 = .ok (.aload_n 3, 1) := by decide +kernel
theorem dX6_empty_35 : decode cX6_empty 35 = .ok (.aload 5, 2) := by decide +kernel
theorem dX6_empty_37 : decode cX6_empty 37 = .ok (.getfield 51, 3) := by decide +kernel
theorem dX6_empty_40 : decode cX6_empty 40 = .ok (.invokevirtual 55, 3) := by decide +kernel
theorem dX6_empty_43 : decode cX6_empty 43 = .ok (.iadd, 1) := by decide +kernel
theorem dX6_empty_44 : decode cX6_empty 44 = .ok (.istore_n 2, 1) := by decide +kernel
theorem dX6_empty_45 : decode cX6_empty 45 = .ok (.aload 5, 2) := by decide +kernel
theorem dX6_empty_47 : decode cX6_empty 47 = .ok (.getfield 61, 3) := by decide +kernel
theorem dX6_empty_50 : decode cX6_empty 50 = .ok (.astore_n 3, 1) := by decide +kernel
theorem dX6_empty_51 : decode cX6_empty 51 = .ok (.iinc 4 1, 3) := by decide +kernel
theorem dX6_empty_54 : decode cX6_empty 54 = .ok (.goto (-47), 3) := by decide +kernel
theorem dX6_empty_57 : decode cX6_empty 57 = .ok (.iload_n 2, 1) := by decide +kernel
theorem dX6_empty_58 : decode cX6_empty 58 = .ok (.aload_n 3, 1) := by decide +kernel
theorem dX6_empty_59 : decode cX6_empty 59 = .ok (.aload_n 1, 1) := by decide +kernel
theorem dX6_empty_60 : decode cX6_empty 60 = .ok (.invokevirtual 55, 3) := by decide +kernel
theorem dX6_empty_63 : decode cX6_empty 63 = .ok (.iadd, 1) := by decide +kernel
theorem dX6_empty_64 : decode cX6_empty 64 = .ok (.ireturn, 1) := by decide +kernel
theorem dX6_leastCharge_0 : decode cX6_leastCharge 0 = .ok (.iload_n 2, 1) := by decide +kernel
theorem dX6_leastCharge_1 : decode cX6_leastCharge 1 = .ok (.istore 4, 2) := by decide +kernel
theorem dX6_leastCharge_3 : decode cX6_leastCharge 3 = .ok (.iload_n 2, 1) := by decide +kernel
theorem dX6_leastCharge_4 : decode cX6_leastCharge 4 = .ok (.istore 5, 2) := by decide +kernel
theorem dX6_leastCharge_6 : decode cX6_leastCharge 6 = .ok (.aload_n 1, 1) := by decide +kernel
theorem dX6_leastCharge_7 : decode cX6_leastCharge 7 = .ok (.astore 6, 2) := by decide +kernel
theorem dX6_leastCharge_9 : decode cX6_leastCharge 9 = .ok (.aconst_null, 1) := by decide +kernel
theorem dX6_leastCharge_10 : decode cX6_leastCharge 10 = .ok (.astore 7, 2) := by decide +kernel
theorem dX6_leastCharge_12 : decode cX6_leastCharge 12 = .ok (.iconst 0, 1) := by decide +kernel
theorem dX6_leastCharge_13 : decode cX6_leastCharge 13 = .ok (.istore 8, 2) := by decide +kernel
theorem dX6_leastCharge_15 : decode cX6_leastCharge 15 = .ok (.iload 8, 2) := by decide +kernel
theorem dX6_leastCharge_17 : decode cX6_leastCharge 17 = .ok (.aload_n 0, 1) := by decide +kernel
theorem dX6_leastCharge_18 : decode cX6_leastCharge 18 = .ok (.getfield 12, 3) := by decide +kernel
theorem dX6_leastCharge_21 : decode cX6_leastCharge 21 = .ok (.invokevirtual 18, 3) := by decide +kernel
theorem dX6_leastCharge_24 : decode cX6_leastCharge 24 = .ok (.if_icmp .ge 126, 3) := by decide +kernel
theorem dX6_leastCharge_27 : decode cX6_leastCharge 27 = .ok (.aload_n 0, 1) := by decide +kernel
theorem dX6_leastCharge_28 : decode cX6_leastCharge 28 = .ok (.getfield 12, 3) := by decide +kernel
theorem dX6_leastCharge_31 : decode cX6_leastCharge 31 = .ok (.iload 8, 2) := by decide +kernel
theorem dX6_leastCharge_33 : decode cX6_leastCharge 33 = .ok (.invokevirtual 22, 3) := by decide +kernel
theorem dX6_leastCharge_36 : decode cX6_leastCharge 36 = .ok (.checkcast 26, 3) := by decide +kernel
theorem dX6_leastCharge_39 : decode cX6_leastCharge 39 = .ok (.astore 9, 2) := by decide +kernel
theorem dX6_leastCharge_41 : decode cX6_leastCharge 41 = .ok (.aload 6, 2) := by decide +kernel
theorem dX6_leastCharge_43 : decode cX6_leastCharge 43 = .ok (.aload 9, 2) := by decide +kernel
theorem dX6_leastCharge_45 : decode cX6_leastCharge 45 = .ok (.getfield 51, 3) := by decide +kernel
theorem dX6_leastCharge_48 : decode cX6_leastCharge 48 = .ok (.invokevirtual 55, 3) := by decide +kernel
theorem dX6_leastCharge_51 : decode cX6_leastCharge 51 = .ok (.istore 10, 2) := by decide +kernel
theorem dX6_leastCharge_53 : decode cX6_leastCharge 53 = .ok (.iload 4, 2) := by decide +kernel
theorem dX6_leastCharge_55 : decode cX6_leastCharge 55 = .ok (.iload 10, 2) := by decide +kernel
theorem dX6_leastCharge_57 : decode cX6_leastCharge 57 = .ok (.isub, 1) := by decide +kernel
theorem dX6_leastCharge_58 : decode cX6_leastCharge 58 = .ok (.istore 4, 2) := by decide +kernel
theorem dX6_leastCharge_60 : decode cX6_leastCharge 60 = .ok (.iload 5, 2) := by decide +kernel
theorem dX6_leastCharge_62 : decode cX6_leastCharge 62 = .ok (.iload 4, 2) := by decide +kernel
theorem dX6_leastCharge_64 : decode cX6_leastCharge 64 = .ok (.invokestatic 64, 3) := by decide +kernel
theorem dX6_leastCharge_67 : decode cX6_leastCharge 67 = .ok (.istore 5, 2) := by decide +kernel
theorem dX6_leastCharge_69 : decode cX6_leastCharge 69 = .ok (.aload 7, 2) := by decide +kernel
theorem dX6_leastCharge_71 : decode cX6_leastCharge 71 = .ok (.ifnull 39, 3) := by decide +kernel
theorem dX6_leastCharge_74 : decode cX6_leastCharge 74 = .ok (.aload 9, 2) := by decide +kernel
theorem dX6_leastCharge_76 : decode cX6_leastCharge 76 = .ok (.getfield 67, 3) := by decide +kernel
theorem dX6_leastCharge_79 : decode cX6_leastCharge 79 = .ok (.aload 7, 2) := by decide +kernel
theorem dX6_leastCharge_81 : decode cX6_leastCharge 81 = .ok (.invokevirtual 71, 3) := by decide +kernel
theorem dX6_leastCharge_84 : decode cX6_leastCharge 84 = .ok (.isub, 1) := by decide +kernel
theorem dX6_leastCharge_85 : decode cX6_leastCharge 85 = .ok (.iload 10, 2) := by decide +kernel
theorem dX6_leastCharge_87 : decode cX6_leastCharge 87 = .ok (.isub, 1) := by decide +kernel
theorem dX6_leastCharge_88 : decode cX6_leastCharge 88 = .ok (.istore 11, 2) := by decide +kernel
theorem dX6_leastCharge_90 : decode cX6_leastCharge 90 = .ok (.iload_n 2, 1) := by decide +kernel
theorem dX6_leastCharge_91 : decode cX6_leastCharge 91 = .ok (.iload 4, 2) := by decide +kernel
theorem dX6_leastCharge_93 : decode cX6_leastCharge 93 = .ok (.aload 9, 2) := by decide +kernel
theorem dX6_leastCharge_95 : decode cX6_leastCharge 95 = .ok (.getfield 51, 3) := by decide +kernel
theorem dX6_leastCharge_98 : decode cX6_leastCharge 98 = .ok (.getfield 74, 3) := by decide +kernel
theorem dX6_leastCharge_101 : decode cX6_leastCharge 101 = .ok (.iload 11, 2) := by decide +kernel
theorem dX6_leastCharge_103 : decode cX6_leastCharge 103 = .ok (.imul, 1) := by decide +kernel
theorem dX6_leastCharge_104 : decode cX6_leastCharge 104 = .ok (.iadd, 1) := by decide +kernel
theorem dX6_leastCharge_105 : decode cX6_leastCharge 105 = .ok (.invokestatic 64, 3) := by decide +kernel
theorem dX6_leastCharge_108 : decode cX6_leastCharge 108 = .ok (.istore 4, 2) := by decide +kernel
theorem dX6_leastCharge_110 : decode cX6_leastCharge 110 = .ok (.iload 4, 2) := by decide +kernel
theorem dX6_leastCharge_112 : decode cX6_leastCharge 112 = .ok (.aload 9, 2) := by decide +kernel
theorem dX6_leastCharge_114 : decode cX6_leastCharge 114 = .ok (.getfield 77, 3) := by decide +kernel
theorem dX6_leastCharge_117 : decode cX6_leastCharge 117 = .ok (.iconst 2, 1) := by decide +kernel
theorem dX6_leastCharge_118 : decode cX6_leastCharge 118 = .ok (.iload_n 3, 1) := by decide +kernel
theorem dX6_leastCharge_119 : decode cX6_leastCharge 119 = .ok (.iadd, 1) := by decide +kernel
theorem dX6_leastCharge_120 : decode cX6_leastCharge 120 = .ok (.imul, 1) := by decide +kernel
theorem dX6_leastCharge_121 : decode cX6_leastCharge 121 = .ok (.isub, 1) := by decide +kernel
theorem dX6_leastCharge_122 : decode cX6_leastCharge 122 = .ok (.istore 4, 2) := by decide +kernel
theorem dX6_leastCharge_124 : decode cX6_leastCharge 124 = .ok (.iload 5, 2) := by decide +kernel
theorem dX6_leastCharge_126 : decode cX6_leastCharge 126 = .ok (.iload 4, 2) := by decide +kernel
theorem dX6_leastCharge_128 : decode cX6_leastCharge 128 = .ok (.invokestatic 64, 3) := by decide +kernel
theorem dX6_leastCharge_131 : decode cX6_leastCharge 131 = .ok (.istore 5, 2) := by decide +kernel
theorem dX6_leastCharge_133 : decode cX6_leastCharge 133 = .ok (.aload 9, 2) := by decide +kernel
theorem dX6_leastCharge_135 : decode cX6_leastCharge 135 = .ok (.getfield 61, 3) := by decide +kernel
theorem dX6_leastCharge_138 : decode cX6_leastCharge 138 = .ok (.astore 6, 2) := by decide +kernel
theorem dX6_leastCharge_140 : decode cX6_leastCharge 140 = .ok (.aload 9, 2) := by decide +kernel
theorem dX6_leastCharge_142 : decode cX6_leastCharge 142 = .ok (.astore 7, 2) := by decide +kernel
theorem dX6_leastCharge_144 : decode cX6_leastCharge 144 = .ok (.iinc 8 1, 3) := by decide +kernel
theorem dX6_leastCharge_147 : decode cX6_leastCharge 147 = .ok (.goto (-132), 3) := by decide +kernel
theorem dX6_leastCharge_150 : decode cX6_leastCharge 150 = .ok (.iload 5, 2) := by decide +kernel
theorem dX6_leastCharge_152 : decode cX6_leastCharge 152 = .ok (.iload 4, 2) := by decide +kernel
theorem dX6_leastCharge_154 : decode cX6_leastCharge 154 = .ok (.aload 6, 2) := by decide +kernel
theorem dX6_leastCharge_156 : decode cX6_leastCharge 156 = .ok (.aload_n 1, 1) := by decide +kernel
theorem dX6_leastCharge_157 : decode cX6_leastCharge 157 = .ok (.invokevirtual 55, 3) := by decide +kernel
theorem dX6_leastCharge_160 : decode cX6_leastCharge 160 = .ok (.isub, 1) := by decide +kernel
theorem dX6_leastCharge_161 : decode cX6_leastCharge 161 = .ok (.invokestatic 64, 3) := by decide +kernel
theorem dX6_leastCharge_164 : decode cX6_leastCharge 164 = .ok (.ireturn, 1) := by decide +kernel
theorem dX7_init_0 : decode cX7_init 0 = .ok (.aload_n 0, 1) := by decide +kernel
theorem dX7_init_1 : decode cX7_init 1 = .ok (.invokespecial 3, 3) := by decide +kernel
theorem dX7_init_4 : decode cX7_init 4 = .ok (.aload_n 0, 1) := by decide +kernel
theorem dX7_init_5 : decode cX7_init 5 = .ok (.iload_n 1, 1) := by decide +kernel
theorem dX7_init_6 : decode cX7_init 6 = .ok (.putfield 9, 3) := by decide +kernel
theorem dX7_init_9 : decode cX7_init 9 = .ok (.aload_n 0, 1) := by decide +kernel
theorem dX7_init_10 : decode cX7_init 10 = .ok (.aload_n 2, 1) := by decide +kernel
theorem dX7_init_11 : decode cX7_init 11 = .ok (.putfield 15, 3) := by decide +kernel
theorem dX7_init_14 : decode cX7_init 14 = .ok (.aload_n 0, 1) := by decide +kernel
theorem dX7_init_15 : decode cX7_init 15 = .ok (.aload_n 3, 1) := by decide +kernel
theorem dX7_init_16 : decode cX7_init 16 = .ok (.putfield 19, 3) := by decide +kernel
theorem dX7_init_19 : decode cX7_init 19 = .ok (.aload_n 0, 1) := by decide +kernel
theorem dX7_init_20 : decode cX7_init 20 = .ok (.aload 4, 2) := by decide +kernel
theorem dX7_init_22 : decode cX7_init 22 = .ok (.putfield 23, 3) := by decide +kernel
theorem dX7_init_25 : decode cX7_init 25 = .ok (.aload_n 0, 1) := by decide +kernel
theorem dX7_init_26 : decode cX7_init 26 = .ok (.iload 5, 2) := by decide +kernel
theorem dX7_init_28 : decode cX7_init 28 = .ok (.putfield 26, 3) := by decide +kernel
theorem dX7_init_31 : decode cX7_init 31 = .ok (.aload_n 0, 1) := by decide +kernel
theorem dX7_init_32 : decode cX7_init 32 = .ok (.iload 6, 2) := by decide +kernel
theorem dX7_init_34 : decode cX7_init 34 = .ok (.putfield 29, 3) := by decide +kernel
theorem dX7_init_37 : decode cX7_init 37 = .ok (.return_, 1) := by decide +kernel
theorem dX7_end_0 : decode cX7_end 0 = .ok (.aload_n 0, 1) := by decide +kernel
theorem dX7_end_1 : decode cX7_end 1 = .ok (.getfield 26, 3) := by decide +kernel
theorem dX7_end_4 : decode cX7_end 4 = .ok (.aload_n 0, 1) := by decide +kernel
theorem dX7_end_5 : decode cX7_end 5 = .ok (.getfield 29, 3) := by decide +kernel
theorem dX7_end_8 : decode cX7_end 8 = .ok (.iadd, 1) := by decide +kernel
theorem dX7_end_9 : decode cX7_end 9 = .ok (.ireturn, 1) := by decide +kernel
theorem dX7_emptyTo_0 : decode cX7_emptyTo 0 = .ok (.aload_n 0, 1) := by decide +kernel
theorem dX7_emptyTo_1 : decode cX7_emptyTo 1 = .ok (.getfield 23, 3) := by decide +kernel
theorem dX7_emptyTo_4 : decode cX7_emptyTo 4 = .ok (.aload_n 1, 1) := by decide +kernel
theorem dX7_emptyTo_5 : decode cX7_emptyTo 5 = .ok (.getfield 19, 3) := by decide +kernel
theorem dX7_emptyTo_8 : decode cX7_emptyTo 8 = .ok (.invokevirtual 32, 3) := by decide +kernel
theorem dX7_emptyTo_11 : decode cX7_emptyTo 11 = .ok (.ireturn, 1) := by decide +kernel
theorem dX7_waitBehind_0 : decode cX7_waitBehind 0 = .ok (.aload_n 0, 1) := by decide +kernel
theorem dX7_waitBehind_1 : decode cX7_waitBehind 1 = .ok (.getfield 26, 3) := by decide +kernel
theorem dX7_waitBehind_4 : decode cX7_waitBehind 4 = .ok (.aload_n 1, 1) := by decide +kernel
theorem dX7_waitBehind_5 : decode cX7_waitBehind 5 = .ok (.invokevirtual 38, 3) := by decide +kernel
theorem dX7_waitBehind_8 : decode cX7_waitBehind 8 = .ok (.isub, 1) := by decide +kernel
theorem dX7_waitBehind_9 : decode cX7_waitBehind 9 = .ok (.aload_n 1, 1) := by decide +kernel
theorem dX7_waitBehind_10 : decode cX7_waitBehind 10 = .ok (.getfield 23, 3) := by decide +kernel
theorem dX7_waitBehind_13 : decode cX7_waitBehind 13 = .ok (.aload_n 0, 1) := by decide +kernel
theorem dX7_waitBehind_14 : decode cX7_waitBehind 14 = .ok (.getfield 19, 3) := by decide +kernel
theorem dX7_waitBehind_17 : decode cX7_waitBehind 17 = .ok (.invokevirtual 32, 3) := by decide +kernel
theorem dX7_waitBehind_20 : decode cX7_waitBehind 20 = .ok (.isub, 1) := by decide +kernel
theorem dX7_waitBehind_21 : decode cX7_waitBehind 21 = .ok (.ireturn, 1) := by decide +kernel
theorem dX7_canFollow_0 : decode cX7_canFollow 0 = .ok (.aload_n 1, 1) := by decide +kernel
theorem dX7_canFollow_1 : decode cX7_canFollow 1 = .ok (.invokevirtual 38, 3) := by decide +kernel
theorem dX7_canFollow_4 : decode cX7_canFollow 4 = .ok (.aload_n 1, 1) := by decide +kernel
theorem dX7_canFollow_5 : decode cX7_canFollow 5 = .ok (.getfield 23, 3) := by decide +kernel
theorem dX7_canFollow_8 : decode cX7_canFollow 8 = .ok (.aload_n 0, 1) := by decide +kernel
theorem dX7_canFollow_9 : decode cX7_canFollow 9 = .ok (.getfield 19, 3) := by decide +kernel
theorem dX7_canFollow_12 : decode cX7_canFollow 12 = .ok (.invokevirtual 32, 3) := by decide +kernel
theorem dX7_canFollow_15 : decode cX7_canFollow 15 = .ok (.iadd, 1) := by decide +kernel
theorem dX7_canFollow_16 : decode cX7_canFollow 16 = .ok (.iconst 4, 1) := by decide +kernel
theorem dX7_canFollow_17 : decode cX7_canFollow 17 = .ok (.iadd, 1) := by decide +kernel
theorem dX7_canFollow_18 : decode cX7_canFollow 18 = .ok (.aload_n 0, 1) := by decide +kernel
theorem dX7_canFollow_19 : decode cX7_canFollow 19 = .ok (.getfield 26, 3) := by decide +kernel
theorem dX7_canFollow_22 : decode cX7_canFollow 22 = .ok (.if_icmp .gt 7, 3) := by decide +kernel
theorem dX7_canFollow_25 : decode cX7_canFollow 25 = .ok (.iconst 1, 1) := by decide +kernel
theorem dX7_canFollow_26 : decode cX7_canFollow 26 = .ok (.goto 4, 3) := by decide +kernel
theorem dX7_canFollow_29 : decode cX7_canFollow 29 = .ok (.iconst 0, 1) := by decide +kernel
theorem dX7_canFollow_30 : decode cX7_canFollow 30 = .ok (.ireturn, 1) := by decide +kernel
theorem dX7_blockNumber_0 : decode cX7_blockNumber 0 = .ok (.aload_n 0, 1) := by decide +kernel
theorem dX7_blockNumber_1 : decode cX7_blockNumber 1 = .ok (.getfield 42, 3) := by decide +kernel
theorem dX7_blockNumber_4 : decode cX7_blockNumber 4 = .ok (.ifnonnull 7, 3) := by decide +kernel
theorem dX7_blockNumber_7 : decode cX7_blockNumber 7 = .ok (.iconst (-1), 1) := by decide +kernel
theorem dX7_blockNumber_8 : decode cX7_blockNumber 8 = .ok (.goto 10, 3) := by decide +kernel
theorem dX7_blockNumber_11 : decode cX7_blockNumber 11 = .ok (.aload_n 0, 1) := by decide +kernel
theorem dX7_blockNumber_12 : decode cX7_blockNumber 12 = .ok (.getfield 42, 3) := by decide +kernel
theorem dX7_blockNumber_15 : decode cX7_blockNumber 15 = .ok (.getfield 46, 3) := by decide +kernel
theorem dX7_blockNumber_18 : decode cX7_blockNumber 18 = .ok (.ireturn, 1) := by decide +kernel
theorem dX7_pieceNumber_0 : decode cX7_pieceNumber 0 = .ok (.aload_n 0, 1) := by decide +kernel
theorem dX7_pieceNumber_1 : decode cX7_pieceNumber 1 = .ok (.getfield 49, 3) := by decide +kernel
theorem dX7_pieceNumber_4 : decode cX7_pieceNumber 4 = .ok (.ifnonnull 7, 3) := by decide +kernel
theorem dX7_pieceNumber_7 : decode cX7_pieceNumber 7 = .ok (.iconst (-1), 1) := by decide +kernel
theorem dX7_pieceNumber_8 : decode cX7_pieceNumber 8 = .ok (.goto 10, 3) := by decide +kernel
theorem dX7_pieceNumber_11 : decode cX7_pieceNumber 11 = .ok (.aload_n 0, 1) := by decide +kernel
theorem dX7_pieceNumber_12 : decode cX7_pieceNumber 12 = .ok (.getfield 49, 3) := by decide +kernel
theorem dX7_pieceNumber_15 : decode cX7_pieceNumber 15 = .ok (.getfield 53, 3) := by decide +kernel
theorem dX7_pieceNumber_18 : decode cX7_pieceNumber 18 = .ok (.ireturn, 1) := by decide +kernel
theorem dX7_runs_0 : decode cX7_runs 0 = .ok (.aload_n 0, 1) := by decide +kernel
theorem dX7_runs_1 : decode cX7_runs 1 = .ok (.getfield 56, 3) := by decide +kernel
theorem dX7_runs_4 : decode cX7_runs 4 = .ok (.ifCond .ne 7, 3) := by decide +kernel
theorem dX7_runs_7 : decode cX7_runs 7 = .ok (.iconst 1, 1) := by decide +kernel
theorem dX7_runs_8 : decode cX7_runs 8 = .ok (.goto 4, 3) := by decide +kernel
theorem dX7_runs_11 : decode cX7_runs 11 = .ok (.iconst 0, 1) := by decide +kernel
theorem dX7_runs_12 : decode cX7_runs 12 = .ok (.ireturn, 1) := by decide +kernel
theorem dX7_late_0 : decode cX7_late 0 = .ok (.aload_n 0, 1) := by decide +kernel
theorem dX7_late_1 : decode cX7_late 1 = .ok (.getfield 59, 3) := by decide +kernel
theorem dX7_late_4 : decode cX7_late 4 = .ok (.aload_n 0, 1) := by decide +kernel
theorem dX7_late_5 : decode cX7_late 5 = .ok (.getfield 26, 3) := by decide +kernel
theorem dX7_late_8 : decode cX7_late 8 = .ok (.isub, 1) := by decide +kernel
theorem dX7_late_9 : decode cX7_late 9 = .ok (.ireturn, 1) := by decide +kernel
theorem dX7_causeIf_0 : decode cX7_causeIf 0 = .ok (.aload_n 0, 1) := by decide +kernel
theorem dX7_causeIf_1 : decode cX7_causeIf 1 = .ok (.getfield 15, 3) := by decide +kernel
theorem dX7_causeIf_4 : decode cX7_causeIf 4 = .ok (.getfield 62, 3) := by decide +kernel
theorem dX7_causeIf_7 : decode cX7_causeIf 7 = .ok (.ifCond .eq 5, 3) := by decide +kernel
theorem dX7_causeIf_10 : decode cX7_causeIf 10 = .ok (.iconst 2, 1) := by decide +kernel
theorem dX7_causeIf_11 : decode cX7_causeIf 11 = .ok (.ireturn, 1) := by decide +kernel
theorem dX7_causeIf_12 : decode cX7_causeIf 12 = .ok (.iload_n 1, 1) := by decide +kernel
theorem dX7_causeIf_13 : decode cX7_causeIf 13 = .ok (.iconst (-1), 1) := by decide +kernel
theorem dX7_causeIf_14 : decode cX7_causeIf 14 = .ok (.if_icmp .eq 13, 3) := by decide +kernel
theorem dX7_causeIf_17 : decode cX7_causeIf 17 = .ok (.aload_n 0, 1) := by decide +kernel
theorem dX7_causeIf_18 : decode cX7_causeIf 18 = .ok (.getfield 59, 3) := by decide +kernel
theorem dX7_causeIf_21 : decode cX7_causeIf 21 = .ok (.iload_n 1, 1) := by decide +kernel
theorem dX7_causeIf_22 : decode cX7_causeIf 22 = .ok (.if_icmp .lt 5, 3) := by decide +kernel
theorem dX7_causeIf_25 : decode cX7_causeIf 25 = .ok (.iconst 3, 1) := by decide +kernel
theorem dX7_causeIf_26 : decode cX7_causeIf 26 = .ok (.ireturn, 1) := by decide +kernel
theorem dX7_causeIf_27 : decode cX7_causeIf 27 = .ok (.aload_n 0, 1) := by decide +kernel
theorem dX7_causeIf_28 : decode cX7_causeIf 28 = .ok (.getfield 49, 3) := by decide +kernel
theorem dX7_causeIf_31 : decode cX7_causeIf 31 = .ok (.ifnonnull 7, 3) := by decide +kernel
theorem dX7_causeIf_34 : decode cX7_causeIf 34 = .ok (.aconst_null, 1) := by decide +kernel
theorem dX7_causeIf_35 : decode cX7_causeIf 35 = .ok (.goto 10, 3) := by decide +kernel
theorem dX7_causeIf_38 : decode cX7_causeIf 38 = .ok (.aload_n 0, 1) := by decide +kernel
theorem dX7_causeIf_39 : decode cX7_causeIf 39 = .ok (.getfield 49, 3) := by decide +kernel
theorem dX7_causeIf_42 : decode cX7_causeIf 42 = .ok (.getfield 68, 3) := by decide +kernel
theorem dX7_causeIf_45 : decode cX7_causeIf 45 = .ok (.astore_n 2, 1) := by decide +kernel
theorem dX7_causeIf_46 : decode cX7_causeIf 46 = .ok (.aload_n 2, 1) := by decide +kernel
theorem dX7_causeIf_47 : decode cX7_causeIf 47 = .ok (.ifnonnull 5, 3) := by decide +kernel
theorem dX7_causeIf_50 : decode cX7_causeIf 50 = .ok (.iconst 4, 1) := by decide +kernel
theorem dX7_causeIf_51 : decode cX7_causeIf 51 = .ok (.ireturn, 1) := by decide +kernel
theorem dX7_causeIf_52 : decode cX7_causeIf 52 = .ok (.aload_n 2, 1) := by decide +kernel
theorem dX7_causeIf_53 : decode cX7_causeIf 53 = .ok (.getfield 72, 3) := by decide +kernel
theorem dX7_causeIf_56 : decode cX7_causeIf 56 = .ok (.ifCond .eq 5, 3) := by decide +kernel
theorem dX7_causeIf_59 : decode cX7_causeIf 59 = .ok (.iconst 5, 1) := by decide +kernel
theorem dX7_causeIf_60 : decode cX7_causeIf 60 = .ok (.ireturn, 1) := by decide +kernel
theorem dX7_causeIf_61 : decode cX7_causeIf 61 = .ok (.aload_n 0, 1) := by decide +kernel
theorem dX7_causeIf_62 : decode cX7_causeIf 62 = .ok (.invokevirtual 77, 3) := by decide +kernel
theorem dX7_causeIf_65 : decode cX7_causeIf 65 = .ok (.bipush 30, 2) := by decide +kernel
theorem dX7_causeIf_67 : decode cX7_causeIf 67 = .ok (.if_icmp .le 8, 3) := by decide +kernel
theorem dX7_causeIf_70 : decode cX7_causeIf 70 = .ok (.bipush 6, 2) := by decide +kernel
theorem dX7_causeIf_72 : decode cX7_causeIf 72 = .ok (.goto 4, 3) := by decide +kernel
theorem dX7_causeIf_75 : decode cX7_causeIf 75 = .ok (.iconst 0, 1) := by decide +kernel
theorem dX7_causeIf_76 : decode cX7_causeIf 76 = .ok (.ireturn, 1) := by decide +kernel
theorem dX7_pay_0 : decode cX7_pay 0 = .ok (.aload_n 0, 1) := by decide +kernel
theorem dX7_pay_1 : decode cX7_pay 1 = .ok (.invokevirtual 80, 3) := by decide +kernel
theorem dX7_pay_4 : decode cX7_pay 4 = .ok (.ifCond .eq 18, 3) := by decide +kernel
theorem dX7_pay_7 : decode cX7_pay 7 = .ok (.aload_n 0, 1) := by decide +kernel
theorem dX7_pay_8 : decode cX7_pay 8 = .ok (.getfield 15, 3) := by decide +kernel
theorem dX7_pay_11 : decode cX7_pay 11 = .ok (.getfield 84, 3) := by decide +kernel
theorem dX7_pay_14 : decode cX7_pay 14 = .ok (.aload_n 0, 1) := by decide +kernel
theorem dX7_pay_15 : decode cX7_pay 15 = .ok (.invokevirtual 77, 3) := by decide +kernel
theorem dX7_pay_18 : decode cX7_pay 18 = .ok (.iconst 2, 1) := by decide +kernel
theorem dX7_pay_19 : decode cX7_pay 19 = .ok (.idiv, 1) := by decide +kernel
theorem dX7_pay_20 : decode cX7_pay 20 = .ok (.isub, 1) := by decide +kernel
theorem dX7_pay_21 : decode cX7_pay 21 = .ok (.ireturn, 1) := by decide +kernel
theorem dX7_pay_22 : decode cX7_pay 22 = .ok (.aload_n 0, 1) := by decide +kernel
theorem dX7_pay_23 : decode cX7_pay 23 = .ok (.getfield 56, 3) := by decide +kernel
theorem dX7_pay_26 : decode cX7_pay 26 = .ok (.iconst 2, 1) := by decide +kernel
theorem dX7_pay_27 : decode cX7_pay 27 = .ok (.if_icmp .ne 7, 3) := by decide +kernel
theorem dX7_pay_30 : decode cX7_pay 30 = .ok (.iconst 0, 1) := by decide +kernel
theorem dX7_pay_31 : decode cX7_pay 31 = .ok (.goto 5, 3) := by decide +kernel
theorem dX7_pay_34 : decode cX7_pay 34 = .ok (.iload_n 1, 1) := by decide +kernel
theorem dX7_pay_35 : decode cX7_pay 35 = .ok (.ineg, 1) := by decide +kernel
theorem dX7_pay_36 : decode cX7_pay 36 = .ok (.ireturn, 1) := by decide +kernel
theorem dX8_init_0 : decode cX8_init 0 = .ok (.aload_n 0, 1) := by decide +kernel
theorem dX8_init_1 : decode cX8_init 1 = .ok (.invokespecial 3, 3) := by decide +kernel
theorem dX8_init_4 : decode cX8_init 4 = .ok (.aload_n 0, 1) := by decide +kernel
theorem dX8_init_5 : decode cX8_init 5 = .ok (.sipush 600, 3) := by decide +kernel
theorem dX8_init_8 : decode cX8_init 8 = .ok (.putfield 9, 3) := by decide +kernel
theorem dX8_init_11 : decode cX8_init 11 = .ok (.aload_n 0, 1) := by decide +kernel
theorem dX8_init_12 : decode cX8_init 12 = .ok (.sipush 240, 3) := by decide +kernel
theorem dX8_init_15 : decode cX8_init 15 = .ok (.putfield 15, 3) := by decide +kernel
theorem dX8_init_18 : decode cX8_init 18 = .ok (.return_, 1) := by decide +kernel
theorem dX8_planPieces_0 : decode cX8_planPieces 0 = .ok (.iconst 0, 1) := by decide +kernel
theorem dX8_planPieces_1 : decode cX8_planPieces 1 = .ok (.istore_n 3, 1) := by decide +kernel
theorem dX8_planPieces_2 : decode cX8_planPieces 2 = .ok (.iconst 0, 1) := by decide +kernel
theorem dX8_planPieces_3 : decode cX8_planPieces 3 = .ok (.istore 4, 2) := by decide +kernel
theorem dX8_planPieces_5 : decode cX8_planPieces 5 = .ok (.iload_n 3, 1) := by decide +kernel
theorem dX8_planPieces_6 : decode cX8_planPieces 6 = .ok (.aload_n 1, 1) := by decide +kernel
theorem dX8_planPieces_7 : decode cX8_planPieces 7 = .ok (.invokevirtual 18, 3) := by decide +kernel
theorem dX8_planPieces_10 : decode cX8_planPieces 10 = .ok (.if_icmp .ge 43, 3) := by decide +kernel
theorem dX8_planPieces_13 : decode cX8_planPieces 13 = .ok (.iload 4, 2) := by decide +kernel
theorem dX8_planPieces_15 : decode cX8_planPieces 15 = .ok (.aload_n 2, 1) := by decide +kernel
theorem dX8_planPieces_16 : decode cX8_planPieces 16 = .ok (.arraylength, 1) := by decide +kernel
theorem dX8_planPieces_17 : decode cX8_planPieces 17 = .ok (.if_icmp .ge 36, 3) := by decide +kernel
theorem dX8_planPieces_20 : decode cX8_planPieces 20 = .ok (.aload_n 0, 1) := by decide +kernel
theorem dX8_planPieces_21 : decode cX8_planPieces 21 = .ok (.aload_n 1, 1) := by decide +kernel
theorem dX8_planPieces_22 : decode cX8_planPieces 22 = .ok (.iload_n 3, 1) := by decide +kernel
theorem dX8_planPieces_23 : decode cX8_planPieces 23 = .ok (.invokevirtual 24, 3) := by decide +kernel
theorem dX8_planPieces_26 : decode cX8_planPieces 26 = .ok (.istore 5, 2) := by decide +kernel
theorem dX8_planPieces_28 : decode cX8_planPieces 28 = .ok (.iload 5, 2) := by decide +kernel
theorem dX8_planPieces_30 : decode cX8_planPieces 30 = .ok (.iload_n 3, 1) := by decide +kernel
theorem dX8_planPieces_31 : decode cX8_planPieces 31 = .ok (.if_icmp .ge 5, 3) := by decide +kernel
theorem dX8_planPieces_34 : decode cX8_planPieces 34 = .ok (.iconst 0, 1) := by decide +kernel
theorem dX8_planPieces_35 : decode cX8_planPieces 35 = .ok (.ireturn, 1) := by decide +kernel
theorem dX8_planPieces_36 : decode cX8_planPieces 36 = .ok (.aload_n 2, 1) := by decide +kernel
theorem dX8_planPieces_37 : decode cX8_planPieces 37 = .ok (.iload 4, 2) := by decide +kernel
theorem dX8_planPieces_39 : decode cX8_planPieces 39 = .ok (.iload 5, 2) := by decide +kernel
theorem dX8_planPieces_41 : decode cX8_planPieces 41 = .ok (.iastore, 1) := by decide +kernel
theorem dX8_planPieces_42 : decode cX8_planPieces 42 = .ok (.iinc 4 1, 3) := by decide +kernel
theorem dX8_planPieces_45 : decode cX8_planPieces 45 = .ok (.iload 5, 2) := by decide +kernel
theorem dX8_planPieces_47 : decode cX8_planPieces 47 = .ok (.iconst 1, 1) := by decide +kernel
theorem dX8_planPieces_48 : decode cX8_planPieces 48 = .ok (.iadd, 1) := by decide +kernel
theorem dX8_planPieces_49 : decode cX8_planPieces 49 = .ok (.istore_n 3, 1) := by decide +kernel
theorem dX8_planPieces_50 : decode cX8_planPieces 50 = .ok (.goto (-45), 3) := by decide +kernel
theorem dX8_planPieces_53 : decode cX8_planPieces 53 = .ok (.iload 4, 2) := by decide +kernel
theorem dX8_planPieces_55 : decode cX8_planPieces 55 = .ok (.ireturn, 1) := by decide +kernel
theorem dX8_endOfLongest_0 : decode cX8_endOfLongest 0 = .ok (.iconst (-1), 1) := by decide +kernel
theorem dX8_endOfLongest_1 : decode cX8_endOfLongest 1 = .ok (.istore_n 3, 1) := by decide +kernel
theorem dX8_endOfLongest_2 : decode cX8_endOfLongest 2 = .ok (.iconst 0, 1) := by decide +kernel
theorem dX8_endOfLongest_3 : decode cX8_endOfLongest 3 = .ok (.istore 4, 2) := by decide +kernel
theorem dX8_endOfLongest_5 : decode cX8_endOfLongest 5 = .ok (.aload_n 1, 1) := by decide +kernel
theorem dX8_endOfLongest_6 : decode cX8_endOfLongest 6 = .ok (.iload_n 2, 1) := by decide +kernel
theorem dX8_endOfLongest_7 : decode cX8_endOfLongest 7 = .ok (.invokevirtual 28, 3) := by decide +kernel
theorem dX8_endOfLongest_10 : decode cX8_endOfLongest 10 = .ok (.astore 5, 2) := by decide +kernel
theorem dX8_endOfLongest_12 : decode cX8_endOfLongest 12 = .ok (.aconst_null, 1) := by decide +kernel
theorem dX8_endOfLongest_13 : decode cX8_endOfLongest 13 = .ok (.astore 6, 2) := by decide +kernel
theorem dX8_endOfLongest_15 : decode cX8_endOfLongest 15 = .ok (.iload_n 2, 1) := by decide +kernel
theorem dX8_endOfLongest_16 : decode cX8_endOfLongest 16 = .ok (.istore 7, 2) := by decide +kernel
theorem dX8_endOfLongest_18 : decode cX8_endOfLongest 18 = .ok (.iload 7, 2) := by decide +kernel
theorem dX8_endOfLongest_20 : decode cX8_endOfLongest 20 = .ok (.aload_n 1, 1) := by decide +kernel
theorem dX8_endOfLongest_21 : decode cX8_endOfLongest 21 = .ok (.invokevirtual 18, 3) := by decide +kernel
theorem dX8_endOfLongest_24 : decode cX8_endOfLongest 24 = .ok (.if_icmp .ge 141, 3) := by decide +kernel
theorem dX8_endOfLongest_27 : decode cX8_endOfLongest 27 = .ok (.aload 5, 2) := by decide +kernel
theorem dX8_endOfLongest_29 : decode cX8_endOfLongest 29 = .ok (.ifnull 136, 3) := by decide +kernel
theorem dX8_endOfLongest_32 : decode cX8_endOfLongest 32 = .ok (.aload_n 1, 1) := by decide +kernel
theorem dX8_endOfLongest_33 : decode cX8_endOfLongest 33 = .ok (.getfield 32, 3) := by decide +kernel
theorem dX8_endOfLongest_36 : decode cX8_endOfLongest 36 = .ok (.iload 7, 2) := by decide +kernel
theorem dX8_endOfLongest_38 : decode cX8_endOfLongest 38 = .ok (.invokevirtual 36, 3) := by decide +kernel
theorem dX8_endOfLongest_41 : decode cX8_endOfLongest 41 = .ok (.checkcast 41, 3) := by decide +kernel
theorem dX8_endOfLongest_44 : decode cX8_endOfLongest 44 = .ok (.astore 8, 2) := by decide +kernel
theorem dX8_endOfLongest_46 : decode cX8_endOfLongest 46 = .ok (.aload 6, 2) := by decide +kernel
theorem dX8_endOfLongest_48 : decode cX8_endOfLongest 48 = .ok (.ifnull 42, 3) := by decide +kernel
theorem dX8_endOfLongest_51 : decode cX8_endOfLongest 51 = .ok (.iload 4, 2) := by decide +kernel
theorem dX8_endOfLongest_53 : decode cX8_endOfLongest 53 = .ok (.aload 6, 2) := by decide +kernel
theorem dX8_endOfLongest_55 : decode cX8_endOfLongest 55 = .ok (.aload 8, 2) := by decide +kernel
theorem dX8_endOfLongest_57 : decode cX8_endOfLongest 57 = .ok (.invokevirtual 43, 3) := by decide +kernel
theorem dX8_endOfLongest_60 : decode cX8_endOfLongest 60 = .ok (.iadd, 1) := by decide +kernel
theorem dX8_endOfLongest_61 : decode cX8_endOfLongest 61 = .ok (.istore 4, 2) := by decide +kernel
theorem dX8_endOfLongest_63 : decode cX8_endOfLongest 63 = .ok (.iload 4, 2) := by decide +kernel
theorem dX8_endOfLongest_65 : decode cX8_endOfLongest 65 = .ok (.aload_n 0, 1) := by decide +kernel
theorem dX8_endOfLongest_66 : decode cX8_endOfLongest 66 = .ok (.getfield 15, 3) := by decide +kernel
theorem dX8_endOfLongest_69 : decode cX8_endOfLongest 69 = .ok (.if_icmp .le 6, 3) := by decide +kernel
theorem dX8_endOfLongest_72 : decode cX8_endOfLongest 72 = .ok (.goto 93, 3) := by decide +kernel
theorem dX8_endOfLongest_75 : decode cX8_endOfLongest 75 = .ok (.aload 8, 2) := by decide +kernel
theorem dX8_endOfLongest_77 : decode cX8_endOfLongest 77 = .ok (.aload 6, 2) := by decide +kernel
theorem dX8_endOfLongest_79 : decode cX8_endOfLongest 79 = .ok (.invokevirtual 47, 3) := by decide +kernel
theorem dX8_endOfLongest_82 : decode cX8_endOfLongest 82 = .ok (.bipush 20, 2) := by decide +kernel
theorem dX8_endOfLongest_84 : decode cX8_endOfLongest 84 = .ok (.if_icmp .lt 6, 3) := by decide +kernel
theorem dX8_endOfLongest_87 : decode cX8_endOfLongest 87 = .ok (.iconst 0, 1) := by decide +kernel
theorem dX8_endOfLongest_88 : decode cX8_endOfLongest 88 = .ok (.istore 4, 2) := by decide +kernel
theorem dX8_endOfLongest_90 : decode cX8_endOfLongest 90 = .ok (.iload 4, 2) := by decide +kernel
theorem dX8_endOfLongest_92 : decode cX8_endOfLongest 92 = .ok (.aload 8, 2) := by decide +kernel
theorem dX8_endOfLongest_94 : decode cX8_endOfLongest 94 = .ok (.getfield 50, 3) := by decide +kernel
theorem dX8_endOfLongest_97 : decode cX8_endOfLongest 97 = .ok (.iadd, 1) := by decide +kernel
theorem dX8_endOfLongest_98 : decode cX8_endOfLongest 98 = .ok (.istore 4, 2) := by decide +kernel
theorem dX8_endOfLongest_100 : decode cX8_endOfLongest 100 = .ok (.iload 4, 2) := by decide +kernel
theorem dX8_endOfLongest_102 : decode cX8_endOfLongest 102 = .ok (.aload_n 0, 1) := by decide +kernel
theorem dX8_endOfLongest_103 : decode cX8_endOfLongest 103 = .ok (.getfield 15, 3) := by decide +kernel
theorem dX8_endOfLongest_106 : decode cX8_endOfLongest 106 = .ok (.if_icmp .gt 59, 3) := by decide +kernel
theorem dX8_endOfLongest_109 : decode cX8_endOfLongest 109 = .ok (.aload 8, 2) := by decide +kernel
theorem dX8_endOfLongest_111 : decode cX8_endOfLongest 111 = .ok (.invokevirtual 53, 3) := by decide +kernel
theorem dX8_endOfLongest_114 : decode cX8_endOfLongest 114 = .ok (.aload 5, 2) := by decide +kernel
theorem dX8_endOfLongest_116 : decode cX8_endOfLongest 116 = .ok (.getfield 56, 3) := by decide +kernel
theorem dX8_endOfLongest_119 : decode cX8_endOfLongest 119 = .ok (.isub, 1) := by decide +kernel
theorem dX8_endOfLongest_120 : decode cX8_endOfLongest 120 = .ok (.aload_n 0, 1) := by decide +kernel
theorem dX8_endOfLongest_121 : decode cX8_endOfLongest 121 = .ok (.getfield 9, 3) := by decide +kernel
theorem dX8_endOfLongest_124 : decode cX8_endOfLongest 124 = .ok (.if_icmp .le 6, 3) := by decide +kernel
theorem dX8_endOfLongest_127 : decode cX8_endOfLongest 127 = .ok (.goto 38, 3) := by decide +kernel
theorem dX8_endOfLongest_130 : decode cX8_endOfLongest 130 = .ok (.aload 8, 2) := by decide +kernel
theorem dX8_endOfLongest_132 : decode cX8_endOfLongest 132 = .ok (.getfield 59, 3) := by decide +kernel
theorem dX8_endOfLongest_135 : decode cX8_endOfLongest 135 = .ok (.getfield 63, 3) := by decide +kernel
theorem dX8_endOfLongest_138 : decode cX8_endOfLongest 138 = .ok (.ifCond .ne 14, 3) := by decide +kernel
theorem dX8_endOfLongest_141 : decode cX8_endOfLongest 141 = .ok (.iload 7, 2) := by decide +kernel
theorem dX8_endOfLongest_143 : decode cX8_endOfLongest 143 = .ok (.aload_n 1, 1) := by decide +kernel
theorem dX8_endOfLongest_144 : decode cX8_endOfLongest 144 = .ok (.invokevirtual 18, 3) := by decide +kernel
theorem dX8_endOfLongest_147 : decode cX8_endOfLongest 147 = .ok (.iconst 1, 1) := by decide +kernel
theorem dX8_endOfLongest_148 : decode cX8_endOfLongest 148 = .ok (.isub, 1) := by decide +kernel
theorem dX8_endOfLongest_149 : decode cX8_endOfLongest 149 = .ok (.if_icmp .ne 6, 3) := by decide +kernel
theorem dX8_endOfLongest_152 : decode cX8_endOfLongest 152 = .ok (.iload 7, 2) := by decide +kernel
theorem dX8_endOfLongest_154 : decode cX8_endOfLongest 154 = .ok (.istore_n 3, 1) := by decide +kernel
theorem dX8_endOfLongest_155 : decode cX8_endOfLongest 155 = .ok (.aload 8, 2) := by decide +kernel
theorem dX8_endOfLongest_157 : decode cX8_endOfLongest 157 = .ok (.astore 6, 2) := by decide +kernel
theorem dX8_endOfLongest_159 : decode cX8_endOfLongest 159 = .ok (.iinc 7 1, 3) := by decide +kernel
theorem dX8_endOfLongest_162 : decode cX8_endOfLongest 162 = .ok (.goto (-144), 3) := by decide +kernel
theorem dX8_endOfLongest_165 : decode cX8_endOfLongest 165 = .ok (.iload_n 3, 1) := by decide +kernel
theorem dX8_endOfLongest_166 : decode cX8_endOfLongest 166 = .ok (.ireturn, 1) := by decide +kernel
theorem dX9_init_0 : decode cX9_init 0 = .ok (.aload_n 0, 1) := by decide +kernel
theorem dX9_init_1 : decode cX9_init 1 = .ok (.invokespecial 1, 3) := by decide +kernel
theorem dX9_init_4 : decode cX9_init 4 = .ok (.aload_n 0, 1) := by decide +kernel
theorem dX9_init_5 : decode cX9_init 5 = .ok (.new 7, 3) := by decide +kernel
theorem dX9_init_8 : decode cX9_init 8 = .ok (.dup, 1) := by decide +kernel
theorem dX9_init_9 : decode cX9_init 9 = .ok (.invokespecial 9, 3) := by decide +kernel
theorem dX9_init_12 : decode cX9_init 12 = .ok (.putfield 10, 3) := by decide +kernel
theorem dX9_init_15 : decode cX9_init 15 = .ok (.aload_n 0, 1) := by decide +kernel
theorem dX9_init_16 : decode cX9_init 16 = .ok (.new 7, 3) := by decide +kernel
theorem dX9_init_19 : decode cX9_init 19 = .ok (.dup, 1) := by decide +kernel
theorem dX9_init_20 : decode cX9_init 20 = .ok (.invokespecial 9, 3) := by decide +kernel
theorem dX9_init_23 : decode cX9_init 23 = .ok (.putfield 16, 3) := by decide +kernel
theorem dX9_init_26 : decode cX9_init 26 = .ok (.aload_n 0, 1) := by decide +kernel
theorem dX9_init_27 : decode cX9_init 27 = .ok (.new 7, 3) := by decide +kernel
theorem dX9_init_30 : decode cX9_init 30 = .ok (.dup, 1) := by decide +kernel
theorem dX9_init_31 : decode cX9_init 31 = .ok (.invokespecial 9, 3) := by decide +kernel
theorem dX9_init_34 : decode cX9_init 34 = .ok (.putfield 19, 3) := by decide +kernel
theorem dX9_init_37 : decode cX9_init 37 = .ok (.aload_n 0, 1) := by decide +kernel
theorem dX9_init_38 : decode cX9_init 38 = .ok (.new 7, 3) := by decide +kernel
end
section
theorem dX9_init_41 : decode cX9_init 41 = .ok (.dup, 1) := by decide +kernel
theorem dX9_init_42 : decode cX9_init 42 = .ok (.invokespecial 9, 3) := by decide +kernel
theorem dX9_init_45 : decode cX9_init 45 = .ok (.putfield 22, 3) := by decide +kernel
theorem dX9_init_48 : decode cX9_init 48 = .ok (.aload_n 0, 1) := by decide +kernel
theorem dX9_init_49 : decode cX9_init 49 = .ok (.new 7, 3) := by decide +kernel
theorem dX9_init_52 : decode cX9_init 52 = .ok (.dup, 1) := by decide +kernel
theorem dX9_init_53 : decode cX9_init 53 = .ok (.invokespecial 9, 3) := by decide +kernel
theorem dX9_init_56 : decode cX9_init 56 = .ok (.putfield 25, 3) := by decide +kernel
theorem dX9_init_59 : decode cX9_init 59 = .ok (.aload_n 0, 1) := by decide +kernel
theorem dX9_init_60 : decode cX9_init 60 = .ok (.new 7, 3) := by decide +kernel
theorem dX9_init_63 : decode cX9_init 63 = .ok (.dup, 1) := by decide +kernel
theorem dX9_init_64 : decode cX9_init 64 = .ok (.invokespecial 9, 3) := by decide +kernel
theorem dX9_init_67 : decode cX9_init 67 = .ok (.putfield 28, 3) := by decide +kernel
theorem dX9_init_70 : decode cX9_init 70 = .ok (.aload_n 0, 1) := by decide +kernel
theorem dX9_init_71 : decode cX9_init 71 = .ok (.new 31, 3) := by decide +kernel
theorem dX9_init_74 : decode cX9_init 74 = .ok (.dup, 1) := by decide +kernel
theorem dX9_init_75 : decode cX9_init 75 = .ok (.invokespecial 33, 3) := by decide +kernel
theorem dX9_init_78 : decode cX9_init 78 = .ok (.putfield 34, 3) := by decide +kernel
theorem dX9_init_81 : decode cX9_init 81 = .ok (.aload_n 0, 1) := by decide +kernel
theorem dX9_init_82 : decode cX9_init 82 = .ok (.iconst 5, 1) := by decide +kernel
theorem dX9_init_83 : decode cX9_init 83 = .ok (.putfield 38, 3) := by decide +kernel
theorem dX9_init_86 : decode cX9_init 86 = .ok (.aload_n 0, 1) := by decide +kernel
theorem dX9_init_87 : decode cX9_init 87 = .ok (.new 42, 3) := by decide +kernel
theorem dX9_init_90 : decode cX9_init 90 = .ok (.dup, 1) := by decide +kernel
theorem dX9_init_91 : decode cX9_init 91 = .ok (.invokespecial 44, 3) := by decide +kernel
theorem dX9_init_94 : decode cX9_init 94 = .ok (.putfield 45, 3) := by decide +kernel
theorem dX9_init_97 : decode cX9_init 97 = .ok (.aload_n 0, 1) := by decide +kernel
theorem dX9_init_98 : decode cX9_init 98 = .ok (.new 42, 3) := by decide +kernel
theorem dX9_init_101 : decode cX9_init 101 = .ok (.dup, 1) := by decide +kernel
theorem dX9_init_102 : decode cX9_init 102 = .ok (.invokespecial 44, 3) := by decide +kernel
theorem dX9_init_105 : decode cX9_init 105 = .ok (.putfield 49, 3) := by decide +kernel
theorem dX9_init_108 : decode cX9_init 108 = .ok (.aload_n 0, 1) := by decide +kernel
theorem dX9_init_109 : decode cX9_init 109 = .ok (.bipush 16, 2) := by decide +kernel
theorem dX9_init_111 : decode cX9_init 111 = .ok (.newarray .int, 2) := by decide +kernel
theorem dX9_init_113 : decode cX9_init 113 = .ok (.putfield 52, 3) := by decide +kernel
theorem dX9_init_116 : decode cX9_init 116 = .ok (.aload_n 0, 1) := by decide +kernel
theorem dX9_init_117 : decode cX9_init 117 = .ok (.new 56, 3) := by decide +kernel
theorem dX9_init_120 : decode cX9_init 120 = .ok (.dup, 1) := by decide +kernel
theorem dX9_init_121 : decode cX9_init 121 = .ok (.invokespecial 58, 3) := by decide +kernel
theorem dX9_init_124 : decode cX9_init 124 = .ok (.putfield 59, 3) := by decide +kernel
theorem dX9_init_127 : decode cX9_init 127 = .ok (.aload_n 0, 1) := by decide +kernel
theorem dX9_init_128 : decode cX9_init 128 = .ok (.new 63, 3) := by decide +kernel
theorem dX9_init_131 : decode cX9_init 131 = .ok (.dup, 1) := by decide +kernel
theorem dX9_init_132 : decode cX9_init 132 = .ok (.iconst 0, 1) := by decide +kernel
theorem dX9_init_133 : decode cX9_init 133 = .ok (.invokespecial 65, 3) := by decide +kernel
theorem dX9_init_136 : decode cX9_init 136 = .ok (.putfield 68, 3) := by decide +kernel
theorem dX9_init_139 : decode cX9_init 139 = .ok (.aload_n 0, 1) := by decide +kernel
theorem dX9_init_140 : decode cX9_init 140 = .ok (.getfield 10, 3) := by decide +kernel
theorem dX9_init_143 : decode cX9_init 143 = .ok (.aload_n 0, 1) := by decide +kernel
theorem dX9_init_144 : decode cX9_init 144 = .ok (.getfield 68, 3) := by decide +kernel
theorem dX9_init_147 : decode cX9_init 147 = .ok (.invokevirtual 72, 3) := by decide +kernel
theorem dX9_init_150 : decode cX9_init 150 = .ok (.pop, 1) := by decide +kernel
theorem dX9_init_151 : decode cX9_init 151 = .ok (.iconst 1, 1) := by decide +kernel
theorem dX9_init_152 : decode cX9_init 152 = .ok (.istore_n 1, 1) := by decide +kernel
theorem dX9_init_153 : decode cX9_init 153 = .ok (.iload_n 1, 1) := by decide +kernel
theorem dX9_init_154 : decode cX9_init 154 = .ok (.bipush 8, 2) := by decide +kernel
theorem dX9_init_156 : decode cX9_init 156 = .ok (.if_icmp .ge 25, 3) := by decide +kernel
theorem dX9_init_159 : decode cX9_init 159 = .ok (.aload_n 0, 1) := by decide +kernel
theorem dX9_init_160 : decode cX9_init 160 = .ok (.getfield 10, 3) := by decide +kernel
theorem dX9_init_163 : decode cX9_init 163 = .ok (.new 63, 3) := by decide +kernel
theorem dX9_init_166 : decode cX9_init 166 = .ok (.dup, 1) := by decide +kernel
theorem dX9_init_167 : decode cX9_init 167 = .ok (.iload_n 1, 1) := by decide +kernel
theorem dX9_init_168 : decode cX9_init 168 = .ok (.invokespecial 65, 3) := by decide +kernel
theorem dX9_init_171 : decode cX9_init 171 = .ok (.invokevirtual 72, 3) := by decide +kernel
theorem dX9_init_174 : decode cX9_init 174 = .ok (.pop, 1) := by decide +kernel
theorem dX9_init_175 : decode cX9_init 175 = .ok (.iinc 1 1, 3) := by decide +kernel
theorem dX9_init_178 : decode cX9_init 178 = .ok (.goto (-25), 3) := by decide +kernel
theorem dX9_init_181 : decode cX9_init 181 = .ok (.iconst 0, 1) := by decide +kernel
theorem dX9_init_182 : decode cX9_init 182 = .ok (.istore_n 1, 1) := by decide +kernel
theorem dX9_init_183 : decode cX9_init 183 = .ok (.iload_n 1, 1) := by decide +kernel
theorem dX9_init_184 : decode cX9_init 184 = .ok (.iconst 4, 1) := by decide +kernel
theorem dX9_init_185 : decode cX9_init 185 = .ok (.if_icmp .ge 25, 3) := by decide +kernel
theorem dX9_init_188 : decode cX9_init 188 = .ok (.aload_n 0, 1) := by decide +kernel
theorem dX9_init_189 : decode cX9_init 189 = .ok (.getfield 16, 3) := by decide +kernel
theorem dX9_init_192 : decode cX9_init 192 = .ok (.new 76, 3) := by decide +kernel
theorem dX9_init_195 : decode cX9_init 195 = .ok (.dup, 1) := by decide +kernel
theorem dX9_init_196 : decode cX9_init 196 = .ok (.iload_n 1, 1) := by decide +kernel
theorem dX9_init_197 : decode cX9_init 197 = .ok (.invokespecial 78, 3) := by decide +kernel
theorem dX9_init_200 : decode cX9_init 200 = .ok (.invokevirtual 72, 3) := by decide +kernel
theorem dX9_init_203 : decode cX9_init 203 = .ok (.pop, 1) := by decide +kernel
theorem dX9_init_204 : decode cX9_init 204 = .ok (.iinc 1 1, 3) := by decide +kernel
theorem dX9_init_207 : decode cX9_init 207 = .ok (.goto (-24), 3) := by decide +kernel
theorem dX9_init_210 : decode cX9_init 210 = .ok (.return_, 1) := by decide +kernel
theorem dX9_place_0 : decode cX9_place 0 = .ok (.aload_n 0, 1) := by decide +kernel
theorem dX9_place_1 : decode cX9_place 1 = .ok (.iload_n 1, 1) := by decide +kernel
theorem dX9_place_2 : decode cX9_place 2 = .ok (.invokevirtual 79, 3) := by decide +kernel
theorem dX9_place_5 : decode cX9_place 5 = .ok (.astore 5, 2) := by decide +kernel
theorem dX9_place_7 : decode cX9_place 7 = .ok (.aload 5, 2) := by decide +kernel
theorem dX9_place_9 : decode cX9_place 9 = .ok (.ifnonnull 13, 3) := by decide +kernel
theorem dX9_place_12 : decode cX9_place 12 = .ok (.new 83, 3) := by decide +kernel
theorem dX9_place_15 : decode cX9_place 15 = .ok (.dup, 1) := by decide +kernel
theorem dX9_place_16 : decode cX9_place 16 = .ok (.ldc 85, 2) := by decide +kernel
theorem dX9_place_18 : decode cX9_place 18 = .ok (.invokespecial 87, 3) := by decide +kernel
theorem dX9_place_21 : decode cX9_place 21 = .ok (.athrow, 1) := by decide +kernel
theorem dX9_place_22 : decode cX9_place 22 = .ok (.iload_n 2, 1) := by decide +kernel
theorem dX9_place_23 : decode cX9_place 23 = .ok (.iconst 0, 1) := by decide +kernel
theorem dX9_place_24 : decode cX9_place 24 = .ok (.bipush 60, 2) := by decide +kernel
theorem dX9_place_26 : decode cX9_place 26 = .ok (.invokestatic 90, 3) := by decide +kernel
theorem dX9_place_29 : decode cX9_place 29 = .ok (.ifCond .ne 12, 3) := by decide +kernel
theorem dX9_place_32 : decode cX9_place 32 = .ok (.iload_n 3, 1) := by decide +kernel
theorem dX9_place_33 : decode cX9_place 33 = .ok (.iconst 0, 1) := by decide +kernel
theorem dX9_place_34 : decode cX9_place 34 = .ok (.iconst 5, 1) := by decide +kernel
theorem dX9_place_35 : decode cX9_place 35 = .ok (.invokestatic 90, 3) := by decide +kernel
theorem dX9_place_38 : decode cX9_place 38 = .ok (.ifCond .eq 13, 3) := by decide +kernel
theorem dX9_place_41 : decode cX9_place 41 = .ok (.new 94, 3) := by decide +kernel
theorem dX9_place_44 : decode cX9_place 44 = .ok (.dup, 1) := by decide +kernel
theorem dX9_place_45 : decode cX9_place 45 = .ok (.ldc 96, 2) := by decide +kernel
theorem dX9_place_47 : decode cX9_place 47 = .ok (.invokespecial 98, 3) := by decide +kernel
theorem dX9_place_50 : decode cX9_place 50 = .ok (.athrow, 1) := by decide +kernel
theorem dX9_place_51 : decode cX9_place 51 = .ok (.aload_n 0, 1) := by decide +kernel
theorem dX9_place_52 : decode cX9_place 52 = .ok (.getfield 19, 3) := by decide +kernel
theorem dX9_place_55 : decode cX9_place 55 = .ok (.invokevirtual 99, 3) := by decide +kernel
theorem dX9_place_58 : decode cX9_place 58 = .ok (.ifCond .ne 13, 3) := by decide +kernel
theorem dX9_place_61 : decode cX9_place 61 = .ok (.new 103, 3) := by decide +kernel
theorem dX9_place_64 : decode cX9_place 64 = .ok (.dup, 1) := by decide +kernel
theorem dX9_place_65 : decode cX9_place 65 = .ok (.ldc 105, 2) := by decide +kernel
theorem dX9_place_67 : decode cX9_place 67 = .ok (.invokespecial 107, 3) := by decide +kernel
theorem dX9_place_70 : decode cX9_place 70 = .ok (.athrow, 1) := by decide +kernel
theorem dX9_place_71 : decode cX9_place 71 = .ok (.aload 5, 2) := by decide +kernel
theorem dX9_place_73 : decode cX9_place 73 = .ok (.getfield 108, 3) := by decide +kernel
theorem dX9_place_76 : decode cX9_place 76 = .ok (.istore 6, 2) := by decide +kernel
theorem dX9_place_78 : decode cX9_place 78 = .ok (.aload 5, 2) := by decide +kernel
theorem dX9_place_80 : decode cX9_place 80 = .ok (.iload_n 2, 1) := by decide +kernel
theorem dX9_place_81 : decode cX9_place 81 = .ok (.putfield 108, 3) := by decide +kernel
theorem dX9_place_84 : decode cX9_place 84 = .ok (.aload 5, 2) := by decide +kernel
theorem dX9_place_86 : decode cX9_place 86 = .ok (.iload_n 3, 1) := by decide +kernel
theorem dX9_place_87 : decode cX9_place 87 = .ok (.putfield 111, 3) := by decide +kernel
theorem dX9_place_90 : decode cX9_place 90 = .ok (.aload 5, 2) := by decide +kernel
theorem dX9_place_92 : decode cX9_place 92 = .ok (.iload 4, 2) := by decide +kernel
theorem dX9_place_94 : decode cX9_place 94 = .ok (.ifCond .ne 12, 3) := by decide +kernel
theorem dX9_place_97 : decode cX9_place 97 = .ok (.aload 5, 2) := by decide +kernel
theorem dX9_place_99 : decode cX9_place 99 = .ok (.aload_n 0, 1) := by decide +kernel
theorem dX9_place_100 : decode cX9_place 100 = .ok (.getfield 68, 3) := by decide +kernel
theorem dX9_place_103 : decode cX9_place 103 = .ok (.if_acmp .ne 7, 3) := by decide +kernel
theorem dX9_place_106 : decode cX9_place 106 = .ok (.iconst 1, 1) := by decide +kernel
theorem dX9_place_107 : decode cX9_place 107 = .ok (.goto 4, 3) := by decide +kernel
theorem dX9_place_110 : decode cX9_place 110 = .ok (.iconst 0, 1) := by decide +kernel
theorem dX9_place_111 : decode cX9_place 111 = .ok (.putfield 114, 3) := by decide +kernel
theorem dX9_place_114 : decode cX9_place 114 = .ok (.iload 6, 2) := by decide +kernel
theorem dX9_place_116 : decode cX9_place 116 = .ok (.ireturn, 1) := by decide +kernel
theorem dX9_line_0 : decode cX9_line 0 = .ok (.aload_n 0, 1) := by decide +kernel
theorem dX9_line_1 : decode cX9_line 1 = .ok (.iload_n 1, 1) := by decide +kernel
theorem dX9_line_2 : decode cX9_line 2 = .ok (.invokevirtual 118, 3) := by decide +kernel
theorem dX9_line_5 : decode cX9_line 5 = .ok (.astore 4, 2) := by decide +kernel
theorem dX9_line_7 : decode cX9_line 7 = .ok (.aload 4, 2) := by decide +kernel
theorem dX9_line_9 : decode cX9_line 9 = .ok (.ifnonnull 13, 3) := by decide +kernel
theorem dX9_line_12 : decode cX9_line 12 = .ok (.new 83, 3) := by decide +kernel
theorem dX9_line_15 : decode cX9_line 15 = .ok (.dup, 1) := by decide +kernel
theorem dX9_line_16 : decode cX9_line 16 = .ok (.ldc 122, 2) := by decide +kernel
theorem dX9_line_18 : decode cX9_line 18 = .ok (.invokespecial 87, 3) := by decide +kernel
theorem dX9_line_21 : decode cX9_line 21 = .ok (.athrow, 1) := by decide +kernel
theorem dX9_line_22 : decode cX9_line 22 = .ok (.iload_n 2, 1) := by decide +kernel
theorem dX9_line_23 : decode cX9_line 23 = .ok (.iconst 0, 1) := by decide +kernel
theorem dX9_line_24 : decode cX9_line 24 = .ok (.bipush 99, 2) := by decide +kernel
theorem dX9_line_26 : decode cX9_line 26 = .ok (.invokestatic 90, 3) := by decide +kernel
theorem dX9_line_29 : decode cX9_line 29 = .ok (.ifCond .eq 13, 3) := by decide +kernel
theorem dX9_line_32 : decode cX9_line 32 = .ok (.new 94, 3) := by decide +kernel
theorem dX9_line_35 : decode cX9_line 35 = .ok (.dup, 1) := by decide +kernel
theorem dX9_line_36 : decode cX9_line 36 = .ok (.ldc 124, 2) := by decide +kernel
theorem dX9_line_38 : decode cX9_line 38 = .ok (.invokespecial 98, 3) := by decide +kernel
theorem dX9_line_41 : decode cX9_line 41 = .ok (.athrow, 1) := by decide +kernel
theorem dX9_line_42 : decode cX9_line 42 = .ok (.aload 4, 2) := by decide +kernel
theorem dX9_line_44 : decode cX9_line 44 = .ok (.getfield 126, 3) := by decide +kernel
theorem dX9_line_47 : decode cX9_line 47 = .ok (.istore 5, 2) := by decide +kernel
theorem dX9_line_49 : decode cX9_line 49 = .ok (.aload 4, 2) := by decide +kernel
theorem dX9_line_51 : decode cX9_line 51 = .ok (.iload_n 2, 1) := by decide +kernel
theorem dX9_line_52 : decode cX9_line 52 = .ok (.putfield 126, 3) := by decide +kernel
theorem dX9_line_55 : decode cX9_line 55 = .ok (.aload 4, 2) := by decide +kernel
theorem dX9_line_57 : decode cX9_line 57 = .ok (.iload_n 3, 1) := by decide +kernel
theorem dX9_line_58 : decode cX9_line 58 = .ok (.putfield 129, 3) := by decide +kernel
theorem dX9_line_61 : decode cX9_line 61 = .ok (.iload 5, 2) := by decide +kernel
theorem dX9_line_63 : decode cX9_line 63 = .ok (.ireturn, 1) := by decide +kernel
theorem dX9_trip_0 : decode cX9_trip 0 = .ok (.aload_n 0, 1) := by decide +kernel
theorem dX9_trip_1 : decode cX9_trip 1 = .ok (.iload_n 1, 1) := by decide +kernel
theorem dX9_trip_2 : decode cX9_trip 2 = .ok (.invokevirtual 118, 3) := by decide +kernel
theorem dX9_trip_5 : decode cX9_trip 5 = .ok (.astore 6, 2) := by decide +kernel
theorem dX9_trip_7 : decode cX9_trip 7 = .ok (.aload_n 0, 1) := by decide +kernel
theorem dX9_trip_8 : decode cX9_trip 8 = .ok (.iload_n 2, 1) := by decide +kernel
theorem dX9_trip_9 : decode cX9_trip 9 = .ok (.invokevirtual 79, 3) := by decide +kernel
theorem dX9_trip_12 : decode cX9_trip 12 = .ok (.astore 7, 2) := by decide +kernel
theorem dX9_trip_14 : decode cX9_trip 14 = .ok (.aload_n 0, 1) := by decide +kernel
theorem dX9_trip_15 : decode cX9_trip 15 = .ok (.iload_n 3, 1) := by decide +kernel
theorem dX9_trip_16 : decode cX9_trip 16 = .ok (.invokevirtual 79, 3) := by decide +kernel
theorem dX9_trip_19 : decode cX9_trip 19 = .ok (.astore 8, 2) := by decide +kernel
theorem dX9_trip_21 : decode cX9_trip 21 = .ok (.aload 6, 2) := by decide +kernel
theorem dX9_trip_23 : decode cX9_trip 23 = .ok (.ifnull 13, 3) := by decide +kernel
theorem dX9_trip_26 : decode cX9_trip 26 = .ok (.aload 7, 2) := by decide +kernel
theorem dX9_trip_28 : decode cX9_trip 28 = .ok (.ifnull 8, 3) := by decide +kernel
theorem dX9_trip_31 : decode cX9_trip 31 = .ok (.aload 8, 2) := by decide +kernel
theorem dX9_trip_33 : decode cX9_trip 33 = .ok (.ifnonnull 13, 3) := by decide +kernel
theorem dX9_trip_36 : decode cX9_trip 36 = .ok (.new 83, 3) := by decide +kernel
theorem dX9_trip_39 : decode cX9_trip 39 = .ok (.dup, 1) := by decide +kernel
theorem dX9_trip_40 : decode cX9_trip 40 = .ok (.ldc 132, 2) := by decide +kernel
theorem dX9_trip_42 : decode cX9_trip 42 = .ok (.invokespecial 87, 3) := by decide +kernel
theorem dX9_trip_45 : decode cX9_trip 45 = .ok (.athrow, 1) := by decide +kernel
theorem dX9_trip_46 : decode cX9_trip 46 = .ok (.iload 4, 2) := by decide +kernel
theorem dX9_trip_48 : decode cX9_trip 48 = .ok (.iconst 0, 1) := by decide +kernel
theorem dX9_trip_49 : decode cX9_trip 49 = .ok (.sipush 1439, 3) := by decide +kernel
theorem dX9_trip_52 : decode cX9_trip 52 = .ok (.invokestatic 90, 3) := by decide +kernel
theorem dX9_trip_55 : decode cX9_trip 55 = .ok (.ifCond .ne 14, 3) := by decide +kernel
theorem dX9_trip_58 : decode cX9_trip 58 = .ok (.iload 5, 2) := by decide +kernel
theorem dX9_trip_60 : decode cX9_trip 60 = .ok (.iconst 5, 1) := by decide +kernel
theorem dX9_trip_61 : decode cX9_trip 61 = .ok (.bipush 120, 2) := by decide +kernel
theorem dX9_trip_63 : decode cX9_trip 63 = .ok (.invokestatic 90, 3) := by decide +kernel
theorem dX9_trip_66 : decode cX9_trip 66 = .ok (.ifCond .eq 13, 3) := by decide +kernel
theorem dX9_trip_69 : decode cX9_trip 69 = .ok (.new 94, 3) := by decide +kernel
theorem dX9_trip_72 : decode cX9_trip 72 = .ok (.dup, 1) := by decide +kernel
theorem dX9_trip_73 : decode cX9_trip 73 = .ok (.ldc 134, 2) := by decide +kernel
theorem dX9_trip_75 : decode cX9_trip 75 = .ok (.invokespecial 98, 3) := by decide +kernel
theorem dX9_trip_78 : decode cX9_trip 78 = .ok (.athrow, 1) := by decide +kernel
theorem dX9_trip_79 : decode cX9_trip 79 = .ok (.aload_n 0, 1) := by decide +kernel
theorem dX9_trip_80 : decode cX9_trip 80 = .ok (.getfield 19, 3) := by decide +kernel
theorem dX9_trip_83 : decode cX9_trip 83 = .ok (.invokevirtual 136, 3) := by decide +kernel
theorem dX9_trip_86 : decode cX9_trip 86 = .ok (.istore 9, 2) := by decide +kernel
theorem dX9_trip_88 : decode cX9_trip 88 = .ok (.iload 9, 2) := by decide +kernel
theorem dX9_trip_90 : decode cX9_trip 90 = .ok (.bipush 16, 2) := by decide +kernel
theorem dX9_trip_92 : decode cX9_trip 92 = .ok (.if_icmp .lt 13, 3) := by decide +kernel
theorem dX9_trip_95 : decode cX9_trip 95 = .ok (.new 103, 3) := by decide +kernel
theorem dX9_trip_98 : decode cX9_trip 98 = .ok (.dup, 1) := by decide +kernel
theorem dX9_trip_99 : decode cX9_trip 99 = .ok (.ldc 140, 2) := by decide +kernel
theorem dX9_trip_101 : decode cX9_trip 101 = .ok (.invokespecial 107, 3) := by decide +kernel
theorem dX9_trip_104 : decode cX9_trip 104 = .ok (.athrow, 1) := by decide +kernel
theorem dX9_trip_105 : decode cX9_trip 105 = .ok (.new 142, 3) := by decide +kernel
theorem dX9_trip_108 : decode cX9_trip 108 = .ok (.dup, 1) := by decide +kernel
theorem dX9_trip_109 : decode cX9_trip 109 = .ok (.iload 9, 2) := by decide +kernel
theorem dX9_trip_111 : decode cX9_trip 111 = .ok (.aload 6, 2) := by decide +kernel
theorem dX9_trip_113 : decode cX9_trip 113 = .ok (.aload 7, 2) := by decide +kernel
theorem dX9_trip_115 : decode cX9_trip 115 = .ok (.aload 8, 2) := by decide +kernel
theorem dX9_trip_117 : decode cX9_trip 117 = .ok (.iload 4, 2) := by decide +kernel
theorem dX9_trip_119 : decode cX9_trip 119 = .ok (.iload 5, 2) := by decide +kernel
theorem dX9_trip_121 : decode cX9_trip 121 = .ok (.invokespecial 144, 3) := by decide +kernel
theorem dX9_trip_124 : decode cX9_trip 124 = .ok (.astore 10, 2) := by decide +kernel
theorem dX9_trip_126 : decode cX9_trip 126 = .ok (.aload_n 0, 1) := by decide +kernel
theorem dX9_trip_127 : decode cX9_trip 127 = .ok (.getfield 19, 3) := by decide +kernel
theorem dX9_trip_130 : decode cX9_trip 130 = .ok (.aload 10, 2) := by decide +kernel
theorem dX9_trip_132 : decode cX9_trip 132 = .ok (.invokevirtual 72, 3) := by decide +kernel
theorem dX9_trip_135 : decode cX9_trip 135 = .ok (.pop, 1) := by decide +kernel
theorem dX9_trip_136 : decode cX9_trip 136 = .ok (.aload_n 0, 1) := by decide +kernel
theorem dX9_trip_137 : decode cX9_trip 137 = .ok (.aload 10, 2) := by decide +kernel
theorem dX9_trip_139 : decode cX9_trip 139 = .ok (.invokevirtual 147, 3) := by decide +kernel
theorem dX9_trip_142 : decode cX9_trip 142 = .ok (.iload 9, 2) := by decide +kernel
theorem dX9_trip_144 : decode cX9_trip 144 = .ok (.ireturn, 1) := by decide +kernel
theorem dX9_driver_0 : decode cX9_driver 0 = .ok (.aload_n 0, 1) := by decide +kernel
theorem dX9_driver_1 : decode cX9_driver 1 = .ok (.getfield 28, 3) := by decide +kernel
theorem dX9_driver_4 : decode cX9_driver 4 = .ok (.invokevirtual 136, 3) := by decide +kernel
theorem dX9_driver_7 : decode cX9_driver 7 = .ok (.istore_n 1, 1) := by decide +kernel
theorem dX9_driver_8 : decode cX9_driver 8 = .ok (.iload_n 1, 1) := by decide +kernel
theorem dX9_driver_9 : decode cX9_driver 9 = .ok (.bipush 6, 2) := by decide +kernel
theorem dX9_driver_11 : decode cX9_driver 11 = .ok (.if_icmp .lt 13, 3) := by decide +kernel
theorem dX9_driver_14 : decode cX9_driver 14 = .ok (.new 103, 3) := by decide +kernel
theorem dX9_driver_17 : decode cX9_driver 17 = .ok (.dup, 1) := by decide +kernel
theorem dX9_driver_18 : decode cX9_driver 18 = .ok (.ldc 164, 2) := by decide +kernel
theorem dX9_driver_20 : decode cX9_driver 20 = .ok (.invokespecial 107, 3) := by decide +kernel
theorem dX9_driver_23 : decode cX9_driver 23 = .ok (.athrow, 1) := by decide +kernel
theorem dX9_driver_24 : decode cX9_driver 24 = .ok (.aload_n 0, 1) := by decide +kernel
theorem dX9_driver_25 : decode cX9_driver 25 = .ok (.getfield 28, 3) := by decide +kernel
theorem dX9_driver_28 : decode cX9_driver 28 = .ok (.new 166, 3) := by decide +kernel
theorem dX9_driver_31 : decode cX9_driver 31 = .ok (.dup, 1) := by decide +kernel
theorem dX9_driver_32 : decode cX9_driver 32 = .ok (.iload_n 1, 1) := by decide +kernel
theorem dX9_driver_33 : decode cX9_driver 33 = .ok (.invokespecial 168, 3) := by decide +kernel
theorem dX9_driver_36 : decode cX9_driver 36 = .ok (.invokevirtual 72, 3) := by decide +kernel
theorem dX9_driver_39 : decode cX9_driver 39 = .ok (.pop, 1) := by decide +kernel
theorem dX9_driver_40 : decode cX9_driver 40 = .ok (.iload_n 1, 1) := by decide +kernel
theorem dX9_driver_41 : decode cX9_driver 41 = .ok (.ireturn, 1) := by decide +kernel
theorem dX9_block_0 : decode cX9_block 0 = .ok (.iload_n 1, 1) := by decide +kernel
theorem dX9_block_1 : decode cX9_block 1 = .ok (.bipush 50, 2) := by decide +kernel
theorem dX9_block_3 : decode cX9_block 3 = .ok (.sipush 999, 3) := by decide +kernel
theorem dX9_block_6 : decode cX9_block 6 = .ok (.invokestatic 90, 3) := by decide +kernel
theorem dX9_block_9 : decode cX9_block 9 = .ok (.ifCond .eq 13, 3) := by decide +kernel
theorem dX9_block_12 : decode cX9_block 12 = .ok (.new 94, 3) := by decide +kernel
theorem dX9_block_15 : decode cX9_block 15 = .ok (.dup, 1) := by decide +kernel
theorem dX9_block_16 : decode cX9_block 16 = .ok (.ldc 169, 2) := by decide +kernel
theorem dX9_block_18 : decode cX9_block 18 = .ok (.invokespecial 98, 3) := by decide +kernel
theorem dX9_block_21 : decode cX9_block 21 = .ok (.athrow, 1) := by decide +kernel
theorem dX9_block_22 : decode cX9_block 22 = .ok (.aload_n 0, 1) := by decide +kernel
theorem dX9_block_23 : decode cX9_block 23 = .ok (.getfield 25, 3) := by decide +kernel
theorem dX9_block_26 : decode cX9_block 26 = .ok (.invokevirtual 136, 3) := by decide +kernel
theorem dX9_block_29 : decode cX9_block 29 = .ok (.bipush 8, 2) := by decide +kernel
theorem dX9_block_31 : decode cX9_block 31 = .ok (.if_icmp .lt 13, 3) := by decide +kernel
theorem dX9_block_34 : decode cX9_block 34 = .ok (.new 103, 3) := by decide +kernel
theorem dX9_block_37 : decode cX9_block 37 = .ok (.dup, 1) := by decide +kernel
theorem dX9_block_38 : decode cX9_block 38 = .ok (.ldc 171, 2) := by decide +kernel
theorem dX9_block_40 : decode cX9_block 40 = .ok (.invokespecial 107, 3) := by decide +kernel
theorem dX9_block_43 : decode cX9_block 43 = .ok (.athrow, 1) := by decide +kernel
theorem dX9_block_44 : decode cX9_block 44 = .ok (.aload_n 0, 1) := by decide +kernel
theorem dX9_block_45 : decode cX9_block 45 = .ok (.iload_n 1, 1) := by decide +kernel
theorem dX9_block_46 : decode cX9_block 46 = .ok (.invokevirtual 173, 3) := by decide +kernel
theorem dX9_block_49 : decode cX9_block 49 = .ok (.getfield 177, 3) := by decide +kernel
theorem dX9_block_52 : decode cX9_block 52 = .ok (.ireturn, 1) := by decide +kernel
theorem dX9_append_0 : decode cX9_append 0 = .ok (.aload_n 0, 1) := by decide +kernel
theorem dX9_append_1 : decode cX9_append 1 = .ok (.iload_n 1, 1) := by decide +kernel
theorem dX9_append_2 : decode cX9_append 2 = .ok (.invokevirtual 182, 3) := by decide +kernel
theorem dX9_append_5 : decode cX9_append 5 = .ok (.astore_n 3, 1) := by decide +kernel
theorem dX9_append_6 : decode cX9_append 6 = .ok (.aload_n 0, 1) := by decide +kernel
theorem dX9_append_7 : decode cX9_append 7 = .ok (.iload_n 2, 1) := by decide +kernel
theorem dX9_append_8 : decode cX9_append 8 = .ok (.invokevirtual 185, 3) := by decide +kernel
theorem dX9_append_11 : decode cX9_append 11 = .ok (.astore 4, 2) := by decide +kernel
theorem dX9_append_13 : decode cX9_append 13 = .ok (.aload_n 3, 1) := by decide +kernel
theorem dX9_append_14 : decode cX9_append 14 = .ok (.ifnull 8, 3) := by decide +kernel
theorem dX9_append_17 : decode cX9_append 17 = .ok (.aload 4, 2) := by decide +kernel
theorem dX9_append_19 : decode cX9_append 19 = .ok (.ifnonnull 13, 3) := by decide +kernel
theorem dX9_append_22 : decode cX9_append 22 = .ok (.new 83, 3) := by decide +kernel
theorem dX9_append_25 : decode cX9_append 25 = .ok (.dup, 1) := by decide +kernel
theorem dX9_append_26 : decode cX9_append 26 = .ok (.ldc 189, 2) := by decide +kernel
theorem dX9_append_28 : decode cX9_append 28 = .ok (.invokespecial 87, 3) := by decide +kernel
theorem dX9_append_31 : decode cX9_append 31 = .ok (.athrow, 1) := by decide +kernel
theorem dX9_append_32 : decode cX9_append 32 = .ok (.aload_n 3, 1) := by decide +kernel
theorem dX9_append_33 : decode cX9_append 33 = .ok (.getfield 191, 3) := by decide +kernel
theorem dX9_append_36 : decode cX9_append 36 = .ok (.invokevirtual 194, 3) := by decide +kernel
theorem dX9_append_39 : decode cX9_append 39 = .ok (.astore 5, 2) := by decide +kernel
theorem dX9_append_41 : decode cX9_append 41 = .ok (.aload 4, 2) := by decide +kernel
theorem dX9_append_43 : decode cX9_append 43 = .ok (.getfield 198, 3) := by decide +kernel
theorem dX9_append_46 : decode cX9_append 46 = .ok (.ifnonnull 18, 3) := by decide +kernel
theorem dX9_append_49 : decode cX9_append 49 = .ok (.aload 5, 2) := by decide +kernel
theorem dX9_append_51 : decode cX9_append 51 = .ok (.ifnull 23, 3) := by decide +kernel
theorem dX9_append_54 : decode cX9_append 54 = .ok (.aload 4, 2) := by decide +kernel
theorem dX9_append_56 : decode cX9_append 56 = .ok (.aload 5, 2) := by decide +kernel
theorem dX9_append_58 : decode cX9_append 58 = .ok (.invokevirtual 202, 3) := by decide +kernel
theorem dX9_append_61 : decode cX9_append 61 = .ok (.ifCond .ne 13, 3) := by decide +kernel
theorem dX9_append_64 : decode cX9_append 64 = .ok (.new 103, 3) := by decide +kernel
theorem dX9_append_67 : decode cX9_append 67 = .ok (.dup, 1) := by decide +kernel
theorem dX9_append_68 : decode cX9_append 68 = .ok (.ldc 206, 2) := by decide +kernel
theorem dX9_append_70 : decode cX9_append 70 = .ok (.invokespecial 107, 3) := by decide +kernel
theorem dX9_append_73 : decode cX9_append 73 = .ok (.athrow, 1) := by decide +kernel
theorem dX9_append_74 : decode cX9_append 74 = .ok (.aload_n 3, 1) := by decide +kernel
theorem dX9_append_75 : decode cX9_append 75 = .ok (.aload 4, 2) := by decide +kernel
theorem dX9_append_77 : decode cX9_append 77 = .ok (.invokevirtual 208, 3) := by decide +kernel
theorem dX9_append_80 : decode cX9_append 80 = .ok (.aload_n 3, 1) := by decide +kernel
theorem dX9_append_81 : decode cX9_append 81 = .ok (.getfield 191, 3) := by decide +kernel
theorem dX9_append_84 : decode cX9_append 84 = .ok (.invokevirtual 211, 3) := by decide +kernel
theorem dX9_append_87 : decode cX9_append 87 = .ok (.ireturn, 1) := by decide +kernel
theorem dX9_takeOff_0 : decode cX9_takeOff 0 = .ok (.aload_n 0, 1) := by decide +kernel
theorem dX9_takeOff_1 : decode cX9_takeOff 1 = .ok (.iload_n 1, 1) := by decide +kernel
theorem dX9_takeOff_2 : decode cX9_takeOff 2 = .ok (.invokevirtual 182, 3) := by decide +kernel
theorem dX9_takeOff_5 : decode cX9_takeOff 5 = .ok (.astore_n 2, 1) := by decide +kernel
theorem dX9_takeOff_6 : decode cX9_takeOff 6 = .ok (.aload_n 2, 1) := by decide +kernel
theorem dX9_takeOff_7 : decode cX9_takeOff 7 = .ok (.ifnonnull 13, 3) := by decide +kernel
theorem dX9_takeOff_10 : decode cX9_takeOff 10 = .ok (.new 83, 3) := by decide +kernel
theorem dX9_takeOff_13 : decode cX9_takeOff 13 = .ok (.dup, 1) := by decide +kernel
theorem dX9_takeOff_14 : decode cX9_takeOff 14 = .ok (.ldc 214, 2) := by decide +kernel
theorem dX9_takeOff_16 : decode cX9_takeOff 16 = .ok (.invokespecial 87, 3) := by decide +kernel
theorem dX9_takeOff_19 : decode cX9_takeOff 19 = .ok (.athrow, 1) := by decide +kernel
theorem dX9_takeOff_20 : decode cX9_takeOff 20 = .ok (.aload_n 2, 1) := by decide +kernel
theorem dX9_takeOff_21 : decode cX9_takeOff 21 = .ok (.invokevirtual 216, 3) := by decide +kernel
theorem dX9_takeOff_24 : decode cX9_takeOff 24 = .ok (.astore_n 3, 1) := by decide +kernel
theorem dX9_takeOff_25 : decode cX9_takeOff 25 = .ok (.aload_n 3, 1) := by decide +kernel
theorem dX9_takeOff_26 : decode cX9_takeOff 26 = .ok (.ifnonnull 13, 3) := by decide +kernel
theorem dX9_takeOff_29 : decode cX9_takeOff 29 = .ok (.new 103, 3) := by decide +kernel
theorem dX9_takeOff_32 : decode cX9_takeOff 32 = .ok (.dup, 1) := by decide +kernel
theorem dX9_takeOff_33 : decode cX9_takeOff 33 = .ok (.ldc 219, 2) := by decide +kernel
theorem dX9_takeOff_35 : decode cX9_takeOff 35 = .ok (.invokespecial 107, 3) := by decide +kernel
theorem dX9_takeOff_38 : decode cX9_takeOff 38 = .ok (.athrow, 1) := by decide +kernel
theorem dX9_takeOff_39 : decode cX9_takeOff 39 = .ok (.aload_n 3, 1) := by decide +kernel
theorem dX9_takeOff_40 : decode cX9_takeOff 40 = .ok (.getfield 221, 3) := by decide +kernel
theorem dX9_takeOff_43 : decode cX9_takeOff 43 = .ok (.ireturn, 1) := by decide +kernel
theorem dX9_build_0 : decode cX9_build 0 = .ok (.iload_n 1, 1) := by decide +kernel
theorem dX9_build_1 : decode cX9_build 1 = .ok (.bipush 50, 2) := by decide +kernel
theorem dX9_build_3 : decode cX9_build 3 = .ok (.sipush 999, 3) := by decide +kernel
theorem dX9_build_6 : decode cX9_build 6 = .ok (.invokestatic 90, 3) := by decide +kernel
theorem dX9_build_9 : decode cX9_build 9 = .ok (.ifCond .eq 13, 3) := by decide +kernel
theorem dX9_build_12 : decode cX9_build 12 = .ok (.new 94, 3) := by decide +kernel
theorem dX9_build_15 : decode cX9_build 15 = .ok (.dup, 1) := by decide +kernel
theorem dX9_build_16 : decode cX9_build 16 = .ok (.ldc 169, 2) := by decide +kernel
theorem dX9_build_18 : decode cX9_build 18 = .ok (.invokespecial 98, 3) := by decide +kernel
theorem dX9_build_21 : decode cX9_build 21 = .ok (.athrow, 1) := by decide +kernel
theorem dX9_build_22 : decode cX9_build 22 = .ok (.iconst 0, 1) := by decide +kernel
theorem dX9_build_23 : decode cX9_build 23 = .ok (.istore_n 2, 1) := by decide +kernel
theorem dX9_build_24 : decode cX9_build 24 = .ok (.iconst 0, 1) := by decide +kernel
theorem dX9_build_25 : decode cX9_build 25 = .ok (.istore_n 3, 1) := by decide +kernel
theorem dX9_build_26 : decode cX9_build 26 = .ok (.iload_n 3, 1) := by decide +kernel
theorem dX9_build_27 : decode cX9_build 27 = .ok (.aload_n 0, 1) := by decide +kernel
theorem dX9_build_28 : decode cX9_build 28 = .ok (.getfield 22, 3) := by decide +kernel
theorem dX9_build_31 : decode cX9_build 31 = .ok (.invokevirtual 136, 3) := by decide +kernel
theorem dX9_build_34 : decode cX9_build 34 = .ok (.if_icmp .ge 43, 3) := by decide +kernel
theorem dX9_build_37 : decode cX9_build 37 = .ok (.aload_n 0, 1) := by decide +kernel
theorem dX9_build_38 : decode cX9_build 38 = .ok (.getfield 22, 3) := by decide +kernel
theorem dX9_build_41 : decode cX9_build 41 = .ok (.iload_n 3, 1) := by decide +kernel
theorem dX9_build_42 : decode cX9_build 42 = .ok (.invokevirtual 222, 3) := by decide +kernel
theorem dX9_build_45 : decode cX9_build 45 = .ok (.checkcast 142, 3) := by decide +kernel
theorem dX9_build_48 : decode cX9_build 48 = .ok (.astore 4, 2) := by decide +kernel
theorem dX9_build_50 : decode cX9_build 50 = .ok (.aload 4, 2) := by decide +kernel
theorem dX9_build_52 : decode cX9_build 52 = .ok (.getfield 198, 3) := by decide +kernel
theorem dX9_build_55 : decode cX9_build 55 = .ok (.ifnonnull 16, 3) := by decide +kernel
theorem dX9_build_58 : decode cX9_build 58 = .ok (.aload_n 0, 1) := by decide +kernel
theorem dX9_build_59 : decode cX9_build 59 = .ok (.aload 4, 2) := by decide +kernel
theorem dX9_build_61 : decode cX9_build 61 = .ok (.iload_n 1, 1) := by decide +kernel
theorem dX9_build_62 : decode cX9_build 62 = .ok (.invokevirtual 226, 3) := by decide +kernel
theorem dX9_build_65 : decode cX9_build 65 = .ok (.ifCond .eq 6, 3) := by decide +kernel
theorem dX9_build_68 : decode cX9_build 68 = .ok (.iinc 2 1, 3) := by decide +kernel
theorem dX9_build_71 : decode cX9_build 71 = .ok (.iinc 3 1, 3) := by decide +kernel
theorem dX9_build_74 : decode cX9_build 74 = .ok (.goto (-48), 3) := by decide +kernel
theorem dX9_build_77 : decode cX9_build 77 = .ok (.iload_n 2, 1) := by decide +kernel
theorem dX9_build_78 : decode cX9_build 78 = .ok (.ireturn, 1) := by decide +kernel
theorem dX9_swap_0 : decode cX9_swap 0 = .ok (.aload_n 0, 1) := by decide +kernel
theorem dX9_swap_1 : decode cX9_swap 1 = .ok (.iload_n 1, 1) := by decide +kernel
theorem dX9_swap_2 : decode cX9_swap 2 = .ok (.invokevirtual 182, 3) := by decide +kernel
theorem dX9_swap_5 : decode cX9_swap 5 = .ok (.astore 5, 2) := by decide +kernel
theorem dX9_swap_7 : decode cX9_swap 7 = .ok (.aload_n 0, 1) := by decide +kernel
theorem dX9_swap_8 : decode cX9_swap 8 = .ok (.iload_n 3, 1) := by decide +kernel
theorem dX9_swap_9 : decode cX9_swap 9 = .ok (.invokevirtual 182, 3) := by decide +kernel
theorem dX9_swap_12 : decode cX9_swap 12 = .ok (.astore 6, 2) := by decide +kernel
theorem dX9_swap_14 : decode cX9_swap 14 = .ok (.aload 5, 2) := by decide +kernel
theorem dX9_swap_16 : decode cX9_swap 16 = .ok (.ifnull 8, 3) := by decide +kernel
theorem dX9_swap_19 : decode cX9_swap 19 = .ok (.aload 6, 2) := by decide +kernel
theorem dX9_swap_21 : decode cX9_swap 21 = .ok (.ifnonnull 13, 3) := by decide +kernel
theorem dX9_swap_24 : decode cX9_swap 24 = .ok (.new 83, 3) := by decide +kernel
theorem dX9_swap_27 : decode cX9_swap 27 = .ok (.dup, 1) := by decide +kernel
theorem dX9_swap_28 : decode cX9_swap 28 = .ok (.ldc 214, 2) := by decide +kernel
theorem dX9_swap_30 : decode cX9_swap 30 = .ok (.invokespecial 87, 3) := by decide +kernel
theorem dX9_swap_33 : decode cX9_swap 33 = .ok (.athrow, 1) := by decide +kernel
theorem dX9_swap_34 : decode cX9_swap 34 = .ok (.aload 5, 2) := by decide +kernel
theorem dX9_swap_36 : decode cX9_swap 36 = .ok (.getfield 191, 3) := by decide +kernel
theorem dX9_swap_39 : decode cX9_swap 39 = .ok (.astore 7, 2) := by decide +kernel
theorem dX9_swap_41 : decode cX9_swap 41 = .ok (.aload 6, 2) := by decide +kernel
theorem dX9_swap_43 : decode cX9_swap 43 = .ok (.getfield 191, 3) := by decide +kernel
theorem dX9_swap_46 : decode cX9_swap 46 = .ok (.astore 8, 2) := by decide +kernel
theorem dX9_swap_48 : decode cX9_swap 48 = .ok (.iload_n 1, 1) := by decide +kernel
theorem dX9_swap_49 : decode cX9_swap 49 = .ok (.iload_n 3, 1) := by decide +kernel
theorem dX9_swap_50 : decode cX9_swap 50 = .ok (.if_icmp .eq 30, 3) := by decide +kernel
theorem dX9_swap_53 : decode cX9_swap 53 = .ok (.iload_n 2, 1) := by decide +kernel
theorem dX9_swap_54 : decode cX9_swap 54 = .ok (.iconst 0, 1) := by decide +kernel
theorem dX9_swap_55 : decode cX9_swap 55 = .ok (.aload 7, 2) := by decide +kernel
theorem dX9_swap_57 : decode cX9_swap 57 = .ok (.invokevirtual 211, 3) := by decide +kernel
theorem dX9_swap_60 : decode cX9_swap 60 = .ok (.invokestatic 90, 3) := by decide +kernel
theorem dX9_swap_63 : decode cX9_swap 63 = .ok (.ifCond .ne 17, 3) := by decide +kernel
theorem dX9_swap_66 : decode cX9_swap 66 = .ok (.iload 4, 2) := by decide +kernel
theorem dX9_swap_68 : decode cX9_swap 68 = .ok (.iconst 0, 1) := by decide +kernel
theorem dX9_swap_69 : decode cX9_swap 69 = .ok (.aload 8, 2) := by decide +kernel
theorem dX9_swap_71 : decode cX9_swap 71 = .ok (.invokevirtual 211, 3) := by decide +kernel
theorem dX9_swap_74 : decode cX9_swap 74 = .ok (.invokestatic 90, 3) := by decide +kernel
theorem dX9_swap_77 : decode cX9_swap 77 = .ok (.ifCond .eq 13, 3) := by decide +kernel
theorem dX9_swap_80 : decode cX9_swap 80 = .ok (.new 94, 3) := by decide +kernel
theorem dX9_swap_83 : decode cX9_swap 83 = .ok (.dup, 1) := by decide +kernel
theorem dX9_swap_84 : decode cX9_swap 84 = .ok (.ldc 230, 2) := by decide +kernel
theorem dX9_swap_86 : decode cX9_swap 86 = .ok (.invokespecial 98, 3) := by decide +kernel
theorem dX9_swap_89 : decode cX9_swap 89 = .ok (.athrow, 1) := by decide +kernel
theorem dX9_swap_90 : decode cX9_swap 90 = .ok (.aload 7, 2) := by decide +kernel
theorem dX9_swap_92 : decode cX9_swap 92 = .ok (.iload_n 2, 1) := by decide +kernel
theorem dX9_swap_93 : decode cX9_swap 93 = .ok (.aload 8, 2) := by decide +kernel
theorem dX9_swap_95 : decode cX9_swap 95 = .ok (.iload 4, 2) := by decide +kernel
theorem dX9_swap_97 : decode cX9_swap 97 = .ok (.invokestatic 232, 3) := by decide +kernel
theorem dX9_swap_100 : decode cX9_swap 100 = .ok (.ifCond .ne 13, 3) := by decide +kernel
theorem dX9_swap_103 : decode cX9_swap 103 = .ok (.new 103, 3) := by decide +kernel
theorem dX9_swap_106 : decode cX9_swap 106 = .ok (.dup, 1) := by decide +kernel
theorem dX9_swap_107 : decode cX9_swap 107 = .ok (.ldc 236, 2) := by decide +kernel
theorem dX9_swap_109 : decode cX9_swap 109 = .ok (.invokespecial 107, 3) := by decide +kernel
theorem dX9_swap_112 : decode cX9_swap 112 = .ok (.athrow, 1) := by decide +kernel
theorem dX9_swap_113 : decode cX9_swap 113 = .ok (.aload 7, 2) := by decide +kernel
theorem dX9_swap_115 : decode cX9_swap 115 = .ok (.invokevirtual 211, 3) := by decide +kernel
theorem dX9_swap_118 : decode cX9_swap 118 = .ok (.iload_n 2, 1) := by decide +kernel
theorem dX9_swap_119 : decode cX9_swap 119 = .ok (.isub, 1) := by decide +kernel
theorem dX9_swap_120 : decode cX9_swap 120 = .ok (.aload 8, 2) := by decide +kernel
theorem dX9_swap_122 : decode cX9_swap 122 = .ok (.invokevirtual 211, 3) := by decide +kernel
theorem dX9_swap_125 : decode cX9_swap 125 = .ok (.iadd, 1) := by decide +kernel
theorem dX9_swap_126 : decode cX9_swap 126 = .ok (.iload 4, 2) := by decide +kernel
theorem dX9_swap_128 : decode cX9_swap 128 = .ok (.isub, 1) := by decide +kernel
theorem dX9_swap_129 : decode cX9_swap 129 = .ok (.istore 9, 2) := by decide +kernel
theorem dX9_swap_131 : decode cX9_swap 131 = .ok (.aload_n 0, 1) := by decide +kernel
theorem dX9_swap_132 : decode cX9_swap 132 = .ok (.aload 7, 2) := by decide +kernel
theorem dX9_swap_134 : decode cX9_swap 134 = .ok (.iload_n 2, 1) := by decide +kernel
theorem dX9_swap_135 : decode cX9_swap 135 = .ok (.aload 8, 2) := by decide +kernel
theorem dX9_swap_137 : decode cX9_swap 137 = .ok (.iload 4, 2) := by decide +kernel
theorem dX9_swap_139 : decode cX9_swap 139 = .ok (.invokevirtual 238, 3) := by decide +kernel
theorem dX9_swap_142 : decode cX9_swap 142 = .ok (.aload 5, 2) := by decide +kernel
theorem dX9_swap_144 : decode cX9_swap 144 = .ok (.aload_n 0, 1) := by decide +kernel
theorem dX9_swap_145 : decode cX9_swap 145 = .ok (.getfield 45, 3) := by decide +kernel
theorem dX9_swap_148 : decode cX9_swap 148 = .ok (.invokevirtual 242, 3) := by decide +kernel
theorem dX9_swap_151 : decode cX9_swap 151 = .ok (.aload 6, 2) := by decide +kernel
theorem dX9_swap_153 : decode cX9_swap 153 = .ok (.aload_n 0, 1) := by decide +kernel
theorem dX9_swap_154 : decode cX9_swap 154 = .ok (.getfield 49, 3) := by decide +kernel
theorem dX9_swap_157 : decode cX9_swap 157 = .ok (.invokevirtual 242, 3) := by decide +kernel
theorem dX9_swap_160 : decode cX9_swap 160 = .ok (.iload 9, 2) := by decide +kernel
theorem dX9_swap_162 : decode cX9_swap 162 = .ok (.ireturn, 1) := by decide +kernel
theorem dX9_cut_0 : decode cX9_cut 0 = .ok (.aload_n 0, 1) := by decide +kernel
theorem dX9_cut_1 : decode cX9_cut 1 = .ok (.iload_n 1, 1) := by decide +kernel
theorem dX9_cut_2 : decode cX9_cut 2 = .ok (.invokevirtual 182, 3) := by decide +kernel
theorem dX9_cut_5 : decode cX9_cut 5 = .ok (.astore_n 2, 1) := by decide +kernel
theorem dX9_cut_6 : decode cX9_cut 6 = .ok (.aload_n 2, 1) := by decide +kernel
theorem dX9_cut_7 : decode cX9_cut 7 = .ok (.ifnonnull 13, 3) := by decide +kernel
theorem dX9_cut_10 : decode cX9_cut 10 = .ok (.new 83, 3) := by decide +kernel
theorem dX9_cut_13 : decode cX9_cut 13 = .ok (.dup, 1) := by decide +kernel
theorem dX9_cut_14 : decode cX9_cut 14 = .ok (.ldc 214, 2) := by decide +kernel
theorem dX9_cut_16 : decode cX9_cut 16 = .ok (.invokespecial 87, 3) := by decide +kernel
theorem dX9_cut_19 : decode cX9_cut 19 = .ok (.athrow, 1) := by decide +kernel
theorem dX9_cut_20 : decode cX9_cut 20 = .ok (.aload_n 0, 1) := by decide +kernel
theorem dX9_cut_21 : decode cX9_cut 21 = .ok (.getfield 34, 3) := by decide +kernel
theorem dX9_cut_24 : decode cX9_cut 24 = .ok (.aload_n 2, 1) := by decide +kernel
theorem dX9_cut_25 : decode cX9_cut 25 = .ok (.getfield 191, 3) := by decide +kernel
theorem dX9_cut_28 : decode cX9_cut 28 = .ok (.aload_n 0, 1) := by decide +kernel
theorem dX9_cut_29 : decode cX9_cut 29 = .ok (.getfield 52, 3) := by decide +kernel
theorem dX9_cut_32 : decode cX9_cut 32 = .ok (.invokevirtual 246, 3) := by decide +kernel
theorem dX9_cut_35 : decode cX9_cut 35 = .ok (.istore_n 3, 1) := by decide +kernel
theorem dX9_cut_36 : decode cX9_cut 36 = .ok (.iload_n 3, 1) := by decide +kernel
theorem dX9_cut_37 : decode cX9_cut 37 = .ok (.ifCond .ne 13, 3) := by decide +kernel
theorem dX9_cut_40 : decode cX9_cut 40 = .ok (.new 103, 3) := by decide +kernel
theorem dX9_cut_43 : decode cX9_cut 43 = .ok (.dup, 1) := by decide +kernel
theorem dX9_cut_44 : decode cX9_cut 44 = .ok (.ldc 250, 2) := by decide +kernel
theorem dX9_cut_46 : decode cX9_cut 46 = .ok (.invokespecial 107, 3) := by decide +kernel
theorem dX9_cut_49 : decode cX9_cut 49 = .ok (.athrow, 1) := by decide +kernel
theorem dX9_cut_50 : decode cX9_cut 50 = .ok (.aload_n 2, 1) := by decide +kernel
theorem dX9_cut_51 : decode cX9_cut 51 = .ok (.aload_n 0, 1) := by decide +kernel
theorem dX9_cut_52 : decode cX9_cut 52 = .ok (.getfield 52, 3) := by decide +kernel
theorem dX9_cut_55 : decode cX9_cut 55 = .ok (.iload_n 3, 1) := by decide +kernel
theorem dX9_cut_56 : decode cX9_cut 56 = .ok (.invokevirtual 252, 3) := by decide +kernel
theorem dX9_cut_59 : decode cX9_cut 59 = .ok (.iload_n 3, 1) := by decide +kernel
theorem dX9_cut_60 : decode cX9_cut 60 = .ok (.ireturn, 1) := by decide +kernel
theorem dX9_give_0 : decode cX9_give 0 = .ok (.aload_n 0, 1) := by decide +kernel
theorem dX9_give_1 : decode cX9_give 1 = .ok (.iload_n 1, 1) := by decide +kernel
theorem dX9_give_2 : decode cX9_give 2 = .ok (.iload_n 2, 1) := by decide +kernel
theorem dX9_give_3 : decode cX9_give 3 = .ok (.invokevirtual 256, 3) := by decide +kernel
theorem dX9_give_6 : decode cX9_give 6 = .ok (.astore 4, 2) := by decide +kernel
theorem dX9_give_8 : decode cX9_give 8 = .ok (.aload_n 0, 1) := by decide +kernel
theorem dX9_give_9 : decode cX9_give 9 = .ok (.iload_n 3, 1) := by decide +kernel
theorem dX9_give_10 : decode cX9_give 10 = .ok (.invokevirtual 260, 3) := by decide +kernel
theorem dX9_give_13 : decode cX9_give 13 = .ok (.astore 5, 2) := by decide +kernel
theorem dX9_give_15 : decode cX9_give 15 = .ok (.aload 4, 2) := by decide +kernel
theorem dX9_give_17 : decode cX9_give 17 = .ok (.ifnull 8, 3) := by decide +kernel
theorem dX9_give_20 : decode cX9_give 20 = .ok (.aload 5, 2) := by decide +kernel
theorem dX9_give_22 : decode cX9_give 22 = .ok (.ifnonnull 14, 3) := by decide +kernel
theorem dX9_give_25 : decode cX9_give 25 = .ok (.new 83, 3) := by decide +kernel
theorem dX9_give_28 : decode cX9_give 28 = .ok (.dup, 1) := by decide +kernel
theorem dX9_give_29 : decode cX9_give 29 = .ok (.ldc_w 264, 3) := by decide +kernel
theorem dX9_give_32 : decode cX9_give 32 = .ok (.invokespecial 87, 3) := by decide +kernel
theorem dX9_give_35 : decode cX9_give 35 = .ok (.athrow, 1) := by decide +kernel
theorem dX9_give_36 : decode cX9_give 36 = .ok (.aload 4, 2) := by decide +kernel
theorem dX9_give_38 : decode cX9_give 38 = .ok (.getfield 266, 3) := by decide +kernel
theorem dX9_give_41 : decode cX9_give 41 = .ok (.ifnonnull 13, 3) := by decide +kernel
theorem dX9_give_44 : decode cX9_give 44 = .ok (.aload 5, 2) := by decide +kernel
theorem dX9_give_46 : decode cX9_give 46 = .ok (.aload 4, 2) := by decide +kernel
theorem dX9_give_48 : decode cX9_give 48 = .ok (.invokevirtual 272, 3) := by decide +kernel
theorem dX9_give_51 : decode cX9_give 51 = .ok (.ifCond .ne 14, 3) := by decide +kernel
theorem dX9_give_54 : decode cX9_give 54 = .ok (.new 103, 3) := by decide +kernel
theorem dX9_give_57 : decode cX9_give 57 = .ok (.dup, 1) := by decide +kernel
theorem dX9_give_58 : decode cX9_give 58 = .ok (.ldc_w 276, 3) := by decide +kernel
theorem dX9_give_61 : decode cX9_give 61 = .ok (.invokespecial 107, 3) := by decide +kernel
theorem dX9_give_64 : decode cX9_give 64 = .ok (.athrow, 1) := by decide +kernel
theorem dX9_give_65 : decode cX9_give 65 = .ok (.aload 4, 2) := by decide +kernel
theorem dX9_give_67 : decode cX9_give 67 = .ok (.aload 5, 2) := by decide +kernel
theorem dX9_give_69 : decode cX9_give 69 = .ok (.putfield 266, 3) := by decide +kernel
theorem dX9_give_72 : decode cX9_give 72 = .ok (.aload 5, 2) := by decide +kernel
theorem dX9_give_74 : decode cX9_give 74 = .ok (.getfield 278, 3) := by decide +kernel
theorem dX9_give_77 : decode cX9_give 77 = .ok (.aload 4, 2) := by decide +kernel
theorem dX9_give_79 : decode cX9_give 79 = .ok (.invokevirtual 72, 3) := by decide +kernel
theorem dX9_give_82 : decode cX9_give 82 = .ok (.pop, 1) := by decide +kernel
theorem dX9_give_83 : decode cX9_give 83 = .ok (.aload 5, 2) := by decide +kernel
theorem dX9_give_85 : decode cX9_give 85 = .ok (.invokevirtual 281, 3) := by decide +kernel
theorem dX9_give_88 : decode cX9_give 88 = .ok (.ireturn, 1) := by decide +kernel
theorem dX9_delay_0 : decode cX9_delay 0 = .ok (.aload_n 0, 1) := by decide +kernel
theorem dX9_delay_1 : decode cX9_delay 1 = .ok (.iload_n 1, 1) := by decide +kernel
theorem dX9_delay_2 : decode cX9_delay 2 = .ok (.invokevirtual 185, 3) := by decide +kernel
theorem dX9_delay_5 : decode cX9_delay 5 = .ok (.astore_n 3, 1) := by decide +kernel
theorem dX9_delay_6 : decode cX9_delay 6 = .ok (.aload_n 3, 1) := by decide +kernel
theorem dX9_delay_7 : decode cX9_delay 7 = .ok (.ifnonnull 14, 3) := by decide +kernel
theorem dX9_delay_10 : decode cX9_delay 10 = .ok (.new 83, 3) := by decide +kernel
theorem dX9_delay_13 : decode cX9_delay 13 = .ok (.dup, 1) := by decide +kernel
theorem dX9_delay_14 : decode cX9_delay 14 = .ok (.ldc_w 292, 3) := by decide +kernel
theorem dX9_delay_17 : decode cX9_delay 17 = .ok (.invokespecial 87, 3) := by decide +kernel
theorem dX9_delay_20 : decode cX9_delay 20 = .ok (.athrow, 1) := by decide +kernel
theorem dX9_delay_21 : decode cX9_delay 21 = .ok (.iload_n 2, 1) := by decide +kernel
theorem dX9_delay_22 : decode cX9_delay 22 = .ok (.iconst 0, 1) := by decide +kernel
theorem dX9_delay_23 : decode cX9_delay 23 = .ok (.bipush 120, 2) := by decide +kernel
theorem dX9_delay_25 : decode cX9_delay 25 = .ok (.invokestatic 90, 3) := by decide +kernel
theorem dX9_delay_28 : decode cX9_delay 28 = .ok (.ifCond .eq 14, 3) := by decide +kernel
theorem dX9_delay_31 : decode cX9_delay 31 = .ok (.new 94, 3) := by decide +kernel
theorem dX9_delay_34 : decode cX9_delay 34 = .ok (.dup, 1) := by decide +kernel
theorem dX9_delay_35 : decode cX9_delay 35 = .ok (.ldc_w 294, 3) := by decide +kernel
theorem dX9_delay_38 : decode cX9_delay 38 = .ok (.invokespecial 98, 3) := by decide +kernel
theorem dX9_delay_41 : decode cX9_delay 41 = .ok (.athrow, 1) := by decide +kernel
theorem dX9_delay_42 : decode cX9_delay 42 = .ok (.aload_n 3, 1) := by decide +kernel
theorem dX9_delay_43 : decode cX9_delay 43 = .ok (.getfield 296, 3) := by decide +kernel
theorem dX9_delay_46 : decode cX9_delay 46 = .ok (.istore 4, 2) := by decide +kernel
theorem dX9_delay_48 : decode cX9_delay 48 = .ok (.aload_n 3, 1) := by decide +kernel
theorem dX9_delay_49 : decode cX9_delay 49 = .ok (.iload_n 2, 1) := by decide +kernel
theorem dX9_delay_50 : decode cX9_delay 50 = .ok (.putfield 296, 3) := by decide +kernel
theorem dX9_delay_53 : decode cX9_delay 53 = .ok (.iload 4, 2) := by decide +kernel
theorem dX9_delay_55 : decode cX9_delay 55 = .ok (.ireturn, 1) := by decide +kernel
theorem dX9_breakdown_0 : decode cX9_breakdown 0 = .ok (.aload_n 0, 1) := by decide +kernel
theorem dX9_breakdown_1 : decode cX9_breakdown 1 = .ok (.iload_n 1, 1) := by decide +kernel
theorem dX9_breakdown_2 : decode cX9_breakdown 2 = .ok (.invokevirtual 182, 3) := by decide +kernel
theorem dX9_breakdown_5 : decode cX9_breakdown 5 = .ok (.astore_n 3, 1) := by decide +kernel
theorem dX9_breakdown_6 : decode cX9_breakdown 6 = .ok (.aload_n 3, 1) := by decide +kernel
theorem dX9_breakdown_7 : decode cX9_breakdown 7 = .ok (.ifnonnull 13, 3) := by decide +kernel
theorem dX9_breakdown_10 : decode cX9_breakdown 10 = .ok (.new 83, 3) := by decide +kernel
theorem dX9_breakdown_13 : decode cX9_breakdown 13 = .ok (.dup, 1) := by decide +kernel
theorem dX9_breakdown_14 : decode cX9_breakdown 14 = .ok (.ldc 214, 2) := by decide +kernel
theorem dX9_breakdown_16 : decode cX9_breakdown 16 = .ok (.invokespecial 87, 3) := by decide +kernel
theorem dX9_breakdown_19 : decode cX9_breakdown 19 = .ok (.athrow, 1) := by decide +kernel
theorem dX9_breakdown_20 : decode cX9_breakdown 20 = .ok (.iload_n 2, 1) := by decide +kernel
theorem dX9_breakdown_21 : decode cX9_breakdown 21 = .ok (.iconst (-1), 1) := by decide +kernel
theorem dX9_breakdown_22 : decode cX9_breakdown 22 = .ok (.sipush 1600, 3) := by decide +kernel
theorem dX9_breakdown_25 : decode cX9_breakdown 25 = .ok (.invokestatic 90, 3) := by decide +kernel
theorem dX9_breakdown_28 : decode cX9_breakdown 28 = .ok (.ifCond .eq 14, 3) := by decide +kernel
theorem dX9_breakdown_31 : decode cX9_breakdown 31 = .ok (.new 94, 3) := by decide +kernel
theorem dX9_breakdown_34 : decode cX9_breakdown 34 = .ok (.dup, 1) := by decide +kernel
theorem dX9_breakdown_35 : decode cX9_breakdown 35 = .ok (.ldc_w 299, 3) := by decide +kernel
theorem dX9_breakdown_38 : decode cX9_breakdown 38 = .ok (.invokespecial 98, 3) := by decide +kernel
theorem dX9_breakdown_41 : decode cX9_breakdown 41 = .ok (.athrow, 1) := by decide +kernel
theorem dX9_breakdown_42 : decode cX9_breakdown 42 = .ok (.aload_n 3, 1) := by decide +kernel
theorem dX9_breakdown_43 : decode cX9_breakdown 43 = .ok (.getfield 301, 3) := by decide +kernel
theorem dX9_breakdown_46 : decode cX9_breakdown 46 = .ok (.istore 4, 2) := by decide +kernel
theorem dX9_breakdown_48 : decode cX9_breakdown 48 = .ok (.aload_n 3, 1) := by decide +kernel
theorem dX9_breakdown_49 : decode cX9_breakdown 49 = .ok (.iload_n 2, 1) := by decide +kernel
theorem dX9_breakdown_50 : decode cX9_breakdown 50 = .ok (.putfield 301, 3) := by decide +kernel
theorem dX9_breakdown_53 : decode cX9_breakdown 53 = .ok (.iload 4, 2) := by decide +kernel
theorem dX9_breakdown_55 : decode cX9_breakdown 55 = .ok (.ireturn, 1) := by decide +kernel
theorem dX9_sick_0 : decode cX9_sick 0 = .ok (.aload_n 0, 1) := by decide +kernel
theorem dX9_sick_1 : decode cX9_sick 1 = .ok (.iload_n 1, 1) := by decide +kernel
theorem dX9_sick_2 : decode cX9_sick 2 = .ok (.invokevirtual 260, 3) := by decide +kernel
theorem dX9_sick_5 : decode cX9_sick 5 = .ok (.astore_n 3, 1) := by decide +kernel
theorem dX9_sick_6 : decode cX9_sick 6 = .ok (.aload_n 3, 1) := by decide +kernel
theorem dX9_sick_7 : decode cX9_sick 7 = .ok (.ifnonnull 14, 3) := by decide +kernel
theorem dX9_sick_10 : decode cX9_sick 10 = .ok (.new 83, 3) := by decide +kernel
theorem dX9_sick_13 : decode cX9_sick 13 = .ok (.dup, 1) := by decide +kernel
theorem dX9_sick_14 : decode cX9_sick 14 = .ok (.ldc_w 304, 3) := by decide +kernel
theorem dX9_sick_17 : decode cX9_sick 17 = .ok (.invokespecial 87, 3) := by decide +kernel
theorem dX9_sick_20 : decode cX9_sick 20 = .ok (.athrow, 1) := by decide +kernel
theorem dX9_sick_21 : decode cX9_sick 21 = .ok (.aload_n 3, 1) := by decide +kernel
theorem dX9_sick_22 : decode cX9_sick 22 = .ok (.getfield 306, 3) := by decide +kernel
theorem dX9_sick_25 : decode cX9_sick 25 = .ok (.istore 4, 2) := by decide +kernel
theorem dX9_sick_27 : decode cX9_sick 27 = .ok (.aload_n 3, 1) := by decide +kernel
theorem dX9_sick_28 : decode cX9_sick 28 = .ok (.iload_n 2, 1) := by decide +kernel
theorem dX9_sick_29 : decode cX9_sick 29 = .ok (.putfield 306, 3) := by decide +kernel
theorem dX9_sick_32 : decode cX9_sick 32 = .ok (.iload 4, 2) := by decide +kernel
theorem dX9_sick_34 : decode cX9_sick 34 = .ok (.ireturn, 1) := by decide +kernel
theorem dX9_ofTrip_0 : decode cX9_ofTrip 0 = .ok (.aload_n 0, 1) := by decide +kernel
theorem dX9_ofTrip_1 : decode cX9_ofTrip 1 = .ok (.iload_n 1, 1) := by decide +kernel
theorem dX9_ofTrip_2 : decode cX9_ofTrip 2 = .ok (.invokevirtual 185, 3) := by decide +kernel
theorem dX9_ofTrip_5 : decode cX9_ofTrip 5 = .ok (.astore_n 3, 1) := by decide +kernel
theorem dX9_ofTrip_6 : decode cX9_ofTrip 6 = .ok (.aload_n 3, 1) := by decide +kernel
theorem dX9_ofTrip_7 : decode cX9_ofTrip 7 = .ok (.ifnonnull 14, 3) := by decide +kernel
theorem dX9_ofTrip_10 : decode cX9_ofTrip 10 = .ok (.new 83, 3) := by decide +kernel
theorem dX9_ofTrip_13 : decode cX9_ofTrip 13 = .ok (.dup, 1) := by decide +kernel
theorem dX9_ofTrip_14 : decode cX9_ofTrip 14 = .ok (.ldc_w 292, 3) := by decide +kernel
theorem dX9_ofTrip_17 : decode cX9_ofTrip 17 = .ok (.invokespecial 87, 3) := by decide +kernel
theorem dX9_ofTrip_20 : decode cX9_ofTrip 20 = .ok (.athrow, 1) := by decide +kernel
theorem dX9_ofTrip_21 : decode cX9_ofTrip 21 = .ok (.iload_n 2, 1) := by decide +kernel
theorem dX9_ofTrip_22 : decode cX9_ofTrip 22 = .ok (.iconst 0, 1) := by decide +kernel
theorem dX9_ofTrip_23 : decode cX9_ofTrip 23 = .ok (.bipush 10, 2) := by decide +kernel
theorem dX9_ofTrip_25 : decode cX9_ofTrip 25 = .ok (.invokestatic 90, 3) := by decide +kernel
theorem dX9_ofTrip_28 : decode cX9_ofTrip 28 = .ok (.ifCond .eq 14, 3) := by decide +kernel
theorem dX9_ofTrip_31 : decode cX9_ofTrip 31 = .ok (.new 94, 3) := by decide +kernel
theorem dX9_ofTrip_34 : decode cX9_ofTrip 34 = .ok (.dup, 1) := by decide +kernel
theorem dX9_ofTrip_35 : decode cX9_ofTrip 35 = .ok (.ldc_w 309, 3) := by decide +kernel
theorem dX9_ofTrip_38 : decode cX9_ofTrip 38 = .ok (.invokespecial 98, 3) := by decide +kernel
theorem dX9_ofTrip_41 : decode cX9_ofTrip 41 = .ok (.athrow, 1) := by decide +kernel
theorem dX9_ofTrip_42 : decode cX9_ofTrip 42 = .ok (.aload_n 0, 1) := by decide +kernel
theorem dX9_ofTrip_43 : decode cX9_ofTrip 43 = .ok (.invokevirtual 311, 3) := by decide +kernel
theorem dX9_ofTrip_46 : decode cX9_ofTrip 46 = .ok (.iload_n 2, 1) := by decide +kernel
theorem dX9_ofTrip_47 : decode cX9_ofTrip 47 = .ok (.tableswitch 123 0 9 #[53, 61, 69, 77, 82, 87, 92, 97, 102, 107], 53) := by decide +kernel
theorem dX9_ofTrip_100 : decode cX9_ofTrip 100 = .ok (.aload_n 3, 1) := by decide +kernel
theorem dX9_ofTrip_101 : decode cX9_ofTrip 101 = .ok (.getfield 314, 3) := by decide +kernel
theorem dX9_ofTrip_104 : decode cX9_ofTrip 104 = .ok (.getfield 318, 3) := by decide +kernel
theorem dX9_ofTrip_107 : decode cX9_ofTrip 107 = .ok (.ireturn, 1) := by decide +kernel
theorem dX9_ofTrip_108 : decode cX9_ofTrip 108 = .ok (.aload_n 3, 1) := by decide +kernel
theorem dX9_ofTrip_109 : decode cX9_ofTrip 109 = .ok (.getfield 319, 3) := by decide +kernel
theorem dX9_ofTrip_112 : decode cX9_ofTrip 112 = .ok (.getfield 322, 3) := by decide +kernel
theorem dX9_ofTrip_115 : decode cX9_ofTrip 115 = .ok (.ireturn, 1) := by decide +kernel
theorem dX9_ofTrip_116 : decode cX9_ofTrip 116 = .ok (.aload_n 3, 1) := by decide +kernel
theorem dX9_ofTrip_117 : decode cX9_ofTrip 117 = .ok (.getfield 323, 3) := by decide +kernel
theorem dX9_ofTrip_120 : decode cX9_ofTrip 120 = .ok (.getfield 322, 3) := by decide +kernel
theorem dX9_ofTrip_123 : decode cX9_ofTrip 123 = .ok (.ireturn, 1) := by decide +kernel
theorem dX9_ofTrip_124 : decode cX9_ofTrip 124 = .ok (.aload_n 3, 1) := by decide +kernel
theorem dX9_ofTrip_125 : decode cX9_ofTrip 125 = .ok (.getfield 326, 3) := by decide +kernel
theorem dX9_ofTrip_128 : decode cX9_ofTrip 128 = .ok (.ireturn, 1) := by decide +kernel
theorem dX9_ofTrip_129 : decode cX9_ofTrip 129 = .ok (.aload_n 3, 1) := by decide +kernel
theorem dX9_ofTrip_130 : decode cX9_ofTrip 130 = .ok (.invokevirtual 329, 3) := by decide +kernel
theorem dX9_ofTrip_133 : decode cX9_ofTrip 133 = .ok (.ireturn, 1) := by decide +kernel
theorem dX9_ofTrip_134 : decode cX9_ofTrip 134 = .ok (.aload_n 3, 1) := by decide +kernel
theorem dX9_ofTrip_135 : decode cX9_ofTrip 135 = .ok (.getfield 296, 3) := by decide +kernel
theorem dX9_ofTrip_138 : decode cX9_ofTrip 138 = .ok (.ireturn, 1) := by decide +kernel
theorem dX9_ofTrip_139 : decode cX9_ofTrip 139 = .ok (.aload_n 3, 1) := by decide +kernel
theorem dX9_ofTrip_140 : decode cX9_ofTrip 140 = .ok (.invokevirtual 332, 3) := by decide +kernel
theorem dX9_ofTrip_143 : decode cX9_ofTrip 143 = .ok (.ireturn, 1) := by decide +kernel
theorem dX9_ofTrip_144 : decode cX9_ofTrip 144 = .ok (.aload_n 3, 1) := by decide +kernel
theorem dX9_ofTrip_145 : decode cX9_ofTrip 145 = .ok (.invokevirtual 335, 3) := by decide +kernel
theorem dX9_ofTrip_148 : decode cX9_ofTrip 148 = .ok (.ireturn, 1) := by decide +kernel
theorem dX9_ofTrip_149 : decode cX9_ofTrip 149 = .ok (.aload_n 3, 1) := by decide +kernel
theorem dX9_ofTrip_150 : decode cX9_ofTrip 150 = .ok (.getfield 338, 3) := by decide +kernel
theorem dX9_ofTrip_153 : decode cX9_ofTrip 153 = .ok (.ireturn, 1) := by decide +kernel
theorem dX9_ofTrip_154 : decode cX9_ofTrip 154 = .ok (.aload_n 3, 1) := by decide +kernel
theorem dX9_ofTrip_155 : decode cX9_ofTrip 155 = .ok (.invokevirtual 341, 3) := by decide +kernel
theorem dX9_ofTrip_158 : decode cX9_ofTrip 158 = .ok (.ifCond .eq 10, 3) := by decide +kernel
theorem dX9_ofTrip_161 : decode cX9_ofTrip 161 = .ok (.aload_n 3, 1) := by decide +kernel
theorem dX9_ofTrip_162 : decode cX9_ofTrip 162 = .ok (.invokevirtual 344, 3) := by decide +kernel
theorem dX9_ofTrip_165 : decode cX9_ofTrip 165 = .ok (.goto 4, 3) := by decide +kernel
theorem dX9_ofTrip_168 : decode cX9_ofTrip 168 = .ok (.iconst (-1), 1) := by decide +kernel
theorem dX9_ofTrip_169 : decode cX9_ofTrip 169 = .ok (.ireturn, 1) := by decide +kernel
theorem dX9_ofTrip_170 : decode cX9_ofTrip 170 = .ok (.aload_n 3, 1) := by decide +kernel
theorem dX9_ofTrip_171 : decode cX9_ofTrip 171 = .ok (.invokevirtual 341, 3) := by decide +kernel
theorem dX9_ofTrip_174 : decode cX9_ofTrip 174 = .ok (.ifCond .eq 10, 3) := by decide +kernel
theorem dX9_ofTrip_177 : decode cX9_ofTrip 177 = .ok (.aload_n 3, 1) := by decide +kernel
theorem dX9_ofTrip_178 : decode cX9_ofTrip 178 = .ok (.getfield 347, 3) := by decide +kernel
theorem dX9_ofTrip_181 : decode cX9_ofTrip 181 = .ok (.goto 4, 3) := by decide +kernel
theorem dX9_ofTrip_184 : decode cX9_ofTrip 184 = .ok (.iconst (-1), 1) := by decide +kernel
theorem dX9_ofTrip_185 : decode cX9_ofTrip 185 = .ok (.ireturn, 1) := by decide +kernel
theorem dX9_ofBlock_0 : decode cX9_ofBlock 0 = .ok (.aload_n 0, 1) := by decide +kernel
theorem dX9_ofBlock_1 : decode cX9_ofBlock 1 = .ok (.iload_n 1, 1) := by decide +kernel
theorem dX9_ofBlock_2 : decode cX9_ofBlock 2 = .ok (.invokevirtual 182, 3) := by decide +kernel
theorem dX9_ofBlock_5 : decode cX9_ofBlock 5 = .ok (.astore_n 3, 1) := by decide +kernel
theorem dX9_ofBlock_6 : decode cX9_ofBlock 6 = .ok (.aload_n 3, 1) := by decide +kernel
theorem dX9_ofBlock_7 : decode cX9_ofBlock 7 = .ok (.ifnonnull 13, 3) := by decide +kernel
theorem dX9_ofBlock_10 : decode cX9_ofBlock 10 = .ok (.new 83, 3) := by decide +kernel
theorem dX9_ofBlock_13 : decode cX9_ofBlock 13 = .ok (.dup, 1) := by decide +kernel
theorem dX9_ofBlock_14 : decode cX9_ofBlock 14 = .ok (.ldc 214, 2) := by decide +kernel
theorem dX9_ofBlock_16 : decode cX9_ofBlock 16 = .ok (.invokespecial 87, 3) := by decide +kernel
theorem dX9_ofBlock_19 : decode cX9_ofBlock 19 = .ok (.athrow, 1) := by decide +kernel
theorem dX9_ofBlock_20 : decode cX9_ofBlock 20 = .ok (.iload_n 2, 1) := by decide +kernel
theorem dX9_ofBlock_21 : decode cX9_ofBlock 21 = .ok (.iconst 0, 1) := by decide +kernel
theorem dX9_ofBlock_22 : decode cX9_ofBlock 22 = .ok (.bipush 7, 2) := by decide +kernel
theorem dX9_ofBlock_24 : decode cX9_ofBlock 24 = .ok (.invokestatic 90, 3) := by decide +kernel
theorem dX9_ofBlock_27 : decode cX9_ofBlock 27 = .ok (.ifCond .eq 14, 3) := by decide +kernel
theorem dX9_ofBlock_30 : decode cX9_ofBlock 30 = .ok (.new 94, 3) := by decide +kernel
theorem dX9_ofBlock_33 : decode cX9_ofBlock 33 = .ok (.dup, 1) := by decide +kernel
theorem dX9_ofBlock_34 : decode cX9_ofBlock 34 = .ok (.ldc_w 309, 3) := by decide +kernel
theorem dX9_ofBlock_37 : decode cX9_ofBlock 37 = .ok (.invokespecial 98, 3) := by decide +kernel
theorem dX9_ofBlock_40 : decode cX9_ofBlock 40 = .ok (.athrow, 1) := by decide +kernel
theorem dX9_ofBlock_41 : decode cX9_ofBlock 41 = .ok (.iload_n 2, 1) := by decide +kernel
theorem dX9_ofBlock_42 : decode cX9_ofBlock 42 = .ok (.tableswitch 121 0 6 #[42, 47, 55, 60, 68, 89, 109], 42) := by decide +kernel
theorem dX9_ofBlock_84 : decode cX9_ofBlock 84 = .ok (.aload_n 3, 1) := by decide +kernel
theorem dX9_ofBlock_85 : decode cX9_ofBlock 85 = .ok (.getfield 350, 3) := by decide +kernel
theorem dX9_ofBlock_88 : decode cX9_ofBlock 88 = .ok (.ireturn, 1) := by decide +kernel
theorem dX9_ofBlock_89 : decode cX9_ofBlock 89 = .ok (.aload_n 3, 1) := by decide +kernel
theorem dX9_ofBlock_90 : decode cX9_ofBlock 90 = .ok (.getfield 191, 3) := by decide +kernel
theorem dX9_ofBlock_93 : decode cX9_ofBlock 93 = .ok (.invokevirtual 211, 3) := by decide +kernel
theorem dX9_ofBlock_96 : decode cX9_ofBlock 96 = .ok (.ireturn, 1) := by decide +kernel
theorem dX9_ofBlock_97 : decode cX9_ofBlock 97 = .ok (.aload_n 3, 1) := by decide +kernel
theorem dX9_ofBlock_98 : decode cX9_ofBlock 98 = .ok (.getfield 301, 3) := by decide +kernel
theorem dX9_ofBlock_101 : decode cX9_ofBlock 101 = .ok (.ireturn, 1) := by decide +kernel
theorem dX9_ofBlock_102 : decode cX9_ofBlock 102 = .ok (.aload_n 3, 1) := by decide +kernel
theorem dX9_ofBlock_103 : decode cX9_ofBlock 103 = .ok (.getfield 353, 3) := by decide +kernel
theorem dX9_ofBlock_106 : decode cX9_ofBlock 106 = .ok (.invokevirtual 136, 3) := by decide +kernel
theorem dX9_ofBlock_109 : decode cX9_ofBlock 109 = .ok (.ireturn, 1) := by decide +kernel
theorem dX9_ofBlock_110 : decode cX9_ofBlock 110 = .ok (.aload_n 0, 1) := by decide +kernel
theorem dX9_ofBlock_111 : decode cX9_ofBlock 111 = .ok (.aload_n 3, 1) := by decide +kernel
theorem dX9_ofBlock_112 : decode cX9_ofBlock 112 = .ok (.getfield 191, 3) := by decide +kernel
theorem dX9_ofBlock_115 : decode cX9_ofBlock 115 = .ok (.aload_n 3, 1) := by decide +kernel
theorem dX9_ofBlock_116 : decode cX9_ofBlock 116 = .ok (.getfield 350, 3) := by decide +kernel
theorem dX9_ofBlock_119 : decode cX9_ofBlock 119 = .ok (.invokevirtual 354, 3) := by decide +kernel
theorem dX9_ofBlock_122 : decode cX9_ofBlock 122 = .ok (.ifCond .eq 7, 3) := by decide +kernel
theorem dX9_ofBlock_125 : decode cX9_ofBlock 125 = .ok (.iconst 1, 1) := by decide +kernel
theorem dX9_ofBlock_126 : decode cX9_ofBlock 126 = .ok (.goto 4, 3) := by decide +kernel
theorem dX9_ofBlock_129 : decode cX9_ofBlock 129 = .ok (.iconst 0, 1) := by decide +kernel
theorem dX9_ofBlock_130 : decode cX9_ofBlock 130 = .ok (.ireturn, 1) := by decide +kernel
theorem dX9_ofBlock_131 : decode cX9_ofBlock 131 = .ok (.aload_n 3, 1) := by decide +kernel
theorem dX9_ofBlock_132 : decode cX9_ofBlock 132 = .ok (.getfield 191, 3) := by decide +kernel
theorem dX9_ofBlock_135 : decode cX9_ofBlock 135 = .ok (.aload_n 0, 1) := by decide +kernel
theorem dX9_ofBlock_136 : decode cX9_ofBlock 136 = .ok (.getfield 68, 3) := by decide +kernel
theorem dX9_ofBlock_139 : decode cX9_ofBlock 139 = .ok (.aload_n 3, 1) := by decide +kernel
theorem dX9_ofBlock_140 : decode cX9_ofBlock 140 = .ok (.getfield 350, 3) := by decide +kernel
theorem dX9_ofBlock_143 : decode cX9_ofBlock 143 = .ok (.aload_n 0, 1) := by decide +kernel
theorem dX9_ofBlock_144 : decode cX9_ofBlock 144 = .ok (.getfield 161, 3) := by decide +kernel
theorem dX9_ofBlock_147 : decode cX9_ofBlock 147 = .ok (.invokevirtual 358, 3) := by decide +kernel
theorem dX9_ofBlock_150 : decode cX9_ofBlock 150 = .ok (.ireturn, 1) := by decide +kernel
theorem dX9_ofBlock_151 : decode cX9_ofBlock 151 = .ok (.aload_n 3, 1) := by decide +kernel
theorem dX9_ofBlock_152 : decode cX9_ofBlock 152 = .ok (.getfield 191, 3) := by decide +kernel
theorem dX9_ofBlock_155 : decode cX9_ofBlock 155 = .ok (.aload_n 0, 1) := by decide +kernel
theorem dX9_ofBlock_156 : decode cX9_ofBlock 156 = .ok (.getfield 68, 3) := by decide +kernel
theorem dX9_ofBlock_159 : decode cX9_ofBlock 159 = .ok (.invokevirtual 362, 3) := by decide +kernel
theorem dX9_ofBlock_162 : decode cX9_ofBlock 162 = .ok (.ireturn, 1) := by decide +kernel
theorem dX9_ofBlock_163 : decode cX9_ofBlock 163 = .ok (.aload_n 3, 1) := by decide +kernel
theorem dX9_ofBlock_164 : decode cX9_ofBlock 164 = .ok (.getfield 191, 3) := by decide +kernel
theorem dX9_ofBlock_167 : decode cX9_ofBlock 167 = .ok (.invokevirtual 211, 3) := by decide +kernel
theorem dX9_ofBlock_170 : decode cX9_ofBlock 170 = .ok (.aload_n 3, 1) := by decide +kernel
theorem dX9_ofBlock_171 : decode cX9_ofBlock 171 = .ok (.invokevirtual 366, 3) := by decide +kernel
theorem dX9_ofBlock_174 : decode cX9_ofBlock 174 = .ok (.isub, 1) := by decide +kernel
theorem dX9_ofBlock_175 : decode cX9_ofBlock 175 = .ok (.ireturn, 1) := by decide +kernel
theorem dX9_at_0 : decode cX9_at 0 = .ok (.aload_n 0, 1) := by decide +kernel
theorem dX9_at_1 : decode cX9_at 1 = .ok (.iload_n 1, 1) := by decide +kernel
theorem dX9_at_2 : decode cX9_at 2 = .ok (.invokevirtual 182, 3) := by decide +kernel
theorem dX9_at_5 : decode cX9_at 5 = .ok (.astore_n 3, 1) := by decide +kernel
theorem dX9_at_6 : decode cX9_at 6 = .ok (.aload_n 3, 1) := by decide +kernel
theorem dX9_at_7 : decode cX9_at 7 = .ok (.ifnonnull 13, 3) := by decide +kernel
theorem dX9_at_10 : decode cX9_at 10 = .ok (.new 83, 3) := by decide +kernel
theorem dX9_at_13 : decode cX9_at 13 = .ok (.dup, 1) := by decide +kernel
theorem dX9_at_14 : decode cX9_at 14 = .ok (.ldc 214, 2) := by decide +kernel
theorem dX9_at_16 : decode cX9_at 16 = .ok (.invokespecial 87, 3) := by decide +kernel
theorem dX9_at_19 : decode cX9_at 19 = .ok (.athrow, 1) := by decide +kernel
theorem dX9_at_20 : decode cX9_at 20 = .ok (.iload_n 2, 1) := by decide +kernel
theorem dX9_at_21 : decode cX9_at 21 = .ok (.ifCond .ge 14, 3) := by decide +kernel
theorem dX9_at_24 : decode cX9_at 24 = .ok (.new 94, 3) := by decide +kernel
theorem dX9_at_27 : decode cX9_at 27 = .ok (.dup, 1) := by decide +kernel
theorem dX9_at_28 : decode cX9_at 28 = .ok (.ldc_w 369, 3) := by decide +kernel
theorem dX9_at_31 : decode cX9_at 31 = .ok (.invokespecial 98, 3) := by decide +kernel
theorem dX9_at_34 : decode cX9_at 34 = .ok (.athrow, 1) := by decide +kernel
theorem dX9_at_35 : decode cX9_at 35 = .ok (.aload_n 3, 1) := by decide +kernel
theorem dX9_at_36 : decode cX9_at 36 = .ok (.getfield 191, 3) := by decide +kernel
theorem dX9_at_39 : decode cX9_at 39 = .ok (.iload_n 2, 1) := by decide +kernel
theorem dX9_at_40 : decode cX9_at 40 = .ok (.invokevirtual 371, 3) := by decide +kernel
theorem dX9_at_43 : decode cX9_at 43 = .ok (.astore 4, 2) := by decide +kernel
theorem dX9_at_45 : decode cX9_at 45 = .ok (.aload 4, 2) := by decide +kernel
theorem dX9_at_47 : decode cX9_at 47 = .ok (.ifnonnull 7, 3) := by decide +kernel
theorem dX9_at_50 : decode cX9_at 50 = .ok (.iconst (-1), 1) := by decide +kernel
theorem dX9_at_51 : decode cX9_at 51 = .ok (.goto 8, 3) := by decide +kernel
theorem dX9_at_54 : decode cX9_at 54 = .ok (.aload 4, 2) := by decide +kernel
theorem dX9_at_56 : decode cX9_at 56 = .ok (.getfield 221, 3) := by decide +kernel
theorem dX9_at_59 : decode cX9_at 59 = .ok (.ireturn, 1) := by decide +kernel
theorem dX9_ofPiece_0 : decode cX9_ofPiece 0 = .ok (.aload_n 0, 1) := by decide +kernel
theorem dX9_ofPiece_1 : decode cX9_ofPiece 1 = .ok (.iload_n 1, 1) := by decide +kernel
theorem dX9_ofPiece_2 : decode cX9_ofPiece 2 = .ok (.iload_n 2, 1) := by decide +kernel
theorem dX9_ofPiece_3 : decode cX9_ofPiece 3 = .ok (.invokevirtual 256, 3) := by decide +kernel
theorem dX9_ofPiece_6 : decode cX9_ofPiece 6 = .ok (.astore 4, 2) := by decide +kernel
theorem dX9_ofPiece_8 : decode cX9_ofPiece 8 = .ok (.aload 4, 2) := by decide +kernel
theorem dX9_ofPiece_10 : decode cX9_ofPiece 10 = .ok (.ifnonnull 14, 3) := by decide +kernel
theorem dX9_ofPiece_13 : decode cX9_ofPiece 13 = .ok (.new 83, 3) := by decide +kernel
theorem dX9_ofPiece_16 : decode cX9_ofPiece 16 = .ok (.dup, 1) := by decide +kernel
theorem dX9_ofPiece_17 : decode cX9_ofPiece 17 = .ok (.ldc_w 284, 3) := by decide +kernel
theorem dX9_ofPiece_20 : decode cX9_ofPiece 20 = .ok (.invokespecial 87, 3) := by decide +kernel
theorem dX9_ofPiece_23 : decode cX9_ofPiece 23 = .ok (.athrow, 1) := by decide +kernel
theorem dX9_ofPiece_24 : decode cX9_ofPiece 24 = .ok (.iload_n 3, 1) := by decide +kernel
theorem dX9_ofPiece_25 : decode cX9_ofPiece 25 = .ok (.iconst 0, 1) := by decide +kernel
theorem dX9_ofPiece_26 : decode cX9_ofPiece 26 = .ok (.iconst 5, 1) := by decide +kernel
theorem dX9_ofPiece_27 : decode cX9_ofPiece 27 = .ok (.invokestatic 90, 3) := by decide +kernel
theorem dX9_ofPiece_30 : decode cX9_ofPiece 30 = .ok (.ifCond .eq 14, 3) := by decide +kernel
theorem dX9_ofPiece_33 : decode cX9_ofPiece 33 = .ok (.new 94, 3) := by decide +kernel
theorem dX9_ofPiece_36 : decode cX9_ofPiece 36 = .ok (.dup, 1) := by decide +kernel
theorem dX9_ofPiece_37 : decode cX9_ofPiece 37 = .ok (.ldc_w 309, 3) := by decide +kernel
theorem dX9_ofPiece_40 : decode cX9_ofPiece 40 = .ok (.invokespecial 98, 3) := by decide +kernel
theorem dX9_ofPiece_43 : decode cX9_ofPiece 43 = .ok (.athrow, 1) := by decide +kernel
theorem dX9_ofPiece_44 : decode cX9_ofPiece 44 = .ok (.aload_n 0, 1) := by decide +kernel
theorem dX9_ofPiece_45 : decode cX9_ofPiece 45 = .ok (.invokevirtual 311, 3) := by decide +kernel
theorem dX9_ofPiece_48 : decode cX9_ofPiece 48 = .ok (.iload_n 3, 1) := by decide +kernel
theorem dX9_ofPiece_49 : decode cX9_ofPiece 49 = .ok (.tableswitch 71 0 4 #[35, 44, 53, 59, 65], 35) := by decide +kernel
theorem dX9_ofPiece_84 : decode cX9_ofPiece 84 = .ok (.aload 4, 2) := by decide +kernel
theorem dX9_ofPiece_86 : decode cX9_ofPiece 86 = .ok (.getfield 373, 3) := by decide +kernel
theorem dX9_ofPiece_89 : decode cX9_ofPiece 89 = .ok (.getfield 221, 3) := by decide +kernel
theorem dX9_ofPiece_92 : decode cX9_ofPiece 92 = .ok (.ireturn, 1) := by decide +kernel
theorem dX9_ofPiece_93 : decode cX9_ofPiece 93 = .ok (.aload 4, 2) := by decide +kernel
theorem dX9_ofPiece_95 : decode cX9_ofPiece 95 = .ok (.getfield 377, 3) := by decide +kernel
theorem dX9_ofPiece_98 : decode cX9_ofPiece 98 = .ok (.getfield 221, 3) := by decide +kernel
theorem dX9_ofPiece_101 : decode cX9_ofPiece 101 = .ok (.ireturn, 1) := by decide +kernel
theorem dX9_ofPiece_102 : decode cX9_ofPiece 102 = .ok (.aload 4, 2) := by decide +kernel
theorem dX9_ofPiece_104 : decode cX9_ofPiece 104 = .ok (.getfield 379, 3) := by decide +kernel
theorem dX9_ofPiece_107 : decode cX9_ofPiece 107 = .ok (.ireturn, 1) := by decide +kernel
theorem dX9_ofPiece_108 : decode cX9_ofPiece 108 = .ok (.aload 4, 2) := by decide +kernel
theorem dX9_ofPiece_110 : decode cX9_ofPiece 110 = .ok (.invokevirtual 382, 3) := by decide +kernel
theorem dX9_ofPiece_113 : decode cX9_ofPiece 113 = .ok (.ireturn, 1) := by decide +kernel
theorem dX9_ofPiece_114 : decode cX9_ofPiece 114 = .ok (.aload 4, 2) := by decide +kernel
theorem dX9_ofPiece_116 : decode cX9_ofPiece 116 = .ok (.invokevirtual 286, 3) := by decide +kernel
theorem dX9_ofPiece_119 : decode cX9_ofPiece 119 = .ok (.ireturn, 1) := by decide +kernel
theorem dX9_ofPiece_120 : decode cX9_ofPiece 120 = .ok (.aload 4, 2) := by decide +kernel
theorem dX9_ofPiece_122 : decode cX9_ofPiece 122 = .ok (.invokevirtual 383, 3) := by decide +kernel
theorem dX9_ofPiece_125 : decode cX9_ofPiece 125 = .ok (.ireturn, 1) := by decide +kernel
theorem dX9_ofDriver_0 : decode cX9_ofDriver 0 = .ok (.aload_n 0, 1) := by decide +kernel
theorem dX9_ofDriver_1 : decode cX9_ofDriver 1 = .ok (.iload_n 1, 1) := by decide +kernel
theorem dX9_ofDriver_2 : decode cX9_ofDriver 2 = .ok (.invokevirtual 260, 3) := by decide +kernel
theorem dX9_ofDriver_5 : decode cX9_ofDriver 5 = .ok (.astore_n 3, 1) := by decide +kernel
theorem dX9_ofDriver_6 : decode cX9_ofDriver 6 = .ok (.aload_n 3, 1) := by decide +kernel
theorem dX9_ofDriver_7 : decode cX9_ofDriver 7 = .ok (.ifnonnull 14, 3) := by decide +kernel
theorem dX9_ofDriver_10 : decode cX9_ofDriver 10 = .ok (.new 83, 3) := by decide +kernel
theorem dX9_ofDriver_13 : decode cX9_ofDriver 13 = .ok (.dup, 1) := by decide +kernel
theorem dX9_ofDriver_14 : decode cX9_ofDriver 14 = .ok (.ldc_w 304, 3) := by decide +kernel
theorem dX9_ofDriver_17 : decode cX9_ofDriver 17 = .ok (.invokespecial 87, 3) := by decide +kernel
theorem dX9_ofDriver_20 : decode cX9_ofDriver 20 = .ok (.athrow, 1) := by decide +kernel
theorem dX9_ofDriver_21 : decode cX9_ofDriver 21 = .ok (.iload_n 2, 1) := by decide +kernel
theorem dX9_ofDriver_22 : decode cX9_ofDriver 22 = .ok (.iconst 0, 1) := by decide +kernel
theorem dX9_ofDriver_23 : decode cX9_ofDriver 23 = .ok (.iconst 4, 1) := by decide +kernel
theorem dX9_ofDriver_24 : decode cX9_ofDriver 24 = .ok (.invokestatic 90, 3) := by decide +kernel
theorem dX9_ofDriver_27 : decode cX9_ofDriver 27 = .ok (.ifCond .eq 14, 3) := by decide +kernel
theorem dX9_ofDriver_30 : decode cX9_ofDriver 30 = .ok (.new 94, 3) := by decide +kernel
theorem dX9_ofDriver_33 : decode cX9_ofDriver 33 = .ok (.dup, 1) := by decide +kernel
theorem dX9_ofDriver_34 : decode cX9_ofDriver 34 = .ok (.ldc_w 309, 3) := by decide +kernel
theorem dX9_ofDriver_37 : decode cX9_ofDriver 37 = .ok (.invokespecial 98, 3) := by decide +kernel
theorem dX9_ofDriver_40 : decode cX9_ofDriver 40 = .ok (.athrow, 1) := by decide +kernel
theorem dX9_ofDriver_41 : decode cX9_ofDriver 41 = .ok (.aload_n 0, 1) := by decide +kernel
theorem dX9_ofDriver_42 : decode cX9_ofDriver 42 = .ok (.invokevirtual 311, 3) := by decide +kernel
theorem dX9_ofDriver_45 : decode cX9_ofDriver 45 = .ok (.iload_n 2, 1) := by decide +kernel
theorem dX9_ofDriver_46 : decode cX9_ofDriver 46 = .ok (.tableswitch 61 0 3 #[30, 38, 43, 56], 30) := by decide +kernel
theorem dX9_ofDriver_76 : decode cX9_ofDriver 76 = .ok (.aload_n 3, 1) := by decide +kernel
theorem dX9_ofDriver_77 : decode cX9_ofDriver 77 = .ok (.getfield 278, 3) := by decide +kernel
theorem dX9_ofDriver_80 : decode cX9_ofDriver 80 = .ok (.invokevirtual 136, 3) := by decide +kernel
theorem dX9_ofDriver_83 : decode cX9_ofDriver 83 = .ok (.ireturn, 1) := by decide +kernel
theorem dX9_ofDriver_84 : decode cX9_ofDriver 84 = .ok (.aload_n 3, 1) := by decide +kernel
theorem dX9_ofDriver_85 : decode cX9_ofDriver 85 = .ok (.invokevirtual 281, 3) := by decide +kernel
theorem dX9_ofDriver_88 : decode cX9_ofDriver 88 = .ok (.ireturn, 1) := by decide +kernel
theorem dX9_ofDriver_89 : decode cX9_ofDriver 89 = .ok (.aload_n 3, 1) := by decide +kernel
theorem dX9_ofDriver_90 : decode cX9_ofDriver 90 = .ok (.getfield 306, 3) := by decide +kernel
theorem dX9_ofDriver_93 : decode cX9_ofDriver 93 = .ok (.ifCond .eq 7, 3) := by decide +kernel
theorem dX9_ofDriver_96 : decode cX9_ofDriver 96 = .ok (.iconst 1, 1) := by decide +kernel
theorem dX9_ofDriver_97 : decode cX9_ofDriver 97 = .ok (.goto 4, 3) := by decide +kernel
theorem dX9_ofDriver_100 : decode cX9_ofDriver 100 = .ok (.iconst 0, 1) := by decide +kernel
theorem dX9_ofDriver_101 : decode cX9_ofDriver 101 = .ok (.ireturn, 1) := by decide +kernel
theorem dX9_ofDriver_102 : decode cX9_ofDriver 102 = .ok (.aload_n 3, 1) := by decide +kernel
theorem dX9_ofDriver_103 : decode cX9_ofDriver 103 = .ok (.invokevirtual 386, 3) := by decide +kernel
theorem dX9_ofDriver_106 : decode cX9_ofDriver 106 = .ok (.ireturn, 1) := by decide +kernel
theorem dX9_ofDriver_107 : decode cX9_ofDriver 107 = .ok (.aload_n 3, 1) := by decide +kernel
theorem dX9_ofDriver_108 : decode cX9_ofDriver 108 = .ok (.invokevirtual 387, 3) := by decide +kernel
theorem dX9_ofDriver_111 : decode cX9_ofDriver 111 = .ok (.ireturn, 1) := by decide +kernel
theorem dX9_many_0 : decode cX9_many 0 = .ok (.iload_n 1, 1) := by decide +kernel
theorem dX9_many_1 : decode cX9_many 1 = .ok (.iconst 0, 1) := by decide +kernel
theorem dX9_many_2 : decode cX9_many 2 = .ok (.bipush 8, 2) := by decide +kernel
theorem dX9_many_4 : decode cX9_many 4 = .ok (.invokestatic 90, 3) := by decide +kernel
theorem dX9_many_7 : decode cX9_many 7 = .ok (.ifCond .eq 14, 3) := by decide +kernel
theorem dX9_many_10 : decode cX9_many 10 = .ok (.new 94, 3) := by decide +kernel
theorem dX9_many_13 : decode cX9_many 13 = .ok (.dup, 1) := by decide +kernel
theorem dX9_many_14 : decode cX9_many 14 = .ok (.ldc_w 309, 3) := by decide +kernel
theorem dX9_many_17 : decode cX9_many 17 = .ok (.invokespecial 98, 3) := by decide +kernel
theorem dX9_many_20 : decode cX9_many 20 = .ok (.athrow, 1) := by decide +kernel
theorem dX9_many_21 : decode cX9_many 21 = .ok (.aload_n 0, 1) := by decide +kernel
theorem dX9_many_22 : decode cX9_many 22 = .ok (.invokevirtual 311, 3) := by decide +kernel
theorem dX9_many_25 : decode cX9_many 25 = .ok (.iload_n 1, 1) := by decide +kernel
theorem dX9_many_26 : decode cX9_many 26 = .ok (.tableswitch 97 0 7 #[46, 54, 62, 70, 76, 82, 87, 92], 46) := by decide +kernel
theorem dX9_many_72 : decode cX9_many 72 = .ok (.aload_n 0, 1) := by decide +kernel
theorem dX9_many_73 : decode cX9_many 73 = .ok (.getfield 19, 3) := by decide +kernel
theorem dX9_many_76 : decode cX9_many 76 = .ok (.invokevirtual 136, 3) := by decide +kernel
theorem dX9_many_79 : decode cX9_many 79 = .ok (.ireturn, 1) := by decide +kernel
theorem dX9_many_80 : decode cX9_many 80 = .ok (.aload_n 0, 1) := by decide +kernel
theorem dX9_many_81 : decode cX9_many 81 = .ok (.getfield 25, 3) := by decide +kernel
theorem dX9_many_84 : decode cX9_many 84 = .ok (.invokevirtual 136, 3) := by decide +kernel
theorem dX9_many_87 : decode cX9_many 87 = .ok (.ireturn, 1) := by decide +kernel
theorem dX9_many_88 : decode cX9_many 88 = .ok (.aload_n 0, 1) := by decide +kernel
theorem dX9_many_89 : decode cX9_many 89 = .ok (.getfield 28, 3) := by decide +kernel
theorem dX9_many_92 : decode cX9_many 92 = .ok (.invokevirtual 136, 3) := by decide +kernel
theorem dX9_many_95 : decode cX9_many 95 = .ok (.ireturn, 1) := by decide +kernel
theorem dX9_many_96 : decode cX9_many 96 = .ok (.aload_n 0, 1) := by decide +kernel
theorem dX9_many_97 : decode cX9_many 97 = .ok (.iconst 1, 1) := by decide +kernel
theorem dX9_many_98 : decode cX9_many 98 = .ok (.invokevirtual 390, 3) := by decide +kernel
theorem dX9_many_101 : decode cX9_many 101 = .ok (.ireturn, 1) := by decide +kernel
theorem dX9_many_102 : decode cX9_many 102 = .ok (.aload_n 0, 1) := by decide +kernel
theorem dX9_many_103 : decode cX9_many 103 = .ok (.iconst 0, 1) := by decide +kernel
theorem dX9_many_104 : decode cX9_many 104 = .ok (.invokevirtual 390, 3) := by decide +kernel
theorem dX9_many_107 : decode cX9_many 107 = .ok (.ireturn, 1) := by decide +kernel
theorem dX9_many_108 : decode cX9_many 108 = .ok (.aload_n 0, 1) := by decide +kernel
theorem dX9_many_109 : decode cX9_many 109 = .ok (.invokevirtual 394, 3) := by decide +kernel
theorem dX9_many_112 : decode cX9_many 112 = .ok (.ireturn, 1) := by decide +kernel
theorem dX9_many_113 : decode cX9_many 113 = .ok (.aload_n 0, 1) := by decide +kernel
theorem dX9_many_114 : decode cX9_many 114 = .ok (.invokevirtual 397, 3) := by decide +kernel
theorem dX9_many_117 : decode cX9_many 117 = .ok (.ireturn, 1) := by decide +kernel
theorem dX9_many_118 : decode cX9_many 118 = .ok (.aload_n 0, 1) := by decide +kernel
theorem dX9_many_119 : decode cX9_many 119 = .ok (.invokevirtual 400, 3) := by decide +kernel
theorem dX9_many_122 : decode cX9_many 122 = .ok (.ireturn, 1) := by decide +kernel
theorem dX9_many_123 : decode cX9_many 123 = .ok (.aload_n 0, 1) := by decide +kernel
theorem dX9_many_124 : decode cX9_many 124 = .ok (.invokevirtual 403, 3) := by decide +kernel
theorem dX9_many_127 : decode cX9_many 127 = .ok (.ireturn, 1) := by decide +kernel
theorem dX9_lost_0 : decode cX9_lost 0 = .ok (.iload_n 1, 1) := by decide +kernel
theorem dX9_lost_1 : decode cX9_lost 1 = .ok (.iconst 1, 1) := by decide +kernel
theorem dX9_lost_2 : decode cX9_lost 2 = .ok (.bipush 6, 2) := by decide +kernel
theorem dX9_lost_4 : decode cX9_lost 4 = .ok (.invokestatic 90, 3) := by decide +kernel
theorem dX9_lost_7 : decode cX9_lost 7 = .ok (.ifCond .eq 14, 3) := by decide +kernel
theorem dX9_lost_10 : decode cX9_lost 10 = .ok (.new 83, 3) := by decide +kernel
theorem dX9_lost_13 : decode cX9_lost 13 = .ok (.dup, 1) := by decide +kernel
theorem dX9_lost_14 : decode cX9_lost 14 = .ok (.ldc_w 406, 3) := by decide +kernel
theorem dX9_lost_17 : decode cX9_lost 17 = .ok (.invokespecial 87, 3) := by decide +kernel
theorem dX9_lost_20 : decode cX9_lost 20 = .ok (.athrow, 1) := by decide +kernel
theorem dX9_lost_21 : decode cX9_lost 21 = .ok (.aload_n 0, 1) := by decide +kernel
theorem dX9_lost_22 : decode cX9_lost 22 = .ok (.invokevirtual 311, 3) := by decide +kernel
theorem dX9_lost_25 : decode cX9_lost 25 = .ok (.aload_n 0, 1) := by decide +kernel
theorem dX9_lost_26 : decode cX9_lost 26 = .ok (.iload_n 1, 1) := by decide +kernel
theorem dX9_lost_27 : decode cX9_lost 27 = .ok (.invokevirtual 390, 3) := by decide +kernel
theorem dX9_lost_30 : decode cX9_lost 30 = .ok (.ireturn, 1) := by decide +kernel
theorem dX9_meanLate_0 : decode cX9_meanLate 0 = .ok (.aload_n 0, 1) := by decide +kernel
theorem dX9_meanLate_1 : decode cX9_meanLate 1 = .ok (.invokevirtual 311, 3) := by decide +kernel
theorem dX9_meanLate_4 : decode cX9_meanLate 4 = .ok (.iconst 0, 1) := by decide +kernel
theorem dX9_meanLate_5 : decode cX9_meanLate 5 = .ok (.istore_n 1, 1) := by decide +kernel
theorem dX9_meanLate_6 : decode cX9_meanLate 6 = .ok (.iconst 0, 1) := by decide +kernel
theorem dX9_meanLate_7 : decode cX9_meanLate 7 = .ok (.istore_n 2, 1) := by decide +kernel
theorem dX9_meanLate_8 : decode cX9_meanLate 8 = .ok (.iconst 0, 1) := by decide +kernel
theorem dX9_meanLate_9 : decode cX9_meanLate 9 = .ok (.istore_n 3, 1) := by decide +kernel
theorem dX9_meanLate_10 : decode cX9_meanLate 10 = .ok (.iload_n 3, 1) := by decide +kernel
theorem dX9_meanLate_11 : decode cX9_meanLate 11 = .ok (.aload_n 0, 1) := by decide +kernel
theorem dX9_meanLate_12 : decode cX9_meanLate 12 = .ok (.getfield 19, 3) := by decide +kernel
theorem dX9_meanLate_15 : decode cX9_meanLate 15 = .ok (.invokevirtual 136, 3) := by decide +kernel
theorem dX9_meanLate_18 : decode cX9_meanLate 18 = .ok (.if_icmp .ge 41, 3) := by decide +kernel
theorem dX9_meanLate_21 : decode cX9_meanLate 21 = .ok (.aload_n 0, 1) := by decide +kernel
theorem dX9_meanLate_22 : decode cX9_meanLate 22 = .ok (.getfield 19, 3) := by decide +kernel
theorem dX9_meanLate_25 : decode cX9_meanLate 25 = .ok (.iload_n 3, 1) := by decide +kernel
theorem dX9_meanLate_26 : decode cX9_meanLate 26 = .ok (.invokevirtual 222, 3) := by decide +kernel
theorem dX9_meanLate_29 : decode cX9_meanLate 29 = .ok (.checkcast 142, 3) := by decide +kernel
theorem dX9_meanLate_32 : decode cX9_meanLate 32 = .ok (.astore 4, 2) := by decide +kernel
theorem dX9_meanLate_34 : decode cX9_meanLate 34 = .ok (.aload 4, 2) := by decide +kernel
theorem dX9_meanLate_36 : decode cX9_meanLate 36 = .ok (.invokevirtual 341, 3) := by decide +kernel
theorem dX9_meanLate_39 : decode cX9_meanLate 39 = .ok (.ifCond .eq 14, 3) := by decide +kernel
theorem dX9_meanLate_42 : decode cX9_meanLate 42 = .ok (.iinc 1 1, 3) := by decide +kernel
theorem dX9_meanLate_45 : decode cX9_meanLate 45 = .ok (.iload_n 2, 1) := by decide +kernel
theorem dX9_meanLate_46 : decode cX9_meanLate 46 = .ok (.aload 4, 2) := by decide +kernel
theorem dX9_meanLate_48 : decode cX9_meanLate 48 = .ok (.invokevirtual 344, 3) := by decide +kernel
theorem dX9_meanLate_51 : decode cX9_meanLate 51 = .ok (.iadd, 1) := by decide +kernel
theorem dX9_meanLate_52 : decode cX9_meanLate 52 = .ok (.istore_n 2, 1) := by decide +kernel
theorem dX9_meanLate_53 : decode cX9_meanLate 53 = .ok (.iinc 3 1, 3) := by decide +kernel
theorem dX9_meanLate_56 : decode cX9_meanLate 56 = .ok (.goto (-46), 3) := by decide +kernel
theorem dX9_meanLate_59 : decode cX9_meanLate 59 = .ok (.iload_n 1, 1) := by decide +kernel
theorem dX9_meanLate_60 : decode cX9_meanLate 60 = .ok (.ifCond .ne 7, 3) := by decide +kernel
theorem dX9_meanLate_63 : decode cX9_meanLate 63 = .ok (.dconst 0, 1) := by decide +kernel
theorem dX9_meanLate_64 : decode cX9_meanLate 64 = .ok (.goto 8, 3) := by decide +kernel
theorem dX9_meanLate_67 : decode cX9_meanLate 67 = .ok (.iload_n 2, 1) := by decide +kernel
theorem dX9_meanLate_68 : decode cX9_meanLate 68 = .ok (.i2d, 1) := by decide +kernel
theorem dX9_meanLate_69 : decode cX9_meanLate 69 = .ok (.iload_n 1, 1) := by decide +kernel
theorem dX9_meanLate_70 : decode cX9_meanLate 70 = .ok (.i2d, 1) := by decide +kernel
theorem dX9_meanLate_71 : decode cX9_meanLate 71 = .ok (.ddiv, 1) := by decide +kernel
theorem dX9_meanLate_72 : decode cX9_meanLate 72 = .ok (.dreturn, 1) := by decide +kernel
theorem dX9_leastBlocks_0 : decode cX9_leastBlocks 0 = .ok (.aload_n 0, 1) := by decide +kernel
theorem dX9_leastBlocks_1 : decode cX9_leastBlocks 1 = .ok (.getfield 19, 3) := by decide +kernel
theorem dX9_leastBlocks_4 : decode cX9_leastBlocks 4 = .ok (.invokevirtual 136, 3) := by decide +kernel
theorem dX9_leastBlocks_7 : decode cX9_leastBlocks 7 = .ok (.aload_n 0, 1) := by decide +kernel
theorem dX9_leastBlocks_8 : decode cX9_leastBlocks 8 = .ok (.getfield 59, 3) := by decide +kernel
theorem dX9_leastBlocks_11 : decode cX9_leastBlocks 11 = .ok (.aload_n 0, 1) := by decide +kernel
theorem dX9_leastBlocks_12 : decode cX9_leastBlocks 12 = .ok (.getfield 19, 3) := by decide +kernel
theorem dX9_leastBlocks_15 : decode cX9_leastBlocks 15 = .ok (.invokevirtual 408, 3) := by decide +kernel
theorem dX9_leastBlocks_18 : decode cX9_leastBlocks 18 = .ok (.isub, 1) := by decide +kernel
theorem dX9_leastBlocks_19 : decode cX9_leastBlocks 19 = .ok (.ireturn, 1) := by decide +kernel
theorem dX9_wouldLose_0 : decode cX9_wouldLose 0 = .ok (.aload_n 0, 1) := by decide +kernel
theorem dX9_wouldLose_1 : decode cX9_wouldLose 1 = .ok (.iload_n 1, 1) := by decide +kernel
theorem dX9_wouldLose_2 : decode cX9_wouldLose 2 = .ok (.invokevirtual 182, 3) := by decide +kernel
theorem dX9_wouldLose_5 : decode cX9_wouldLose 5 = .ok (.astore_n 3, 1) := by decide +kernel
theorem dX9_wouldLose_6 : decode cX9_wouldLose 6 = .ok (.aload_n 3, 1) := by decide +kernel
theorem dX9_wouldLose_7 : decode cX9_wouldLose 7 = .ok (.ifnonnull 13, 3) := by decide +kernel
theorem dX9_wouldLose_10 : decode cX9_wouldLose 10 = .ok (.new 83, 3) := by decide +kernel
theorem dX9_wouldLose_13 : decode cX9_wouldLose 13 = .ok (.dup, 1) := by decide +kernel
theorem dX9_wouldLose_14 : decode cX9_wouldLose 14 = .ok (.ldc 214, 2) := by decide +kernel
theorem dX9_wouldLose_16 : decode cX9_wouldLose 16 = .ok (.invokespecial 87, 3) := by decide +kernel
theorem dX9_wouldLose_19 : decode cX9_wouldLose 19 = .ok (.athrow, 1) := by decide +kernel
theorem dX9_wouldLose_20 : decode cX9_wouldLose 20 = .ok (.iload_n 2, 1) := by decide +kernel
theorem dX9_wouldLose_21 : decode cX9_wouldLose 21 = .ok (.iconst 0, 1) := by decide +kernel
theorem dX9_wouldLose_22 : decode cX9_wouldLose 22 = .ok (.sipush 1600, 3) := by decide +kernel
theorem dX9_wouldLose_25 : decode cX9_wouldLose 25 = .ok (.invokestatic 90, 3) := by decide +kernel
theorem dX9_wouldLose_28 : decode cX9_wouldLose 28 = .ok (.ifCond .eq 14, 3) := by decide +kernel
theorem dX9_wouldLose_31 : decode cX9_wouldLose 31 = .ok (.new 94, 3) := by decide +kernel
theorem dX9_wouldLose_34 : decode cX9_wouldLose 34 = .ok (.dup, 1) := by decide +kernel
theorem dX9_wouldLose_35 : decode cX9_wouldLose 35 = .ok (.ldc_w 299, 3) := by decide +kernel
theorem dX9_wouldLose_38 : decode cX9_wouldLose 38 = .ok (.invokespecial 98, 3) := by decide +kernel
theorem dX9_wouldLose_41 : decode cX9_wouldLose 41 = .ok (.athrow, 1) := by decide +kernel
theorem dX9_wouldLose_42 : decode cX9_wouldLose 42 = .ok (.aload_n 3, 1) := by decide +kernel
theorem dX9_wouldLose_43 : decode cX9_wouldLose 43 = .ok (.iload_n 2, 1) := by decide +kernel
theorem dX9_wouldLose_44 : decode cX9_wouldLose 44 = .ok (.aconst_null, 1) := by decide +kernel
theorem dX9_wouldLose_45 : decode cX9_wouldLose 45 = .ok (.iconst 0, 1) := by decide +kernel
theorem dX9_wouldLose_46 : decode cX9_wouldLose 46 = .ok (.invokevirtual 412, 3) := by decide +kernel
theorem dX9_wouldLose_49 : decode cX9_wouldLose 49 = .ok (.aload_n 3, 1) := by decide +kernel
theorem dX9_wouldLose_50 : decode cX9_wouldLose 50 = .ok (.invokevirtual 366, 3) := by decide +kernel
theorem dX9_wouldLose_53 : decode cX9_wouldLose 53 = .ok (.isub, 1) := by decide +kernel
theorem dX9_wouldLose_54 : decode cX9_wouldLose 54 = .ok (.ireturn, 1) := by decide +kernel
theorem dX9_mayDelay_0 : decode cX9_mayDelay 0 = .ok (.aload_n 0, 1) := by decide +kernel
theorem dX9_mayDelay_1 : decode cX9_mayDelay 1 = .ok (.iload_n 1, 1) := by decide +kernel
theorem dX9_mayDelay_2 : decode cX9_mayDelay 2 = .ok (.invokevirtual 185, 3) := by decide +kernel
theorem dX9_mayDelay_5 : decode cX9_mayDelay 5 = .ok (.astore_n 2, 1) := by decide +kernel
theorem dX9_mayDelay_6 : decode cX9_mayDelay 6 = .ok (.aload_n 2, 1) := by decide +kernel
theorem dX9_mayDelay_7 : decode cX9_mayDelay 7 = .ok (.ifnonnull 14, 3) := by decide +kernel
theorem dX9_mayDelay_10 : decode cX9_mayDelay 10 = .ok (.new 83, 3) := by decide +kernel
theorem dX9_mayDelay_13 : decode cX9_mayDelay 13 = .ok (.dup, 1) := by decide +kernel
theorem dX9_mayDelay_14 : decode cX9_mayDelay 14 = .ok (.ldc_w 292, 3) := by decide +kernel
theorem dX9_mayDelay_17 : decode cX9_mayDelay 17 = .ok (.invokespecial 87, 3) := by decide +kernel
theorem dX9_mayDelay_20 : decode cX9_mayDelay 20 = .ok (.athrow, 1) := by decide +kernel
theorem dX9_mayDelay_21 : decode cX9_mayDelay 21 = .ok (.aload_n 2, 1) := by decide +kernel
theorem dX9_mayDelay_22 : decode cX9_mayDelay 22 = .ok (.getfield 198, 3) := by decide +kernel
theorem dX9_mayDelay_25 : decode cX9_mayDelay 25 = .ok (.astore_n 3, 1) := by decide +kernel
theorem dX9_mayDelay_26 : decode cX9_mayDelay 26 = .ok (.aload_n 3, 1) := by decide +kernel
theorem dX9_mayDelay_27 : decode cX9_mayDelay 27 = .ok (.ifnonnull 6, 3) := by decide +kernel
theorem dX9_mayDelay_30 : decode cX9_mayDelay 30 = .ok (.bipush 120, 2) := by decide +kernel
theorem dX9_mayDelay_32 : decode cX9_mayDelay 32 = .ok (.ireturn, 1) := by decide +kernel
theorem dX9_mayDelay_33 : decode cX9_mayDelay 33 = .ok (.aload_n 3, 1) := by decide +kernel
theorem dX9_mayDelay_34 : decode cX9_mayDelay 34 = .ok (.getfield 301, 3) := by decide +kernel
theorem dX9_mayDelay_37 : decode cX9_mayDelay 37 = .ok (.istore 4, 2) := by decide +kernel
theorem dX9_mayDelay_39 : decode cX9_mayDelay 39 = .ok (.aload_n 3, 1) := by decide +kernel
theorem dX9_mayDelay_40 : decode cX9_mayDelay 40 = .ok (.iload 4, 2) := by decide +kernel
theorem dX9_mayDelay_42 : decode cX9_mayDelay 42 = .ok (.aload_n 2, 1) := by decide +kernel
theorem dX9_mayDelay_43 : decode cX9_mayDelay 43 = .ok (.iconst 0, 1) := by decide +kernel
theorem dX9_mayDelay_44 : decode cX9_mayDelay 44 = .ok (.invokevirtual 412, 3) := by decide +kernel
theorem dX9_mayDelay_47 : decode cX9_mayDelay 47 = .ok (.istore 5, 2) := by decide +kernel
theorem dX9_mayDelay_49 : decode cX9_mayDelay 49 = .ok (.bipush 120, 2) := by decide +kernel
theorem dX9_mayDelay_51 : decode cX9_mayDelay 51 = .ok (.istore 6, 2) := by decide +kernel
theorem dX9_mayDelay_53 : decode cX9_mayDelay 53 = .ok (.iload 6, 2) := by decide +kernel
theorem dX9_mayDelay_55 : decode cX9_mayDelay 55 = .ok (.ifCond .le 26, 3) := by decide +kernel
theorem dX9_mayDelay_58 : decode cX9_mayDelay 58 = .ok (.aload_n 3, 1) := by decide +kernel
theorem dX9_mayDelay_59 : decode cX9_mayDelay 59 = .ok (.iload 4, 2) := by decide +kernel
theorem dX9_mayDelay_61 : decode cX9_mayDelay 61 = .ok (.aload_n 2, 1) := by decide +kernel
theorem dX9_mayDelay_62 : decode cX9_mayDelay 62 = .ok (.iload 6, 2) := by decide +kernel
theorem dX9_mayDelay_64 : decode cX9_mayDelay 64 = .ok (.invokevirtual 412, 3) := by decide +kernel
theorem dX9_mayDelay_67 : decode cX9_mayDelay 67 = .ok (.iload 5, 2) := by decide +kernel
theorem dX9_mayDelay_69 : decode cX9_mayDelay 69 = .ok (.if_icmp .gt 6, 3) := by decide +kernel
theorem dX9_mayDelay_72 : decode cX9_mayDelay 72 = .ok (.iload 6, 2) := by decide +kernel
theorem dX9_mayDelay_74 : decode cX9_mayDelay 74 = .ok (.ireturn, 1) := by decide +kernel
theorem dX9_mayDelay_75 : decode cX9_mayDelay 75 = .ok (.iinc 6 (-1), 3) := by decide +kernel
theorem dX9_mayDelay_78 : decode cX9_mayDelay 78 = .ok (.goto (-25), 3) := by decide +kernel
theorem dX9_mayDelay_81 : decode cX9_mayDelay 81 = .ok (.iconst 0, 1) := by decide +kernel
theorem dX9_mayDelay_82 : decode cX9_mayDelay 82 = .ok (.ireturn, 1) := by decide +kernel
theorem dX9_bestSwap_0 : decode cX9_bestSwap 0 = .ok (.aload_n 0, 1) := by decide +kernel
theorem dX9_bestSwap_1 : decode cX9_bestSwap 1 = .ok (.iload_n 1, 1) := by decide +kernel
theorem dX9_bestSwap_2 : decode cX9_bestSwap 2 = .ok (.invokevirtual 182, 3) := by decide +kernel
theorem dX9_bestSwap_5 : decode cX9_bestSwap 5 = .ok (.astore_n 3, 1) := by decide +kernel
theorem dX9_bestSwap_6 : decode cX9_bestSwap 6 = .ok (.aload_n 0, 1) := by decide +kernel
theorem dX9_bestSwap_7 : decode cX9_bestSwap 7 = .ok (.iload_n 2, 1) := by decide +kernel
theorem dX9_bestSwap_8 : decode cX9_bestSwap 8 = .ok (.invokevirtual 182, 3) := by decide +kernel
theorem dX9_bestSwap_11 : decode cX9_bestSwap 11 = .ok (.astore 4, 2) := by decide +kernel
theorem dX9_bestSwap_13 : decode cX9_bestSwap 13 = .ok (.aload_n 3, 1) := by decide +kernel
theorem dX9_bestSwap_14 : decode cX9_bestSwap 14 = .ok (.ifnull 8, 3) := by decide +kernel
theorem dX9_bestSwap_17 : decode cX9_bestSwap 17 = .ok (.aload 4, 2) := by decide +kernel
theorem dX9_bestSwap_19 : decode cX9_bestSwap 19 = .ok (.ifnonnull 13, 3) := by decide +kernel
theorem dX9_bestSwap_22 : decode cX9_bestSwap 22 = .ok (.new 83, 3) := by decide +kernel
theorem dX9_bestSwap_25 : decode cX9_bestSwap 25 = .ok (.dup, 1) := by decide +kernel
theorem dX9_bestSwap_26 : decode cX9_bestSwap 26 = .ok (.ldc 214, 2) := by decide +kernel
theorem dX9_bestSwap_28 : decode cX9_bestSwap 28 = .ok (.invokespecial 87, 3) := by decide +kernel
theorem dX9_bestSwap_31 : decode cX9_bestSwap 31 = .ok (.athrow, 1) := by decide +kernel
theorem dX9_bestSwap_32 : decode cX9_bestSwap 32 = .ok (.iload_n 1, 1) := by decide +kernel
theorem dX9_bestSwap_33 : decode cX9_bestSwap 33 = .ok (.iload_n 2, 1) := by decide +kernel
theorem dX9_bestSwap_34 : decode cX9_bestSwap 34 = .ok (.if_icmp .ne 14, 3) := by decide +kernel
theorem dX9_bestSwap_37 : decode cX9_bestSwap 37 = .ok (.new 94, 3) := by decide +kernel
theorem dX9_bestSwap_40 : decode cX9_bestSwap 40 = .ok (.dup, 1) := by decide +kernel
theorem dX9_bestSwap_41 : decode cX9_bestSwap 41 = .ok (.ldc_w 416, 3) := by decide +kernel
theorem dX9_bestSwap_44 : decode cX9_bestSwap 44 = .ok (.invokespecial 98, 3) := by decide +kernel
theorem dX9_bestSwap_47 : decode cX9_bestSwap 47 = .ok (.athrow, 1) := by decide +kernel
theorem dX9_bestSwap_48 : decode cX9_bestSwap 48 = .ok (.iconst (-1), 1) := by decide +kernel
theorem dX9_bestSwap_49 : decode cX9_bestSwap 49 = .ok (.istore 5, 2) := by decide +kernel
theorem dX9_bestSwap_51 : decode cX9_bestSwap 51 = .ok (.iconst 0, 1) := by decide +kernel
theorem dX9_bestSwap_52 : decode cX9_bestSwap 52 = .ok (.istore 6, 2) := by decide +kernel
theorem dX9_bestSwap_54 : decode cX9_bestSwap 54 = .ok (.iconst 0, 1) := by decide +kernel
theorem dX9_bestSwap_55 : decode cX9_bestSwap 55 = .ok (.istore 7, 2) := by decide +kernel
theorem dX9_bestSwap_57 : decode cX9_bestSwap 57 = .ok (.iload 7, 2) := by decide +kernel
theorem dX9_bestSwap_59 : decode cX9_bestSwap 59 = .ok (.aload_n 3, 1) := by decide +kernel
theorem dX9_bestSwap_60 : decode cX9_bestSwap 60 = .ok (.getfield 191, 3) := by decide +kernel
theorem dX9_bestSwap_63 : decode cX9_bestSwap 63 = .ok (.invokevirtual 211, 3) := by decide +kernel
theorem dX9_bestSwap_66 : decode cX9_bestSwap 66 = .ok (.if_icmp .gt 77, 3) := by decide +kernel
theorem dX9_bestSwap_69 : decode cX9_bestSwap 69 = .ok (.iconst 0, 1) := by decide +kernel
theorem dX9_bestSwap_70 : decode cX9_bestSwap 70 = .ok (.istore 8, 2) := by decide +kernel
theorem dX9_bestSwap_72 : decode cX9_bestSwap 72 = .ok (.iload 8, 2) := by decide +kernel
theorem dX9_bestSwap_74 : decode cX9_bestSwap 74 = .ok (.aload 4, 2) := by decide +kernel
theorem dX9_bestSwap_76 : decode cX9_bestSwap 76 = .ok (.getfield 191, 3) := by decide +kernel
theorem dX9_bestSwap_79 : decode cX9_bestSwap 79 = .ok (.invokevirtual 211, 3) := by decide +kernel
theorem dX9_bestSwap_82 : decode cX9_bestSwap 82 = .ok (.if_icmp .gt 55, 3) := by decide +kernel
theorem dX9_bestSwap_85 : decode cX9_bestSwap 85 = .ok (.aload_n 0, 1) := by decide +kernel
theorem dX9_bestSwap_86 : decode cX9_bestSwap 86 = .ok (.aload_n 3, 1) := by decide +kernel
theorem dX9_bestSwap_87 : decode cX9_bestSwap 87 = .ok (.iload 7, 2) := by decide +kernel
theorem dX9_bestSwap_89 : decode cX9_bestSwap 89 = .ok (.aload 4, 2) := by decide +kernel
theorem dX9_bestSwap_91 : decode cX9_bestSwap 91 = .ok (.iload 8, 2) := by decide +kernel
theorem dX9_bestSwap_93 : decode cX9_bestSwap 93 = .ok (.invokevirtual 418, 3) := by decide +kernel
theorem dX9_bestSwap_96 : decode cX9_bestSwap 96 = .ok (.istore 9, 2) := by decide +kernel
theorem dX9_bestSwap_98 : decode cX9_bestSwap 98 = .ok (.iload 9, 2) := by decide +kernel
theorem dX9_bestSwap_100 : decode cX9_bestSwap 100 = .ok (.iconst (-1), 1) := by decide +kernel
theorem dX9_bestSwap_101 : decode cX9_bestSwap 101 = .ok (.if_icmp .eq 30, 3) := by decide +kernel
theorem dX9_bestSwap_104 : decode cX9_bestSwap 104 = .ok (.iload 5, 2) := by decide +kernel
theorem dX9_bestSwap_106 : decode cX9_bestSwap 106 = .ok (.iconst (-1), 1) := by decide +kernel
theorem dX9_bestSwap_107 : decode cX9_bestSwap 107 = .ok (.if_icmp .eq 10, 3) := by decide +kernel
theorem dX9_bestSwap_110 : decode cX9_bestSwap 110 = .ok (.iload 9, 2) := by decide +kernel
theorem dX9_bestSwap_112 : decode cX9_bestSwap 112 = .ok (.iload 6, 2) := by decide +kernel
theorem dX9_bestSwap_114 : decode cX9_bestSwap 114 = .ok (.if_icmp .ge 17, 3) := by decide +kernel
theorem dX9_bestSwap_117 : decode cX9_bestSwap 117 = .ok (.bipush 20, 2) := by decide +kernel
theorem dX9_bestSwap_119 : decode cX9_bestSwap 119 = .ok (.iload 7, 2) := by decide +kernel
theorem dX9_bestSwap_121 : decode cX9_bestSwap 121 = .ok (.imul, 1) := by decide +kernel
theorem dX9_bestSwap_122 : decode cX9_bestSwap 122 = .ok (.iload 8, 2) := by decide +kernel
theorem dX9_bestSwap_124 : decode cX9_bestSwap 124 = .ok (.iadd, 1) := by decide +kernel
theorem dX9_bestSwap_125 : decode cX9_bestSwap 125 = .ok (.istore 5, 2) := by decide +kernel
theorem dX9_bestSwap_127 : decode cX9_bestSwap 127 = .ok (.iload 9, 2) := by decide +kernel
theorem dX9_bestSwap_129 : decode cX9_bestSwap 129 = .ok (.istore 6, 2) := by decide +kernel
theorem dX9_bestSwap_131 : decode cX9_bestSwap 131 = .ok (.iinc 8 1, 3) := by decide +kernel
theorem dX9_bestSwap_134 : decode cX9_bestSwap 134 = .ok (.goto (-62), 3) := by decide +kernel
theorem dX9_bestSwap_137 : decode cX9_bestSwap 137 = .ok (.iinc 7 1, 3) := by decide +kernel
theorem dX9_bestSwap_140 : decode cX9_bestSwap 140 = .ok (.goto (-83), 3) := by decide +kernel
theorem dX9_bestSwap_143 : decode cX9_bestSwap 143 = .ok (.iload 5, 2) := by decide +kernel
theorem dX9_bestSwap_145 : decode cX9_bestSwap 145 = .ok (.ireturn, 1) := by decide +kernel
theorem dX9_digest_0 : decode cX9_digest 0 = .ok (.ldc2_w 422, 3) := by decide +kernel
theorem dX9_digest_3 : decode cX9_digest 3 = .ok (.lstore_n 1, 1) := by decide +kernel
theorem dX9_digest_4 : decode cX9_digest 4 = .ok (.iconst 0, 1) := by decide +kernel
theorem dX9_digest_5 : decode cX9_digest 5 = .ok (.istore_n 3, 1) := by decide +kernel
theorem dX9_digest_6 : decode cX9_digest 6 = .ok (.iload_n 3, 1) := by decide +kernel
theorem dX9_digest_7 : decode cX9_digest 7 = .ok (.bipush 8, 2) := by decide +kernel
theorem dX9_digest_9 : decode cX9_digest 9 = .ok (.if_icmp .gt 19, 3) := by decide +kernel
theorem dX9_digest_12 : decode cX9_digest 12 = .ok (.lload_n 1, 1) := by decide +kernel
theorem dX9_digest_13 : decode cX9_digest 13 = .ok (.aload_n 0, 1) := by decide +kernel
theorem dX9_digest_14 : decode cX9_digest 14 = .ok (.iload_n 3, 1) := by decide +kernel
theorem dX9_digest_15 : decode cX9_digest 15 = .ok (.invokevirtual 424, 3) := by decide +kernel
theorem dX9_digest_18 : decode cX9_digest 18 = .ok (.invokestatic 427, 3) := by decide +kernel
theorem dX9_digest_21 : decode cX9_digest 21 = .ok (.lstore_n 1, 1) := by decide +kernel
theorem dX9_digest_22 : decode cX9_digest 22 = .ok (.iinc 3 1, 3) := by decide +kernel
theorem dX9_digest_25 : decode cX9_digest 25 = .ok (.goto (-19), 3) := by decide +kernel
theorem dX9_digest_28 : decode cX9_digest 28 = .ok (.iconst 1, 1) := by decide +kernel
theorem dX9_digest_29 : decode cX9_digest 29 = .ok (.istore_n 3, 1) := by decide +kernel
theorem dX9_digest_30 : decode cX9_digest 30 = .ok (.iload_n 3, 1) := by decide +kernel
theorem dX9_digest_31 : decode cX9_digest 31 = .ok (.bipush 6, 2) := by decide +kernel
theorem dX9_digest_33 : decode cX9_digest 33 = .ok (.if_icmp .gt 19, 3) := by decide +kernel
theorem dX9_digest_36 : decode cX9_digest 36 = .ok (.lload_n 1, 1) := by decide +kernel
theorem dX9_digest_37 : decode cX9_digest 37 = .ok (.aload_n 0, 1) := by decide +kernel
theorem dX9_digest_38 : decode cX9_digest 38 = .ok (.iload_n 3, 1) := by decide +kernel
theorem dX9_digest_39 : decode cX9_digest 39 = .ok (.invokevirtual 431, 3) := by decide +kernel
theorem dX9_digest_42 : decode cX9_digest 42 = .ok (.invokestatic 427, 3) := by decide +kernel
theorem dX9_digest_45 : decode cX9_digest 45 = .ok (.lstore_n 1, 1) := by decide +kernel
theorem dX9_digest_46 : decode cX9_digest 46 = .ok (.iinc 3 1, 3) := by decide +kernel
theorem dX9_digest_49 : decode cX9_digest 49 = .ok (.goto (-19), 3) := by decide +kernel
theorem dX9_digest_52 : decode cX9_digest 52 = .ok (.iconst 0, 1) := by decide +kernel
theorem dX9_digest_53 : decode cX9_digest 53 = .ok (.istore_n 3, 1) := by decide +kernel
theorem dX9_digest_54 : decode cX9_digest 54 = .ok (.iload_n 3, 1) := by decide +kernel
theorem dX9_digest_55 : decode cX9_digest 55 = .ok (.aload_n 0, 1) := by decide +kernel
theorem dX9_digest_56 : decode cX9_digest 56 = .ok (.getfield 19, 3) := by decide +kernel
theorem dX9_digest_59 : decode cX9_digest 59 = .ok (.invokevirtual 136, 3) := by decide +kernel
theorem dX9_digest_62 : decode cX9_digest 62 = .ok (.if_icmp .ge 16, 3) := by decide +kernel
theorem dX9_digest_65 : decode cX9_digest 65 = .ok (.aload_n 0, 1) := by decide +kernel
theorem dX9_digest_66 : decode cX9_digest 66 = .ok (.lload_n 1, 1) := by decide +kernel
theorem dX9_digest_67 : decode cX9_digest 67 = .ok (.iload_n 3, 1) := by decide +kernel
theorem dX9_digest_68 : decode cX9_digest 68 = .ok (.invokevirtual 434, 3) := by decide +kernel
theorem dX9_digest_71 : decode cX9_digest 71 = .ok (.lstore_n 1, 1) := by decide +kernel
theorem dX9_digest_72 : decode cX9_digest 72 = .ok (.iinc 3 1, 3) := by decide +kernel
theorem dX9_digest_75 : decode cX9_digest 75 = .ok (.goto (-21), 3) := by decide +kernel
theorem dX9_digest_78 : decode cX9_digest 78 = .ok (.iconst 0, 1) := by decide +kernel
theorem dX9_digest_79 : decode cX9_digest 79 = .ok (.istore_n 3, 1) := by decide +kernel
theorem dX9_digest_80 : decode cX9_digest 80 = .ok (.iload_n 3, 1) := by decide +kernel
theorem dX9_digest_81 : decode cX9_digest 81 = .ok (.aload_n 0, 1) := by decide +kernel
theorem dX9_digest_82 : decode cX9_digest 82 = .ok (.getfield 25, 3) := by decide +kernel
theorem dX9_digest_85 : decode cX9_digest 85 = .ok (.invokevirtual 136, 3) := by decide +kernel
theorem dX9_digest_88 : decode cX9_digest 88 = .ok (.if_icmp .ge 16, 3) := by decide +kernel
theorem dX9_digest_91 : decode cX9_digest 91 = .ok (.aload_n 0, 1) := by decide +kernel
theorem dX9_digest_92 : decode cX9_digest 92 = .ok (.lload_n 1, 1) := by decide +kernel
theorem dX9_digest_93 : decode cX9_digest 93 = .ok (.iload_n 3, 1) := by decide +kernel
theorem dX9_digest_94 : decode cX9_digest 94 = .ok (.invokevirtual 437, 3) := by decide +kernel
theorem dX9_digest_97 : decode cX9_digest 97 = .ok (.lstore_n 1, 1) := by decide +kernel
end
section
theorem dX9_digest_98 : decode cX9_digest 98 = .ok (.iinc 3 1, 3) := by decide +kernel
theorem dX9_digest_101 : decode cX9_digest 101 = .ok (.goto (-21), 3) := by decide +kernel
theorem dX9_digest_104 : decode cX9_digest 104 = .ok (.iconst 0, 1) := by decide +kernel
theorem dX9_digest_105 : decode cX9_digest 105 = .ok (.istore_n 3, 1) := by decide +kernel
theorem dX9_digest_106 : decode cX9_digest 106 = .ok (.iload_n 3, 1) := by decide +kernel
theorem dX9_digest_107 : decode cX9_digest 107 = .ok (.aload_n 0, 1) := by decide +kernel
theorem dX9_digest_108 : decode cX9_digest 108 = .ok (.getfield 28, 3) := by decide +kernel
theorem dX9_digest_111 : decode cX9_digest 111 = .ok (.invokevirtual 136, 3) := by decide +kernel
theorem dX9_digest_114 : decode cX9_digest 114 = .ok (.if_icmp .ge 16, 3) := by decide +kernel
theorem dX9_digest_117 : decode cX9_digest 117 = .ok (.aload_n 0, 1) := by decide +kernel
theorem dX9_digest_118 : decode cX9_digest 118 = .ok (.lload_n 1, 1) := by decide +kernel
theorem dX9_digest_119 : decode cX9_digest 119 = .ok (.iload_n 3, 1) := by decide +kernel
theorem dX9_digest_120 : decode cX9_digest 120 = .ok (.invokevirtual 440, 3) := by decide +kernel
theorem dX9_digest_123 : decode cX9_digest 123 = .ok (.lstore_n 1, 1) := by decide +kernel
theorem dX9_digest_124 : decode cX9_digest 124 = .ok (.iinc 3 1, 3) := by decide +kernel
theorem dX9_digest_127 : decode cX9_digest 127 = .ok (.goto (-21), 3) := by decide +kernel
theorem dX9_digest_130 : decode cX9_digest 130 = .ok (.lload_n 1, 1) := by decide +kernel
theorem dX9_digest_131 : decode cX9_digest 131 = .ok (.aload_n 0, 1) := by decide +kernel
theorem dX9_digest_132 : decode cX9_digest 132 = .ok (.invokevirtual 443, 3) := by decide +kernel
theorem dX9_digest_135 : decode cX9_digest 135 = .ok (.invokestatic 427, 3) := by decide +kernel
theorem dX9_digest_138 : decode cX9_digest 138 = .ok (.lstore_n 1, 1) := by decide +kernel
theorem dX9_digest_139 : decode cX9_digest 139 = .ok (.aload_n 0, 1) := by decide +kernel
theorem dX9_digest_140 : decode cX9_digest 140 = .ok (.getfield 25, 3) := by decide +kernel
theorem dX9_digest_143 : decode cX9_digest 143 = .ok (.invokevirtual 136, 3) := by decide +kernel
theorem dX9_digest_146 : decode cX9_digest 146 = .ok (.iconst 2, 1) := by decide +kernel
theorem dX9_digest_147 : decode cX9_digest 147 = .ok (.if_icmp .ge 7, 3) := by decide +kernel
theorem dX9_digest_150 : decode cX9_digest 150 = .ok (.lload_n 1, 1) := by decide +kernel
theorem dX9_digest_151 : decode cX9_digest 151 = .ok (.goto 13, 3) := by decide +kernel
theorem dX9_digest_154 : decode cX9_digest 154 = .ok (.lload_n 1, 1) := by decide +kernel
theorem dX9_digest_155 : decode cX9_digest 155 = .ok (.aload_n 0, 1) := by decide +kernel
theorem dX9_digest_156 : decode cX9_digest 156 = .ok (.iconst 0, 1) := by decide +kernel
theorem dX9_digest_157 : decode cX9_digest 157 = .ok (.iconst 1, 1) := by decide +kernel
theorem dX9_digest_158 : decode cX9_digest 158 = .ok (.invokevirtual 446, 3) := by decide +kernel
theorem dX9_digest_161 : decode cX9_digest 161 = .ok (.invokestatic 427, 3) := by decide +kernel
theorem dX9_digest_164 : decode cX9_digest 164 = .ok (.lreturn, 1) := by decide +kernel
theorem dX9_mix_0 : decode cX9_mix 0 = .ok (.lload_n 0, 1) := by decide +kernel
theorem dX9_mix_1 : decode cX9_mix 1 = .ok (.ldc2_w 450, 3) := by decide +kernel
theorem dX9_mix_4 : decode cX9_mix 4 = .ok (.lmul, 1) := by decide +kernel
theorem dX9_mix_5 : decode cX9_mix 5 = .ok (.iload_n 2, 1) := by decide +kernel
theorem dX9_mix_6 : decode cX9_mix 6 = .ok (.i2l, 1) := by decide +kernel
theorem dX9_mix_7 : decode cX9_mix 7 = .ok (.ladd, 1) := by decide +kernel
theorem dX9_mix_8 : decode cX9_mix 8 = .ok (.lreturn, 1) := by decide +kernel
theorem dX9_mixTrip_0 : decode cX9_mixTrip 0 = .ok (.lload_n 1, 1) := by decide +kernel
theorem dX9_mixTrip_1 : decode cX9_mixTrip 1 = .ok (.lstore 4, 2) := by decide +kernel
theorem dX9_mixTrip_3 : decode cX9_mixTrip 3 = .ok (.iconst 0, 1) := by decide +kernel
theorem dX9_mixTrip_4 : decode cX9_mixTrip 4 = .ok (.istore 6, 2) := by decide +kernel
theorem dX9_mixTrip_6 : decode cX9_mixTrip 6 = .ok (.iload 6, 2) := by decide +kernel
theorem dX9_mixTrip_8 : decode cX9_mixTrip 8 = .ok (.bipush 10, 2) := by decide +kernel
theorem dX9_mixTrip_10 : decode cX9_mixTrip 10 = .ok (.if_icmp .gt 23, 3) := by decide +kernel
theorem dX9_mixTrip_13 : decode cX9_mixTrip 13 = .ok (.lload 4, 2) := by decide +kernel
theorem dX9_mixTrip_15 : decode cX9_mixTrip 15 = .ok (.aload_n 0, 1) := by decide +kernel
theorem dX9_mixTrip_16 : decode cX9_mixTrip 16 = .ok (.iload_n 3, 1) := by decide +kernel
theorem dX9_mixTrip_17 : decode cX9_mixTrip 17 = .ok (.iload 6, 2) := by decide +kernel
theorem dX9_mixTrip_19 : decode cX9_mixTrip 19 = .ok (.invokevirtual 452, 3) := by decide +kernel
theorem dX9_mixTrip_22 : decode cX9_mixTrip 22 = .ok (.invokestatic 427, 3) := by decide +kernel
theorem dX9_mixTrip_25 : decode cX9_mixTrip 25 = .ok (.lstore 4, 2) := by decide +kernel
theorem dX9_mixTrip_27 : decode cX9_mixTrip 27 = .ok (.iinc 6 1, 3) := by decide +kernel
theorem dX9_mixTrip_30 : decode cX9_mixTrip 30 = .ok (.goto (-24), 3) := by decide +kernel
theorem dX9_mixTrip_33 : decode cX9_mixTrip 33 = .ok (.lload 4, 2) := by decide +kernel
theorem dX9_mixTrip_35 : decode cX9_mixTrip 35 = .ok (.aload_n 0, 1) := by decide +kernel
theorem dX9_mixTrip_36 : decode cX9_mixTrip 36 = .ok (.iload_n 3, 1) := by decide +kernel
theorem dX9_mixTrip_37 : decode cX9_mixTrip 37 = .ok (.invokevirtual 455, 3) := by decide +kernel
theorem dX9_mixTrip_40 : decode cX9_mixTrip 40 = .ok (.invokestatic 427, 3) := by decide +kernel
theorem dX9_mixTrip_43 : decode cX9_mixTrip 43 = .ok (.lreturn, 1) := by decide +kernel
theorem dX9_mixBlock_0 : decode cX9_mixBlock 0 = .ok (.lload_n 1, 1) := by decide +kernel
theorem dX9_mixBlock_1 : decode cX9_mixBlock 1 = .ok (.lstore 4, 2) := by decide +kernel
theorem dX9_mixBlock_3 : decode cX9_mixBlock 3 = .ok (.iconst 0, 1) := by decide +kernel
theorem dX9_mixBlock_4 : decode cX9_mixBlock 4 = .ok (.istore 6, 2) := by decide +kernel
theorem dX9_mixBlock_6 : decode cX9_mixBlock 6 = .ok (.iload 6, 2) := by decide +kernel
theorem dX9_mixBlock_8 : decode cX9_mixBlock 8 = .ok (.bipush 7, 2) := by decide +kernel
theorem dX9_mixBlock_10 : decode cX9_mixBlock 10 = .ok (.if_icmp .gt 23, 3) := by decide +kernel
theorem dX9_mixBlock_13 : decode cX9_mixBlock 13 = .ok (.lload 4, 2) := by decide +kernel
theorem dX9_mixBlock_15 : decode cX9_mixBlock 15 = .ok (.aload_n 0, 1) := by decide +kernel
theorem dX9_mixBlock_16 : decode cX9_mixBlock 16 = .ok (.iload_n 3, 1) := by decide +kernel
theorem dX9_mixBlock_17 : decode cX9_mixBlock 17 = .ok (.iload 6, 2) := by decide +kernel
theorem dX9_mixBlock_19 : decode cX9_mixBlock 19 = .ok (.invokevirtual 458, 3) := by decide +kernel
theorem dX9_mixBlock_22 : decode cX9_mixBlock 22 = .ok (.invokestatic 427, 3) := by decide +kernel
theorem dX9_mixBlock_25 : decode cX9_mixBlock 25 = .ok (.lstore 4, 2) := by decide +kernel
theorem dX9_mixBlock_27 : decode cX9_mixBlock 27 = .ok (.iinc 6 1, 3) := by decide +kernel
theorem dX9_mixBlock_30 : decode cX9_mixBlock 30 = .ok (.goto (-24), 3) := by decide +kernel
theorem dX9_mixBlock_33 : decode cX9_mixBlock 33 = .ok (.aload_n 0, 1) := by decide +kernel
theorem dX9_mixBlock_34 : decode cX9_mixBlock 34 = .ok (.iload_n 3, 1) := by decide +kernel
theorem dX9_mixBlock_35 : decode cX9_mixBlock 35 = .ok (.iconst 3, 1) := by decide +kernel
theorem dX9_mixBlock_36 : decode cX9_mixBlock 36 = .ok (.invokevirtual 458, 3) := by decide +kernel
theorem dX9_mixBlock_39 : decode cX9_mixBlock 39 = .ok (.istore 6, 2) := by decide +kernel
theorem dX9_mixBlock_41 : decode cX9_mixBlock 41 = .ok (.iconst 0, 1) := by decide +kernel
theorem dX9_mixBlock_42 : decode cX9_mixBlock 42 = .ok (.istore 7, 2) := by decide +kernel
theorem dX9_mixBlock_44 : decode cX9_mixBlock 44 = .ok (.iload 7, 2) := by decide +kernel
theorem dX9_mixBlock_46 : decode cX9_mixBlock 46 = .ok (.iload 6, 2) := by decide +kernel
theorem dX9_mixBlock_48 : decode cX9_mixBlock 48 = .ok (.if_icmp .ge 40, 3) := by decide +kernel
theorem dX9_mixBlock_51 : decode cX9_mixBlock 51 = .ok (.iconst 0, 1) := by decide +kernel
theorem dX9_mixBlock_52 : decode cX9_mixBlock 52 = .ok (.istore 8, 2) := by decide +kernel
theorem dX9_mixBlock_54 : decode cX9_mixBlock 54 = .ok (.iload 8, 2) := by decide +kernel
theorem dX9_mixBlock_56 : decode cX9_mixBlock 56 = .ok (.iconst 5, 1) := by decide +kernel
theorem dX9_mixBlock_57 : decode cX9_mixBlock 57 = .ok (.if_icmp .gt 25, 3) := by decide +kernel
theorem dX9_mixBlock_60 : decode cX9_mixBlock 60 = .ok (.lload 4, 2) := by decide +kernel
theorem dX9_mixBlock_62 : decode cX9_mixBlock 62 = .ok (.aload_n 0, 1) := by decide +kernel
theorem dX9_mixBlock_63 : decode cX9_mixBlock 63 = .ok (.iload_n 3, 1) := by decide +kernel
theorem dX9_mixBlock_64 : decode cX9_mixBlock 64 = .ok (.iload 7, 2) := by decide +kernel
theorem dX9_mixBlock_66 : decode cX9_mixBlock 66 = .ok (.iload 8, 2) := by decide +kernel
theorem dX9_mixBlock_68 : decode cX9_mixBlock 68 = .ok (.invokevirtual 461, 3) := by decide +kernel
theorem dX9_mixBlock_71 : decode cX9_mixBlock 71 = .ok (.invokestatic 427, 3) := by decide +kernel
theorem dX9_mixBlock_74 : decode cX9_mixBlock 74 = .ok (.lstore 4, 2) := by decide +kernel
theorem dX9_mixBlock_76 : decode cX9_mixBlock 76 = .ok (.iinc 8 1, 3) := by decide +kernel
theorem dX9_mixBlock_79 : decode cX9_mixBlock 79 = .ok (.goto (-25), 3) := by decide +kernel
theorem dX9_mixBlock_82 : decode cX9_mixBlock 82 = .ok (.iinc 7 1, 3) := by decide +kernel
theorem dX9_mixBlock_85 : decode cX9_mixBlock 85 = .ok (.goto (-41), 3) := by decide +kernel
theorem dX9_mixBlock_88 : decode cX9_mixBlock 88 = .ok (.lload 4, 2) := by decide +kernel
theorem dX9_mixBlock_90 : decode cX9_mixBlock 90 = .ok (.aload_n 0, 1) := by decide +kernel
theorem dX9_mixBlock_91 : decode cX9_mixBlock 91 = .ok (.iload_n 3, 1) := by decide +kernel
theorem dX9_mixBlock_92 : decode cX9_mixBlock 92 = .ok (.sipush 600, 3) := by decide +kernel
theorem dX9_mixBlock_95 : decode cX9_mixBlock 95 = .ok (.invokevirtual 465, 3) := by decide +kernel
theorem dX9_mixBlock_98 : decode cX9_mixBlock 98 = .ok (.invokestatic 427, 3) := by decide +kernel
theorem dX9_mixBlock_101 : decode cX9_mixBlock 101 = .ok (.lreturn, 1) := by decide +kernel
theorem dX9_mixDriver_0 : decode cX9_mixDriver 0 = .ok (.lload_n 1, 1) := by decide +kernel
theorem dX9_mixDriver_1 : decode cX9_mixDriver 1 = .ok (.lstore 4, 2) := by decide +kernel
theorem dX9_mixDriver_3 : decode cX9_mixDriver 3 = .ok (.iconst 0, 1) := by decide +kernel
theorem dX9_mixDriver_4 : decode cX9_mixDriver 4 = .ok (.istore 6, 2) := by decide +kernel
theorem dX9_mixDriver_6 : decode cX9_mixDriver 6 = .ok (.iload 6, 2) := by decide +kernel
theorem dX9_mixDriver_8 : decode cX9_mixDriver 8 = .ok (.iconst 4, 1) := by decide +kernel
theorem dX9_mixDriver_9 : decode cX9_mixDriver 9 = .ok (.if_icmp .gt 23, 3) := by decide +kernel
theorem dX9_mixDriver_12 : decode cX9_mixDriver 12 = .ok (.lload 4, 2) := by decide +kernel
theorem dX9_mixDriver_14 : decode cX9_mixDriver 14 = .ok (.aload_n 0, 1) := by decide +kernel
theorem dX9_mixDriver_15 : decode cX9_mixDriver 15 = .ok (.iload_n 3, 1) := by decide +kernel
theorem dX9_mixDriver_16 : decode cX9_mixDriver 16 = .ok (.iload 6, 2) := by decide +kernel
theorem dX9_mixDriver_18 : decode cX9_mixDriver 18 = .ok (.invokevirtual 468, 3) := by decide +kernel
theorem dX9_mixDriver_21 : decode cX9_mixDriver 21 = .ok (.invokestatic 427, 3) := by decide +kernel
theorem dX9_mixDriver_24 : decode cX9_mixDriver 24 = .ok (.lstore 4, 2) := by decide +kernel
theorem dX9_mixDriver_26 : decode cX9_mixDriver 26 = .ok (.iinc 6 1, 3) := by decide +kernel
theorem dX9_mixDriver_29 : decode cX9_mixDriver 29 = .ok (.goto (-23), 3) := by decide +kernel
theorem dX9_mixDriver_32 : decode cX9_mixDriver 32 = .ok (.lload 4, 2) := by decide +kernel
theorem dX9_mixDriver_34 : decode cX9_mixDriver 34 = .ok (.lreturn, 1) := by decide +kernel
theorem dX9_isOutside_0 : decode cX9_isOutside 0 = .ok (.iload_n 0, 1) := by decide +kernel
theorem dX9_isOutside_1 : decode cX9_isOutside 1 = .ok (.iload_n 1, 1) := by decide +kernel
theorem dX9_isOutside_2 : decode cX9_isOutside 2 = .ok (.if_icmp .lt 8, 3) := by decide +kernel
theorem dX9_isOutside_5 : decode cX9_isOutside 5 = .ok (.iload_n 0, 1) := by decide +kernel
theorem dX9_isOutside_6 : decode cX9_isOutside 6 = .ok (.iload_n 2, 1) := by decide +kernel
theorem dX9_isOutside_7 : decode cX9_isOutside 7 = .ok (.if_icmp .le 7, 3) := by decide +kernel
theorem dX9_isOutside_10 : decode cX9_isOutside 10 = .ok (.iconst 1, 1) := by decide +kernel
theorem dX9_isOutside_11 : decode cX9_isOutside 11 = .ok (.goto 4, 3) := by decide +kernel
theorem dX9_isOutside_14 : decode cX9_isOutside 14 = .ok (.iconst 0, 1) := by decide +kernel
theorem dX9_isOutside_15 : decode cX9_isOutside 15 = .ok (.ireturn, 1) := by decide +kernel
theorem dX9_placeNumbered_0 : decode cX9_placeNumbered 0 = .ok (.iload_n 1, 1) := by decide +kernel
theorem dX9_placeNumbered_1 : decode cX9_placeNumbered 1 = .ok (.ifCond .lt 28, 3) := by decide +kernel
theorem dX9_placeNumbered_4 : decode cX9_placeNumbered 4 = .ok (.iload_n 1, 1) := by decide +kernel
theorem dX9_placeNumbered_5 : decode cX9_placeNumbered 5 = .ok (.aload_n 0, 1) := by decide +kernel
theorem dX9_placeNumbered_6 : decode cX9_placeNumbered 6 = .ok (.getfield 10, 3) := by decide +kernel
theorem dX9_placeNumbered_9 : decode cX9_placeNumbered 9 = .ok (.invokevirtual 136, 3) := by decide +kernel
theorem dX9_placeNumbered_12 : decode cX9_placeNumbered 12 = .ok (.if_icmp .ge 17, 3) := by decide +kernel
theorem dX9_placeNumbered_15 : decode cX9_placeNumbered 15 = .ok (.aload_n 0, 1) := by decide +kernel
theorem dX9_placeNumbered_16 : decode cX9_placeNumbered 16 = .ok (.getfield 10, 3) := by decide +kernel
theorem dX9_placeNumbered_19 : decode cX9_placeNumbered 19 = .ok (.iload_n 1, 1) := by decide +kernel
theorem dX9_placeNumbered_20 : decode cX9_placeNumbered 20 = .ok (.invokevirtual 222, 3) := by decide +kernel
theorem dX9_placeNumbered_23 : decode cX9_placeNumbered 23 = .ok (.checkcast 63, 3) := by decide +kernel
theorem dX9_placeNumbered_26 : decode cX9_placeNumbered 26 = .ok (.goto 4, 3) := by decide +kernel
theorem dX9_placeNumbered_29 : decode cX9_placeNumbered 29 = .ok (.aconst_null, 1) := by decide +kernel
theorem dX9_placeNumbered_30 : decode cX9_placeNumbered 30 = .ok (.areturn, 1) := by decide +kernel
theorem dX9_lineNumbered_0 : decode cX9_lineNumbered 0 = .ok (.iload_n 1, 1) := by decide +kernel
theorem dX9_lineNumbered_1 : decode cX9_lineNumbered 1 = .ok (.ifCond .lt 28, 3) := by decide +kernel
theorem dX9_lineNumbered_4 : decode cX9_lineNumbered 4 = .ok (.iload_n 1, 1) := by decide +kernel
theorem dX9_lineNumbered_5 : decode cX9_lineNumbered 5 = .ok (.aload_n 0, 1) := by decide +kernel
theorem dX9_lineNumbered_6 : decode cX9_lineNumbered 6 = .ok (.getfield 16, 3) := by decide +kernel
theorem dX9_lineNumbered_9 : decode cX9_lineNumbered 9 = .ok (.invokevirtual 136, 3) := by decide +kernel
theorem dX9_lineNumbered_12 : decode cX9_lineNumbered 12 = .ok (.if_icmp .ge 17, 3) := by decide +kernel
theorem dX9_lineNumbered_15 : decode cX9_lineNumbered 15 = .ok (.aload_n 0, 1) := by decide +kernel
theorem dX9_lineNumbered_16 : decode cX9_lineNumbered 16 = .ok (.getfield 16, 3) := by decide +kernel
theorem dX9_lineNumbered_19 : decode cX9_lineNumbered 19 = .ok (.iload_n 1, 1) := by decide +kernel
theorem dX9_lineNumbered_20 : decode cX9_lineNumbered 20 = .ok (.invokevirtual 222, 3) := by decide +kernel
theorem dX9_lineNumbered_23 : decode cX9_lineNumbered 23 = .ok (.checkcast 76, 3) := by decide +kernel
theorem dX9_lineNumbered_26 : decode cX9_lineNumbered 26 = .ok (.goto 4, 3) := by decide +kernel
theorem dX9_lineNumbered_29 : decode cX9_lineNumbered 29 = .ok (.aconst_null, 1) := by decide +kernel
theorem dX9_lineNumbered_30 : decode cX9_lineNumbered 30 = .ok (.areturn, 1) := by decide +kernel
theorem dX9_tripNumbered_0 : decode cX9_tripNumbered 0 = .ok (.iload_n 1, 1) := by decide +kernel
theorem dX9_tripNumbered_1 : decode cX9_tripNumbered 1 = .ok (.ifCond .lt 28, 3) := by decide +kernel
theorem dX9_tripNumbered_4 : decode cX9_tripNumbered 4 = .ok (.iload_n 1, 1) := by decide +kernel
theorem dX9_tripNumbered_5 : decode cX9_tripNumbered 5 = .ok (.aload_n 0, 1) := by decide +kernel
theorem dX9_tripNumbered_6 : decode cX9_tripNumbered 6 = .ok (.getfield 19, 3) := by decide +kernel
theorem dX9_tripNumbered_9 : decode cX9_tripNumbered 9 = .ok (.invokevirtual 136, 3) := by decide +kernel
theorem dX9_tripNumbered_12 : decode cX9_tripNumbered 12 = .ok (.if_icmp .ge 17, 3) := by decide +kernel
theorem dX9_tripNumbered_15 : decode cX9_tripNumbered 15 = .ok (.aload_n 0, 1) := by decide +kernel
theorem dX9_tripNumbered_16 : decode cX9_tripNumbered 16 = .ok (.getfield 19, 3) := by decide +kernel
theorem dX9_tripNumbered_19 : decode cX9_tripNumbered 19 = .ok (.iload_n 1, 1) := by decide +kernel
theorem dX9_tripNumbered_20 : decode cX9_tripNumbered 20 = .ok (.invokevirtual 222, 3) := by decide +kernel
theorem dX9_tripNumbered_23 : decode cX9_tripNumbered 23 = .ok (.checkcast 142, 3) := by decide +kernel
theorem dX9_tripNumbered_26 : decode cX9_tripNumbered 26 = .ok (.goto 4, 3) := by decide +kernel
theorem dX9_tripNumbered_29 : decode cX9_tripNumbered 29 = .ok (.aconst_null, 1) := by decide +kernel
theorem dX9_tripNumbered_30 : decode cX9_tripNumbered 30 = .ok (.areturn, 1) := by decide +kernel
theorem dX9_blockNumbered_0 : decode cX9_blockNumbered 0 = .ok (.iload_n 1, 1) := by decide +kernel
theorem dX9_blockNumbered_1 : decode cX9_blockNumbered 1 = .ok (.ifCond .lt 28, 3) := by decide +kernel
theorem dX9_blockNumbered_4 : decode cX9_blockNumbered 4 = .ok (.iload_n 1, 1) := by decide +kernel
theorem dX9_blockNumbered_5 : decode cX9_blockNumbered 5 = .ok (.aload_n 0, 1) := by decide +kernel
theorem dX9_blockNumbered_6 : decode cX9_blockNumbered 6 = .ok (.getfield 25, 3) := by decide +kernel
theorem dX9_blockNumbered_9 : decode cX9_blockNumbered 9 = .ok (.invokevirtual 136, 3) := by decide +kernel
theorem dX9_blockNumbered_12 : decode cX9_blockNumbered 12 = .ok (.if_icmp .ge 17, 3) := by decide +kernel
theorem dX9_blockNumbered_15 : decode cX9_blockNumbered 15 = .ok (.aload_n 0, 1) := by decide +kernel
theorem dX9_blockNumbered_16 : decode cX9_blockNumbered 16 = .ok (.getfield 25, 3) := by decide +kernel
theorem dX9_blockNumbered_19 : decode cX9_blockNumbered 19 = .ok (.iload_n 1, 1) := by decide +kernel
theorem dX9_blockNumbered_20 : decode cX9_blockNumbered 20 = .ok (.invokevirtual 222, 3) := by decide +kernel
theorem dX9_blockNumbered_23 : decode cX9_blockNumbered 23 = .ok (.checkcast 178, 3) := by decide +kernel
theorem dX9_blockNumbered_26 : decode cX9_blockNumbered 26 = .ok (.goto 4, 3) := by decide +kernel
theorem dX9_blockNumbered_29 : decode cX9_blockNumbered 29 = .ok (.aconst_null, 1) := by decide +kernel
theorem dX9_blockNumbered_30 : decode cX9_blockNumbered 30 = .ok (.areturn, 1) := by decide +kernel
theorem dX9_pieceNumbered_0 : decode cX9_pieceNumbered 0 = .ok (.aload_n 0, 1) := by decide +kernel
theorem dX9_pieceNumbered_1 : decode cX9_pieceNumbered 1 = .ok (.iload_n 1, 1) := by decide +kernel
theorem dX9_pieceNumbered_2 : decode cX9_pieceNumbered 2 = .ok (.invokevirtual 182, 3) := by decide +kernel
theorem dX9_pieceNumbered_5 : decode cX9_pieceNumbered 5 = .ok (.astore_n 3, 1) := by decide +kernel
theorem dX9_pieceNumbered_6 : decode cX9_pieceNumbered 6 = .ok (.aload_n 3, 1) := by decide +kernel
theorem dX9_pieceNumbered_7 : decode cX9_pieceNumbered 7 = .ok (.ifnonnull 7, 3) := by decide +kernel
theorem dX9_pieceNumbered_10 : decode cX9_pieceNumbered 10 = .ok (.aconst_null, 1) := by decide +kernel
theorem dX9_pieceNumbered_11 : decode cX9_pieceNumbered 11 = .ok (.goto 8, 3) := by decide +kernel
theorem dX9_pieceNumbered_14 : decode cX9_pieceNumbered 14 = .ok (.aload_n 3, 1) := by decide +kernel
theorem dX9_pieceNumbered_15 : decode cX9_pieceNumbered 15 = .ok (.iload_n 2, 1) := by decide +kernel
theorem dX9_pieceNumbered_16 : decode cX9_pieceNumbered 16 = .ok (.invokevirtual 471, 3) := by decide +kernel
theorem dX9_pieceNumbered_19 : decode cX9_pieceNumbered 19 = .ok (.areturn, 1) := by decide +kernel
theorem dX9_driverNumbered_0 : decode cX9_driverNumbered 0 = .ok (.iload_n 1, 1) := by decide +kernel
theorem dX9_driverNumbered_1 : decode cX9_driverNumbered 1 = .ok (.ifCond .lt 28, 3) := by decide +kernel
theorem dX9_driverNumbered_4 : decode cX9_driverNumbered 4 = .ok (.iload_n 1, 1) := by decide +kernel
theorem dX9_driverNumbered_5 : decode cX9_driverNumbered 5 = .ok (.aload_n 0, 1) := by decide +kernel
theorem dX9_driverNumbered_6 : decode cX9_driverNumbered 6 = .ok (.getfield 28, 3) := by decide +kernel
theorem dX9_driverNumbered_9 : decode cX9_driverNumbered 9 = .ok (.invokevirtual 136, 3) := by decide +kernel
theorem dX9_driverNumbered_12 : decode cX9_driverNumbered 12 = .ok (.if_icmp .ge 17, 3) := by decide +kernel
theorem dX9_driverNumbered_15 : decode cX9_driverNumbered 15 = .ok (.aload_n 0, 1) := by decide +kernel
theorem dX9_driverNumbered_16 : decode cX9_driverNumbered 16 = .ok (.getfield 28, 3) := by decide +kernel
theorem dX9_driverNumbered_19 : decode cX9_driverNumbered 19 = .ok (.iload_n 1, 1) := by decide +kernel
theorem dX9_driverNumbered_20 : decode cX9_driverNumbered 20 = .ok (.invokevirtual 222, 3) := by decide +kernel
theorem dX9_driverNumbered_23 : decode cX9_driverNumbered 23 = .ok (.checkcast 166, 3) := by decide +kernel
theorem dX9_driverNumbered_26 : decode cX9_driverNumbered 26 = .ok (.goto 4, 3) := by decide +kernel
theorem dX9_driverNumbered_29 : decode cX9_driverNumbered 29 = .ok (.aconst_null, 1) := by decide +kernel
theorem dX9_driverNumbered_30 : decode cX9_driverNumbered 30 = .ok (.areturn, 1) := by decide +kernel
theorem dX9_addByStart_0 : decode cX9_addByStart 0 = .ok (.iconst 0, 1) := by decide +kernel
theorem dX9_addByStart_1 : decode cX9_addByStart 1 = .ok (.istore_n 2, 1) := by decide +kernel
theorem dX9_addByStart_2 : decode cX9_addByStart 2 = .ok (.iload_n 2, 1) := by decide +kernel
theorem dX9_addByStart_3 : decode cX9_addByStart 3 = .ok (.aload_n 0, 1) := by decide +kernel
theorem dX9_addByStart_4 : decode cX9_addByStart 4 = .ok (.getfield 22, 3) := by decide +kernel
theorem dX9_addByStart_7 : decode cX9_addByStart 7 = .ok (.invokevirtual 136, 3) := by decide +kernel
theorem dX9_addByStart_10 : decode cX9_addByStart 10 = .ok (.if_icmp .ge 30, 3) := by decide +kernel
theorem dX9_addByStart_13 : decode cX9_addByStart 13 = .ok (.aload_n 0, 1) := by decide +kernel
theorem dX9_addByStart_14 : decode cX9_addByStart 14 = .ok (.getfield 22, 3) := by decide +kernel
theorem dX9_addByStart_17 : decode cX9_addByStart 17 = .ok (.iload_n 2, 1) := by decide +kernel
theorem dX9_addByStart_18 : decode cX9_addByStart 18 = .ok (.invokevirtual 222, 3) := by decide +kernel
theorem dX9_addByStart_21 : decode cX9_addByStart 21 = .ok (.checkcast 142, 3) := by decide +kernel
theorem dX9_addByStart_24 : decode cX9_addByStart 24 = .ok (.getfield 326, 3) := by decide +kernel
theorem dX9_addByStart_27 : decode cX9_addByStart 27 = .ok (.aload_n 1, 1) := by decide +kernel
theorem dX9_addByStart_28 : decode cX9_addByStart 28 = .ok (.getfield 326, 3) := by decide +kernel
theorem dX9_addByStart_31 : decode cX9_addByStart 31 = .ok (.if_icmp .gt 9, 3) := by decide +kernel
theorem dX9_addByStart_34 : decode cX9_addByStart 34 = .ok (.iinc 2 1, 3) := by decide +kernel
theorem dX9_addByStart_37 : decode cX9_addByStart 37 = .ok (.goto (-35), 3) := by decide +kernel
theorem dX9_addByStart_40 : decode cX9_addByStart 40 = .ok (.aload_n 0, 1) := by decide +kernel
theorem dX9_addByStart_41 : decode cX9_addByStart 41 = .ok (.getfield 22, 3) := by decide +kernel
theorem dX9_addByStart_44 : decode cX9_addByStart 44 = .ok (.iload_n 2, 1) := by decide +kernel
theorem dX9_addByStart_45 : decode cX9_addByStart 45 = .ok (.aload_n 1, 1) := by decide +kernel
theorem dX9_addByStart_46 : decode cX9_addByStart 46 = .ok (.invokevirtual 474, 3) := by decide +kernel
theorem dX9_addByStart_49 : decode cX9_addByStart 49 = .ok (.return_, 1) := by decide +kernel
theorem dX9_newBlock_0 : decode cX9_newBlock 0 = .ok (.new 178, 3) := by decide +kernel
theorem dX9_newBlock_3 : decode cX9_newBlock 3 = .ok (.dup, 1) := by decide +kernel
theorem dX9_newBlock_4 : decode cX9_newBlock 4 = .ok (.aload_n 0, 1) := by decide +kernel
theorem dX9_newBlock_5 : decode cX9_newBlock 5 = .ok (.getfield 25, 3) := by decide +kernel
theorem dX9_newBlock_8 : decode cX9_newBlock 8 = .ok (.invokevirtual 136, 3) := by decide +kernel
theorem dX9_newBlock_11 : decode cX9_newBlock 11 = .ok (.iload_n 1, 1) := by decide +kernel
theorem dX9_newBlock_12 : decode cX9_newBlock 12 = .ok (.invokespecial 477, 3) := by decide +kernel
theorem dX9_newBlock_15 : decode cX9_newBlock 15 = .ok (.astore_n 2, 1) := by decide +kernel
theorem dX9_newBlock_16 : decode cX9_newBlock 16 = .ok (.aload_n 0, 1) := by decide +kernel
theorem dX9_newBlock_17 : decode cX9_newBlock 17 = .ok (.getfield 25, 3) := by decide +kernel
theorem dX9_newBlock_20 : decode cX9_newBlock 20 = .ok (.aload_n 2, 1) := by decide +kernel
theorem dX9_newBlock_21 : decode cX9_newBlock 21 = .ok (.invokevirtual 72, 3) := by decide +kernel
theorem dX9_newBlock_24 : decode cX9_newBlock 24 = .ok (.pop, 1) := by decide +kernel
theorem dX9_newBlock_25 : decode cX9_newBlock 25 = .ok (.aload_n 2, 1) := by decide +kernel
theorem dX9_newBlock_26 : decode cX9_newBlock 26 = .ok (.areturn, 1) := by decide +kernel
theorem dX9_isFlat_0 : decode cX9_isFlat 0 = .ok (.aload_n 1, 1) := by decide +kernel
theorem dX9_isFlat_1 : decode cX9_isFlat 1 = .ok (.aload_n 0, 1) := by decide +kernel
theorem dX9_isFlat_2 : decode cX9_isFlat 2 = .ok (.getfield 68, 3) := by decide +kernel
theorem dX9_isFlat_5 : decode cX9_isFlat 5 = .ok (.iload_n 2, 1) := by decide +kernel
theorem dX9_isFlat_6 : decode cX9_isFlat 6 = .ok (.aload_n 0, 1) := by decide +kernel
theorem dX9_isFlat_7 : decode cX9_isFlat 7 = .ok (.getfield 161, 3) := by decide +kernel
theorem dX9_isFlat_10 : decode cX9_isFlat 10 = .ok (.invokevirtual 358, 3) := by decide +kernel
theorem dX9_isFlat_13 : decode cX9_isFlat 13 = .ok (.ifCond .ge 7, 3) := by decide +kernel
theorem dX9_isFlat_16 : decode cX9_isFlat 16 = .ok (.iconst 1, 1) := by decide +kernel
theorem dX9_isFlat_17 : decode cX9_isFlat 17 = .ok (.goto 4, 3) := by decide +kernel
theorem dX9_isFlat_20 : decode cX9_isFlat 20 = .ok (.iconst 0, 1) := by decide +kernel
theorem dX9_isFlat_21 : decode cX9_isFlat 21 = .ok (.ireturn, 1) := by decide +kernel
theorem dX9_wouldBeFlat_0 : decode cX9_wouldBeFlat 0 = .ok (.aload_n 0, 1) := by decide +kernel
theorem dX9_wouldBeFlat_1 : decode cX9_wouldBeFlat 1 = .ok (.getfield 45, 3) := by decide +kernel
theorem dX9_wouldBeFlat_4 : decode cX9_wouldBeFlat 4 = .ok (.aload_n 1, 1) := by decide +kernel
theorem dX9_wouldBeFlat_5 : decode cX9_wouldBeFlat 5 = .ok (.invokevirtual 480, 3) := by decide +kernel
theorem dX9_wouldBeFlat_8 : decode cX9_wouldBeFlat 8 = .ok (.aload_n 0, 1) := by decide +kernel
theorem dX9_wouldBeFlat_9 : decode cX9_wouldBeFlat 9 = .ok (.getfield 45, 3) := by decide +kernel
theorem dX9_wouldBeFlat_12 : decode cX9_wouldBeFlat 12 = .ok (.getfield 483, 3) := by decide +kernel
theorem dX9_wouldBeFlat_15 : decode cX9_wouldBeFlat 15 = .ok (.aload_n 2, 1) := by decide +kernel
theorem dX9_wouldBeFlat_16 : decode cX9_wouldBeFlat 16 = .ok (.invokevirtual 72, 3) := by decide +kernel
theorem dX9_wouldBeFlat_19 : decode cX9_wouldBeFlat 19 = .ok (.pop, 1) := by decide +kernel
theorem dX9_wouldBeFlat_20 : decode cX9_wouldBeFlat 20 = .ok (.aload_n 0, 1) := by decide +kernel
theorem dX9_wouldBeFlat_21 : decode cX9_wouldBeFlat 21 = .ok (.aload_n 0, 1) := by decide +kernel
theorem dX9_wouldBeFlat_22 : decode cX9_wouldBeFlat 22 = .ok (.getfield 45, 3) := by decide +kernel
theorem dX9_wouldBeFlat_25 : decode cX9_wouldBeFlat 25 = .ok (.iload_n 3, 1) := by decide +kernel
theorem dX9_wouldBeFlat_26 : decode cX9_wouldBeFlat 26 = .ok (.invokevirtual 354, 3) := by decide +kernel
theorem dX9_wouldBeFlat_29 : decode cX9_wouldBeFlat 29 = .ok (.ireturn, 1) := by decide +kernel
theorem dX9_wouldBeFlatAlone_0 : decode cX9_wouldBeFlatAlone 0 = .ok (.aload_n 0, 1) := by decide +kernel
theorem dX9_wouldBeFlatAlone_1 : decode cX9_wouldBeFlatAlone 1 = .ok (.getfield 45, 3) := by decide +kernel
theorem dX9_wouldBeFlatAlone_4 : decode cX9_wouldBeFlatAlone 4 = .ok (.getfield 483, 3) := by decide +kernel
theorem dX9_wouldBeFlatAlone_7 : decode cX9_wouldBeFlatAlone 7 = .ok (.invokevirtual 484, 3) := by decide +kernel
theorem dX9_wouldBeFlatAlone_10 : decode cX9_wouldBeFlatAlone 10 = .ok (.aload_n 0, 1) := by decide +kernel
theorem dX9_wouldBeFlatAlone_11 : decode cX9_wouldBeFlatAlone 11 = .ok (.getfield 45, 3) := by decide +kernel
theorem dX9_wouldBeFlatAlone_14 : decode cX9_wouldBeFlatAlone 14 = .ok (.getfield 483, 3) := by decide +kernel
theorem dX9_wouldBeFlatAlone_17 : decode cX9_wouldBeFlatAlone 17 = .ok (.aload_n 1, 1) := by decide +kernel
theorem dX9_wouldBeFlatAlone_18 : decode cX9_wouldBeFlatAlone 18 = .ok (.invokevirtual 72, 3) := by decide +kernel
theorem dX9_wouldBeFlatAlone_21 : decode cX9_wouldBeFlatAlone 21 = .ok (.pop, 1) := by decide +kernel
theorem dX9_wouldBeFlatAlone_22 : decode cX9_wouldBeFlatAlone 22 = .ok (.aload_n 0, 1) := by decide +kernel
theorem dX9_wouldBeFlatAlone_23 : decode cX9_wouldBeFlatAlone 23 = .ok (.aload_n 0, 1) := by decide +kernel
theorem dX9_wouldBeFlatAlone_24 : decode cX9_wouldBeFlatAlone 24 = .ok (.getfield 45, 3) := by decide +kernel
theorem dX9_wouldBeFlatAlone_27 : decode cX9_wouldBeFlatAlone 27 = .ok (.iload_n 2, 1) := by decide +kernel
theorem dX9_wouldBeFlatAlone_28 : decode cX9_wouldBeFlatAlone 28 = .ok (.invokevirtual 354, 3) := by decide +kernel
theorem dX9_wouldBeFlatAlone_31 : decode cX9_wouldBeFlatAlone 31 = .ok (.ireturn, 1) := by decide +kernel
theorem dX9_putIntoSomeBlock_0 : decode cX9_putIntoSomeBlock 0 = .ok (.aload_n 0, 1) := by decide +kernel
theorem dX9_putIntoSomeBlock_1 : decode cX9_putIntoSomeBlock 1 = .ok (.aload_n 1, 1) := by decide +kernel
theorem dX9_putIntoSomeBlock_2 : decode cX9_putIntoSomeBlock 2 = .ok (.invokevirtual 487, 3) := by decide +kernel
theorem dX9_putIntoSomeBlock_5 : decode cX9_putIntoSomeBlock 5 = .ok (.astore_n 3, 1) := by decide +kernel
theorem dX9_putIntoSomeBlock_6 : decode cX9_putIntoSomeBlock 6 = .ok (.aload_n 3, 1) := by decide +kernel
theorem dX9_putIntoSomeBlock_7 : decode cX9_putIntoSomeBlock 7 = .ok (.ifnull 10, 3) := by decide +kernel
theorem dX9_putIntoSomeBlock_10 : decode cX9_putIntoSomeBlock 10 = .ok (.aload_n 3, 1) := by decide +kernel
theorem dX9_putIntoSomeBlock_11 : decode cX9_putIntoSomeBlock 11 = .ok (.aload_n 1, 1) := by decide +kernel
theorem dX9_putIntoSomeBlock_12 : decode cX9_putIntoSomeBlock 12 = .ok (.invokevirtual 208, 3) := by decide +kernel
theorem dX9_putIntoSomeBlock_15 : decode cX9_putIntoSomeBlock 15 = .ok (.iconst 1, 1) := by decide +kernel
theorem dX9_putIntoSomeBlock_16 : decode cX9_putIntoSomeBlock 16 = .ok (.ireturn, 1) := by decide +kernel
theorem dX9_putIntoSomeBlock_17 : decode cX9_putIntoSomeBlock 17 = .ok (.aload_n 0, 1) := by decide +kernel
theorem dX9_putIntoSomeBlock_18 : decode cX9_putIntoSomeBlock 18 = .ok (.getfield 25, 3) := by decide +kernel
theorem dX9_putIntoSomeBlock_21 : decode cX9_putIntoSomeBlock 21 = .ok (.invokevirtual 136, 3) := by decide +kernel
theorem dX9_putIntoSomeBlock_24 : decode cX9_putIntoSomeBlock 24 = .ok (.bipush 8, 2) := by decide +kernel
theorem dX9_putIntoSomeBlock_26 : decode cX9_putIntoSomeBlock 26 = .ok (.if_icmp .ge 12, 3) := by decide +kernel
theorem dX9_putIntoSomeBlock_29 : decode cX9_putIntoSomeBlock 29 = .ok (.aload_n 0, 1) := by decide +kernel
theorem dX9_putIntoSomeBlock_30 : decode cX9_putIntoSomeBlock 30 = .ok (.aload_n 1, 1) := by decide +kernel
theorem dX9_putIntoSomeBlock_31 : decode cX9_putIntoSomeBlock 31 = .ok (.iload_n 2, 1) := by decide +kernel
theorem dX9_putIntoSomeBlock_32 : decode cX9_putIntoSomeBlock 32 = .ok (.invokevirtual 491, 3) := by decide +kernel
theorem dX9_putIntoSomeBlock_35 : decode cX9_putIntoSomeBlock 35 = .ok (.ifCond .eq 5, 3) := by decide +kernel
theorem dX9_putIntoSomeBlock_38 : decode cX9_putIntoSomeBlock 38 = .ok (.iconst 0, 1) := by decide +kernel
theorem dX9_putIntoSomeBlock_39 : decode cX9_putIntoSomeBlock 39 = .ok (.ireturn, 1) := by decide +kernel
theorem dX9_putIntoSomeBlock_40 : decode cX9_putIntoSomeBlock 40 = .ok (.aload_n 0, 1) := by decide +kernel
theorem dX9_putIntoSomeBlock_41 : decode cX9_putIntoSomeBlock 41 = .ok (.iload_n 2, 1) := by decide +kernel
theorem dX9_putIntoSomeBlock_42 : decode cX9_putIntoSomeBlock 42 = .ok (.invokevirtual 173, 3) := by decide +kernel
theorem dX9_putIntoSomeBlock_45 : decode cX9_putIntoSomeBlock 45 = .ok (.aload_n 1, 1) := by decide +kernel
theorem dX9_putIntoSomeBlock_46 : decode cX9_putIntoSomeBlock 46 = .ok (.invokevirtual 208, 3) := by decide +kernel
theorem dX9_putIntoSomeBlock_49 : decode cX9_putIntoSomeBlock 49 = .ok (.iconst 1, 1) := by decide +kernel
theorem dX9_putIntoSomeBlock_50 : decode cX9_putIntoSomeBlock 50 = .ok (.ireturn, 1) := by decide +kernel
theorem dX9_nearestBlock_0 : decode cX9_nearestBlock 0 = .ok (.aconst_null, 1) := by decide +kernel
theorem dX9_nearestBlock_1 : decode cX9_nearestBlock 1 = .ok (.astore_n 2, 1) := by decide +kernel
theorem dX9_nearestBlock_2 : decode cX9_nearestBlock 2 = .ok (.iconst 0, 1) := by decide +kernel
theorem dX9_nearestBlock_3 : decode cX9_nearestBlock 3 = .ok (.istore_n 3, 1) := by decide +kernel
theorem dX9_nearestBlock_4 : decode cX9_nearestBlock 4 = .ok (.iconst 0, 1) := by decide +kernel
theorem dX9_nearestBlock_5 : decode cX9_nearestBlock 5 = .ok (.istore 4, 2) := by decide +kernel
theorem dX9_nearestBlock_7 : decode cX9_nearestBlock 7 = .ok (.iload 4, 2) := by decide +kernel
theorem dX9_nearestBlock_9 : decode cX9_nearestBlock 9 = .ok (.aload_n 0, 1) := by decide +kernel
theorem dX9_nearestBlock_10 : decode cX9_nearestBlock 10 = .ok (.getfield 25, 3) := by decide +kernel
theorem dX9_nearestBlock_13 : decode cX9_nearestBlock 13 = .ok (.invokevirtual 136, 3) := by decide +kernel
theorem dX9_nearestBlock_16 : decode cX9_nearestBlock 16 = .ok (.if_icmp .ge 89, 3) := by decide +kernel
theorem dX9_nearestBlock_19 : decode cX9_nearestBlock 19 = .ok (.aload_n 0, 1) := by decide +kernel
theorem dX9_nearestBlock_20 : decode cX9_nearestBlock 20 = .ok (.getfield 25, 3) := by decide +kernel
theorem dX9_nearestBlock_23 : decode cX9_nearestBlock 23 = .ok (.iload 4, 2) := by decide +kernel
theorem dX9_nearestBlock_25 : decode cX9_nearestBlock 25 = .ok (.invokevirtual 222, 3) := by decide +kernel
theorem dX9_nearestBlock_28 : decode cX9_nearestBlock 28 = .ok (.checkcast 178, 3) := by decide +kernel
theorem dX9_nearestBlock_31 : decode cX9_nearestBlock 31 = .ok (.astore 5, 2) := by decide +kernel
theorem dX9_nearestBlock_33 : decode cX9_nearestBlock 33 = .ok (.aload 5, 2) := by decide +kernel
theorem dX9_nearestBlock_35 : decode cX9_nearestBlock 35 = .ok (.getfield 191, 3) := by decide +kernel
theorem dX9_nearestBlock_38 : decode cX9_nearestBlock 38 = .ok (.invokevirtual 194, 3) := by decide +kernel
theorem dX9_nearestBlock_41 : decode cX9_nearestBlock 41 = .ok (.astore 6, 2) := by decide +kernel
theorem dX9_nearestBlock_43 : decode cX9_nearestBlock 43 = .ok (.aload 6, 2) := by decide +kernel
theorem dX9_nearestBlock_45 : decode cX9_nearestBlock 45 = .ok (.ifnull 54, 3) := by decide +kernel
theorem dX9_nearestBlock_48 : decode cX9_nearestBlock 48 = .ok (.aload_n 1, 1) := by decide +kernel
theorem dX9_nearestBlock_49 : decode cX9_nearestBlock 49 = .ok (.aload 6, 2) := by decide +kernel
theorem dX9_nearestBlock_51 : decode cX9_nearestBlock 51 = .ok (.invokevirtual 202, 3) := by decide +kernel
theorem dX9_nearestBlock_54 : decode cX9_nearestBlock 54 = .ok (.ifCond .eq 45, 3) := by decide +kernel
theorem dX9_nearestBlock_57 : decode cX9_nearestBlock 57 = .ok (.aload_n 2, 1) := by decide +kernel
theorem dX9_nearestBlock_58 : decode cX9_nearestBlock 58 = .ok (.ifnull 13, 3) := by decide +kernel
theorem dX9_nearestBlock_61 : decode cX9_nearestBlock 61 = .ok (.aload 6, 2) := by decide +kernel
theorem dX9_nearestBlock_63 : decode cX9_nearestBlock 63 = .ok (.aload_n 1, 1) := by decide +kernel
theorem dX9_nearestBlock_64 : decode cX9_nearestBlock 64 = .ok (.invokevirtual 494, 3) := by decide +kernel
theorem dX9_nearestBlock_67 : decode cX9_nearestBlock 67 = .ok (.iload_n 3, 1) := by decide +kernel
theorem dX9_nearestBlock_68 : decode cX9_nearestBlock 68 = .ok (.if_icmp .ge 31, 3) := by decide +kernel
theorem dX9_nearestBlock_71 : decode cX9_nearestBlock 71 = .ok (.aload_n 0, 1) := by decide +kernel
theorem dX9_nearestBlock_72 : decode cX9_nearestBlock 72 = .ok (.aload 5, 2) := by decide +kernel
theorem dX9_nearestBlock_74 : decode cX9_nearestBlock 74 = .ok (.getfield 191, 3) := by decide +kernel
theorem dX9_nearestBlock_77 : decode cX9_nearestBlock 77 = .ok (.aload_n 1, 1) := by decide +kernel
theorem dX9_nearestBlock_78 : decode cX9_nearestBlock 78 = .ok (.aload 5, 2) := by decide +kernel
theorem dX9_nearestBlock_80 : decode cX9_nearestBlock 80 = .ok (.getfield 350, 3) := by decide +kernel
theorem dX9_nearestBlock_83 : decode cX9_nearestBlock 83 = .ok (.invokevirtual 498, 3) := by decide +kernel
theorem dX9_nearestBlock_86 : decode cX9_nearestBlock 86 = .ok (.ifCond .ne 13, 3) := by decide +kernel
theorem dX9_nearestBlock_89 : decode cX9_nearestBlock 89 = .ok (.aload 5, 2) := by decide +kernel
theorem dX9_nearestBlock_91 : decode cX9_nearestBlock 91 = .ok (.astore_n 2, 1) := by decide +kernel
theorem dX9_nearestBlock_92 : decode cX9_nearestBlock 92 = .ok (.aload 6, 2) := by decide +kernel
theorem dX9_nearestBlock_94 : decode cX9_nearestBlock 94 = .ok (.aload_n 1, 1) := by decide +kernel
theorem dX9_nearestBlock_95 : decode cX9_nearestBlock 95 = .ok (.invokevirtual 494, 3) := by decide +kernel
theorem dX9_nearestBlock_98 : decode cX9_nearestBlock 98 = .ok (.istore_n 3, 1) := by decide +kernel
theorem dX9_nearestBlock_99 : decode cX9_nearestBlock 99 = .ok (.iinc 4 1, 3) := by decide +kernel
theorem dX9_nearestBlock_102 : decode cX9_nearestBlock 102 = .ok (.goto (-95), 3) := by decide +kernel
theorem dX9_nearestBlock_105 : decode cX9_nearestBlock 105 = .ok (.aload_n 2, 1) := by decide +kernel
theorem dX9_nearestBlock_106 : decode cX9_nearestBlock 106 = .ok (.areturn, 1) := by decide +kernel
theorem dX9_canSwap_0 : decode cX9_canSwap 0 = .ok (.aload_n 0, 1) := by decide +kernel
theorem dX9_canSwap_1 : decode cX9_canSwap 1 = .ok (.iload_n 1, 1) := by decide +kernel
theorem dX9_canSwap_2 : decode cX9_canSwap 2 = .ok (.aload_n 2, 1) := by decide +kernel
theorem dX9_canSwap_3 : decode cX9_canSwap 3 = .ok (.iload_n 3, 1) := by decide +kernel
theorem dX9_canSwap_4 : decode cX9_canSwap 4 = .ok (.invokestatic 502, 3) := by decide +kernel
theorem dX9_canSwap_7 : decode cX9_canSwap 7 = .ok (.ifCond .eq 17, 3) := by decide +kernel
theorem dX9_canSwap_10 : decode cX9_canSwap 10 = .ok (.aload_n 2, 1) := by decide +kernel
theorem dX9_canSwap_11 : decode cX9_canSwap 11 = .ok (.iload_n 3, 1) := by decide +kernel
theorem dX9_canSwap_12 : decode cX9_canSwap 12 = .ok (.aload_n 0, 1) := by decide +kernel
theorem dX9_canSwap_13 : decode cX9_canSwap 13 = .ok (.iload_n 1, 1) := by decide +kernel
theorem dX9_canSwap_14 : decode cX9_canSwap 14 = .ok (.invokestatic 502, 3) := by decide +kernel
theorem dX9_canSwap_17 : decode cX9_canSwap 17 = .ok (.ifCond .eq 7, 3) := by decide +kernel
theorem dX9_canSwap_20 : decode cX9_canSwap 20 = .ok (.iconst 1, 1) := by decide +kernel
theorem dX9_canSwap_21 : decode cX9_canSwap 21 = .ok (.goto 4, 3) := by decide +kernel
theorem dX9_canSwap_24 : decode cX9_canSwap 24 = .ok (.iconst 0, 1) := by decide +kernel
theorem dX9_canSwap_25 : decode cX9_canSwap 25 = .ok (.ireturn, 1) := by decide +kernel
theorem dX9_canJoin_0 : decode cX9_canJoin 0 = .ok (.aload_n 0, 1) := by decide +kernel
theorem dX9_canJoin_1 : decode cX9_canJoin 1 = .ok (.iload_n 1, 1) := by decide +kernel
theorem dX9_canJoin_2 : decode cX9_canJoin 2 = .ok (.iconst 1, 1) := by decide +kernel
theorem dX9_canJoin_3 : decode cX9_canJoin 3 = .ok (.isub, 1) := by decide +kernel
theorem dX9_canJoin_4 : decode cX9_canJoin 4 = .ok (.invokevirtual 371, 3) := by decide +kernel
theorem dX9_canJoin_7 : decode cX9_canJoin 7 = .ok (.astore 4, 2) := by decide +kernel
theorem dX9_canJoin_9 : decode cX9_canJoin 9 = .ok (.aload_n 2, 1) := by decide +kernel
theorem dX9_canJoin_10 : decode cX9_canJoin 10 = .ok (.iload_n 3, 1) := by decide +kernel
theorem dX9_canJoin_11 : decode cX9_canJoin 11 = .ok (.invokevirtual 371, 3) := by decide +kernel
theorem dX9_canJoin_14 : decode cX9_canJoin 14 = .ok (.astore 5, 2) := by decide +kernel
theorem dX9_canJoin_16 : decode cX9_canJoin 16 = .ok (.aload 4, 2) := by decide +kernel
theorem dX9_canJoin_18 : decode cX9_canJoin 18 = .ok (.ifnull 18, 3) := by decide +kernel
theorem dX9_canJoin_21 : decode cX9_canJoin 21 = .ok (.aload 5, 2) := by decide +kernel
theorem dX9_canJoin_23 : decode cX9_canJoin 23 = .ok (.ifnull 13, 3) := by decide +kernel
theorem dX9_canJoin_26 : decode cX9_canJoin 26 = .ok (.aload 5, 2) := by decide +kernel
theorem dX9_canJoin_28 : decode cX9_canJoin 28 = .ok (.aload 4, 2) := by decide +kernel
theorem dX9_canJoin_30 : decode cX9_canJoin 30 = .ok (.invokevirtual 202, 3) := by decide +kernel
theorem dX9_canJoin_33 : decode cX9_canJoin 33 = .ok (.ifCond .eq 7, 3) := by decide +kernel
theorem dX9_canJoin_36 : decode cX9_canJoin 36 = .ok (.iconst 1, 1) := by decide +kernel
theorem dX9_canJoin_37 : decode cX9_canJoin 37 = .ok (.goto 4, 3) := by decide +kernel
theorem dX9_canJoin_40 : decode cX9_canJoin 40 = .ok (.iconst 0, 1) := by decide +kernel
theorem dX9_canJoin_41 : decode cX9_canJoin 41 = .ok (.ireturn, 1) := by decide +kernel
theorem dX9_trySwap_0 : decode cX9_trySwap 0 = .ok (.aload_n 0, 1) := by decide +kernel
theorem dX9_trySwap_1 : decode cX9_trySwap 1 = .ok (.getfield 45, 3) := by decide +kernel
theorem dX9_trySwap_4 : decode cX9_trySwap 4 = .ok (.aload_n 1, 1) := by decide +kernel
theorem dX9_trySwap_5 : decode cX9_trySwap 5 = .ok (.iload_n 2, 1) := by decide +kernel
theorem dX9_trySwap_6 : decode cX9_trySwap 6 = .ok (.aload_n 3, 1) := by decide +kernel
theorem dX9_trySwap_7 : decode cX9_trySwap 7 = .ok (.iload 4, 2) := by decide +kernel
theorem dX9_trySwap_9 : decode cX9_trySwap 9 = .ok (.invokevirtual 505, 3) := by decide +kernel
theorem dX9_trySwap_12 : decode cX9_trySwap 12 = .ok (.aload_n 0, 1) := by decide +kernel
theorem dX9_trySwap_13 : decode cX9_trySwap 13 = .ok (.getfield 49, 3) := by decide +kernel
theorem dX9_trySwap_16 : decode cX9_trySwap 16 = .ok (.aload_n 3, 1) := by decide +kernel
theorem dX9_trySwap_17 : decode cX9_trySwap 17 = .ok (.iload 4, 2) := by decide +kernel
theorem dX9_trySwap_19 : decode cX9_trySwap 19 = .ok (.aload_n 1, 1) := by decide +kernel
theorem dX9_trySwap_20 : decode cX9_trySwap 20 = .ok (.iload_n 2, 1) := by decide +kernel
theorem dX9_trySwap_21 : decode cX9_trySwap 21 = .ok (.invokevirtual 505, 3) := by decide +kernel
theorem dX9_trySwap_24 : decode cX9_trySwap 24 = .ok (.return_, 1) := by decide +kernel
theorem dX9_emptyOfSwap_0 : decode cX9_emptyOfSwap 0 = .ok (.aload_n 1, 1) := by decide +kernel
theorem dX9_emptyOfSwap_1 : decode cX9_emptyOfSwap 1 = .ok (.getfield 191, 3) := by decide +kernel
theorem dX9_emptyOfSwap_4 : decode cX9_emptyOfSwap 4 = .ok (.iload_n 2, 1) := by decide +kernel
theorem dX9_emptyOfSwap_5 : decode cX9_emptyOfSwap 5 = .ok (.aload_n 3, 1) := by decide +kernel
theorem dX9_emptyOfSwap_6 : decode cX9_emptyOfSwap 6 = .ok (.getfield 191, 3) := by decide +kernel
theorem dX9_emptyOfSwap_9 : decode cX9_emptyOfSwap 9 = .ok (.iload 4, 2) := by decide +kernel
theorem dX9_emptyOfSwap_11 : decode cX9_emptyOfSwap 11 = .ok (.invokestatic 232, 3) := by decide +kernel
theorem dX9_emptyOfSwap_14 : decode cX9_emptyOfSwap 14 = .ok (.ifCond .ne 5, 3) := by decide +kernel
theorem dX9_emptyOfSwap_17 : decode cX9_emptyOfSwap 17 = .ok (.iconst (-1), 1) := by decide +kernel
theorem dX9_emptyOfSwap_18 : decode cX9_emptyOfSwap 18 = .ok (.ireturn, 1) := by decide +kernel
theorem dX9_emptyOfSwap_19 : decode cX9_emptyOfSwap 19 = .ok (.aload_n 0, 1) := by decide +kernel
theorem dX9_emptyOfSwap_20 : decode cX9_emptyOfSwap 20 = .ok (.aload_n 1, 1) := by decide +kernel
theorem dX9_emptyOfSwap_21 : decode cX9_emptyOfSwap 21 = .ok (.getfield 191, 3) := by decide +kernel
theorem dX9_emptyOfSwap_24 : decode cX9_emptyOfSwap 24 = .ok (.iload_n 2, 1) := by decide +kernel
theorem dX9_emptyOfSwap_25 : decode cX9_emptyOfSwap 25 = .ok (.aload_n 3, 1) := by decide +kernel
theorem dX9_emptyOfSwap_26 : decode cX9_emptyOfSwap 26 = .ok (.getfield 191, 3) := by decide +kernel
theorem dX9_emptyOfSwap_29 : decode cX9_emptyOfSwap 29 = .ok (.iload 4, 2) := by decide +kernel
theorem dX9_emptyOfSwap_31 : decode cX9_emptyOfSwap 31 = .ok (.invokevirtual 238, 3) := by decide +kernel
theorem dX9_emptyOfSwap_34 : decode cX9_emptyOfSwap 34 = .ok (.aload_n 0, 1) := by decide +kernel
theorem dX9_emptyOfSwap_35 : decode cX9_emptyOfSwap 35 = .ok (.aload_n 0, 1) := by decide +kernel
theorem dX9_emptyOfSwap_36 : decode cX9_emptyOfSwap 36 = .ok (.getfield 45, 3) := by decide +kernel
theorem dX9_emptyOfSwap_39 : decode cX9_emptyOfSwap 39 = .ok (.aload_n 1, 1) := by decide +kernel
theorem dX9_emptyOfSwap_40 : decode cX9_emptyOfSwap 40 = .ok (.getfield 350, 3) := by decide +kernel
theorem dX9_emptyOfSwap_43 : decode cX9_emptyOfSwap 43 = .ok (.invokevirtual 354, 3) := by decide +kernel
theorem dX9_emptyOfSwap_46 : decode cX9_emptyOfSwap 46 = .ok (.ifCond .ne 18, 3) := by decide +kernel
theorem dX9_emptyOfSwap_49 : decode cX9_emptyOfSwap 49 = .ok (.aload_n 0, 1) := by decide +kernel
theorem dX9_emptyOfSwap_50 : decode cX9_emptyOfSwap 50 = .ok (.aload_n 0, 1) := by decide +kernel
theorem dX9_emptyOfSwap_51 : decode cX9_emptyOfSwap 51 = .ok (.getfield 49, 3) := by decide +kernel
theorem dX9_emptyOfSwap_54 : decode cX9_emptyOfSwap 54 = .ok (.aload_n 3, 1) := by decide +kernel
theorem dX9_emptyOfSwap_55 : decode cX9_emptyOfSwap 55 = .ok (.getfield 350, 3) := by decide +kernel
theorem dX9_emptyOfSwap_58 : decode cX9_emptyOfSwap 58 = .ok (.invokevirtual 354, 3) := by decide +kernel
theorem dX9_emptyOfSwap_61 : decode cX9_emptyOfSwap 61 = .ok (.ifCond .eq 5, 3) := by decide +kernel
theorem dX9_emptyOfSwap_64 : decode cX9_emptyOfSwap 64 = .ok (.iconst (-1), 1) := by decide +kernel
theorem dX9_emptyOfSwap_65 : decode cX9_emptyOfSwap 65 = .ok (.ireturn, 1) := by decide +kernel
theorem dX9_emptyOfSwap_66 : decode cX9_emptyOfSwap 66 = .ok (.aload_n 0, 1) := by decide +kernel
theorem dX9_emptyOfSwap_67 : decode cX9_emptyOfSwap 67 = .ok (.getfield 45, 3) := by decide +kernel
theorem dX9_emptyOfSwap_70 : decode cX9_emptyOfSwap 70 = .ok (.aload_n 0, 1) := by decide +kernel
theorem dX9_emptyOfSwap_71 : decode cX9_emptyOfSwap 71 = .ok (.getfield 68, 3) := by decide +kernel
theorem dX9_emptyOfSwap_74 : decode cX9_emptyOfSwap 74 = .ok (.invokevirtual 362, 3) := by decide +kernel
theorem dX9_emptyOfSwap_77 : decode cX9_emptyOfSwap 77 = .ok (.aload_n 0, 1) := by decide +kernel
theorem dX9_emptyOfSwap_78 : decode cX9_emptyOfSwap 78 = .ok (.getfield 49, 3) := by decide +kernel
theorem dX9_emptyOfSwap_81 : decode cX9_emptyOfSwap 81 = .ok (.aload_n 0, 1) := by decide +kernel
theorem dX9_emptyOfSwap_82 : decode cX9_emptyOfSwap 82 = .ok (.getfield 68, 3) := by decide +kernel
theorem dX9_emptyOfSwap_85 : decode cX9_emptyOfSwap 85 = .ok (.invokevirtual 362, 3) := by decide +kernel
theorem dX9_emptyOfSwap_88 : decode cX9_emptyOfSwap 88 = .ok (.iadd, 1) := by decide +kernel
theorem dX9_emptyOfSwap_89 : decode cX9_emptyOfSwap 89 = .ok (.ireturn, 1) := by decide +kernel
theorem dX9_runDay_0 : decode cX9_runDay 0 = .ok (.iconst 0, 1) := by decide +kernel
theorem dX9_runDay_1 : decode cX9_runDay 1 = .ok (.istore_n 1, 1) := by decide +kernel
theorem dX9_runDay_2 : decode cX9_runDay 2 = .ok (.iload_n 1, 1) := by decide +kernel
theorem dX9_runDay_3 : decode cX9_runDay 3 = .ok (.aload_n 0, 1) := by decide +kernel
theorem dX9_runDay_4 : decode cX9_runDay 4 = .ok (.getfield 19, 3) := by decide +kernel
theorem dX9_runDay_7 : decode cX9_runDay 7 = .ok (.invokevirtual 136, 3) := by decide +kernel
theorem dX9_runDay_10 : decode cX9_runDay 10 = .ok (.if_icmp .ge 24, 3) := by decide +kernel
theorem dX9_runDay_13 : decode cX9_runDay 13 = .ok (.aload_n 0, 1) := by decide +kernel
theorem dX9_runDay_14 : decode cX9_runDay 14 = .ok (.getfield 19, 3) := by decide +kernel
theorem dX9_runDay_17 : decode cX9_runDay 17 = .ok (.iload_n 1, 1) := by decide +kernel
theorem dX9_runDay_18 : decode cX9_runDay 18 = .ok (.invokevirtual 222, 3) := by decide +kernel
theorem dX9_runDay_21 : decode cX9_runDay 21 = .ok (.checkcast 142, 3) := by decide +kernel
theorem dX9_runDay_24 : decode cX9_runDay 24 = .ok (.iconst 1, 1) := by decide +kernel
theorem dX9_runDay_25 : decode cX9_runDay 25 = .ok (.putfield 338, 3) := by decide +kernel
theorem dX9_runDay_28 : decode cX9_runDay 28 = .ok (.iinc 1 1, 3) := by decide +kernel
theorem dX9_runDay_31 : decode cX9_runDay 31 = .ok (.goto (-29), 3) := by decide +kernel
theorem dX9_runDay_34 : decode cX9_runDay 34 = .ok (.iconst 0, 1) := by decide +kernel
theorem dX9_runDay_35 : decode cX9_runDay 35 = .ok (.istore_n 1, 1) := by decide +kernel
theorem dX9_runDay_36 : decode cX9_runDay 36 = .ok (.iload_n 1, 1) := by decide +kernel
theorem dX9_runDay_37 : decode cX9_runDay 37 = .ok (.aload_n 0, 1) := by decide +kernel
theorem dX9_runDay_38 : decode cX9_runDay 38 = .ok (.getfield 25, 3) := by decide +kernel
theorem dX9_runDay_41 : decode cX9_runDay 41 = .ok (.invokevirtual 136, 3) := by decide +kernel
theorem dX9_runDay_44 : decode cX9_runDay 44 = .ok (.if_icmp .ge 32, 3) := by decide +kernel
theorem dX9_runDay_47 : decode cX9_runDay 47 = .ok (.aload_n 0, 1) := by decide +kernel
theorem dX9_runDay_48 : decode cX9_runDay 48 = .ok (.getfield 25, 3) := by decide +kernel
theorem dX9_runDay_51 : decode cX9_runDay 51 = .ok (.iload_n 1, 1) := by decide +kernel
theorem dX9_runDay_52 : decode cX9_runDay 52 = .ok (.invokevirtual 222, 3) := by decide +kernel
theorem dX9_runDay_55 : decode cX9_runDay 55 = .ok (.checkcast 178, 3) := by decide +kernel
theorem dX9_runDay_58 : decode cX9_runDay 58 = .ok (.astore_n 2, 1) := by decide +kernel
theorem dX9_runDay_59 : decode cX9_runDay 59 = .ok (.aload_n 2, 1) := by decide +kernel
theorem dX9_runDay_60 : decode cX9_runDay 60 = .ok (.aload_n 2, 1) := by decide +kernel
theorem dX9_runDay_61 : decode cX9_runDay 61 = .ok (.getfield 301, 3) := by decide +kernel
theorem dX9_runDay_64 : decode cX9_runDay 64 = .ok (.aconst_null, 1) := by decide +kernel
theorem dX9_runDay_65 : decode cX9_runDay 65 = .ok (.iconst 0, 1) := by decide +kernel
theorem dX9_runDay_66 : decode cX9_runDay 66 = .ok (.invokevirtual 412, 3) := by decide +kernel
theorem dX9_runDay_69 : decode cX9_runDay 69 = .ok (.pop, 1) := by decide +kernel
theorem dX9_runDay_70 : decode cX9_runDay 70 = .ok (.iinc 1 1, 3) := by decide +kernel
theorem dX9_runDay_73 : decode cX9_runDay 73 = .ok (.goto (-37), 3) := by decide +kernel
theorem dX9_runDay_76 : decode cX9_runDay 76 = .ok (.return_, 1) := by decide +kernel
theorem dX9_countOfCause_0 : decode cX9_countOfCause 0 = .ok (.iconst 0, 1) := by decide +kernel
theorem dX9_countOfCause_1 : decode cX9_countOfCause 1 = .ok (.istore_n 2, 1) := by decide +kernel
theorem dX9_countOfCause_2 : decode cX9_countOfCause 2 = .ok (.iconst 0, 1) := by decide +kernel
theorem dX9_countOfCause_3 : decode cX9_countOfCause 3 = .ok (.istore_n 3, 1) := by decide +kernel
theorem dX9_countOfCause_4 : decode cX9_countOfCause 4 = .ok (.iload_n 3, 1) := by decide +kernel
theorem dX9_countOfCause_5 : decode cX9_countOfCause 5 = .ok (.aload_n 0, 1) := by decide +kernel
theorem dX9_countOfCause_6 : decode cX9_countOfCause 6 = .ok (.getfield 19, 3) := by decide +kernel
theorem dX9_countOfCause_9 : decode cX9_countOfCause 9 = .ok (.invokevirtual 136, 3) := by decide +kernel
theorem dX9_countOfCause_12 : decode cX9_countOfCause 12 = .ok (.if_icmp .ge 30, 3) := by decide +kernel
theorem dX9_countOfCause_15 : decode cX9_countOfCause 15 = .ok (.aload_n 0, 1) := by decide +kernel
theorem dX9_countOfCause_16 : decode cX9_countOfCause 16 = .ok (.getfield 19, 3) := by decide +kernel
theorem dX9_countOfCause_19 : decode cX9_countOfCause 19 = .ok (.iload_n 3, 1) := by decide +kernel
theorem dX9_countOfCause_20 : decode cX9_countOfCause 20 = .ok (.invokevirtual 222, 3) := by decide +kernel
theorem dX9_countOfCause_23 : decode cX9_countOfCause 23 = .ok (.checkcast 142, 3) := by decide +kernel
theorem dX9_countOfCause_26 : decode cX9_countOfCause 26 = .ok (.getfield 338, 3) := by decide +kernel
theorem dX9_countOfCause_29 : decode cX9_countOfCause 29 = .ok (.iload_n 1, 1) := by decide +kernel
theorem dX9_countOfCause_30 : decode cX9_countOfCause 30 = .ok (.if_icmp .ne 6, 3) := by decide +kernel
theorem dX9_countOfCause_33 : decode cX9_countOfCause 33 = .ok (.iinc 2 1, 3) := by decide +kernel
theorem dX9_countOfCause_36 : decode cX9_countOfCause 36 = .ok (.iinc 3 1, 3) := by decide +kernel
theorem dX9_countOfCause_39 : decode cX9_countOfCause 39 = .ok (.goto (-35), 3) := by decide +kernel
theorem dX9_countOfCause_42 : decode cX9_countOfCause 42 = .ok (.iload_n 2, 1) := by decide +kernel
theorem dX9_countOfCause_43 : decode cX9_countOfCause 43 = .ok (.ireturn, 1) := by decide +kernel
theorem dX9_countyPays_0 : decode cX9_countyPays 0 = .ok (.iconst 0, 1) := by decide +kernel
theorem dX9_countyPays_1 : decode cX9_countyPays 1 = .ok (.istore_n 1, 1) := by decide +kernel
theorem dX9_countyPays_2 : decode cX9_countyPays 2 = .ok (.iconst 0, 1) := by decide +kernel
theorem dX9_countyPays_3 : decode cX9_countyPays 3 = .ok (.istore_n 2, 1) := by decide +kernel
theorem dX9_countyPays_4 : decode cX9_countyPays 4 = .ok (.iload_n 2, 1) := by decide +kernel
theorem dX9_countyPays_5 : decode cX9_countyPays 5 = .ok (.aload_n 0, 1) := by decide +kernel
theorem dX9_countyPays_6 : decode cX9_countyPays 6 = .ok (.getfield 19, 3) := by decide +kernel
theorem dX9_countyPays_9 : decode cX9_countyPays 9 = .ok (.invokevirtual 136, 3) := by decide +kernel
theorem dX9_countyPays_12 : decode cX9_countyPays 12 = .ok (.if_icmp .ge 30, 3) := by decide +kernel
theorem dX9_countyPays_15 : decode cX9_countyPays 15 = .ok (.iload_n 1, 1) := by decide +kernel
theorem dX9_countyPays_16 : decode cX9_countyPays 16 = .ok (.aload_n 0, 1) := by decide +kernel
theorem dX9_countyPays_17 : decode cX9_countyPays 17 = .ok (.getfield 19, 3) := by decide +kernel
theorem dX9_countyPays_20 : decode cX9_countyPays 20 = .ok (.iload_n 2, 1) := by decide +kernel
theorem dX9_countyPays_21 : decode cX9_countyPays 21 = .ok (.invokevirtual 222, 3) := by decide +kernel
theorem dX9_countyPays_24 : decode cX9_countyPays 24 = .ok (.checkcast 142, 3) := by decide +kernel
theorem dX9_countyPays_27 : decode cX9_countyPays 27 = .ok (.aload_n 0, 1) := by decide +kernel
theorem dX9_countyPays_28 : decode cX9_countyPays 28 = .ok (.getfield 38, 3) := by decide +kernel
theorem dX9_countyPays_31 : decode cX9_countyPays 31 = .ok (.invokevirtual 508, 3) := by decide +kernel
theorem dX9_countyPays_34 : decode cX9_countyPays 34 = .ok (.iadd, 1) := by decide +kernel
theorem dX9_countyPays_35 : decode cX9_countyPays 35 = .ok (.istore_n 1, 1) := by decide +kernel
theorem dX9_countyPays_36 : decode cX9_countyPays 36 = .ok (.iinc 2 1, 3) := by decide +kernel
theorem dX9_countyPays_39 : decode cX9_countyPays 39 = .ok (.goto (-35), 3) := by decide +kernel
theorem dX9_countyPays_42 : decode cX9_countyPays 42 = .ok (.iload_n 1, 1) := by decide +kernel
theorem dX9_countyPays_43 : decode cX9_countyPays 43 = .ok (.ireturn, 1) := by decide +kernel
theorem dX9_driversArePaid_0 : decode cX9_driversArePaid 0 = .ok (.iconst 0, 1) := by decide +kernel
theorem dX9_driversArePaid_1 : decode cX9_driversArePaid 1 = .ok (.istore_n 1, 1) := by decide +kernel
theorem dX9_driversArePaid_2 : decode cX9_driversArePaid 2 = .ok (.iconst 0, 1) := by decide +kernel
theorem dX9_driversArePaid_3 : decode cX9_driversArePaid 3 = .ok (.istore_n 2, 1) := by decide +kernel
theorem dX9_driversArePaid_4 : decode cX9_driversArePaid 4 = .ok (.iload_n 2, 1) := by decide +kernel
theorem dX9_driversArePaid_5 : decode cX9_driversArePaid 5 = .ok (.aload_n 0, 1) := by decide +kernel
theorem dX9_driversArePaid_6 : decode cX9_driversArePaid 6 = .ok (.getfield 28, 3) := by decide +kernel
theorem dX9_driversArePaid_9 : decode cX9_driversArePaid 9 = .ok (.invokevirtual 136, 3) := by decide +kernel
theorem dX9_driversArePaid_12 : decode cX9_driversArePaid 12 = .ok (.if_icmp .ge 26, 3) := by decide +kernel
theorem dX9_driversArePaid_15 : decode cX9_driversArePaid 15 = .ok (.iload_n 1, 1) := by decide +kernel
theorem dX9_driversArePaid_16 : decode cX9_driversArePaid 16 = .ok (.aload_n 0, 1) := by decide +kernel
theorem dX9_driversArePaid_17 : decode cX9_driversArePaid 17 = .ok (.getfield 28, 3) := by decide +kernel
theorem dX9_driversArePaid_20 : decode cX9_driversArePaid 20 = .ok (.iload_n 2, 1) := by decide +kernel
theorem dX9_driversArePaid_21 : decode cX9_driversArePaid 21 = .ok (.invokevirtual 222, 3) := by decide +kernel
theorem dX9_driversArePaid_24 : decode cX9_driversArePaid 24 = .ok (.checkcast 166, 3) := by decide +kernel
theorem dX9_driversArePaid_27 : decode cX9_driversArePaid 27 = .ok (.invokevirtual 387, 3) := by decide +kernel
theorem dX9_driversArePaid_30 : decode cX9_driversArePaid 30 = .ok (.iadd, 1) := by decide +kernel
theorem dX9_driversArePaid_31 : decode cX9_driversArePaid 31 = .ok (.istore_n 1, 1) := by decide +kernel
theorem dX9_driversArePaid_32 : decode cX9_driversArePaid 32 = .ok (.iinc 2 1, 3) := by decide +kernel
theorem dX9_driversArePaid_35 : decode cX9_driversArePaid 35 = .ok (.goto (-31), 3) := by decide +kernel
theorem dX9_driversArePaid_38 : decode cX9_driversArePaid 38 = .ok (.iload_n 1, 1) := by decide +kernel
theorem dX9_driversArePaid_39 : decode cX9_driversArePaid 39 = .ok (.ireturn, 1) := by decide +kernel
theorem dX9_allEmpty_0 : decode cX9_allEmpty 0 = .ok (.iconst 0, 1) := by decide +kernel
theorem dX9_allEmpty_1 : decode cX9_allEmpty 1 = .ok (.istore_n 1, 1) := by decide +kernel
theorem dX9_allEmpty_2 : decode cX9_allEmpty 2 = .ok (.iconst 0, 1) := by decide +kernel
theorem dX9_allEmpty_3 : decode cX9_allEmpty 3 = .ok (.istore_n 2, 1) := by decide +kernel
theorem dX9_allEmpty_4 : decode cX9_allEmpty 4 = .ok (.iload_n 2, 1) := by decide +kernel
theorem dX9_allEmpty_5 : decode cX9_allEmpty 5 = .ok (.aload_n 0, 1) := by decide +kernel
theorem dX9_allEmpty_6 : decode cX9_allEmpty 6 = .ok (.getfield 25, 3) := by decide +kernel
theorem dX9_allEmpty_9 : decode cX9_allEmpty 9 = .ok (.invokevirtual 136, 3) := by decide +kernel
theorem dX9_allEmpty_12 : decode cX9_allEmpty 12 = .ok (.if_icmp .ge 33, 3) := by decide +kernel
theorem dX9_allEmpty_15 : decode cX9_allEmpty 15 = .ok (.iload_n 1, 1) := by decide +kernel
theorem dX9_allEmpty_16 : decode cX9_allEmpty 16 = .ok (.aload_n 0, 1) := by decide +kernel
theorem dX9_allEmpty_17 : decode cX9_allEmpty 17 = .ok (.getfield 25, 3) := by decide +kernel
theorem dX9_allEmpty_20 : decode cX9_allEmpty 20 = .ok (.iload_n 2, 1) := by decide +kernel
theorem dX9_allEmpty_21 : decode cX9_allEmpty 21 = .ok (.invokevirtual 222, 3) := by decide +kernel
theorem dX9_allEmpty_24 : decode cX9_allEmpty 24 = .ok (.checkcast 178, 3) := by decide +kernel
theorem dX9_allEmpty_27 : decode cX9_allEmpty 27 = .ok (.getfield 191, 3) := by decide +kernel
theorem dX9_allEmpty_30 : decode cX9_allEmpty 30 = .ok (.aload_n 0, 1) := by decide +kernel
theorem dX9_allEmpty_31 : decode cX9_allEmpty 31 = .ok (.getfield 68, 3) := by decide +kernel
theorem dX9_allEmpty_34 : decode cX9_allEmpty 34 = .ok (.invokevirtual 362, 3) := by decide +kernel
theorem dX9_allEmpty_37 : decode cX9_allEmpty 37 = .ok (.iadd, 1) := by decide +kernel
theorem dX9_allEmpty_38 : decode cX9_allEmpty 38 = .ok (.istore_n 1, 1) := by decide +kernel
theorem dX9_allEmpty_39 : decode cX9_allEmpty 39 = .ok (.iinc 2 1, 3) := by decide +kernel
theorem dX9_allEmpty_42 : decode cX9_allEmpty 42 = .ok (.goto (-38), 3) := by decide +kernel
theorem dX9_allEmpty_45 : decode cX9_allEmpty 45 = .ok (.iload_n 1, 1) := by decide +kernel
theorem dX9_allEmpty_46 : decode cX9_allEmpty 46 = .ok (.ireturn, 1) := by decide +kernel
theorem dX9_greatestLate_0 : decode cX9_greatestLate 0 = .ok (.iconst 0, 1) := by decide +kernel
theorem dX9_greatestLate_1 : decode cX9_greatestLate 1 = .ok (.istore_n 1, 1) := by decide +kernel
theorem dX9_greatestLate_2 : decode cX9_greatestLate 2 = .ok (.iconst 0, 1) := by decide +kernel
theorem dX9_greatestLate_3 : decode cX9_greatestLate 3 = .ok (.istore_n 2, 1) := by decide +kernel
theorem dX9_greatestLate_4 : decode cX9_greatestLate 4 = .ok (.iload_n 2, 1) := by decide +kernel
theorem dX9_greatestLate_5 : decode cX9_greatestLate 5 = .ok (.aload_n 0, 1) := by decide +kernel
theorem dX9_greatestLate_6 : decode cX9_greatestLate 6 = .ok (.getfield 19, 3) := by decide +kernel
theorem dX9_greatestLate_9 : decode cX9_greatestLate 9 = .ok (.invokevirtual 136, 3) := by decide +kernel
theorem dX9_greatestLate_12 : decode cX9_greatestLate 12 = .ok (.if_icmp .ge 37, 3) := by decide +kernel
theorem dX9_greatestLate_15 : decode cX9_greatestLate 15 = .ok (.aload_n 0, 1) := by decide +kernel
theorem dX9_greatestLate_16 : decode cX9_greatestLate 16 = .ok (.getfield 19, 3) := by decide +kernel
theorem dX9_greatestLate_19 : decode cX9_greatestLate 19 = .ok (.iload_n 2, 1) := by decide +kernel
theorem dX9_greatestLate_20 : decode cX9_greatestLate 20 = .ok (.invokevirtual 222, 3) := by decide +kernel
theorem dX9_greatestLate_23 : decode cX9_greatestLate 23 = .ok (.checkcast 142, 3) := by decide +kernel
theorem dX9_greatestLate_26 : decode cX9_greatestLate 26 = .ok (.astore_n 3, 1) := by decide +kernel
theorem dX9_greatestLate_27 : decode cX9_greatestLate 27 = .ok (.aload_n 3, 1) := by decide +kernel
theorem dX9_greatestLate_28 : decode cX9_greatestLate 28 = .ok (.invokevirtual 341, 3) := by decide +kernel
theorem dX9_greatestLate_31 : decode cX9_greatestLate 31 = .ok (.ifCond .eq 12, 3) := by decide +kernel
theorem dX9_greatestLate_34 : decode cX9_greatestLate 34 = .ok (.iload_n 1, 1) := by decide +kernel
theorem dX9_greatestLate_35 : decode cX9_greatestLate 35 = .ok (.aload_n 3, 1) := by decide +kernel
theorem dX9_greatestLate_36 : decode cX9_greatestLate 36 = .ok (.invokevirtual 344, 3) := by decide +kernel
theorem dX9_greatestLate_39 : decode cX9_greatestLate 39 = .ok (.invokestatic 510, 3) := by decide +kernel
theorem dX9_greatestLate_42 : decode cX9_greatestLate 42 = .ok (.istore_n 1, 1) := by decide +kernel
theorem dX9_greatestLate_43 : decode cX9_greatestLate 43 = .ok (.iinc 2 1, 3) := by decide +kernel
theorem dX9_greatestLate_46 : decode cX9_greatestLate 46 = .ok (.goto (-42), 3) := by decide +kernel
theorem dX9_greatestLate_49 : decode cX9_greatestLate 49 = .ok (.iload_n 1, 1) := by decide +kernel
theorem dX9_greatestLate_50 : decode cX9_greatestLate 50 = .ok (.ireturn, 1) := by decide +kernel
theorem dJ9_abs_0f7a4_0 : decode cJ9_abs_0f7a4 0 = .ok (.iload_n 0, 1) := by decide +kernel
theorem dJ9_abs_0f7a4_1 : decode cJ9_abs_0f7a4 1 = .ok (.ifCond .ge 8, 3) := by decide +kernel
theorem dJ9_abs_0f7a4_4 : decode cJ9_abs_0f7a4 4 = .ok (.iload_n 0, 1) := by decide +kernel
theorem dJ9_abs_0f7a4_5 : decode cJ9_abs_0f7a4 5 = .ok (.ineg, 1) := by decide +kernel
theorem dJ9_abs_0f7a4_6 : decode cJ9_abs_0f7a4 6 = .ok (.goto 4, 3) := by decide +kernel
theorem dJ9_abs_0f7a4_9 : decode cJ9_abs_0f7a4 9 = .ok (.iload_n 0, 1) := by decide +kernel
theorem dJ9_abs_0f7a4_10 : decode cJ9_abs_0f7a4 10 = .ok (.ireturn, 1) := by decide +kernel
theorem dJ9_max_7cf53_0 : decode cJ9_max_7cf53 0 = .ok (.iload_n 0, 1) := by decide +kernel
theorem dJ9_max_7cf53_1 : decode cJ9_max_7cf53 1 = .ok (.iload_n 1, 1) := by decide +kernel
theorem dJ9_max_7cf53_2 : decode cJ9_max_7cf53 2 = .ok (.if_icmp .lt 7, 3) := by decide +kernel
theorem dJ9_max_7cf53_5 : decode cJ9_max_7cf53 5 = .ok (.iload_n 0, 1) := by decide +kernel
theorem dJ9_max_7cf53_6 : decode cJ9_max_7cf53 6 = .ok (.goto 4, 3) := by decide +kernel
theorem dJ9_max_7cf53_9 : decode cJ9_max_7cf53 9 = .ok (.iload_n 1, 1) := by decide +kernel
theorem dJ9_max_7cf53_10 : decode cJ9_max_7cf53 10 = .ok (.ireturn, 1) := by decide +kernel
theorem dJ9_min_7cf53_0 : decode cJ9_min_7cf53 0 = .ok (.iload_n 0, 1) := by decide +kernel
theorem dJ9_min_7cf53_1 : decode cJ9_min_7cf53 1 = .ok (.iload_n 1, 1) := by decide +kernel
theorem dJ9_min_7cf53_2 : decode cJ9_min_7cf53 2 = .ok (.if_icmp .gt 7, 3) := by decide +kernel
theorem dJ9_min_7cf53_5 : decode cJ9_min_7cf53 5 = .ok (.iload_n 0, 1) := by decide +kernel
theorem dJ9_min_7cf53_6 : decode cJ9_min_7cf53 6 = .ok (.goto 4, 3) := by decide +kernel
theorem dJ9_min_7cf53_9 : decode cJ9_min_7cf53 9 = .ok (.iload_n 1, 1) := by decide +kernel
theorem dJ9_min_7cf53_10 : decode cJ9_min_7cf53 10 = .ok (.ireturn, 1) := by decide +kernel
theorem dJxa1e45_init_da8c8_0 : decode cJxa1e45_init_da8c8 0 = .ok (.aload_n 0, 1) := by decide +kernel
theorem dJxa1e45_init_da8c8_1 : decode cJxa1e45_init_da8c8 1 = .ok (.invokespecial 1, 3) := by decide +kernel
theorem dJxa1e45_init_da8c8_4 : decode cJxa1e45_init_da8c8 4 = .ok (.return_, 1) := by decide +kernel
theorem dJxc12de_init_da8c8_0 : decode cJxc12de_init_da8c8 0 = .ok (.aload_n 0, 1) := by decide +kernel
theorem dJxc12de_init_da8c8_1 : decode cJxc12de_init_da8c8 1 = .ok (.invokespecial 1, 3) := by decide +kernel
theorem dJxc12de_init_da8c8_4 : decode cJxc12de_init_da8c8 4 = .ok (.aload_n 0, 1) := by decide +kernel
theorem dJxc12de_init_da8c8_5 : decode cJxc12de_init_da8c8 5 = .ok (.iconst 0, 1) := by decide +kernel
theorem dJxc12de_init_da8c8_6 : decode cJxc12de_init_da8c8 6 = .ok (.putfield 7, 3) := by decide +kernel
theorem dJxc12de_init_da8c8_9 : decode cJxc12de_init_da8c8 9 = .ok (.return_, 1) := by decide +kernel
theorem dJx4a65c_init_da8c8_0 : decode cJx4a65c_init_da8c8 0 = .ok (.aload_n 0, 1) := by decide +kernel
theorem dJx4a65c_init_da8c8_1 : decode cJx4a65c_init_da8c8 1 = .ok (.invokespecial 1, 3) := by decide +kernel
theorem dJx4a65c_init_da8c8_4 : decode cJx4a65c_init_da8c8 4 = .ok (.aload_n 0, 1) := by decide +kernel
theorem dJx4a65c_init_da8c8_5 : decode cJx4a65c_init_da8c8 5 = .ok (.getstatic 39, 3) := by decide +kernel
theorem dJx4a65c_init_da8c8_8 : decode cJx4a65c_init_da8c8 8 = .ok (.putfield 9, 3) := by decide +kernel
theorem dJx4a65c_init_da8c8_11 : decode cJx4a65c_init_da8c8 11 = .ok (.return_, 1) := by decide +kernel
theorem dJx4a65c_grow_92f84_0 : decode cJx4a65c_grow_92f84 0 = .ok (.aload_n 0, 1) := by decide +kernel
theorem dJx4a65c_grow_92f84_1 : decode cJx4a65c_grow_92f84 1 = .ok (.getfield 9, 3) := by decide +kernel
theorem dJx4a65c_grow_92f84_4 : decode cJx4a65c_grow_92f84 4 = .ok (.arraylength, 1) := by decide +kernel
theorem dJx4a65c_grow_92f84_5 : decode cJx4a65c_grow_92f84 5 = .ok (.istore_n 2, 1) := by decide +kernel
theorem dJx4a65c_grow_92f84_6 : decode cJx4a65c_grow_92f84 6 = .ok (.iload_n 2, 1) := by decide +kernel
theorem dJx4a65c_grow_92f84_7 : decode cJx4a65c_grow_92f84 7 = .ok (.ifCond .gt 13, 3) := by decide +kernel
theorem dJx4a65c_grow_92f84_10 : decode cJx4a65c_grow_92f84 10 = .ok (.aload_n 0, 1) := by decide +kernel
theorem dJx4a65c_grow_92f84_11 : decode cJx4a65c_grow_92f84 11 = .ok (.getfield 9, 3) := by decide +kernel
theorem dJx4a65c_grow_92f84_14 : decode cJx4a65c_grow_92f84 14 = .ok (.getstatic 39, 3) := by decide +kernel
theorem dJx4a65c_grow_92f84_17 : decode cJx4a65c_grow_92f84 17 = .ok (.if_acmp .eq 28, 3) := by decide +kernel
theorem dJx4a65c_grow_92f84_20 : decode cJx4a65c_grow_92f84 20 = .ok (.iload_n 2, 1) := by decide +kernel
theorem dJx4a65c_grow_92f84_21 : decode cJx4a65c_grow_92f84 21 = .ok (.iload_n 1, 1) := by decide +kernel
theorem dJx4a65c_grow_92f84_22 : decode cJx4a65c_grow_92f84 22 = .ok (.iload_n 2, 1) := by decide +kernel
theorem dJx4a65c_grow_92f84_23 : decode cJx4a65c_grow_92f84 23 = .ok (.isub, 1) := by decide +kernel
theorem dJx4a65c_grow_92f84_24 : decode cJx4a65c_grow_92f84 24 = .ok (.iload_n 2, 1) := by decide +kernel
theorem dJx4a65c_grow_92f84_25 : decode cJx4a65c_grow_92f84 25 = .ok (.iconst 1, 1) := by decide +kernel
theorem dJx4a65c_grow_92f84_26 : decode cJx4a65c_grow_92f84 26 = .ok (.ishr, 1) := by decide +kernel
theorem dJx4a65c_grow_92f84_27 : decode cJx4a65c_grow_92f84 27 = .ok (.invokestatic 73, 3) := by decide +kernel
theorem dJx4a65c_grow_92f84_30 : decode cJx4a65c_grow_92f84 30 = .ok (.istore_n 3, 1) := by decide +kernel
theorem dJx4a65c_grow_92f84_31 : decode cJx4a65c_grow_92f84 31 = .ok (.aload_n 0, 1) := by decide +kernel
theorem dJx4a65c_grow_92f84_32 : decode cJx4a65c_grow_92f84 32 = .ok (.aload_n 0, 1) := by decide +kernel
theorem dJx4a65c_grow_92f84_33 : decode cJx4a65c_grow_92f84 33 = .ok (.getfield 9, 3) := by decide +kernel
theorem dJx4a65c_grow_92f84_36 : decode cJx4a65c_grow_92f84 36 = .ok (.iload_n 3, 1) := by decide +kernel
theorem dJx4a65c_grow_92f84_37 : decode cJx4a65c_grow_92f84 37 = .ok (.invokestatic 66, 3) := by decide +kernel
theorem dJx4a65c_grow_92f84_40 : decode cJx4a65c_grow_92f84 40 = .ok (.dup_x1, 1) := by decide +kernel
theorem dJx4a65c_grow_92f84_41 : decode cJx4a65c_grow_92f84 41 = .ok (.putfield 9, 3) := by decide +kernel
theorem dJx4a65c_grow_92f84_44 : decode cJx4a65c_grow_92f84 44 = .ok (.areturn, 1) := by decide +kernel
theorem dJx4a65c_grow_92f84_45 : decode cJx4a65c_grow_92f84 45 = .ok (.aload_n 0, 1) := by decide +kernel
theorem dJx4a65c_grow_92f84_46 : decode cJx4a65c_grow_92f84 46 = .ok (.bipush 10, 2) := by decide +kernel
theorem dJx4a65c_grow_92f84_48 : decode cJx4a65c_grow_92f84 48 = .ok (.iload_n 1, 1) := by decide +kernel
theorem dJx4a65c_grow_92f84_49 : decode cJx4a65c_grow_92f84 49 = .ok (.invokestatic 79, 3) := by decide +kernel
theorem dJx4a65c_grow_92f84_52 : decode cJx4a65c_grow_92f84 52 = .ok (.anewarray 7, 3) := by decide +kernel
theorem dJx4a65c_grow_92f84_55 : decode cJx4a65c_grow_92f84 55 = .ok (.dup_x1, 1) := by decide +kernel
theorem dJx4a65c_grow_92f84_56 : decode cJx4a65c_grow_92f84 56 = .ok (.putfield 9, 3) := by decide +kernel
theorem dJx4a65c_grow_92f84_59 : decode cJx4a65c_grow_92f84 59 = .ok (.areturn, 1) := by decide +kernel
theorem dJx4a65c_grow_d5877_0 : decode cJx4a65c_grow_d5877 0 = .ok (.aload_n 0, 1) := by decide +kernel
theorem dJx4a65c_grow_d5877_1 : decode cJx4a65c_grow_d5877 1 = .ok (.aload_n 0, 1) := by decide +kernel
theorem dJx4a65c_grow_d5877_2 : decode cJx4a65c_grow_d5877 2 = .ok (.getfield 48, 3) := by decide +kernel
theorem dJx4a65c_grow_d5877_5 : decode cJx4a65c_grow_d5877 5 = .ok (.iconst 1, 1) := by decide +kernel
theorem dJx4a65c_grow_d5877_6 : decode cJx4a65c_grow_d5877 6 = .ok (.iadd, 1) := by decide +kernel
theorem dJx4a65c_grow_d5877_7 : decode cJx4a65c_grow_d5877 7 = .ok (.invokevirtual 69, 3) := by decide +kernel
theorem dJx4a65c_grow_d5877_10 : decode cJx4a65c_grow_d5877 10 = .ok (.areturn, 1) := by decide +kernel
theorem dJx4a65c_size_8abf5_0 : decode cJx4a65c_size_8abf5 0 = .ok (.aload_n 0, 1) := by decide +kernel
theorem dJx4a65c_size_8abf5_1 : decode cJx4a65c_size_8abf5 1 = .ok (.getfield 48, 3) := by decide +kernel
theorem dJx4a65c_size_8abf5_4 : decode cJx4a65c_size_8abf5 4 = .ok (.ireturn, 1) := by decide +kernel
theorem dJx4a65c_isEmpty_aae02_0 : decode cJx4a65c_isEmpty_aae02 0 = .ok (.aload_n 0, 1) := by decide +kernel
theorem dJx4a65c_isEmpty_aae02_1 : decode cJx4a65c_isEmpty_aae02 1 = .ok (.getfield 48, 3) := by decide +kernel
theorem dJx4a65c_isEmpty_aae02_4 : decode cJx4a65c_isEmpty_aae02 4 = .ok (.ifCond .ne 7, 3) := by decide +kernel
theorem dJx4a65c_isEmpty_aae02_7 : decode cJx4a65c_isEmpty_aae02 7 = .ok (.iconst 1, 1) := by decide +kernel
theorem dJx4a65c_isEmpty_aae02_8 : decode cJx4a65c_isEmpty_aae02 8 = .ok (.goto 4, 3) := by decide +kernel
theorem dJx4a65c_isEmpty_aae02_11 : decode cJx4a65c_isEmpty_aae02 11 = .ok (.iconst 0, 1) := by decide +kernel
theorem dJx4a65c_isEmpty_aae02_12 : decode cJx4a65c_isEmpty_aae02 12 = .ok (.ireturn, 1) := by decide +kernel
theorem dJx4a65c_elementData_915e3_0 : decode cJx4a65c_elementData_915e3 0 = .ok (.aload_n 0, 1) := by decide +kernel
theorem dJx4a65c_elementData_915e3_1 : decode cJx4a65c_elementData_915e3 1 = .ok (.getfield 9, 3) := by decide +kernel
theorem dJx4a65c_elementData_915e3_4 : decode cJx4a65c_elementData_915e3 4 = .ok (.iload_n 1, 1) := by decide +kernel
theorem dJx4a65c_elementData_915e3_5 : decode cJx4a65c_elementData_915e3 5 = .ok (.aaload, 1) := by decide +kernel
theorem dJx4a65c_elementData_915e3_6 : decode cJx4a65c_elementData_915e3 6 = .ok (.areturn, 1) := by decide +kernel
theorem dJx4a65c_get_915e3_0 : decode cJx4a65c_get_915e3 0 = .ok (.iload_n 1, 1) := by decide +kernel
theorem dJx4a65c_get_915e3_1 : decode cJx4a65c_get_915e3 1 = .ok (.aload_n 0, 1) := by decide +kernel
theorem dJx4a65c_get_915e3_2 : decode cJx4a65c_get_915e3 2 = .ok (.getfield 48, 3) := by decide +kernel
theorem dJx4a65c_get_915e3_5 : decode cJx4a65c_get_915e3 5 = .ok (.invokestatic 118, 3) := by decide +kernel
theorem dJx4a65c_get_915e3_8 : decode cJx4a65c_get_915e3 8 = .ok (.pop, 1) := by decide +kernel
theorem dJx4a65c_get_915e3_9 : decode cJx4a65c_get_915e3 9 = .ok (.aload_n 0, 1) := by decide +kernel
theorem dJx4a65c_get_915e3_10 : decode cJx4a65c_get_915e3 10 = .ok (.iload_n 1, 1) := by decide +kernel
theorem dJx4a65c_get_915e3_11 : decode cJx4a65c_get_915e3 11 = .ok (.invokevirtual 123, 3) := by decide +kernel
theorem dJx4a65c_get_915e3_14 : decode cJx4a65c_get_915e3 14 = .ok (.areturn, 1) := by decide +kernel
theorem dJx4a65c_add_72be8_0 : decode cJx4a65c_add_72be8 0 = .ok (.iload_n 3, 1) := by decide +kernel
theorem dJx4a65c_add_72be8_1 : decode cJx4a65c_add_72be8 1 = .ok (.aload_n 2, 1) := by decide +kernel
theorem dJx4a65c_add_72be8_2 : decode cJx4a65c_add_72be8 2 = .ok (.arraylength, 1) := by decide +kernel
theorem dJx4a65c_add_72be8_3 : decode cJx4a65c_add_72be8 3 = .ok (.if_icmp .ne 8, 3) := by decide +kernel
theorem dJx4a65c_add_72be8_6 : decode cJx4a65c_add_72be8 6 = .ok (.aload_n 0, 1) := by decide +kernel
theorem dJx4a65c_add_72be8_7 : decode cJx4a65c_add_72be8 7 = .ok (.invokevirtual 129, 3) := by decide +kernel
theorem dJx4a65c_add_72be8_10 : decode cJx4a65c_add_72be8 10 = .ok (.astore_n 2, 1) := by decide +kernel
theorem dJx4a65c_add_72be8_11 : decode cJx4a65c_add_72be8 11 = .ok (.aload_n 2, 1) := by decide +kernel
theorem dJx4a65c_add_72be8_12 : decode cJx4a65c_add_72be8 12 = .ok (.iload_n 3, 1) := by decide +kernel
theorem dJx4a65c_add_72be8_13 : decode cJx4a65c_add_72be8 13 = .ok (.aload_n 1, 1) := by decide +kernel
theorem dJx4a65c_add_72be8_14 : decode cJx4a65c_add_72be8 14 = .ok (.aastore, 1) := by decide +kernel
theorem dJx4a65c_add_72be8_15 : decode cJx4a65c_add_72be8 15 = .ok (.aload_n 0, 1) := by decide +kernel
theorem dJx4a65c_add_72be8_16 : decode cJx4a65c_add_72be8 16 = .ok (.iload_n 3, 1) := by decide +kernel
theorem dJx4a65c_add_72be8_17 : decode cJx4a65c_add_72be8 17 = .ok (.iconst 1, 1) := by decide +kernel
theorem dJx4a65c_add_72be8_18 : decode cJx4a65c_add_72be8 18 = .ok (.iadd, 1) := by decide +kernel
theorem dJx4a65c_add_72be8_19 : decode cJx4a65c_add_72be8 19 = .ok (.putfield 48, 3) := by decide +kernel
theorem dJx4a65c_add_72be8_22 : decode cJx4a65c_add_72be8 22 = .ok (.return_, 1) := by decide +kernel
theorem dJx4a65c_add_9ea2d_0 : decode cJx4a65c_add_9ea2d 0 = .ok (.aload_n 0, 1) := by decide +kernel
theorem dJx4a65c_add_9ea2d_1 : decode cJx4a65c_add_9ea2d 1 = .ok (.dup, 1) := by decide +kernel
theorem dJx4a65c_add_9ea2d_2 : decode cJx4a65c_add_9ea2d 2 = .ok (.getfield 63, 3) := by decide +kernel
theorem dJx4a65c_add_9ea2d_5 : decode cJx4a65c_add_9ea2d 5 = .ok (.iconst 1, 1) := by decide +kernel
theorem dJx4a65c_add_9ea2d_6 : decode cJx4a65c_add_9ea2d 6 = .ok (.iadd, 1) := by decide +kernel
theorem dJx4a65c_add_9ea2d_7 : decode cJx4a65c_add_9ea2d 7 = .ok (.putfield 63, 3) := by decide +kernel
theorem dJx4a65c_add_9ea2d_10 : decode cJx4a65c_add_9ea2d 10 = .ok (.aload_n 0, 1) := by decide +kernel
theorem dJx4a65c_add_9ea2d_11 : decode cJx4a65c_add_9ea2d 11 = .ok (.aload_n 1, 1) := by decide +kernel
theorem dJx4a65c_add_9ea2d_12 : decode cJx4a65c_add_9ea2d 12 = .ok (.aload_n 0, 1) := by decide +kernel
theorem dJx4a65c_add_9ea2d_13 : decode cJx4a65c_add_9ea2d 13 = .ok (.getfield 9, 3) := by decide +kernel
theorem dJx4a65c_add_9ea2d_16 : decode cJx4a65c_add_9ea2d 16 = .ok (.aload_n 0, 1) := by decide +kernel
theorem dJx4a65c_add_9ea2d_17 : decode cJx4a65c_add_9ea2d 17 = .ok (.getfield 48, 3) := by decide +kernel
theorem dJx4a65c_add_9ea2d_20 : decode cJx4a65c_add_9ea2d 20 = .ok (.invokevirtual 131, 3) := by decide +kernel
theorem dJx4a65c_add_9ea2d_23 : decode cJx4a65c_add_9ea2d 23 = .ok (.iconst 1, 1) := by decide +kernel
theorem dJx4a65c_add_9ea2d_24 : decode cJx4a65c_add_9ea2d 24 = .ok (.ireturn, 1) := by decide +kernel
theorem dJx4a65c_add_7a177_0 : decode cJx4a65c_add_7a177 0 = .ok (.aload_n 0, 1) := by decide +kernel
theorem dJx4a65c_add_7a177_1 : decode cJx4a65c_add_7a177 1 = .ok (.iload_n 1, 1) := by decide +kernel
theorem dJx4a65c_add_7a177_2 : decode cJx4a65c_add_7a177 2 = .ok (.invokevirtual 135, 3) := by decide +kernel
theorem dJx4a65c_add_7a177_5 : decode cJx4a65c_add_7a177 5 = .ok (.aload_n 0, 1) := by decide +kernel
theorem dJx4a65c_add_7a177_6 : decode cJx4a65c_add_7a177 6 = .ok (.dup, 1) := by decide +kernel
theorem dJx4a65c_add_7a177_7 : decode cJx4a65c_add_7a177 7 = .ok (.getfield 63, 3) := by decide +kernel
theorem dJx4a65c_add_7a177_10 : decode cJx4a65c_add_7a177 10 = .ok (.iconst 1, 1) := by decide +kernel
theorem dJx4a65c_add_7a177_11 : decode cJx4a65c_add_7a177 11 = .ok (.iadd, 1) := by decide +kernel
theorem dJx4a65c_add_7a177_12 : decode cJx4a65c_add_7a177 12 = .ok (.putfield 63, 3) := by decide +kernel
theorem dJx4a65c_add_7a177_15 : decode cJx4a65c_add_7a177 15 = .ok (.aload_n 0, 1) := by decide +kernel
theorem dJx4a65c_add_7a177_16 : decode cJx4a65c_add_7a177 16 = .ok (.getfield 48, 3) := by decide +kernel
theorem dJx4a65c_add_7a177_19 : decode cJx4a65c_add_7a177 19 = .ok (.dup, 1) := by decide +kernel
theorem dJx4a65c_add_7a177_20 : decode cJx4a65c_add_7a177 20 = .ok (.istore_n 3, 1) := by decide +kernel
theorem dJx4a65c_add_7a177_21 : decode cJx4a65c_add_7a177 21 = .ok (.aload_n 0, 1) := by decide +kernel
theorem dJx4a65c_add_7a177_22 : decode cJx4a65c_add_7a177 22 = .ok (.getfield 9, 3) := by decide +kernel
theorem dJx4a65c_add_7a177_25 : decode cJx4a65c_add_7a177 25 = .ok (.dup, 1) := by decide +kernel
theorem dJx4a65c_add_7a177_26 : decode cJx4a65c_add_7a177 26 = .ok (.astore 4, 2) := by decide +kernel
theorem dJx4a65c_add_7a177_28 : decode cJx4a65c_add_7a177 28 = .ok (.arraylength, 1) := by decide +kernel
theorem dJx4a65c_add_7a177_29 : decode cJx4a65c_add_7a177 29 = .ok (.if_icmp .ne 9, 3) := by decide +kernel
theorem dJx4a65c_add_7a177_32 : decode cJx4a65c_add_7a177 32 = .ok (.aload_n 0, 1) := by decide +kernel
theorem dJx4a65c_add_7a177_33 : decode cJx4a65c_add_7a177 33 = .ok (.invokevirtual 129, 3) := by decide +kernel
theorem dJx4a65c_add_7a177_36 : decode cJx4a65c_add_7a177 36 = .ok (.astore 4, 2) := by decide +kernel
theorem dJx4a65c_add_7a177_38 : decode cJx4a65c_add_7a177 38 = .ok (.aload 4, 2) := by decide +kernel
theorem dJx4a65c_add_7a177_40 : decode cJx4a65c_add_7a177 40 = .ok (.iload_n 1, 1) := by decide +kernel
theorem dJx4a65c_add_7a177_41 : decode cJx4a65c_add_7a177 41 = .ok (.aload 4, 2) := by decide +kernel
theorem dJx4a65c_add_7a177_43 : decode cJx4a65c_add_7a177 43 = .ok (.iload_n 1, 1) := by decide +kernel
theorem dJx4a65c_add_7a177_44 : decode cJx4a65c_add_7a177 44 = .ok (.iconst 1, 1) := by decide +kernel
theorem dJx4a65c_add_7a177_45 : decode cJx4a65c_add_7a177 45 = .ok (.iadd, 1) := by decide +kernel
theorem dJx4a65c_add_7a177_46 : decode cJx4a65c_add_7a177 46 = .ok (.iload_n 3, 1) := by decide +kernel
theorem dJx4a65c_add_7a177_47 : decode cJx4a65c_add_7a177 47 = .ok (.iload_n 1, 1) := by decide +kernel
theorem dJx4a65c_add_7a177_48 : decode cJx4a65c_add_7a177 48 = .ok (.isub, 1) := by decide +kernel
theorem dJx4a65c_add_7a177_49 : decode cJx4a65c_add_7a177 49 = .ok (.invokestatic 112, 3) := by decide +kernel
theorem dJx4a65c_add_7a177_52 : decode cJx4a65c_add_7a177 52 = .ok (.aload 4, 2) := by decide +kernel
theorem dJx4a65c_add_7a177_54 : decode cJx4a65c_add_7a177 54 = .ok (.iload_n 1, 1) := by decide +kernel
theorem dJx4a65c_add_7a177_55 : decode cJx4a65c_add_7a177 55 = .ok (.aload_n 2, 1) := by decide +kernel
theorem dJx4a65c_add_7a177_56 : decode cJx4a65c_add_7a177 56 = .ok (.aastore, 1) := by decide +kernel
theorem dJx4a65c_add_7a177_57 : decode cJx4a65c_add_7a177 57 = .ok (.aload_n 0, 1) := by decide +kernel
theorem dJx4a65c_add_7a177_58 : decode cJx4a65c_add_7a177 58 = .ok (.iload_n 3, 1) := by decide +kernel
theorem dJx4a65c_add_7a177_59 : decode cJx4a65c_add_7a177 59 = .ok (.iconst 1, 1) := by decide +kernel
theorem dJx4a65c_add_7a177_60 : decode cJx4a65c_add_7a177 60 = .ok (.iadd, 1) := by decide +kernel
theorem dJx4a65c_add_7a177_61 : decode cJx4a65c_add_7a177 61 = .ok (.putfield 48, 3) := by decide +kernel
theorem dJx4a65c_add_7a177_64 : decode cJx4a65c_add_7a177 64 = .ok (.return_, 1) := by decide +kernel
theorem dJx4a65c_remove_915e3_0 : decode cJx4a65c_remove_915e3 0 = .ok (.iload_n 1, 1) := by decide +kernel
theorem dJx4a65c_remove_915e3_1 : decode cJx4a65c_remove_915e3 1 = .ok (.aload_n 0, 1) := by decide +kernel
theorem dJx4a65c_remove_915e3_2 : decode cJx4a65c_remove_915e3 2 = .ok (.getfield 48, 3) := by decide +kernel
theorem dJx4a65c_remove_915e3_5 : decode cJx4a65c_remove_915e3 5 = .ok (.invokestatic 118, 3) := by decide +kernel
theorem dJx4a65c_remove_915e3_8 : decode cJx4a65c_remove_915e3 8 = .ok (.pop, 1) := by decide +kernel
theorem dJx4a65c_remove_915e3_9 : decode cJx4a65c_remove_915e3 9 = .ok (.aload_n 0, 1) := by decide +kernel
theorem dJx4a65c_remove_915e3_10 : decode cJx4a65c_remove_915e3 10 = .ok (.getfield 9, 3) := by decide +kernel
theorem dJx4a65c_remove_915e3_13 : decode cJx4a65c_remove_915e3 13 = .ok (.astore_n 2, 1) := by decide +kernel
theorem dJx4a65c_remove_915e3_14 : decode cJx4a65c_remove_915e3 14 = .ok (.aload_n 2, 1) := by decide +kernel
theorem dJx4a65c_remove_915e3_15 : decode cJx4a65c_remove_915e3 15 = .ok (.iload_n 1, 1) := by decide +kernel
theorem dJx4a65c_remove_915e3_16 : decode cJx4a65c_remove_915e3 16 = .ok (.aaload, 1) := by decide +kernel
theorem dJx4a65c_remove_915e3_17 : decode cJx4a65c_remove_915e3 17 = .ok (.astore_n 3, 1) := by decide +kernel
theorem dJx4a65c_remove_915e3_18 : decode cJx4a65c_remove_915e3 18 = .ok (.aload_n 0, 1) := by decide +kernel
theorem dJx4a65c_remove_915e3_19 : decode cJx4a65c_remove_915e3 19 = .ok (.aload_n 2, 1) := by decide +kernel
theorem dJx4a65c_remove_915e3_20 : decode cJx4a65c_remove_915e3 20 = .ok (.iload_n 1, 1) := by decide +kernel
theorem dJx4a65c_remove_915e3_21 : decode cJx4a65c_remove_915e3 21 = .ok (.invokevirtual 144, 3) := by decide +kernel
theorem dJx4a65c_remove_915e3_24 : decode cJx4a65c_remove_915e3 24 = .ok (.aload_n 3, 1) := by decide +kernel
theorem dJx4a65c_remove_915e3_25 : decode cJx4a65c_remove_915e3 25 = .ok (.areturn, 1) := by decide +kernel
theorem dJx4a65c_fastRemove_b59b0_0 : decode cJx4a65c_fastRemove_b59b0 0 = .ok (.aload_n 0, 1) := by decide +kernel
theorem dJx4a65c_fastRemove_b59b0_1 : decode cJx4a65c_fastRemove_b59b0 1 = .ok (.dup, 1) := by decide +kernel
theorem dJx4a65c_fastRemove_b59b0_2 : decode cJx4a65c_fastRemove_b59b0 2 = .ok (.getfield 63, 3) := by decide +kernel
theorem dJx4a65c_fastRemove_b59b0_5 : decode cJx4a65c_fastRemove_b59b0 5 = .ok (.iconst 1, 1) := by decide +kernel
theorem dJx4a65c_fastRemove_b59b0_6 : decode cJx4a65c_fastRemove_b59b0 6 = .ok (.iadd, 1) := by decide +kernel
theorem dJx4a65c_fastRemove_b59b0_7 : decode cJx4a65c_fastRemove_b59b0 7 = .ok (.putfield 63, 3) := by decide +kernel
theorem dJx4a65c_fastRemove_b59b0_10 : decode cJx4a65c_fastRemove_b59b0 10 = .ok (.aload_n 0, 1) := by decide +kernel
theorem dJx4a65c_fastRemove_b59b0_11 : decode cJx4a65c_fastRemove_b59b0 11 = .ok (.getfield 48, 3) := by decide +kernel
theorem dJx4a65c_fastRemove_b59b0_14 : decode cJx4a65c_fastRemove_b59b0 14 = .ok (.iconst 1, 1) := by decide +kernel
theorem dJx4a65c_fastRemove_b59b0_15 : decode cJx4a65c_fastRemove_b59b0 15 = .ok (.isub, 1) := by decide +kernel
theorem dJx4a65c_fastRemove_b59b0_16 : decode cJx4a65c_fastRemove_b59b0 16 = .ok (.dup, 1) := by decide +kernel
theorem dJx4a65c_fastRemove_b59b0_17 : decode cJx4a65c_fastRemove_b59b0 17 = .ok (.istore_n 3, 1) := by decide +kernel
theorem dJx4a65c_fastRemove_b59b0_18 : decode cJx4a65c_fastRemove_b59b0 18 = .ok (.iload_n 2, 1) := by decide +kernel
theorem dJx4a65c_fastRemove_b59b0_19 : decode cJx4a65c_fastRemove_b59b0 19 = .ok (.if_icmp .le 15, 3) := by decide +kernel
theorem dJx4a65c_fastRemove_b59b0_22 : decode cJx4a65c_fastRemove_b59b0 22 = .ok (.aload_n 1, 1) := by decide +kernel
theorem dJx4a65c_fastRemove_b59b0_23 : decode cJx4a65c_fastRemove_b59b0 23 = .ok (.iload_n 2, 1) := by decide +kernel
theorem dJx4a65c_fastRemove_b59b0_24 : decode cJx4a65c_fastRemove_b59b0 24 = .ok (.iconst 1, 1) := by decide +kernel
theorem dJx4a65c_fastRemove_b59b0_25 : decode cJx4a65c_fastRemove_b59b0 25 = .ok (.iadd, 1) := by decide +kernel
theorem dJx4a65c_fastRemove_b59b0_26 : decode cJx4a65c_fastRemove_b59b0 26 = .ok (.aload_n 1, 1) := by decide +kernel
theorem dJx4a65c_fastRemove_b59b0_27 : decode cJx4a65c_fastRemove_b59b0 27 = .ok (.iload_n 2, 1) := by decide +kernel
theorem dJx4a65c_fastRemove_b59b0_28 : decode cJx4a65c_fastRemove_b59b0 28 = .ok (.iload_n 3, 1) := by decide +kernel
theorem dJx4a65c_fastRemove_b59b0_29 : decode cJx4a65c_fastRemove_b59b0 29 = .ok (.iload_n 2, 1) := by decide +kernel
theorem dJx4a65c_fastRemove_b59b0_30 : decode cJx4a65c_fastRemove_b59b0 30 = .ok (.isub, 1) := by decide +kernel
theorem dJx4a65c_fastRemove_b59b0_31 : decode cJx4a65c_fastRemove_b59b0 31 = .ok (.invokestatic 112, 3) := by decide +kernel
theorem dJx4a65c_fastRemove_b59b0_34 : decode cJx4a65c_fastRemove_b59b0 34 = .ok (.aload_n 1, 1) := by decide +kernel
theorem dJx4a65c_fastRemove_b59b0_35 : decode cJx4a65c_fastRemove_b59b0 35 = .ok (.aload_n 0, 1) := by decide +kernel
theorem dJx4a65c_fastRemove_b59b0_36 : decode cJx4a65c_fastRemove_b59b0 36 = .ok (.iload_n 3, 1) := by decide +kernel
theorem dJx4a65c_fastRemove_b59b0_37 : decode cJx4a65c_fastRemove_b59b0 37 = .ok (.dup_x1, 1) := by decide +kernel
theorem dJx4a65c_fastRemove_b59b0_38 : decode cJx4a65c_fastRemove_b59b0 38 = .ok (.putfield 48, 3) := by decide +kernel
theorem dJx4a65c_fastRemove_b59b0_41 : decode cJx4a65c_fastRemove_b59b0 41 = .ok (.aconst_null, 1) := by decide +kernel
theorem dJx4a65c_fastRemove_b59b0_42 : decode cJx4a65c_fastRemove_b59b0 42 = .ok (.aastore, 1) := by decide +kernel
theorem dJx4a65c_fastRemove_b59b0_43 : decode cJx4a65c_fastRemove_b59b0 43 = .ok (.return_, 1) := by decide +kernel
theorem dJx4a65c_clear_da8c8_0 : decode cJx4a65c_clear_da8c8 0 = .ok (.aload_n 0, 1) := by decide +kernel
theorem dJx4a65c_clear_da8c8_1 : decode cJx4a65c_clear_da8c8 1 = .ok (.dup, 1) := by decide +kernel
theorem dJx4a65c_clear_da8c8_2 : decode cJx4a65c_clear_da8c8 2 = .ok (.getfield 63, 3) := by decide +kernel
theorem dJx4a65c_clear_da8c8_5 : decode cJx4a65c_clear_da8c8 5 = .ok (.iconst 1, 1) := by decide +kernel
theorem dJx4a65c_clear_da8c8_6 : decode cJx4a65c_clear_da8c8 6 = .ok (.iadd, 1) := by decide +kernel
theorem dJx4a65c_clear_da8c8_7 : decode cJx4a65c_clear_da8c8 7 = .ok (.putfield 63, 3) := by decide +kernel
theorem dJx4a65c_clear_da8c8_10 : decode cJx4a65c_clear_da8c8 10 = .ok (.aload_n 0, 1) := by decide +kernel
theorem dJx4a65c_clear_da8c8_11 : decode cJx4a65c_clear_da8c8 11 = .ok (.getfield 9, 3) := by decide +kernel
theorem dJx4a65c_clear_da8c8_14 : decode cJx4a65c_clear_da8c8 14 = .ok (.astore_n 1, 1) := by decide +kernel
theorem dJx4a65c_clear_da8c8_15 : decode cJx4a65c_clear_da8c8 15 = .ok (.aload_n 0, 1) := by decide +kernel
theorem dJx4a65c_clear_da8c8_16 : decode cJx4a65c_clear_da8c8 16 = .ok (.getfield 48, 3) := by decide +kernel
theorem dJx4a65c_clear_da8c8_19 : decode cJx4a65c_clear_da8c8 19 = .ok (.istore_n 2, 1) := by decide +kernel
theorem dJx4a65c_clear_da8c8_20 : decode cJx4a65c_clear_da8c8 20 = .ok (.aload_n 0, 1) := by decide +kernel
theorem dJx4a65c_clear_da8c8_21 : decode cJx4a65c_clear_da8c8 21 = .ok (.iconst 0, 1) := by decide +kernel
theorem dJx4a65c_clear_da8c8_22 : decode cJx4a65c_clear_da8c8 22 = .ok (.dup_x1, 1) := by decide +kernel
theorem dJx4a65c_clear_da8c8_23 : decode cJx4a65c_clear_da8c8 23 = .ok (.putfield 48, 3) := by decide +kernel
theorem dJx4a65c_clear_da8c8_26 : decode cJx4a65c_clear_da8c8 26 = .ok (.istore_n 3, 1) := by decide +kernel
theorem dJx4a65c_clear_da8c8_27 : decode cJx4a65c_clear_da8c8 27 = .ok (.iload_n 3, 1) := by decide +kernel
theorem dJx4a65c_clear_da8c8_28 : decode cJx4a65c_clear_da8c8 28 = .ok (.iload_n 2, 1) := by decide +kernel
theorem dJx4a65c_clear_da8c8_29 : decode cJx4a65c_clear_da8c8 29 = .ok (.if_icmp .ge 13, 3) := by decide +kernel
theorem dJx4a65c_clear_da8c8_32 : decode cJx4a65c_clear_da8c8 32 = .ok (.aload_n 1, 1) := by decide +kernel
theorem dJx4a65c_clear_da8c8_33 : decode cJx4a65c_clear_da8c8 33 = .ok (.iload_n 3, 1) := by decide +kernel
theorem dJx4a65c_clear_da8c8_34 : decode cJx4a65c_clear_da8c8 34 = .ok (.aconst_null, 1) := by decide +kernel
theorem dJx4a65c_clear_da8c8_35 : decode cJx4a65c_clear_da8c8 35 = .ok (.aastore, 1) := by decide +kernel
theorem dJx4a65c_clear_da8c8_36 : decode cJx4a65c_clear_da8c8 36 = .ok (.iinc 3 1, 3) := by decide +kernel
theorem dJx4a65c_clear_da8c8_39 : decode cJx4a65c_clear_da8c8 39 = .ok (.goto (-12), 3) := by decide +kernel
theorem dJx4a65c_clear_da8c8_42 : decode cJx4a65c_clear_da8c8 42 = .ok (.return_, 1) := by decide +kernel
theorem dJx4a65c_rangeCheckForAdd_d00df_0 : decode cJx4a65c_rangeCheckForAdd_d00df 0 = .ok (.iload_n 1, 1) := by decide +kernel
theorem dJx4a65c_rangeCheckForAdd_d00df_1 : decode cJx4a65c_rangeCheckForAdd_d00df 1 = .ok (.aload_n 0, 1) := by decide +kernel
theorem dJx4a65c_rangeCheckForAdd_d00df_2 : decode cJx4a65c_rangeCheckForAdd_d00df 2 = .ok (.getfield 48, 3) := by decide +kernel
theorem dJx4a65c_rangeCheckForAdd_d00df_5 : decode cJx4a65c_rangeCheckForAdd_d00df 5 = .ok (.if_icmp .gt 7, 3) := by decide +kernel
theorem dJx4a65c_rangeCheckForAdd_d00df_8 : decode cJx4a65c_rangeCheckForAdd_d00df 8 = .ok (.iload_n 1, 1) := by decide +kernel
theorem dJx4a65c_rangeCheckForAdd_d00df_9 : decode cJx4a65c_rangeCheckForAdd_d00df 9 = .ok (.ifCond .ge 16, 3) := by decide +kernel
theorem dJx4a65c_rangeCheckForAdd_d00df_12 : decode cJx4a65c_rangeCheckForAdd_d00df 12 = .ok (.new 187, 3) := by decide +kernel
theorem dJx4a65c_rangeCheckForAdd_d00df_15 : decode cJx4a65c_rangeCheckForAdd_d00df 15 = .ok (.dup, 1) := by decide +kernel
theorem dJx4a65c_rangeCheckForAdd_d00df_16 : decode cJx4a65c_rangeCheckForAdd_d00df 16 = .ok (.aload_n 0, 1) := by decide +kernel
theorem dJx4a65c_rangeCheckForAdd_d00df_17 : decode cJx4a65c_rangeCheckForAdd_d00df 17 = .ok (.iload_n 1, 1) := by decide +kernel
theorem dJx4a65c_rangeCheckForAdd_d00df_18 : decode cJx4a65c_rangeCheckForAdd_d00df 18 = .ok (.invokevirtual 198, 3) := by decide +kernel
theorem dJx4a65c_rangeCheckForAdd_d00df_21 : decode cJx4a65c_rangeCheckForAdd_d00df 21 = .ok (.invokespecial 193, 3) := by decide +kernel
theorem dJx4a65c_rangeCheckForAdd_d00df_24 : decode cJx4a65c_rangeCheckForAdd_d00df 24 = .ok (.athrow, 1) := by decide +kernel
theorem dJx4a65c_rangeCheckForAdd_d00df_25 : decode cJx4a65c_rangeCheckForAdd_d00df 25 = .ok (.return_, 1) := by decide +kernel
theorem dJ7_copyOf_1904c_0 : decode cJ7_copyOf_1904c 0 = .ok (.aload_n 0, 1) := by decide +kernel
theorem dJ7_copyOf_1904c_1 : decode cJ7_copyOf_1904c 1 = .ok (.iload_n 1, 1) := by decide +kernel
theorem dJ7_copyOf_1904c_2 : decode cJ7_copyOf_1904c 2 = .ok (.aload_n 0, 1) := by decide +kernel
theorem dJ7_copyOf_1904c_3 : decode cJ7_copyOf_1904c 3 = .ok (.invokevirtual 86, 3) := by decide +kernel
theorem dJ7_copyOf_1904c_6 : decode cJ7_copyOf_1904c 6 = .ok (.invokestatic 300, 3) := by decide +kernel
theorem dJ7_copyOf_1904c_9 : decode cJ7_copyOf_1904c 9 = .ok (.areturn, 1) := by decide +kernel
theorem dJ7_copyOf_6403c_0 : decode cJ7_copyOf_6403c 0 = .ok (.aload_n 2, 1) := by decide +kernel
theorem dJ7_copyOf_6403c_1 : decode cJ7_copyOf_6403c 1 = .ok (.ldc 110, 2) := by decide +kernel
theorem dJ7_copyOf_6403c_3 : decode cJ7_copyOf_6403c 3 = .ok (.if_acmp .ne 10, 3) := by decide +kernel
theorem dJ7_copyOf_6403c_6 : decode cJ7_copyOf_6403c 6 = .ok (.iload_n 1, 1) := by decide +kernel
theorem dJ7_copyOf_6403c_7 : decode cJ7_copyOf_6403c 7 = .ok (.anewarray 2, 3) := by decide +kernel
theorem dJ7_copyOf_6403c_10 : decode cJ7_copyOf_6403c 10 = .ok (.goto 14, 3) := by decide +kernel
theorem dJ7_copyOf_6403c_13 : decode cJ7_copyOf_6403c 13 = .ok (.aload_n 2, 1) := by decide +kernel
theorem dJ7_copyOf_6403c_14 : decode cJ7_copyOf_6403c 14 = .ok (.invokevirtual 90, 3) := by decide +kernel
theorem dJ7_copyOf_6403c_17 : decode cJ7_copyOf_6403c 17 = .ok (.iload_n 1, 1) := by decide +kernel
theorem dJ7_copyOf_6403c_18 : decode cJ7_copyOf_6403c 18 = .ok (.invokestatic 95, 3) := by decide +kernel
theorem dJ7_copyOf_6403c_21 : decode cJ7_copyOf_6403c 21 = .ok (.checkcast 110, 3) := by decide +kernel
theorem dJ7_copyOf_6403c_24 : decode cJ7_copyOf_6403c 24 = .ok (.astore_n 3, 1) := by decide +kernel
theorem dJ7_copyOf_6403c_25 : decode cJ7_copyOf_6403c 25 = .ok (.aload_n 0, 1) := by decide +kernel
theorem dJ7_copyOf_6403c_26 : decode cJ7_copyOf_6403c 26 = .ok (.iconst 0, 1) := by decide +kernel
theorem dJ7_copyOf_6403c_27 : decode cJ7_copyOf_6403c 27 = .ok (.aload_n 3, 1) := by decide +kernel
theorem dJ7_copyOf_6403c_28 : decode cJ7_copyOf_6403c 28 = .ok (.iconst 0, 1) := by decide +kernel
theorem dJ7_copyOf_6403c_29 : decode cJ7_copyOf_6403c 29 = .ok (.aload_n 0, 1) := by decide +kernel
theorem dJ7_copyOf_6403c_30 : decode cJ7_copyOf_6403c 30 = .ok (.arraylength, 1) := by decide +kernel
theorem dJ7_copyOf_6403c_31 : decode cJ7_copyOf_6403c 31 = .ok (.iload_n 1, 1) := by decide +kernel
theorem dJ7_copyOf_6403c_32 : decode cJ7_copyOf_6403c 32 = .ok (.invokestatic 304, 3) := by decide +kernel
theorem dJ7_copyOf_6403c_35 : decode cJ7_copyOf_6403c 35 = .ok (.invokestatic 150, 3) := by decide +kernel
theorem dJ7_copyOf_6403c_38 : decode cJ7_copyOf_6403c 38 = .ok (.aload_n 3, 1) := by decide +kernel
theorem dJ7_copyOf_6403c_39 : decode cJ7_copyOf_6403c 39 = .ok (.areturn, 1) := by decide +kernel
theorem dJ15_checkIndex_7cf53_0 : decode cJ15_checkIndex_7cf53 0 = .ok (.iload_n 0, 1) := by decide +kernel
theorem dJ15_checkIndex_7cf53_1 : decode cJ15_checkIndex_7cf53 1 = .ok (.iload_n 1, 1) := by decide +kernel
theorem dJ15_checkIndex_7cf53_2 : decode cJ15_checkIndex_7cf53 2 = .ok (.aconst_null, 1) := by decide +kernel
theorem dJ15_checkIndex_7cf53_3 : decode cJ15_checkIndex_7cf53 3 = .ok (.invokestatic 105, 3) := by decide +kernel
theorem dJ15_checkIndex_7cf53_6 : decode cJ15_checkIndex_7cf53 6 = .ok (.ireturn, 1) := by decide +kernel
theorem dJ8_newLength_cabcc_0 : decode cJ8_newLength_cabcc 0 = .ok (.iload_n 0, 1) := by decide +kernel
theorem dJ8_newLength_cabcc_1 : decode cJ8_newLength_cabcc 1 = .ok (.iload_n 1, 1) := by decide +kernel
theorem dJ8_newLength_cabcc_2 : decode cJ8_newLength_cabcc 2 = .ok (.iload_n 2, 1) := by decide +kernel
theorem dJ8_newLength_cabcc_3 : decode cJ8_newLength_cabcc 3 = .ok (.invokestatic 194, 3) := by decide +kernel
theorem dJ8_newLength_cabcc_6 : decode cJ8_newLength_cabcc 6 = .ok (.iadd, 1) := by decide +kernel
theorem dJ8_newLength_cabcc_7 : decode cJ8_newLength_cabcc 7 = .ok (.istore_n 3, 1) := by decide +kernel
theorem dJ8_newLength_cabcc_8 : decode cJ8_newLength_cabcc 8 = .ok (.iconst 0, 1) := by decide +kernel
theorem dJ8_newLength_cabcc_9 : decode cJ8_newLength_cabcc 9 = .ok (.iload_n 3, 1) := by decide +kernel
theorem dJ8_newLength_cabcc_10 : decode cJ8_newLength_cabcc 10 = .ok (.if_icmp .ge 11, 3) := by decide +kernel
theorem dJ8_newLength_cabcc_13 : decode cJ8_newLength_cabcc 13 = .ok (.iload_n 3, 1) := by decide +kernel
theorem dJ8_newLength_cabcc_14 : decode cJ8_newLength_cabcc 14 = .ok (.ldc 200, 2) := by decide +kernel
theorem dJ8_newLength_cabcc_16 : decode cJ8_newLength_cabcc 16 = .ok (.if_icmp .gt 5, 3) := by decide +kernel
theorem dJ8_newLength_cabcc_19 : decode cJ8_newLength_cabcc 19 = .ok (.iload_n 3, 1) := by decide +kernel
theorem dJ8_newLength_cabcc_20 : decode cJ8_newLength_cabcc 20 = .ok (.ireturn, 1) := by decide +kernel
theorem dJ8_newLength_cabcc_21 : decode cJ8_newLength_cabcc 21 = .ok (.iload_n 0, 1) := by decide +kernel
theorem dJ8_newLength_cabcc_22 : decode cJ8_newLength_cabcc 22 = .ok (.iload_n 1, 1) := by decide +kernel
theorem dJ8_newLength_cabcc_23 : decode cJ8_newLength_cabcc 23 = .ok (.invokestatic 201, 3) := by decide +kernel
theorem dJ8_newLength_cabcc_26 : decode cJ8_newLength_cabcc 26 = .ok (.ireturn, 1) := by decide +kernel
theorem dJ8_hugeLength_7cf53_0 : decode cJ8_hugeLength_7cf53 0 = .ok (.iload_n 0, 1) := by decide +kernel
theorem dJ8_hugeLength_7cf53_1 : decode cJ8_hugeLength_7cf53 1 = .ok (.iload_n 1, 1) := by decide +kernel
theorem dJ8_hugeLength_7cf53_2 : decode cJ8_hugeLength_7cf53 2 = .ok (.iadd, 1) := by decide +kernel
theorem dJ8_hugeLength_7cf53_3 : decode cJ8_hugeLength_7cf53 3 = .ok (.istore_n 2, 1) := by decide +kernel
theorem dJ8_hugeLength_7cf53_4 : decode cJ8_hugeLength_7cf53 4 = .ok (.iload_n 2, 1) := by decide +kernel
theorem dJ8_hugeLength_7cf53_5 : decode cJ8_hugeLength_7cf53 5 = .ok (.ifCond .ge 44, 3) := by decide +kernel
theorem dJ8_hugeLength_7cf53_8 : decode cJ8_hugeLength_7cf53 8 = .ok (.new 204, 3) := by decide +kernel
theorem dJ8_hugeLength_7cf53_11 : decode cJ8_hugeLength_7cf53 11 = .ok (.dup, 1) := by decide +kernel
theorem dJ8_hugeLength_7cf53_12 : decode cJ8_hugeLength_7cf53 12 = .ok (.new 89, 3) := by decide +kernel
theorem dJ8_hugeLength_7cf53_15 : decode cJ8_hugeLength_7cf53 15 = .ok (.dup, 1) := by decide +kernel
theorem dJ8_hugeLength_7cf53_16 : decode cJ8_hugeLength_7cf53 16 = .ok (.invokespecial 91, 3) := by decide +kernel
theorem dJ8_hugeLength_7cf53_19 : decode cJ8_hugeLength_7cf53 19 = .ok (.ldc 206, 2) := by decide +kernel
theorem dJ8_hugeLength_7cf53_21 : decode cJ8_hugeLength_7cf53 21 = .ok (.invokevirtual 94, 3) := by decide +kernel
theorem dJ8_hugeLength_7cf53_24 : decode cJ8_hugeLength_7cf53 24 = .ok (.iload_n 0, 1) := by decide +kernel
theorem dJ8_hugeLength_7cf53_25 : decode cJ8_hugeLength_7cf53 25 = .ok (.invokevirtual 98, 3) := by decide +kernel
theorem dJ8_hugeLength_7cf53_28 : decode cJ8_hugeLength_7cf53 28 = .ok (.ldc 208, 2) := by decide +kernel
theorem dJ8_hugeLength_7cf53_30 : decode cJ8_hugeLength_7cf53 30 = .ok (.invokevirtual 94, 3) := by decide +kernel
theorem dJ8_hugeLength_7cf53_33 : decode cJ8_hugeLength_7cf53 33 = .ok (.iload_n 1, 1) := by decide +kernel
theorem dJ8_hugeLength_7cf53_34 : decode cJ8_hugeLength_7cf53 34 = .ok (.invokevirtual 98, 3) := by decide +kernel
theorem dJ8_hugeLength_7cf53_37 : decode cJ8_hugeLength_7cf53 37 = .ok (.ldc 210, 2) := by decide +kernel
theorem dJ8_hugeLength_7cf53_39 : decode cJ8_hugeLength_7cf53 39 = .ok (.invokevirtual 94, 3) := by decide +kernel
theorem dJ8_hugeLength_7cf53_42 : decode cJ8_hugeLength_7cf53 42 = .ok (.invokevirtual 101, 3) := by decide +kernel
theorem dJ8_hugeLength_7cf53_45 : decode cJ8_hugeLength_7cf53 45 = .ok (.invokespecial 212, 3) := by decide +kernel
theorem dJ8_hugeLength_7cf53_48 : decode cJ8_hugeLength_7cf53 48 = .ok (.athrow, 1) := by decide +kernel
theorem dJ8_hugeLength_7cf53_49 : decode cJ8_hugeLength_7cf53 49 = .ok (.iload_n 2, 1) := by decide +kernel
theorem dJ8_hugeLength_7cf53_50 : decode cJ8_hugeLength_7cf53 50 = .ok (.ldc 200, 2) := by decide +kernel
theorem dJ8_hugeLength_7cf53_52 : decode cJ8_hugeLength_7cf53 52 = .ok (.if_icmp .gt 6, 3) := by decide +kernel
theorem dJ8_hugeLength_7cf53_55 : decode cJ8_hugeLength_7cf53 55 = .ok (.ldc 200, 2) := by decide +kernel
theorem dJ8_hugeLength_7cf53_57 : decode cJ8_hugeLength_7cf53 57 = .ok (.ireturn, 1) := by decide +kernel
theorem dJ8_hugeLength_7cf53_58 : decode cJ8_hugeLength_7cf53 58 = .ok (.iload_n 2, 1) := by decide +kernel
theorem dJ8_hugeLength_7cf53_59 : decode cJ8_hugeLength_7cf53 59 = .ok (.ireturn, 1) := by decide +kernel
theorem dJ3_checkIndex_8e157_0 : decode cJ3_checkIndex_8e157 0 = .ok (.iload_n 0, 1) := by decide +kernel
theorem dJ3_checkIndex_8e157_1 : decode cJ3_checkIndex_8e157 1 = .ok (.ifCond .lt 8, 3) := by decide +kernel
theorem dJ3_checkIndex_8e157_4 : decode cJ3_checkIndex_8e157 4 = .ok (.iload_n 0, 1) := by decide +kernel
theorem dJ3_checkIndex_8e157_5 : decode cJ3_checkIndex_8e157 5 = .ok (.iload_n 1, 1) := by decide +kernel
theorem dJ3_checkIndex_8e157_6 : decode cJ3_checkIndex_8e157 6 = .ok (.if_icmp .lt 10, 3) := by decide +kernel
theorem dJ3_checkIndex_8e157_9 : decode cJ3_checkIndex_8e157 9 = .ok (.aload_n 2, 1) := by decide +kernel
theorem dJ3_checkIndex_8e157_10 : decode cJ3_checkIndex_8e157 10 = .ok (.iload_n 0, 1) := by decide +kernel
theorem dJ3_checkIndex_8e157_11 : decode cJ3_checkIndex_8e157 11 = .ok (.iload_n 1, 1) := by decide +kernel
theorem dJ3_checkIndex_8e157_12 : decode cJ3_checkIndex_8e157 12 = .ok (.invokestatic 95, 3) := by decide +kernel
theorem dJ3_checkIndex_8e157_15 : decode cJ3_checkIndex_8e157 15 = .ok (.athrow, 1) := by decide +kernel
theorem dJ3_checkIndex_8e157_16 : decode cJ3_checkIndex_8e157 16 = .ok (.iload_n 0, 1) := by decide +kernel
theorem dJ3_checkIndex_8e157_17 : decode cJ3_checkIndex_8e157 17 = .ok (.ireturn, 1) := by decide +kernel
end
section
/-! The abstract heap: by address a tag (0: not ours, ci + 1: an object of class ci of vwCl, 20: int[], 21: boolean[], 22: Object[], 23: int[][], 24: the JDK's own empty Object[], 25: the law's script, 30: an array behind a list), the int fields and the reference fields by their number (16 * class + place), the contents of the arrays, the next address, the slots made. -/
abbrev HP : Type := (Nat → Nat) × (Nat → Nat → Int32) × (Nat → Nat → Option Nat) × (Nat → List Int32) × (Nat → List (Option Nat)) × Nat × Nat
def tg (g : HP) : Nat → Nat := g.1
def fi (g : HP) : Nat → Nat → Int32 := g.2.1
def fr (g : HP) : Nat → Nat → Option Nat := g.2.2.1
def ia (g : HP) : Nat → List Int32 := g.2.2.2.1
def oa (g : HP) : Nat → List (Option Nat) := g.2.2.2.2.1
def nx (g : HP) : Nat := g.2.2.2.2.2.1
def sl (g : HP) : Nat := g.2.2.2.2.2.2
def up1 {α : Type} (f : Nat → α) (k : Nat) (v : α) : Nat → α := fun j => if j = k then v else f j
def up2 {α : Type} (f : Nat → Nat → α) (k a : Nat) (v : α) : Nat → Nat → α := fun j b => if j = k ∧ b = a then v else f j b
def setI (g : HP) (k a : Nat) (v : Int32) : HP := (g.1, up2 g.2.1 k a v, g.2.2)
def setR (g : HP) (k a : Nat) (v : Option Nat) : HP := (g.1, g.2.1, up2 g.2.2.1 k a v, g.2.2.2)
def setA (g : HP) (a : Nat) (l : List Int32) : HP := (g.1, g.2.1, g.2.2.1, up1 g.2.2.2.1 a l, g.2.2.2.2)
def setO (g : HP) (a : Nat) (l : List (Option Nat)) : HP := (g.1, g.2.1, g.2.2.1, g.2.2.2.1, up1 g.2.2.2.2.1 a l, g.2.2.2.2.2)
/-- a new object or array at the next address: its tag, its slots, its contents (ints, references) -/
def newG (g : HP) (t n : Nat) (il : List Int32) (ol : List (Option Nat)) : HP :=
  (up1 g.1 g.2.2.2.2.2.1 t, (fun k a => if a = g.2.2.2.2.2.1 then 0 else g.2.1 k a), (fun k a => if a = g.2.2.2.2.2.1 then none else g.2.2.1 k a), up1 g.2.2.2.1 g.2.2.2.2.2.1 il, up1 g.2.2.2.2.1 g.2.2.2.2.2.1 ol, g.2.2.2.2.2.1 + 1, g.2.2.2.2.2.2 + n)
/-- cells and slots that are nobody's -/
def bump (g : HP) (n k : Nat) : HP := (g.1, g.2.1, g.2.2.1, g.2.2.2.1, g.2.2.2.2.1, g.2.2.2.2.2.1 + n, g.2.2.2.2.2.2 + k)

abbrev VV : Type := Int32 ⊕ (Option Nat ⊕ (Int64 ⊕ UInt64))
abbrev vI (x : Int32) : VV := .inl x
abbrev vR (r : Option Nat) : VV := .inr (.inl r)
abbrev vJ (x : Int64) : VV := .inr (.inr (.inl x))
abbrev vD (x : UInt64) : VV := .inr (.inr (.inr x))
def vv : VV → Value
  | .inl x => .int x
  | .inr (.inl r) => va_rf r
  | .inr (.inr (.inl x)) => .long x
  | .inr (.inr (.inr x)) => .double x
def vc : VV → Nat
  | .inl _ => 1
  | .inr (.inl _) => 1
  | .inr (.inr _) => 2
theorem vv_cat (v : VV) : (vv v).category = vc v := by
  rcases v with x | (_ | a) | x | x <;> rfl
abbrev LL : Type := List (Nat × VV)
def lvv (L : LL) : List (Nat × Value) := L.map fun q => (q.1, vv q.2)
theorem lvv_at {L : LL} {q i : Nat} {v : VV} (h : L[q]? = some (i, v)) : (lvv L)[q]? = some (i, vv v) := by
  simp [lvv, List.getElem?_map, h]
/-- the locals behind a store of one word at place i -/
def lst1 (L : LL) (i : Nat) (v : VV) : LL := (i, v) :: L.filter (fun q => !(q.1 == i) && !(q.1 + 1 == i && vc q.2 == 2))
def lst2 (L : LL) (i : Nat) (v : VV) : LL := (i, v) :: L.filter (fun q => !(q.1 == i) && (!(q.1 == i + 1) && !(q.1 + 1 == i && vc q.2 == 2)))
theorem lvv_st1 (L : LL) (i : Nat) (v : VV) : (i, vv v) :: (lvv L).filter (fun q => !(q.1 == i) && !(q.1 + 1 == i && q.2.category == 2)) = lvv (lst1 L i v) := by
  unfold lst1 lvv
  rw [List.map_cons, List.filter_map]
  congr 3
  funext q
  simp [vv_cat]
theorem lvv_st2 (L : LL) (i : Nat) (v : VV) : (i, vv v) :: (lvv L).filter (fun q => !(q.1 == i) && (!(q.1 == i + 1) && !(q.1 + 1 == i && q.2.category == 2))) = lvv (lst2 L i v) := by
  unfold lst2 lvv
  rw [List.map_cons, List.filter_map]
  congr 3
  funext q
  simp [vv_cat]

/-- what is known of the launch: the first address that is ours, classes and field places, the array classes by tag, the JDK's empty array, the mirror of Object[] -/
abbrev KK : Type := Nat × va_G × (Nat → ClassId) × Nat × Nat
def kb (κ : KK) : Nat := κ.1
def kD (κ : KK) : va_G := κ.2.1
def kA (κ : KK) : Nat → ClassId := κ.2.2.1
def kE (κ : KK) : Nat := κ.2.2.2.1
def kM (κ : KK) : Nat := κ.2.2.2.2
def aty (t : Nat) : FieldType := if t = 20 then .int else if t = 21 then .boolean else if t = 22 then .object "java/lang/Object" else .array .int
def tysK (κ : KK) : List (ClassId × FieldType) := [(kA κ 20, .int), (kA κ 21, .boolean), (kA κ 22, .object "java/lang/Object"), (kA κ 23, .array .int)]
/-- words that are of a state, and pass from one to the next otherwise than the tables' own -/
def nestW : List Cond := [.methodLinkNest "Blockduty" 33 ⟨"Blockduty$WorkRules", "<init>", "()V"⟩ "Blockduty", .methodLinkNest "Blockduty" 44 ⟨"Blockduty$Row", "<init>", "()V"⟩ "Blockduty", .methodLinkNest "Blockduty" 58 ⟨"Blockduty$Followers", "<init>", "()V"⟩ "Blockduty", .methodLinkNest "Blockduty$Block" 17 ⟨"Blockduty$Row", "<init>", "()V"⟩ "Blockduty"]
def KN (U : State) : Prop := (∀ (ci : Nat) (r : vw_C), vwCl[ci]? = some r → va_Nw (.castable r.1 "java/lang/Object") U) ∧ va_AO "java/lang/Object" U ∧ va_Dc U ∧ ∀ w ∈ nestW, va_Nw w U
theorem KN.same {u U : State} (h : u.vm = U.vm) (k : KN u) : KN U := by
  refine ⟨fun ci r hr => (k.1 ci r hr).same rfl h, k.2.1.moved (by rw [h]; exact Vm.Alike.refl _), k.2.2.1.moved (by rw [h]; exact Vm.Alike.refl _), fun w hw => ?_⟩
  refine (k.2.2.2 w hw).same ?_ h
  unfold nestW at hw
  simp only [List.mem_cons, List.not_mem_nil, or_false] at hw
  rcases hw with rfl | rfl | rfl | rfl <;> rfl
theorem KN.warm {s U : State} (hW : s.WarmedH U.vm) (k : KN s) : KN U := by
  refine ⟨fun ci r hr => ?_, k.2.1.moved hW.alike, k.2.2.1.moved hW.alike, fun w hw => ?_⟩
  · have h1 : (Cond.castable r.1 "java/lang/Object").before #[] (s.setVm U.vm) = true := by
      rw [Cond.castable_setVm hW.alike]
      exact k.1 ci r hr
    exact va_tabs rfl (rfl : (s.setVm U.vm).vm = U.vm) h1
  · have hk := k.2.2.2 w hw
    unfold nestW at hw
    simp only [List.mem_cons, List.not_mem_nil, or_false] at hw
    rcases hw with rfl | rfl | rfl | rfl <;> exact va_Nw.warmM hW hk
def KX (κ : KK) (U : State) (H : Heap) : Prop :=
  va_K (kD κ) vwCl (tysK κ) U ∧ va_Mi "[Ljava/lang/Object;" (kM κ) U ∧ va_Z "java/util/ArrayList" "DEFAULTCAPACITY_EMPTY_ELEMENTDATA" "[Ljava/lang/Object;" (.ref (kE κ)) (fun q => kb κ ≤ q) U H ∧ kE κ < kb κ ∧ kb κ ≤ H.size ∧ KN U
theorem KX.moved {κ : KK} {u U : State} {H H1 : Heap} (h : KX κ u H) (hvm : u.vm.Alike U.vm) (hn : KN u → KN U) (hq : ∀ q, q < kb κ → H1[q]? = H[q]?) (hs : kb κ ≤ H1.size) : KX κ U H1 := by
  obtain ⟨h1, h2, h3, h4, h5, h6⟩ := h
  exact ⟨h1.moved hvm, h2.moved hvm, (h3.moved hvm).kept (fun a _ ha => hq a (Nat.lt_of_not_le ha)), h4, hs, hn h6⟩

/-- which fields hold references, by their number -/
def refF (j : Nat) : Bool := j == 1 || (j == 19 || j == 20) || j == 34 || (j == 48 || j == 49) || (j == 81 || j == 82 || j == 83 || j == 85) || j == 112 || (j == 129 || j == 130 || j == 131 || j == 135 || j == 136)
  || (160 ≤ j && j ≤ 167) || (170 ≤ j && j ≤ 173)
def fldV (g : HP) (j a : Nat) : Value := if refF j = true then va_rf (fr g j a) else .int (fi g j a)
def cellI (cA : ClassId) (l : List Int32) : Cell := arrV cA l.length (fun j => .int (l.getD j 0))
def cellO (cA : ClassId) (l : List (Option Nat)) : Cell := arrV cA l.length (fun j => va_rf (l.getD j none))
theorem cellI_store (cA : ClassId) (l : List Int32) (i : Nat) (x : Int32) : (cellI cA l).setSlot i (.int x) = cellI cA (l.set i x) := by
  unfold cellI
  rw [arrV_store]
  unfold arrV
  congr 1
  apply Array.ext
  · simp
  · intro j h1 h2
    have hj : j < l.length := by simpa using h1
    simp only [Array.getElem_ofFn, updV, List.getD_eq_getElem?_getD, List.getElem?_set]
    by_cases h : i = j
    · subst h; simp [hj]
    · have h' : ¬ j = i := fun e => h e.symm
      simp [h, h']
theorem cellO_store (cA : ClassId) (l : List (Option Nat)) (i : Nat) (x : Option Nat) : (cellO cA l).setSlot i (va_rf x) = cellO cA (l.set i x) := by
  unfold cellO
  rw [arrV_store]
  unfold arrV
  congr 1
  apply Array.ext
  · simp
  · intro j h1 h2
    have hj : j < l.length := by simpa using h1
    simp only [Array.getElem_ofFn, updV, List.getD_eq_getElem?_getD, List.getElem?_set]
    by_cases h : i = j
    · subst h; simp [hj]
    · have h' : ¬ j = i := fun e => h e.symm
      simp [h, h']
theorem cellI_new (cA : ClassId) (n : Nat) : arrV cA n (fun _ => .int 0) = cellI cA (List.replicate n 0) := by
  unfold cellI arrV
  congr 1
  apply Array.ext
  · simp
  · intro j h1 h2
    have hj : j < n := by simpa using h1
    simp [List.getD_eq_getElem?_getD, hj]
theorem cellO_new (cA : ClassId) (n : Nat) : arrV cA n (fun _ => .null) = cellO cA (List.replicate n none) := by
  unfold cellO arrV
  congr 1
  apply Array.ext
  · simp
  · intro j h1 h2
    have hj : j < n := by simpa using h1
    simp [List.getD_eq_getElem?_getD, hj, va_rf]
theorem cellI_size (cA : ClassId) (l : List Int32) : (cellI cA l).slots.size = l.length := arrV_size _ _ _
theorem cellO_size (cA : ClassId) (l : List (Option Nat)) : (cellO cA l).slots.size = l.length := arrV_size _ _ _
theorem cellI_read (cA : ClassId) {l : List Int32} {j : Nat} (h : j < l.length) : (cellI cA l).slots[j]? = some (.int (l.getD j 0)) := arrV_read _ _ h
theorem cellO_read (cA : ClassId) {l : List (Option Nat)} {j : Nat} (h : j < l.length) : (cellO cA l).slots[j]? = some (va_rf (l.getD j none)) := arrV_read _ _ h

/-- one cell of the picture, by its tag -/
def isI (t : Nat) : Prop := t = 20 ∨ t = 21 ∨ t = 25
def isO (t : Nat) : Prop := t = 22 ∨ t = 23 ∨ t = 24
def arC (κ : KK) (t : Nat) : ClassId := if t = 25 then kA κ 20 else if t = 24 then kA κ 22 else kA κ t
def objAt (κ : KK) (g : HP) (H : Heap) (ci q : Nat) : Prop := ∃ r : vw_C, vwCl[ci]? = some r ∧ t_OB q ((kD κ).1 ci) r.2.2 ((kD κ).2 ci) H (fun k => fldV g (16 * ci + k) q)
def cellOk (κ : KK) (g : HP) (H : Heap) (q : Nat) : Prop :=
  (∀ ci, tg g q = ci + 1 → ci < 11 → objAt κ g H ci q) ∧ (isI (tg g q) → H[q]? = some (cellI (arC κ (tg g q)) (ia g q))) ∧ (isO (tg g q) → H[q]? = some (cellO (arC κ (tg g q)) (oa g q)))
/-- the picture of the heap, arrays behind the lists and all -/
def Pic1 (κ : KK) (g : HP) (H : Heap) : Prop := H.size = nx g ∧ (∀ q, cellOk κ g H q) ∧ (∀ q, tg g q ≠ 0 → q < nx g) ∧ (∀ q, tg g q ≠ 0 → tg g q ≠ 24 → tg g q ≠ 25 → kb κ ≤ q)
end
section
/-- the tables' words that last -/
def gtbl : List Cond := lw_tbl.filter goodWord
theorem gtbl_mem {w : Cond} (h : w ∈ lw_tbl) (hg : goodWord w = true) : w ∈ gtbl := List.mem_filter.mpr ⟨h, hg⟩
theorem gtbl_tab {i : Nat} {w : Cond} (h : tables_1[i]? = some w) (hg : goodWord w = true) : w ∈ gtbl := gtbl_mem (List.mem_append.mpr (Or.inr (List.mem_of_getElem? h))) hg
theorem gtbl_good : ∀ w ∈ gtbl, goodWord w = true := fun _ h => (List.mem_filter.mp h).2
theorem gtbl_in {ws : List Cond} (h : ∀ w ∈ ws, w ∈ gtbl) : GoodIn gtbl ws := fun w hw => ⟨h w hw, good_of_word (gtbl_good w (h w hw))⟩

/-- what a picture of the heap must bear: okb says of which tags the instructions may read and write -/
def PO (κ : KK) (P : HP → Heap → Prop) (okb : Nat → Bool) : Prop :=
  (∀ g H, P g H → H.size = nx g ∧ kb κ ≤ nx g) ∧
  (∀ g H q, P g H → tg g q ≠ 0 → q < nx g) ∧
  (∀ g H q ci, P g H → tg g q = ci + 1 → ci < 11 → ∃ cell : Cell, H[q]? = some cell ∧ cell.vm.isStatics = false ∧ cell.cls = (kD κ).1 ci) ∧
  (∀ g H q ci, P g H → tg g q = ci + 1 → ci < 11 → okb (ci + 1) = true → objAt κ g H ci q ∧ kb κ ≤ q) ∧
  (∀ g H q, P g H → isI (tg g q) → H[q]? = some (cellI (arC κ (tg g q)) (ia g q)) ∧ (tg g q ≠ 25 → kb κ ≤ q)) ∧
  (∀ g H q, P g H → isO (tg g q) → okb (tg g q) = true → H[q]? = some (cellO (arC κ (tg g q)) (oa g q)) ∧ (tg g q ≠ 24 → kb κ ≤ q)) ∧
  (∀ g H q ci k v H1, P g H → tg g q = ci + 1 → ci < 11 → okb (ci + 1) = true → k < 16 → H1.size = H.size → (∀ x, x ≠ q → H1[x]? = H[x]?) → objAt κ (setI g (16 * ci + k) q v) H1 ci q → P (setI g (16 * ci + k) q v) H1) ∧
  (∀ g H q ci k v H1, P g H → tg g q = ci + 1 → ci < 11 → okb (ci + 1) = true → k < 16 → H1.size = H.size → (∀ x, x ≠ q → H1[x]? = H[x]?) → objAt κ (setR g (16 * ci + k) q v) H1 ci q → P (setR g (16 * ci + k) q v) H1) ∧
  (∀ g H q l H1, P g H → (tg g q = 20 ∨ tg g q = 21) → H1.size = H.size → (∀ x, x ≠ q → H1[x]? = H[x]?) → H1[q]? = some (cellI (arC κ (tg g q)) l) → P (setA g q l) H1) ∧
  (∀ g H q l H1, P g H → (tg g q = 22 ∨ tg g q = 23) → okb (tg g q) = true → H1.size = H.size → (∀ x, x ≠ q → H1[x]? = H[x]?) → H1[q]? = some (cellO (arC κ (tg g q)) l) → P (setO g q l) H1) ∧
  (∀ g H ci n H1, P g H → ci < 11 → okb (ci + 1) = true → H1.size = H.size + 1 → (∀ x, x < H.size → H1[x]? = H[x]?) → (∃ r : vw_C, vwCl[ci]? = some r ∧ t_OB H.size ((kD κ).1 ci) r.2.2 ((kD κ).2 ci) H1 (fun k => fldV (newG g (ci + 1) n [] []) (16 * ci + k) H.size)) → P (newG g (ci + 1) n [] []) H1) ∧
  (∀ g H t n l H1, P g H → (t = 20 ∨ t = 21) → H1.size = H.size + 1 → (∀ x, x < H.size → H1[x]? = H[x]?) → H1[H.size]? = some (cellI (arC κ t) l) → P (newG g t n l []) H1) ∧
  (∀ g H t n l H1, P g H → (t = 22 ∨ t = 23) → okb t = true → H1.size = H.size + 1 → (∀ x, x < H.size → H1[x]? = H[x]?) → H1[H.size]? = some (cellO (arC κ t) l) → P (newG g t n [] l) H1)

theorem up1_self {α : Type} (f : Nat → α) (k : Nat) (v : α) : up1 f k v k = v := by simp [up1]
theorem up1_ne {α : Type} (f : Nat → α) {k j : Nat} (v : α) (h : j ≠ k) : up1 f k v j = f j := by simp [up1, h]

theorem objAt_kept {κ : KK} {g g1 : HP} {H H1 : Heap} {ci q : Nat} (h : objAt κ g H ci q) (hq : H1[q]? = H[q]?) (hf : ∀ k, fldV g1 (16 * ci + k) q = fldV g (16 * ci + k) q) : objAt κ g1 H1 ci q := by
  obtain ⟨r, h1, h2⟩ := h
  exact ⟨r, h1, (h2.kept hq).to fun k _ => (hf k).symm⟩
theorem objAt_size {κ : KK} {g : HP} {H : Heap} {ci q : Nat} (h : objAt κ g H ci q) : q < H.size := by
  obtain ⟨r, h1, cell, h2, -⟩ := h
  exact (Array.getElem?_eq_some_iff.mp h2).1
theorem objAt_recv {κ : KK} {g : HP} {H : Heap} {ci q : Nat} (h : objAt κ g H ci q) : ∃ cell : Cell, H[q]? = some cell ∧ cell.vm.isStatics = false ∧ cell.cls = (kD κ).1 ci := by
  obtain ⟨r, h1, cell, h2, h3, h4, -⟩ := h
  exact ⟨cell, h2, by rw [h4]; rfl, h3⟩

/-- a put of one object's field: every cell of the picture stays right -/
theorem Pic1_field {κ : KK} {g g1 : HP} {H H1 : Heap} {q ci k : Nat} (h : Pic1 κ g H) (ht : tg g q = ci + 1) (hci : ci < 11) (hk : k < 16) (hs : H1.size = H.size) (ho : ∀ x, x ≠ q → H1[x]? = H[x]?)
    (e1 : tg g1 = tg g) (e2 : ia g1 = ia g) (e3 : oa g1 = oa g) (e4 : nx g1 = nx g) (e5 : ∀ j a, ¬ (j = 16 * ci + k ∧ a = q) → fldV g1 j a = fldV g j a) (hn : objAt κ g1 H1 ci q) : Pic1 κ g1 H1 := by
  obtain ⟨z, hc, hw, hb⟩ := h
  refine ⟨by rw [hs, z, e4], fun x => ?_, by rw [e1, e4]; exact hw, by rw [e1]; exact hb⟩
  by_cases hx : x = q
  · subst hx
    refine ⟨fun cj hj _ => ?_, fun hi => ?_, fun hi => ?_⟩
    · rw [e1, ht] at hj
      have : cj = ci := by omega
      subst this
      exact hn
    · rw [e1, ht] at hi
      unfold isI at hi
      omega
    · rw [e1, ht] at hi
      unfold isO at hi
      omega
  · obtain ⟨c1, c2, c3⟩ := hc x
    unfold cellOk
    rw [e1, e2, e3]
    refine ⟨fun cj hj hl => objAt_kept (c1 cj hj hl) (ho x hx) fun k' => e5 _ _ fun z => hx z.2, fun hi => by rw [ho x hx]; exact c2 hi, fun hi => by rw [ho x hx]; exact c3 hi⟩
theorem fldV_setI {g : HP} {k q : Nat} {v : Int32} {j a : Nat} (h : ¬ (j = k ∧ a = q)) : fldV (setI g k q v) j a = fldV g j a := by
  unfold fldV
  have : fi (setI g k q v) j a = fi g j a := if_neg h
  rw [this]; rfl
theorem fldV_setR {g : HP} {k q : Nat} {v : Option Nat} {j a : Nat} (h : ¬ (j = k ∧ a = q)) : fldV (setR g k q v) j a = fldV g j a := by
  unfold fldV
  have : fr (setR g k q v) j a = fr g j a := if_neg h
  rw [this]; rfl
theorem fldV_newG {g : HP} {t n : Nat} {il : List Int32} {ol : List (Option Nat)} {j a : Nat} (h : a ≠ nx g) : fldV (newG g t n il ol) j a = fldV g j a := by
  unfold fldV
  have h1 : fi (newG g t n il ol) j a = fi g j a := if_neg h
  have h2 : fr (newG g t n il ol) j a = fr g j a := if_neg h
  rw [h1, h2]
theorem Pic1_arr {κ : KK} {g g1 : HP} {H H1 : Heap} {q : Nat} (h : Pic1 κ g H) (hs : H1.size = H.size) (ho : ∀ x, x ≠ q → H1[x]? = H[x]?)
    (e1 : tg g1 = tg g) (e2 : ∀ x, x ≠ q → ia g1 x = ia g x) (e3 : ∀ x, x ≠ q → oa g1 x = oa g x) (e4 : nx g1 = nx g) (e5 : fi g1 = fi g) (e6 : fr g1 = fr g) (hn : cellOk κ g1 H1 q) : Pic1 κ g1 H1 := by
  obtain ⟨z, hc, hw, hb⟩ := h
  refine ⟨by rw [hs, z, e4], fun x => ?_, by rw [e1, e4]; exact hw, by rw [e1]; exact hb⟩
  by_cases hx : x = q
  · subst hx; exact hn
  · obtain ⟨c1, c2, c3⟩ := hc x
    unfold cellOk
    rw [e1, e2 x hx, e3 x hx]
    refine ⟨fun cj hj hl => objAt_kept (c1 cj hj hl) (ho x hx) fun k' => by unfold fldV; rw [e5, e6], fun hi => by rw [ho x hx]; exact c2 hi, fun hi => by rw [ho x hx]; exact c3 hi⟩
theorem Pic1_new {κ : KK} {g : HP} {H H1 : Heap} {t n : Nat} {il : List Int32} {ol : List (Option Nat)} (h : Pic1 κ g H) (hbn : kb κ ≤ nx g) (hs : H1.size = H.size + 1) (ho : ∀ x, x < H.size → H1[x]? = H[x]?)
    (hn : cellOk κ (newG g t n il ol) H1 (nx g)) : Pic1 κ (newG g t n il ol) H1 := by
  obtain ⟨z, hc, hw, hb⟩ := h
  have et : ∀ x, x ≠ nx g → tg (newG g t n il ol) x = tg g x := fun x hx => if_neg hx
  refine ⟨by rw [hs, z]; rfl, fun x => ?_, fun x hx => ?_, fun x h1 h2 h3 => ?_⟩
  · by_cases hx : x = nx g
    · rw [hx]; exact hn
    · obtain ⟨c1, c2, c3⟩ := hc x
      have e2 : ia (newG g t n il ol) x = ia g x := if_neg hx
      have e3 : oa (newG g t n il ol) x = oa g x := if_neg hx
      have key : tg g x ≠ 0 → H1[x]? = H[x]? := fun h0 => ho x (by rw [z]; exact hw x h0)
      unfold cellOk
      rw [et x hx, e2, e3]
      refine ⟨fun cj hj hl => objAt_kept (c1 cj hj hl) (key (by omega)) fun k' => fldV_newG hx, fun hi => ?_, fun hi => ?_⟩
      · rw [key (by unfold isI at hi; omega)]; exact c2 hi
      · rw [key (by unfold isO at hi; omega)]; exact c3 hi
  · show x < nx g + 1
    by_cases e : x = nx g
    · omega
    · rw [et x e] at hx
      have := hw x hx
      omega
  · by_cases e : x = nx g
    · rw [e]; exact hbn
    · rw [et x e] at h1 h2 h3
      exact hb x h1 h2 h3
def Pi1 (κ : KK) (g : HP) (H : Heap) : Prop := Pic1 κ g H ∧ kb κ ≤ nx g
theorem PO_Pic1 (κ : KK) : PO κ (Pi1 κ) (fun _ => true) := by
  refine ⟨fun g H h => ⟨h.1.1, h.2⟩, fun g H q h ht => h.1.2.2.1 q ht, fun g H q ci h ht hl => objAt_recv ((h.1.2.1 q).1 ci ht hl), fun g H q ci h ht hl _ => ⟨(h.1.2.1 q).1 ci ht hl, h.1.2.2.2 q (by omega) (by omega) (by omega)⟩,
    fun g H q h ht => ⟨(h.1.2.1 q).2.1 ht, fun h5 => h.1.2.2.2 q (by unfold isI at ht; omega) (by unfold isI at ht; omega) h5⟩, fun g H q h ht _ => ⟨(h.1.2.1 q).2.2 ht, fun h4 => h.1.2.2.2 q (by unfold isO at ht; omega) h4 (by unfold isO at ht; omega)⟩,
    fun g H q ci k v H1 h ht hl _ hk hs ho hn => ⟨Pic1_field h.1 ht hl hk hs ho rfl rfl rfl rfl (fun j a hj => fldV_setI hj) hn, h.2⟩,
    fun g H q ci k v H1 h ht hl _ hk hs ho hn => ⟨Pic1_field h.1 ht hl hk hs ho rfl rfl rfl rfl (fun j a hj => fldV_setR hj) hn, h.2⟩,
    fun g H q l H1 h ht hs ho hn => ⟨Pic1_arr h.1 hs ho rfl (fun x hx => up1_ne _ _ hx) (fun x hx => rfl) rfl rfl rfl ?_, h.2⟩,
    fun g H q l H1 h ht _ hs ho hn => ⟨Pic1_arr h.1 hs ho rfl (fun x hx => rfl) (fun x hx => up1_ne _ _ hx) rfl rfl rfl ?_, h.2⟩,
    fun g H ci n H1 h hl _ hs ho hn => ⟨Pic1_new h.1 h.2 hs ho ?_, Nat.le_succ_of_le h.2⟩, fun g H t n l H1 h ht hs ho hn => ⟨Pic1_new h.1 h.2 hs ho ?_, Nat.le_succ_of_le h.2⟩, fun g H t n l H1 h ht _ hs ho hn => ⟨Pic1_new h.1 h.2 hs ho ?_, Nat.le_succ_of_le h.2⟩⟩
  · have e : tg (setA g q l) q = tg g q := rfl
    refine ⟨fun ci hci hl => ?_, fun hi => ?_, fun hi => ?_⟩
    · rw [e] at hci; omega
    · rw [e]
      have : ia (setA g q l) q = l := up1_self _ _ _
      rw [this]; exact hn
    · rw [e] at hi; unfold isO at hi; omega
  · have e : tg (setO g q l) q = tg g q := rfl
    refine ⟨fun ci hci hl => ?_, fun hi => ?_, fun hi => ?_⟩
    · rw [e] at hci; omega
    · rw [e] at hi; unfold isI at hi; omega
    · rw [e]
      have : oa (setO g q l) q = l := up1_self _ _ _
      rw [this]; exact hn
  · have e : tg (newG g (ci + 1) n [] []) (nx g) = ci + 1 := up1_self _ _ _
    have z := h.1.1
    refine ⟨fun cj hj _ => ?_, fun hi => ?_, fun hi => ?_⟩
    · rw [e] at hj
      have : cj = ci := by omega
      subst this
      obtain ⟨r, h1, h2⟩ := hn
      rw [z] at h2
      exact ⟨r, h1, h2⟩
    · rw [e] at hi; unfold isI at hi; omega
    · rw [e] at hi; unfold isO at hi; omega
  · have e : tg (newG g t n l []) (nx g) = t := up1_self _ _ _
    have z := h.1.1
    refine ⟨fun cj hj _ => ?_, fun hi => ?_, fun hi => ?_⟩
    · rw [e] at hj; omega
    · rw [e]
      have : ia (newG g t n l []) (nx g) = l := up1_self _ _ _
      rw [this, ← z]; exact hn
    · rw [e] at hi; unfold isO at hi; omega
  · have e : tg (newG g t n [] l) (nx g) = t := up1_self _ _ _
    have z := h.1.1
    refine ⟨fun cj hj _ => ?_, fun hi => ?_, fun hi => ?_⟩
    · rw [e] at hj; omega
    · rw [e] at hi; unfold isI at hi; omega
    · rw [e]
      have : oa (newG g t n [] l) (nx g) = l := up1_self _ _ _
      rw [this, ← z]; exact hn

/-- a method's walk: program, launch, environment, room, start, method, arguments, frames below, its row, its code, what is known of the launch, the picture, the end, the addresses and slots at the start, those that may be reached -/
abbrev GG : Type := Program × Launch × Env × Room × State × MethodId × Array Value × List Frame × Method × Code × KK × (HP → Heap → Prop) × (State → Prop) × Nat × Nat × Nat × Nat
def gP (Γ : GG) : Program := Γ.1
def gL (Γ : GG) : Launch := Γ.2.1
def gE (Γ : GG) : Env := Γ.2.2.1
def gR (Γ : GG) : Room := Γ.2.2.2.1
def gS (Γ : GG) : State := Γ.2.2.2.2.1
def gM (Γ : GG) : MethodId := Γ.2.2.2.2.2.1
def gA (Γ : GG) : Array Value := Γ.2.2.2.2.2.2.1
def gB (Γ : GG) : List Frame := Γ.2.2.2.2.2.2.2.1
def gMe (Γ : GG) : Method := Γ.2.2.2.2.2.2.2.2.1
def gC (Γ : GG) : Code := Γ.2.2.2.2.2.2.2.2.2.1
def gK (Γ : GG) : KK := Γ.2.2.2.2.2.2.2.2.2.2.1
def gPi (Γ : GG) : HP → Heap → Prop := Γ.2.2.2.2.2.2.2.2.2.2.2.1
def gQ (Γ : GG) : State → Prop := Γ.2.2.2.2.2.2.2.2.2.2.2.2.1
def gn0 (Γ : GG) : Nat := Γ.2.2.2.2.2.2.2.2.2.2.2.2.2.1
def gs0 (Γ : GG) : Nat := Γ.2.2.2.2.2.2.2.2.2.2.2.2.2.2.1
def gtn (Γ : GG) : Nat := Γ.2.2.2.2.2.2.2.2.2.2.2.2.2.2.2.1
def gts (Γ : GG) : Nat := Γ.2.2.2.2.2.2.2.2.2.2.2.2.2.2.2.2
def WG (Γ : GG) (H : Heap) (locs : List Loc) (cells slots : Nat) (g : JFrame) : Prop := W (gP Γ) (gL Γ) (gE Γ) (gR Γ) (gS Γ) (gM Γ) (gA Γ) (gB Γ) (gMe Γ) (gC Γ) H locs cells slots (gQ Γ) g
/-- where the machine stands: the heap is g's, the frame is at pc with these locals and this stack; fact holds; then it comes to the end -/
def At1 (Γ : GG) (L : LL) (g : HP) (H : Heap) (locs : List Loc) (ls : Array Slot) : Prop :=
  gn0 Γ ≤ nx g ∧ gs0 Γ ≤ sl g ∧ gPi Γ g H ∧ (∀ q, q < kb (gK Γ) → H[q]? = (gS Γ).heap[q]?) ∧ (∀ z ∈ locs, kb (gK Γ) ≤ z.base) ∧ lv_has ls (gC Γ).maxLocals (lvv L)
def X (Γ : GG) (pc : Nat) (L : LL) (st : List VV) (g : HP) (fact : Prop) : Prop :=
  fact → nx g ≤ gtn Γ ∧ sl g ≤ gts Γ ∧ ∀ (H : Heap) (locs : List Loc) (ls : Array Slot), At1 Γ L g H locs ls → WG Γ H locs (nx g - gn0 Γ) (sl g - gs0 Γ) (F0 (gM Γ) pc ls (st.map vv))
def CX (Γ : GG) (cc : ByteArray) (nL : Nat) (own : String) (PP : KK → HP → Heap → Prop) (okb : Nat → Bool) (rf : Nat) (rl : Nat) : Prop :=
  (gP Γ).tables.exec = Jvm.exec ∧ (gC Γ).code = cc ∧ (gC Γ).maxLocals = nL ∧ (gS Γ).vm.findClass own = some (gM Γ).cls ∧ (∀ w ∈ gtbl, w.before (gA Γ) (gS Γ) = true) ∧ KX (gK Γ) (gS Γ) (gS Γ).heap ∧ PO (gK Γ) (gPi Γ) okb ∧ (gMe Γ).locks = false ∧
  gtn Γ - gn0 Γ ≤ (gR Γ).cells ∧ gts Γ - gs0 Γ ≤ (gR Γ).slots ∧ (gR Γ).frames = rf ∧ (gR Γ).locals = rl ∧ gPi Γ = PP (gK Γ)
section Acc
variable {Γ : GG} {cc : ByteArray} {nL : Nat} {own : String} {PP : KK → HP → Heap → Prop} {okb : Nat → Bool} {rf rl : Nat}
theorem CX.exec (C : CX Γ cc nL own PP okb rf rl) : (gP Γ).tables.exec = Jvm.exec := C.1
theorem CX.code (C : CX Γ cc nL own PP okb rf rl) : (gC Γ).code = cc := C.2.1
theorem CX.ml (C : CX Γ cc nL own PP okb rf rl) : (gC Γ).maxLocals = nL := C.2.2.1
theorem CX.ow (C : CX Γ cc nL own PP okb rf rl) : (gS Γ).vm.findClass own = some (gM Γ).cls := C.2.2.2.1
theorem CX.hts (C : CX Γ cc nL own PP okb rf rl) : ∀ w ∈ gtbl, w.before (gA Γ) (gS Γ) = true := C.2.2.2.2.1
theorem CX.kx (C : CX Γ cc nL own PP okb rf rl) : KX (gK Γ) (gS Γ) (gS Γ).heap := C.2.2.2.2.2.1
theorem CX.po (C : CX Γ cc nL own PP okb rf rl) : PO (gK Γ) (gPi Γ) okb := C.2.2.2.2.2.2.1
theorem CX.locks (C : CX Γ cc nL own PP okb rf rl) : (gMe Γ).locks = false := C.2.2.2.2.2.2.2.1
theorem CX.rc (C : CX Γ cc nL own PP okb rf rl) : gtn Γ - gn0 Γ ≤ (gR Γ).cells := C.2.2.2.2.2.2.2.2.1
theorem CX.rs (C : CX Γ cc nL own PP okb rf rl) : gts Γ - gs0 Γ ≤ (gR Γ).slots := C.2.2.2.2.2.2.2.2.2.1
theorem CX.hrf (C : CX Γ cc nL own PP okb rf rl) : (gR Γ).frames = rf := C.2.2.2.2.2.2.2.2.2.2.1
theorem CX.hrl (C : CX Γ cc nL own PP okb rf rl) : (gR Γ).locals = rl := C.2.2.2.2.2.2.2.2.2.2.2.1
theorem CX.pp (C : CX Γ cc nL own PP okb rf rl) : gPi Γ = PP (gK Γ) := C.2.2.2.2.2.2.2.2.2.2.2.2
theorem CX.fix (C : CX Γ cc nL own PP okb rf rl) : CallFix (gP Γ) (gM Γ) (gC Γ) cc nL (gS Γ) (gA Γ) gtbl own := ⟨C.exec, C.code, C.ml, C.ow, C.hts⟩
theorem At1.n0 {L : LL} {g : HP} {H : Heap} {locs : List Loc} {ls : Array Slot} (A : At1 Γ L g H locs ls) : gn0 Γ ≤ nx g := A.1
theorem At1.s0 {L : LL} {g : HP} {H : Heap} {locs : List Loc} {ls : Array Slot} (A : At1 Γ L g H locs ls) : gs0 Γ ≤ sl g := A.2.1
theorem At1.pic {L : LL} {g : HP} {H : Heap} {locs : List Loc} {ls : Array Slot} (A : At1 Γ L g H locs ls) : gPi Γ g H := A.2.2.1
theorem At1.fr {L : LL} {g : HP} {H : Heap} {locs : List Loc} {ls : Array Slot} (A : At1 Γ L g H locs ls) : ∀ q, q < kb (gK Γ) → H[q]? = (gS Γ).heap[q]? := A.2.2.2.1
theorem At1.lo {L : LL} {g : HP} {H : Heap} {locs : List Loc} {ls : Array Slot} (A : At1 Γ L g H locs ls) : ∀ z ∈ locs, kb (gK Γ) ≤ z.base := A.2.2.2.2.1
theorem At1.lv {L : LL} {g : HP} {H : Heap} {locs : List Loc} {ls : Array Slot} (A : At1 Γ L g H locs ls) : lv_has ls (gC Γ).maxLocals (lvv L) := A.2.2.2.2.2
theorem At1.ls {L L' : LL} {g : HP} {H : Heap} {locs : List Loc} {ls ls' : Array Slot} (A : At1 Γ L g H locs ls) (h : lv_has ls' (gC Γ).maxLocals (lvv L')) : At1 Γ L' g H locs ls' := ⟨A.1, A.2.1, A.2.2.1, A.2.2.2.1, A.2.2.2.2.1, h⟩
end Acc
end
section
theorem X.conv {Γ : GG} {pc : Nat} {L : LL} {st : List VV} {g : HP} {φ φ' : Prop} (h : φ → φ') (k : X Γ pc L st g φ') : X Γ pc L st g φ := fun hφ => k (h hφ)
theorem bd {α β : Type} {o : Option α} {F : α → Option β} {r : β} (h : o.bind F = some r) : ∃ x, o = some x ∧ F x = some r := Option.bind_eq_some_iff.mp h
theorem it {α : Type} {c : Prop} [Decidable c] {A B r : α} (h : (if c then A else B) = r) (hc : c) : A = r := (if_pos hc).symm.trans h
theorem jf {α : Type} {c : Prop} [Decidable c] {A B r : α} (h : (if c then A else B) = r) (hc : ¬ c) : B = r := (if_neg hc).symm.trans h
theorem bb {α β γ : Type} {o : Option α} {F1 : α → Option β} {F : β → Option γ} {r : Option γ} (h : (o.bind F1).bind F = r) : (o.bind fun x => (F1 x).bind F) = r := by
  cases o with
  | none => exact h
  | some x => exact h
theorem bi {α β : Type} {c : Prop} [Decidable c] {A B : Option α} {F : α → Option β} {r : Option β} (h : (if c then A else B).bind F = r) : (if c then A.bind F else B.bind F) = r := by
  by_cases hc : c
  · rw [if_pos hc] at h ⊢; exact h
  · rw [if_neg hc] at h ⊢; exact h
section Rules
variable {Γ : GG} {cc : ByteArray} {nL : Nat} {own : String} {PP : KK → HP → Heap → Prop} {okb : Nat → Bool} {rf rl : Nat} {pc : Nat} {L L' : LL} {st : List VV} {g : HP} {φ φ1 φ2 : Prop}
theorem z_iconst (C : CX Γ cc nL own PP okb rf rl) {n : Int} {v : Int32} (hdg : decode cc pc = .ok (.iconst n, 1)) (hv : Int32.ofInt n = v) (k : X Γ (pc + 1) L (vI v :: st) g φ) : X Γ pc L st g φ := fun hφ => ⟨(k hφ).1, (k hφ).2.1, fun H locs ls A => lv_iconst C.exec C.code hdg hv ((k hφ).2.2 H locs ls A)⟩
theorem z_bipush (C : CX Γ cc nL own PP okb rf rl) {n : Int} {v : Int32} (hdg : decode cc pc = .ok (.bipush n, 2)) (hv : (Int8.ofInt n).toInt32 = v) (k : X Γ (pc + 2) L (vI v :: st) g φ) : X Γ pc L st g φ := fun hφ => ⟨(k hφ).1, (k hφ).2.1, fun H locs ls A => lv_bipush C.exec C.code hdg hv ((k hφ).2.2 H locs ls A)⟩
theorem z_sipush (C : CX Γ cc nL own PP okb rf rl) {n : Int} {v : Int32} (hdg : decode cc pc = .ok (.sipush n, 3)) (hv : (Int16.ofInt n).toInt32 = v) (k : X Γ (pc + 3) L (vI v :: st) g φ) : X Γ pc L st g φ := fun hφ => ⟨(k hφ).1, (k hφ).2.1, fun H locs ls A => lv_sipush C.exec C.code hdg hv ((k hφ).2.2 H locs ls A)⟩
theorem z_ldc (C : CX Γ cc nL own PP okb rf rl) {index : Nat} {v : Int32} (hdg : decode cc pc = .ok (.ldc index, 2)) (hw : Cond.constant own index v ∈ gtbl) (k : X Γ (pc + 2) L (vI v :: st) g φ) : X Γ pc L st g φ := fun hφ => ⟨(k hφ).1, (k hφ).2.1, fun H locs ls A => lv_ldc C.exec C.code C.ow (C.hts _ hw) hdg ((k hφ).2.2 H locs ls A)⟩
theorem z_ldcw (C : CX Γ cc nL own PP okb rf rl) {index : Nat} {v : Int32} (hdg : decode cc pc = .ok (.ldc_w index, 3)) (hw : Cond.constant own index v ∈ gtbl) (k : X Γ (pc + 3) L (vI v :: st) g φ) : X Γ pc L st g φ := fun hφ => ⟨(k hφ).1, (k hφ).2.1, fun H locs ls A => lv_ldcw C.exec C.code C.ow (C.hts _ hw) hdg ((k hφ).2.2 H locs ls A)⟩
theorem z_ldc2 (C : CX Γ cc nL own PP okb rf rl) {index : Nat} {v : Int64} (hdg : decode cc pc = .ok (.ldc2_w index, 3)) (hw : Cond.constantLong own index v ∈ gtbl) (k : X Γ (pc + 3) L (vJ v :: st) g φ) : X Γ pc L st g φ := fun hφ => ⟨(k hφ).1, (k hφ).2.1, fun H locs ls A => lv_ldc2 C.exec C.code C.ow (C.hts _ hw) hdg ((k hφ).2.2 H locs ls A)⟩
theorem z_dconst0 (C : CX Γ cc nL own PP okb rf rl) (hdg : decode cc pc = .ok (.dconst 0, 1)) (k : X Γ (pc + 1) L (vD FP.dconst0 :: st) g φ) : X Γ pc L st g φ := fun hφ => ⟨(k hφ).1, (k hφ).2.1, fun H locs ls A => lv_dconst0 C.exec C.code hdg ((k hφ).2.2 H locs ls A)⟩
theorem z_null (C : CX Γ cc nL own PP okb rf rl) (hdg : decode cc pc = .ok (.aconst_null, 1)) (k : X Γ (pc + 1) L (vR none :: st) g φ) : X Γ pc L st g φ := fun hφ => ⟨(k hφ).1, (k hφ).2.1, fun H locs ls A => lv_null C.exec C.code hdg ((k hφ).2.2 H locs ls A)⟩
theorem z_iload (C : CX Γ cc nL own PP okb rf rl) {i : Nat} {x : Int32} (hdg : decode cc pc = .ok (.iload i, 2)) (q : Nat) (hq : L[q]? = some (i, vI x)) (k : X Γ (pc + 2) L (vI x :: st) g φ) : X Γ pc L st g φ := fun hφ => ⟨(k hφ).1, (k hφ).2.1, fun H locs ls A => lv_iload C.exec C.code hdg (lv_at A.lv q (lvv_at hq)) ((k hφ).2.2 H locs ls A)⟩
theorem z_iload_n (C : CX Γ cc nL own PP okb rf rl) {j : Fin 4} {i : Nat} {x : Int32} (hdg : decode cc pc = .ok (.iload_n j, 1)) (hi : (j : Nat) = i) (q : Nat) (hq : L[q]? = some (i, vI x)) (k : X Γ (pc + 1) L (vI x :: st) g φ) : X Γ pc L st g φ := fun hφ => ⟨(k hφ).1, (k hφ).2.1, fun H locs ls A => lv_iload_n C.exec C.code hdg hi (lv_at A.lv q (lvv_at hq)) ((k hφ).2.2 H locs ls A)⟩
theorem z_lload (C : CX Γ cc nL own PP okb rf rl) {i : Nat} {x : Int64} (hdg : decode cc pc = .ok (.lload i, 2)) (q : Nat) (hq : L[q]? = some (i, vJ x)) (k : X Γ (pc + 2) L (vJ x :: st) g φ) : X Γ pc L st g φ := fun hφ => ⟨(k hφ).1, (k hφ).2.1, fun H locs ls A => lv_lload C.exec C.code hdg (lv_at A.lv q (lvv_at hq)) ((k hφ).2.2 H locs ls A)⟩
theorem z_lload_n (C : CX Γ cc nL own PP okb rf rl) {j : Fin 4} {i : Nat} {x : Int64} (hdg : decode cc pc = .ok (.lload_n j, 1)) (hi : (j : Nat) = i) (q : Nat) (hq : L[q]? = some (i, vJ x)) (k : X Γ (pc + 1) L (vJ x :: st) g φ) : X Γ pc L st g φ := fun hφ => ⟨(k hφ).1, (k hφ).2.1, fun H locs ls A => lv_lload_n C.exec C.code hdg hi (lv_at A.lv q (lvv_at hq)) ((k hφ).2.2 H locs ls A)⟩
theorem z_dload (C : CX Γ cc nL own PP okb rf rl) {i : Nat} {x : UInt64} (hdg : decode cc pc = .ok (.dload i, 2)) (q : Nat) (hq : L[q]? = some (i, vD x)) (k : X Γ (pc + 2) L (vD x :: st) g φ) : X Γ pc L st g φ := fun hφ => ⟨(k hφ).1, (k hφ).2.1, fun H locs ls A => lv_dload C.exec C.code hdg (lv_at A.lv q (lvv_at hq)) ((k hφ).2.2 H locs ls A)⟩
theorem z_dload_n (C : CX Γ cc nL own PP okb rf rl) {j : Fin 4} {i : Nat} {x : UInt64} (hdg : decode cc pc = .ok (.dload_n j, 1)) (hi : (j : Nat) = i) (q : Nat) (hq : L[q]? = some (i, vD x)) (k : X Γ (pc + 1) L (vD x :: st) g φ) : X Γ pc L st g φ := fun hφ => ⟨(k hφ).1, (k hφ).2.1, fun H locs ls A => lv_dload_n C.exec C.code hdg hi (lv_at A.lv q (lvv_at hq)) ((k hφ).2.2 H locs ls A)⟩
theorem z_aload (C : CX Γ cc nL own PP okb rf rl) {i : Nat} {r : Option Nat} (hdg : decode cc pc = .ok (.aload i, 2)) (q : Nat) (hq : L[q]? = some (i, vR r)) (k : X Γ (pc + 2) L (vR r :: st) g φ) : X Γ pc L st g φ := fun hφ => ⟨(k hφ).1, (k hφ).2.1, fun H locs ls A => by
  have hv := lv_at A.lv q (lvv_at hq)
  have kk := (k hφ).2.2 H locs ls A
  cases r with
  | none => exact lv_aloadN C.exec C.code hdg hv kk
  | some a => exact lv_aload C.exec C.code hdg hv kk⟩
theorem z_aload_n (C : CX Γ cc nL own PP okb rf rl) {j : Fin 4} {i : Nat} {r : Option Nat} (hdg : decode cc pc = .ok (.aload_n j, 1)) (hi : (j : Nat) = i) (q : Nat) (hq : L[q]? = some (i, vR r)) (k : X Γ (pc + 1) L (vR r :: st) g φ) : X Γ pc L st g φ := fun hφ => ⟨(k hφ).1, (k hφ).2.1, fun H locs ls A => by
  have hv := lv_at A.lv q (lvv_at hq)
  have kk := (k hφ).2.2 H locs ls A
  cases r with
  | none => exact lv_aload_nN C.exec C.code hdg hi hv kk
  | some a => exact lv_aload_n C.exec C.code hdg hi hv kk⟩
theorem z_istore (C : CX Γ cc nL own PP okb rf rl) {i : Nat} {x : Int32} (hdg : decode cc pc = .ok (.istore i, 2)) (hn : i < nL) (hl : lst1 L i (vI x) = L') (k : X Γ (pc + 2) L' st g φ) : X Γ pc L (vI x :: st) g φ := fun hφ => ⟨(k hφ).1, (k hφ).2.1, fun H locs ls A => lv_istore C.exec C.code hdg A.lv (by rw [C.ml]; exact hn) (lvv_st1 L i (vI x)) fun ls' h' => (k hφ).2.2 H locs ls' (A.ls (hl ▸ h'))⟩
theorem z_istore_n (C : CX Γ cc nL own PP okb rf rl) {j : Fin 4} {i : Nat} {x : Int32} (hdg : decode cc pc = .ok (.istore_n j, 1)) (hi : (j : Nat) = i) (hn : i < nL) (hl : lst1 L i (vI x) = L') (k : X Γ (pc + 1) L' st g φ) : X Γ pc L (vI x :: st) g φ := fun hφ => ⟨(k hφ).1, (k hφ).2.1, fun H locs ls A => lv_istore_n C.exec C.code hdg hi A.lv (by rw [C.ml]; exact hn) (lvv_st1 L i (vI x)) fun ls' h' => (k hφ).2.2 H locs ls' (A.ls (hl ▸ h'))⟩
theorem z_lstore (C : CX Γ cc nL own PP okb rf rl) {i : Nat} {x : Int64} (hdg : decode cc pc = .ok (.lstore i, 2)) (hn : i + 1 < nL) (hl : lst2 L i (vJ x) = L') (k : X Γ (pc + 2) L' st g φ) : X Γ pc L (vJ x :: st) g φ := fun hφ => ⟨(k hφ).1, (k hφ).2.1, fun H locs ls A => lv_lstore C.exec C.code hdg A.lv (by rw [C.ml]; exact hn) (lvv_st2 L i (vJ x)) fun ls' h' => (k hφ).2.2 H locs ls' (A.ls (hl ▸ h'))⟩
theorem z_lstore_n (C : CX Γ cc nL own PP okb rf rl) {j : Fin 4} {i : Nat} {x : Int64} (hdg : decode cc pc = .ok (.lstore_n j, 1)) (hi : (j : Nat) = i) (hn : i + 1 < nL) (hl : lst2 L i (vJ x) = L') (k : X Γ (pc + 1) L' st g φ) : X Γ pc L (vJ x :: st) g φ := fun hφ => ⟨(k hφ).1, (k hφ).2.1, fun H locs ls A => lv_lstore_n C.exec C.code hdg hi A.lv (by rw [C.ml]; exact hn) (lvv_st2 L i (vJ x)) fun ls' h' => (k hφ).2.2 H locs ls' (A.ls (hl ▸ h'))⟩
theorem z_astore (C : CX Γ cc nL own PP okb rf rl) {i : Nat} {r : Option Nat} (hdg : decode cc pc = .ok (.astore i, 2)) (hn : i < nL) (hl : lst1 L i (vR r) = L') (k : X Γ (pc + 2) L' st g φ) : X Γ pc L (vR r :: st) g φ := fun hφ => ⟨(k hφ).1, (k hφ).2.1, fun H locs ls A => by
  have kk := fun ls' h' => (k hφ).2.2 H locs ls' (A.ls (L' := L') (hl ▸ h'))
  have hs := lvv_st1 L i (vR r)
  cases r with
  | none => exact lv_astoreN C.exec C.code hdg A.lv (by rw [C.ml]; exact hn) hs kk
  | some a => exact lv_astore C.exec C.code hdg A.lv (by rw [C.ml]; exact hn) hs kk⟩
theorem z_astore_n (C : CX Γ cc nL own PP okb rf rl) {j : Fin 4} {i : Nat} {r : Option Nat} (hdg : decode cc pc = .ok (.astore_n j, 1)) (hi : (j : Nat) = i) (hn : i < nL) (hl : lst1 L i (vR r) = L') (k : X Γ (pc + 1) L' st g φ) : X Γ pc L (vR r :: st) g φ := fun hφ => ⟨(k hφ).1, (k hφ).2.1, fun H locs ls A => by
  have kk := fun ls' h' => (k hφ).2.2 H locs ls' (A.ls (L' := L') (hl ▸ h'))
  have hs := lvv_st1 L i (vR r)
  cases r with
  | none => exact lv_astore_nN C.exec C.code hdg hi A.lv (by rw [C.ml]; exact hn) hs kk
  | some a => exact lv_astore_n C.exec C.code hdg hi A.lv (by rw [C.ml]; exact hn) hs kk⟩
theorem z_iinc (C : CX Γ cc nL own PP okb rf rl) {i : Nat} {n : Int} {x v : Int32} (hdg : decode cc pc = .ok (.iinc i n, 3)) (q : Nat) (hq : L[q]? = some (i, vI x)) (hv : x + Int32.ofInt n = v) (hn : i < nL) (hl : lst1 L i (vI v) = L') (k : X Γ (pc + 3) L' st g φ) : X Γ pc L st g φ := fun hφ => ⟨(k hφ).1, (k hφ).2.1, fun H locs ls A => lv_iinc C.exec C.code hdg A.lv (lvv_at hq) hv (by rw [C.ml]; exact hn) (lvv_st1 L i (vI v)) fun ls' h' => (k hφ).2.2 H locs ls' (A.ls (hl ▸ h'))⟩
theorem z_iadd (C : CX Γ cc nL own PP okb rf rl) {x y : Int32} (hdg : decode cc pc = .ok (.iadd, 1)) (k : X Γ (pc + 1) L (vI (x + y) :: st) g φ) : X Γ pc L (vI y :: vI x :: st) g φ := fun hφ => ⟨(k hφ).1, (k hφ).2.1, fun H locs ls A => lv_iadd C.exec C.code hdg ((k hφ).2.2 H locs ls A)⟩
theorem z_isub (C : CX Γ cc nL own PP okb rf rl) {x y : Int32} (hdg : decode cc pc = .ok (.isub, 1)) (k : X Γ (pc + 1) L (vI (x - y) :: st) g φ) : X Γ pc L (vI y :: vI x :: st) g φ := fun hφ => ⟨(k hφ).1, (k hφ).2.1, fun H locs ls A => lv_isub C.exec C.code hdg ((k hφ).2.2 H locs ls A)⟩
theorem z_imul (C : CX Γ cc nL own PP okb rf rl) {x y : Int32} (hdg : decode cc pc = .ok (.imul, 1)) (k : X Γ (pc + 1) L (vI (x * y) :: st) g φ) : X Γ pc L (vI y :: vI x :: st) g φ := fun hφ => ⟨(k hφ).1, (k hφ).2.1, fun H locs ls A => lv_imul C.exec C.code hdg ((k hφ).2.2 H locs ls A)⟩
theorem z_iand (C : CX Γ cc nL own PP okb rf rl) {x y : Int32} (hdg : decode cc pc = .ok (.iand, 1)) (k : X Γ (pc + 1) L (vI (x &&& y) :: st) g φ) : X Γ pc L (vI y :: vI x :: st) g φ := fun hφ => ⟨(k hφ).1, (k hφ).2.1, fun H locs ls A => lv_iand C.exec C.code hdg ((k hφ).2.2 H locs ls A)⟩
theorem z_ishr (C : CX Γ cc nL own PP okb rf rl) {x y : Int32} (hdg : decode cc pc = .ok (.ishr, 1)) (k : X Γ (pc + 1) L (vI (x >>> (y &&& 31)) :: st) g φ) : X Γ pc L (vI y :: vI x :: st) g φ := fun hφ => ⟨(k hφ).1, (k hφ).2.1, fun H locs ls A => lv_ishr C.exec C.code hdg ((k hφ).2.2 H locs ls A)⟩
theorem z_idiv (C : CX Γ cc nL own PP okb rf rl) {x y : Int32} (hdg : decode cc pc = .ok (.idiv, 1)) (hne : ¬ y = 0) (k : X Γ (pc + 1) L (vI (x / y) :: st) g φ) : X Γ pc L (vI y :: vI x :: st) g φ := fun hφ => ⟨(k hφ).1, (k hφ).2.1, fun H locs ls A => lv_idiv C.exec C.code hdg hne ((k hφ).2.2 H locs ls A)⟩
theorem z_irem (C : CX Γ cc nL own PP okb rf rl) {x y : Int32} (hdg : decode cc pc = .ok (.irem, 1)) (hne : ¬ y = 0) (k : X Γ (pc + 1) L (vI (x - x / y * y) :: st) g φ) : X Γ pc L (vI y :: vI x :: st) g φ := fun hφ => ⟨(k hφ).1, (k hφ).2.1, fun H locs ls A => lv_irem C.exec C.code hdg hne ((k hφ).2.2 H locs ls A)⟩
theorem z_ineg (C : CX Γ cc nL own PP okb rf rl) {x : Int32} (hdg : decode cc pc = .ok (.ineg, 1)) (k : X Γ (pc + 1) L (vI (-x) :: st) g φ) : X Γ pc L (vI x :: st) g φ := fun hφ => ⟨(k hφ).1, (k hφ).2.1, fun H locs ls A => lv_ineg C.exec C.code hdg ((k hφ).2.2 H locs ls A)⟩
theorem z_ladd (C : CX Γ cc nL own PP okb rf rl) {x y : Int64} (hdg : decode cc pc = .ok (.ladd, 1)) (k : X Γ (pc + 1) L (vJ (x + y) :: st) g φ) : X Γ pc L (vJ y :: vJ x :: st) g φ := fun hφ => ⟨(k hφ).1, (k hφ).2.1, fun H locs ls A => lv_ladd C.exec C.code hdg ((k hφ).2.2 H locs ls A)⟩
theorem z_lmul (C : CX Γ cc nL own PP okb rf rl) {x y : Int64} (hdg : decode cc pc = .ok (.lmul, 1)) (k : X Γ (pc + 1) L (vJ (x * y) :: st) g φ) : X Γ pc L (vJ y :: vJ x :: st) g φ := fun hφ => ⟨(k hφ).1, (k hφ).2.1, fun H locs ls A => lv_lmul C.exec C.code hdg ((k hφ).2.2 H locs ls A)⟩
theorem z_i2l (C : CX Γ cc nL own PP okb rf rl) {x : Int32} (hdg : decode cc pc = .ok (.i2l, 1)) (k : X Γ (pc + 1) L (vJ x.toInt64 :: st) g φ) : X Γ pc L (vI x :: st) g φ := fun hφ => ⟨(k hφ).1, (k hφ).2.1, fun H locs ls A => lv_i2l C.exec C.code hdg rfl ((k hφ).2.2 H locs ls A)⟩
theorem z_i2d (C : CX Γ cc nL own PP okb rf rl) {x : Int32} (hdg : decode cc pc = .ok (.i2d, 1)) (k : X Γ (pc + 1) L (vD (FP.i2d x) :: st) g φ) : X Γ pc L (vI x :: st) g φ := fun hφ => ⟨(k hφ).1, (k hφ).2.1, fun H locs ls A => lv_i2d C.exec C.code hdg ((k hφ).2.2 H locs ls A)⟩
theorem z_ddiv (C : CX Γ cc nL own PP okb rf rl) {x y : UInt64} (hdg : decode cc pc = .ok (.ddiv, 1)) (hne : vf_n64 (FP.ddiv x y)) (k : X Γ (pc + 1) L (vD (FP.ddiv x y) :: st) g φ) : X Γ pc L (vD y :: vD x :: st) g φ := fun hφ => ⟨(k hφ).1, (k hφ).2.1, fun H locs ls A => lv_ddiv C.exec C.code hdg hne ((k hφ).2.2 H locs ls A)⟩
theorem z_dcmp (C : CX Γ cc nL own PP okb rf rl) {x y : UInt64} {op : CmpOp} (hdg : decode cc pc = .ok (.dcmp op, 1)) (k : X Γ (pc + 1) L (vI (Op.cmpValue (FP.dcmp x y) op) :: st) g φ) : X Γ pc L (vD y :: vD x :: st) g φ := fun hφ => ⟨(k hφ).1, (k hφ).2.1, fun H locs ls A => lv_dcmp C.exec C.code hdg ((k hφ).2.2 H locs ls A)⟩
theorem z_lcmp (C : CX Γ cc nL own PP okb rf rl) {x y : Int64} (hdg : decode cc pc = .ok (.lcmp, 1)) (k : X Γ (pc + 1) L (vI (lg_cmp x y) :: st) g φ) : X Γ pc L (vJ y :: vJ x :: st) g φ := fun hφ => ⟨(k hφ).1, (k hφ).2.1, fun H locs ls A => W.lcmp C.exec C.code hdg ((k hφ).2.2 H locs ls A)⟩
theorem z_dup (C : CX Γ cc nL own PP okb rf rl) {v : VV} (hdg : decode cc pc = .ok (.dup, 1)) (hv : vc v = 1) (k : X Γ (pc + 1) L (v :: v :: st) g φ) : X Γ pc L (v :: st) g φ := fun hφ => ⟨(k hφ).1, (k hφ).2.1, fun H locs ls A => lv_dup C.exec C.code hdg ((vv_cat v).trans hv) ((k hφ).2.2 H locs ls A)⟩
theorem z_pop (C : CX Γ cc nL own PP okb rf rl) {v : VV} (hdg : decode cc pc = .ok (.pop, 1)) (hv : vc v = 1) (k : X Γ (pc + 1) L st g φ) : X Γ pc L (v :: st) g φ := fun hφ => ⟨(k hφ).1, (k hφ).2.1, fun H locs ls A => lv_pop C.exec C.code hdg ((vv_cat v).trans hv) ((k hφ).2.2 H locs ls A)⟩
theorem z_dup_x1 (C : CX Γ cc nL own PP okb rf rl) {v u : VV} (hdg : decode cc pc = .ok (.dup_x1, 1)) (hv : vc v = 1) (hu : vc u = 1) (k : X Γ (pc + 1) L (v :: u :: v :: st) g φ) : X Γ pc L (v :: u :: st) g φ := fun hφ => ⟨(k hφ).1, (k hφ).2.1, fun H locs ls A => lv_dup_x1 C.exec C.code hdg ((vv_cat v).trans hv) ((vv_cat u).trans hu) ((k hφ).2.2 H locs ls A)⟩
theorem z_dup2 (C : CX Γ cc nL own PP okb rf rl) {v u : VV} (hdg : decode cc pc = .ok (.dup2, 1)) (hv : vc v = 1) (hu : vc u = 1) (k : X Γ (pc + 1) L (v :: u :: v :: u :: st) g φ) : X Γ pc L (v :: u :: st) g φ := fun hφ => ⟨(k hφ).1, (k hφ).2.1, fun H locs ls A => lv_dup2_11 C.exec C.code hdg ((vv_cat v).trans hv) ((vv_cat u).trans hu) ((k hφ).2.2 H locs ls A)⟩
theorem z_goto (C : CX Γ cc nL own PP okb rf rl) {off : Int} {tgt : Nat} (hdg : decode cc pc = .ok (.goto off, 3)) (ht : (pc : Int) + off = (tgt : Int)) (k : X Γ tgt L st g φ) : X Γ pc L st g φ := fun hφ => ⟨(k hφ).1, (k hφ).2.1, fun H locs ls A => lv_goto C.exec C.code hdg ht ((k hφ).2.2 H locs ls A)⟩
theorem z_if_eq (C : CX Γ cc nL own PP okb rf rl) {x : Int32} {off : Int} {tgt : Nat} (hdg : decode cc pc = .ok (.ifCond .eq off, 3)) (ht : (pc : Int) + off = (tgt : Int)) (h1 : φ → x = 0 → φ1) (h2 : φ → ¬ (x = 0) → φ2) (k1 : X Γ tgt L st g φ1) (k2 : X Γ (pc + 3) L st g φ2) : X Γ pc L (vI x :: st) g φ := fun hφ => by
  by_cases hc : x = 0
  · exact ⟨(k1 (h1 hφ hc)).1, (k1 (h1 hφ hc)).2.1, fun H locs ls A => lv_if_eq C.exec C.code hdg ht (fun _ => (k1 (h1 hφ hc)).2.2 H locs ls A) (fun hn => absurd hc hn)⟩
  · exact ⟨(k2 (h2 hφ hc)).1, (k2 (h2 hφ hc)).2.1, fun H locs ls A => lv_if_eq C.exec C.code hdg ht (fun hn => absurd hn hc) (fun _ => (k2 (h2 hφ hc)).2.2 H locs ls A)⟩
theorem z_icmp_eq (C : CX Γ cc nL own PP okb rf rl) {x y : Int32} {off : Int} {tgt : Nat} (hdg : decode cc pc = .ok (.if_icmp .eq off, 3)) (ht : (pc : Int) + off = (tgt : Int)) (h1 : φ → x = y → φ1) (h2 : φ → ¬ (x = y) → φ2) (k1 : X Γ tgt L st g φ1) (k2 : X Γ (pc + 3) L st g φ2) : X Γ pc L (vI y :: vI x :: st) g φ := fun hφ => by
  by_cases hc : x = y
  · exact ⟨(k1 (h1 hφ hc)).1, (k1 (h1 hφ hc)).2.1, fun H locs ls A => lv_icmp_eq C.exec C.code hdg ht (fun _ => (k1 (h1 hφ hc)).2.2 H locs ls A) (fun hn => absurd hc hn)⟩
  · exact ⟨(k2 (h2 hφ hc)).1, (k2 (h2 hφ hc)).2.1, fun H locs ls A => lv_icmp_eq C.exec C.code hdg ht (fun hn => absurd hn hc) (fun _ => (k2 (h2 hφ hc)).2.2 H locs ls A)⟩
theorem z_if_lt (C : CX Γ cc nL own PP okb rf rl) {x : Int32} {off : Int} {tgt : Nat} (hdg : decode cc pc = .ok (.ifCond .lt off, 3)) (ht : (pc : Int) + off = (tgt : Int)) (h1 : φ → x < 0 → φ1) (h2 : φ → ¬ (x < 0) → φ2) (k1 : X Γ tgt L st g φ1) (k2 : X Γ (pc + 3) L st g φ2) : X Γ pc L (vI x :: st) g φ := fun hφ => by
  by_cases hc : x < 0
  · exact ⟨(k1 (h1 hφ hc)).1, (k1 (h1 hφ hc)).2.1, fun H locs ls A => lv_if_lt C.exec C.code hdg ht (fun _ => (k1 (h1 hφ hc)).2.2 H locs ls A) (fun hn => absurd hc hn)⟩
  · exact ⟨(k2 (h2 hφ hc)).1, (k2 (h2 hφ hc)).2.1, fun H locs ls A => lv_if_lt C.exec C.code hdg ht (fun hn => absurd hn hc) (fun _ => (k2 (h2 hφ hc)).2.2 H locs ls A)⟩
theorem z_icmp_lt (C : CX Γ cc nL own PP okb rf rl) {x y : Int32} {off : Int} {tgt : Nat} (hdg : decode cc pc = .ok (.if_icmp .lt off, 3)) (ht : (pc : Int) + off = (tgt : Int)) (h1 : φ → x < y → φ1) (h2 : φ → ¬ (x < y) → φ2) (k1 : X Γ tgt L st g φ1) (k2 : X Γ (pc + 3) L st g φ2) : X Γ pc L (vI y :: vI x :: st) g φ := fun hφ => by
  by_cases hc : x < y
  · exact ⟨(k1 (h1 hφ hc)).1, (k1 (h1 hφ hc)).2.1, fun H locs ls A => lv_icmp_lt C.exec C.code hdg ht (fun _ => (k1 (h1 hφ hc)).2.2 H locs ls A) (fun hn => absurd hc hn)⟩
  · exact ⟨(k2 (h2 hφ hc)).1, (k2 (h2 hφ hc)).2.1, fun H locs ls A => lv_icmp_lt C.exec C.code hdg ht (fun hn => absurd hn hc) (fun _ => (k2 (h2 hφ hc)).2.2 H locs ls A)⟩
theorem z_if_ge (C : CX Γ cc nL own PP okb rf rl) {x : Int32} {off : Int} {tgt : Nat} (hdg : decode cc pc = .ok (.ifCond .ge off, 3)) (ht : (pc : Int) + off = (tgt : Int)) (h1 : φ → 0 ≤ x → φ1) (h2 : φ → ¬ (0 ≤ x) → φ2) (k1 : X Γ tgt L st g φ1) (k2 : X Γ (pc + 3) L st g φ2) : X Γ pc L (vI x :: st) g φ := fun hφ => by
  by_cases hc : 0 ≤ x
  · exact ⟨(k1 (h1 hφ hc)).1, (k1 (h1 hφ hc)).2.1, fun H locs ls A => lv_if_ge C.exec C.code hdg ht (fun _ => (k1 (h1 hφ hc)).2.2 H locs ls A) (fun hn => absurd hc hn)⟩
  · exact ⟨(k2 (h2 hφ hc)).1, (k2 (h2 hφ hc)).2.1, fun H locs ls A => lv_if_ge C.exec C.code hdg ht (fun hn => absurd hn hc) (fun _ => (k2 (h2 hφ hc)).2.2 H locs ls A)⟩
theorem z_icmp_ge (C : CX Γ cc nL own PP okb rf rl) {x y : Int32} {off : Int} {tgt : Nat} (hdg : decode cc pc = .ok (.if_icmp .ge off, 3)) (ht : (pc : Int) + off = (tgt : Int)) (h1 : φ → y ≤ x → φ1) (h2 : φ → ¬ (y ≤ x) → φ2) (k1 : X Γ tgt L st g φ1) (k2 : X Γ (pc + 3) L st g φ2) : X Γ pc L (vI y :: vI x :: st) g φ := fun hφ => by
  by_cases hc : y ≤ x
  · exact ⟨(k1 (h1 hφ hc)).1, (k1 (h1 hφ hc)).2.1, fun H locs ls A => lv_icmp_ge C.exec C.code hdg ht (fun _ => (k1 (h1 hφ hc)).2.2 H locs ls A) (fun hn => absurd hc hn)⟩
  · exact ⟨(k2 (h2 hφ hc)).1, (k2 (h2 hφ hc)).2.1, fun H locs ls A => lv_icmp_ge C.exec C.code hdg ht (fun hn => absurd hn hc) (fun _ => (k2 (h2 hφ hc)).2.2 H locs ls A)⟩
theorem z_if_gt (C : CX Γ cc nL own PP okb rf rl) {x : Int32} {off : Int} {tgt : Nat} (hdg : decode cc pc = .ok (.ifCond .gt off, 3)) (ht : (pc : Int) + off = (tgt : Int)) (h1 : φ → 0 < x → φ1) (h2 : φ → ¬ (0 < x) → φ2) (k1 : X Γ tgt L st g φ1) (k2 : X Γ (pc + 3) L st g φ2) : X Γ pc L (vI x :: st) g φ := fun hφ => by
  by_cases hc : 0 < x
  · exact ⟨(k1 (h1 hφ hc)).1, (k1 (h1 hφ hc)).2.1, fun H locs ls A => lv_if_gt C.exec C.code hdg ht (fun _ => (k1 (h1 hφ hc)).2.2 H locs ls A) (fun hn => absurd hc hn)⟩
  · exact ⟨(k2 (h2 hφ hc)).1, (k2 (h2 hφ hc)).2.1, fun H locs ls A => lv_if_gt C.exec C.code hdg ht (fun hn => absurd hn hc) (fun _ => (k2 (h2 hφ hc)).2.2 H locs ls A)⟩
theorem z_icmp_gt (C : CX Γ cc nL own PP okb rf rl) {x y : Int32} {off : Int} {tgt : Nat} (hdg : decode cc pc = .ok (.if_icmp .gt off, 3)) (ht : (pc : Int) + off = (tgt : Int)) (h1 : φ → y < x → φ1) (h2 : φ → ¬ (y < x) → φ2) (k1 : X Γ tgt L st g φ1) (k2 : X Γ (pc + 3) L st g φ2) : X Γ pc L (vI y :: vI x :: st) g φ := fun hφ => by
  by_cases hc : y < x
  · exact ⟨(k1 (h1 hφ hc)).1, (k1 (h1 hφ hc)).2.1, fun H locs ls A => lv_icmp_gt C.exec C.code hdg ht (fun _ => (k1 (h1 hφ hc)).2.2 H locs ls A) (fun hn => absurd hc hn)⟩
  · exact ⟨(k2 (h2 hφ hc)).1, (k2 (h2 hφ hc)).2.1, fun H locs ls A => lv_icmp_gt C.exec C.code hdg ht (fun hn => absurd hn hc) (fun _ => (k2 (h2 hφ hc)).2.2 H locs ls A)⟩
theorem z_if_le (C : CX Γ cc nL own PP okb rf rl) {x : Int32} {off : Int} {tgt : Nat} (hdg : decode cc pc = .ok (.ifCond .le off, 3)) (ht : (pc : Int) + off = (tgt : Int)) (h1 : φ → x ≤ 0 → φ1) (h2 : φ → ¬ (x ≤ 0) → φ2) (k1 : X Γ tgt L st g φ1) (k2 : X Γ (pc + 3) L st g φ2) : X Γ pc L (vI x :: st) g φ := fun hφ => by
  by_cases hc : x ≤ 0
  · exact ⟨(k1 (h1 hφ hc)).1, (k1 (h1 hφ hc)).2.1, fun H locs ls A => lv_if_le C.exec C.code hdg ht (fun _ => (k1 (h1 hφ hc)).2.2 H locs ls A) (fun hn => absurd hc hn)⟩
  · exact ⟨(k2 (h2 hφ hc)).1, (k2 (h2 hφ hc)).2.1, fun H locs ls A => lv_if_le C.exec C.code hdg ht (fun hn => absurd hn hc) (fun _ => (k2 (h2 hφ hc)).2.2 H locs ls A)⟩
theorem z_icmp_le (C : CX Γ cc nL own PP okb rf rl) {x y : Int32} {off : Int} {tgt : Nat} (hdg : decode cc pc = .ok (.if_icmp .le off, 3)) (ht : (pc : Int) + off = (tgt : Int)) (h1 : φ → x ≤ y → φ1) (h2 : φ → ¬ (x ≤ y) → φ2) (k1 : X Γ tgt L st g φ1) (k2 : X Γ (pc + 3) L st g φ2) : X Γ pc L (vI y :: vI x :: st) g φ := fun hφ => by
  by_cases hc : x ≤ y
  · exact ⟨(k1 (h1 hφ hc)).1, (k1 (h1 hφ hc)).2.1, fun H locs ls A => lv_icmp_le C.exec C.code hdg ht (fun _ => (k1 (h1 hφ hc)).2.2 H locs ls A) (fun hn => absurd hc hn)⟩
  · exact ⟨(k2 (h2 hφ hc)).1, (k2 (h2 hφ hc)).2.1, fun H locs ls A => lv_icmp_le C.exec C.code hdg ht (fun hn => absurd hn hc) (fun _ => (k2 (h2 hφ hc)).2.2 H locs ls A)⟩
theorem z_acmp_eq (C : CX Γ cc nL own PP okb rf rl) {r q : Option Nat} {off : Int} {tgt : Nat} (hdg : decode cc pc = .ok (.if_acmp .eq off, 3)) (ht : (pc : Int) + off = (tgt : Int)) (h1 : φ → r = q → φ1) (h2 : φ → ¬ (r = q) → φ2) (k1 : X Γ tgt L st g φ1) (k2 : X Γ (pc + 3) L st g φ2) : X Γ pc L (vR q :: vR r :: st) g φ := fun hφ => by
  by_cases hc : r = q
  · exact ⟨(k1 (h1 hφ hc)).1, (k1 (h1 hφ hc)).2.1, fun H locs ls A => lv_acmp_eq C.exec C.code hdg ht (fun _ => (k1 (h1 hφ hc)).2.2 H locs ls A) (fun hn => absurd hc hn)⟩
  · exact ⟨(k2 (h2 hφ hc)).1, (k2 (h2 hφ hc)).2.1, fun H locs ls A => lv_acmp_eq C.exec C.code hdg ht (fun hn => absurd hn hc) (fun _ => (k2 (h2 hφ hc)).2.2 H locs ls A)⟩
theorem z_if_ne (C : CX Γ cc nL own PP okb rf rl) {x : Int32} {off : Int} {tgt : Nat} (hdg : decode cc pc = .ok (.ifCond .ne off, 3)) (ht : (pc : Int) + off = (tgt : Int)) (h1 : φ → x = 0 → φ1) (h2 : φ → ¬ (x = 0) → φ2) (k1 : X Γ (pc + 3) L st g φ1) (k2 : X Γ tgt L st g φ2) : X Γ pc L (vI x :: st) g φ := fun hφ => by
  by_cases hc : x = 0
  · exact ⟨(k1 (h1 hφ hc)).1, (k1 (h1 hφ hc)).2.1, fun H locs ls A => lv_if_ne C.exec C.code hdg ht (fun hn => absurd hc hn) (fun _ => (k1 (h1 hφ hc)).2.2 H locs ls A)⟩
  · exact ⟨(k2 (h2 hφ hc)).1, (k2 (h2 hφ hc)).2.1, fun H locs ls A => lv_if_ne C.exec C.code hdg ht (fun _ => (k2 (h2 hφ hc)).2.2 H locs ls A) (fun hn => absurd hn hc)⟩
theorem z_icmp_ne (C : CX Γ cc nL own PP okb rf rl) {x y : Int32} {off : Int} {tgt : Nat} (hdg : decode cc pc = .ok (.if_icmp .ne off, 3)) (ht : (pc : Int) + off = (tgt : Int)) (h1 : φ → x = y → φ1) (h2 : φ → ¬ (x = y) → φ2) (k1 : X Γ (pc + 3) L st g φ1) (k2 : X Γ tgt L st g φ2) : X Γ pc L (vI y :: vI x :: st) g φ := fun hφ => by
  by_cases hc : x = y
  · exact ⟨(k1 (h1 hφ hc)).1, (k1 (h1 hφ hc)).2.1, fun H locs ls A => lv_icmp_ne C.exec C.code hdg ht (fun hn => absurd hc hn) (fun _ => (k1 (h1 hφ hc)).2.2 H locs ls A)⟩
  · exact ⟨(k2 (h2 hφ hc)).1, (k2 (h2 hφ hc)).2.1, fun H locs ls A => lv_icmp_ne C.exec C.code hdg ht (fun _ => (k2 (h2 hφ hc)).2.2 H locs ls A) (fun hn => absurd hn hc)⟩
theorem z_acmp_ne (C : CX Γ cc nL own PP okb rf rl) {r q : Option Nat} {off : Int} {tgt : Nat} (hdg : decode cc pc = .ok (.if_acmp .ne off, 3)) (ht : (pc : Int) + off = (tgt : Int)) (h1 : φ → r = q → φ1) (h2 : φ → ¬ (r = q) → φ2) (k1 : X Γ (pc + 3) L st g φ1) (k2 : X Γ tgt L st g φ2) : X Γ pc L (vR q :: vR r :: st) g φ := fun hφ => by
  by_cases hc : r = q
  · exact ⟨(k1 (h1 hφ hc)).1, (k1 (h1 hφ hc)).2.1, fun H locs ls A => lv_acmp_ne C.exec C.code hdg ht (fun hn => absurd hc hn) (fun _ => (k1 (h1 hφ hc)).2.2 H locs ls A)⟩
  · exact ⟨(k2 (h2 hφ hc)).1, (k2 (h2 hφ hc)).2.1, fun H locs ls A => lv_acmp_ne C.exec C.code hdg ht (fun _ => (k2 (h2 hφ hc)).2.2 H locs ls A) (fun hn => absurd hn hc)⟩
theorem z_ifnull (C : CX Γ cc nL own PP okb rf rl) {r : Option Nat} {off : Int} {tgt : Nat} (hdg : decode cc pc = .ok (.ifnull off, 3)) (ht : (pc : Int) + off = (tgt : Int)) (h1 : φ → r = none → φ1) (h2 : φ → ¬ (r = none) → φ2) (k1 : X Γ tgt L st g φ1) (k2 : X Γ (pc + 3) L st g φ2) : X Γ pc L (vR r :: st) g φ := fun hφ => by
  cases r with
  | none => exact ⟨(k1 (h1 hφ rfl)).1, (k1 (h1 hφ rfl)).2.1, fun H locs ls A => lv_ifnullN C.exec C.code hdg ht ((k1 (h1 hφ rfl)).2.2 H locs ls A)⟩
  | some a =>
    have hc : ¬ (some a = none) := fun h => by cases h
    exact ⟨(k2 (h2 hφ hc)).1, (k2 (h2 hφ hc)).2.1, fun H locs ls A => lv_ifnull C.exec C.code hdg ((k2 (h2 hφ hc)).2.2 H locs ls A)⟩
theorem z_ifnonnull (C : CX Γ cc nL own PP okb rf rl) {r : Option Nat} {off : Int} {tgt : Nat} (hdg : decode cc pc = .ok (.ifnonnull off, 3)) (ht : (pc : Int) + off = (tgt : Int)) (h1 : φ → r = none → φ1) (h2 : φ → ¬ (r = none) → φ2) (k1 : X Γ (pc + 3) L st g φ1) (k2 : X Γ tgt L st g φ2) : X Γ pc L (vR r :: st) g φ := fun hφ => by
  cases r with
  | none => exact ⟨(k1 (h1 hφ rfl)).1, (k1 (h1 hφ rfl)).2.1, fun H locs ls A => lv_ifnonnullN C.exec C.code hdg ((k1 (h1 hφ rfl)).2.2 H locs ls A)⟩
  | some a =>
    have hc : ¬ (some a = none) := fun h => by cases h
    exact ⟨(k2 (h2 hφ hc)).1, (k2 (h2 hφ hc)).2.1, fun H locs ls A => lv_ifnonnull C.exec C.code hdg ht ((k2 (h2 hφ hc)).2.2 H locs ls A)⟩
end Rules
end
section
/-! What an instruction does to the abstract heap; none: it is not told here. -/
def rcv (ci : Nat) (r : Option Nat) (g : HP) : Option Nat := match r with
  | none => none
  | some a => if tg g a = ci + 1 then some a else none
def gfI (ci k : Nat) (r : Option Nat) (g : HP) : Option Int32 := match r with
  | none => none
  | some a => if tg g a = ci + 1 then some (fi g (16 * ci + k) a) else none
def gfR (ci k : Nat) (r : Option Nat) (g : HP) : Option (Option Nat) := match r with
  | none => none
  | some a => if tg g a = ci + 1 then some (fr g (16 * ci + k) a) else none
def pfI (ci k : Nat) (r : Option Nat) (v : Int32) (g : HP) : Option HP := match r with
  | none => none
  | some a => if tg g a = ci + 1 then some (setI g (16 * ci + k) a v) else none
def pfZ (ci k : Nat) (r : Option Nat) (v : Int32) (g : HP) : Option HP := match r with
  | none => none
  | some a => if tg g a = ci + 1 ∧ (v = 0 ∨ v = 1) then some (setI g (16 * ci + k) a v) else none
def pfR (ci k : Nat) (r : Option Nat) (v : Option Nat) (g : HP) : Option HP := match r with
  | none => none
  | some a => if tg g a = ci + 1 then some (setR g (16 * ci + k) a v) else none
def inB (i : Int32) (n : Nat) : Prop := 0 ≤ i ∧ i.toNatClampNeg < n
def ldI (r : Option Nat) (i : Int32) (g : HP) : Option Int32 := match r with
  | none => none
  | some a => if (tg g a = 20 ∨ tg g a = 25) ∧ 0 ≤ i ∧ i.toNatClampNeg < (ia g a).length then some ((ia g a).getD i.toNatClampNeg 0) else none
def ldZ (r : Option Nat) (i : Int32) (g : HP) : Option Int32 := match r with
  | none => none
  | some a => if tg g a = 21 ∧ 0 ≤ i ∧ i.toNatClampNeg < (ia g a).length then some ((ia g a).getD i.toNatClampNeg 0) else none
def stI (r : Option Nat) (i v : Int32) (g : HP) : Option HP := match r with
  | none => none
  | some a => if tg g a = 20 ∧ 0 ≤ i ∧ i.toNatClampNeg < (ia g a).length then some (setA g a ((ia g a).set i.toNatClampNeg v)) else none
def stZ (r : Option Nat) (i v : Int32) (g : HP) : Option HP := match r with
  | none => none
  | some a => if tg g a = 21 ∧ (0 ≤ i ∧ i.toNatClampNeg < (ia g a).length) ∧ (v = 0 ∨ v = 1) then some (setA g a ((ia g a).set i.toNatClampNeg v)) else none
def ldA (r : Option Nat) (i : Int32) (g : HP) : Option (Option Nat) := match r with
  | none => none
  | some a => if (tg g a = 22 ∨ tg g a = 23) ∧ 0 ≤ i ∧ i.toNatClampNeg < (oa g a).length then some ((oa g a).getD i.toNatClampNeg none) else none
def lnI (r : Option Nat) (g : HP) : Option Int32 := match r with
  | none => none
  | some a => if tg g a = 20 ∨ tg g a = 21 ∨ tg g a = 25 then some (Int32.ofNat (ia g a).length) else none
def lnA (r : Option Nat) (g : HP) : Option Int32 := match r with
  | none => none
  | some a => if tg g a = 22 ∨ tg g a = 24 then some (Int32.ofNat (oa g a).length) else none
def cst (ci : Nat) (r : Option Nat) (g : HP) : Option (Option Nat) := match r with
  | none => some none
  | some a => if tg g a = ci + 1 then some (some a) else none
/-- a new int[] or boolean[]; n is checked against a bound, for the slots -/
def nwI (t : Nat) (n : Int32) (g : HP) : Option (Nat × HP) := if 0 ≤ n ∧ n.toNatClampNeg ≤ 65536 then some (nx g, newG g t n.toNatClampNeg (List.replicate n.toNatClampNeg 0) []) else none
def nwA (t : Nat) (n : Int32) (g : HP) : Option (Nat × HP) := if 0 ≤ n ∧ n.toNatClampNeg ≤ 65536 then some (nx g, newG g t n.toNatClampNeg [] (List.replicate n.toNatClampNeg none)) else none
/-- what every class's rows say -/
def CF (ci : Nat) (Cn : String) (T : u_T) (N : Nat) (ty : Nat → FieldType) : Prop :=
  vwCl[ci]? = some (Cn, T, N) ∧ (∀ w ∈ u_ws Cn T N, w ∈ gtbl) ∧ (∀ k, k < N → parseFieldDescriptor (T k).2.2.1 = some (ty k)) ∧ (∀ a, a < N → ∀ b, b < N → a ≠ b → (T a).2.1 ≠ (T b).2.1) ∧ ci < 11 ∧ N ≤ 16
theorem fldV_I {g : HP} {j a : Nat} (h : refF j = false) : fldV g j a = .int (fi g j a) := by unfold fldV; rw [h]; rfl
theorem fldV_R {g : HP} {j a : Nat} (h : refF j = true) : fldV g j a = va_rf (fr g j a) := by unfold fldV; rw [h]; rfl
section HeapRules
variable {Γ : GG} {cc : ByteArray} {nL : Nat} {own : String} {PP : KK → HP → Heap → Prop} {okb : Nat → Bool} {rf rl : Nat} {pc : Nat} {L L' : LL} {st : List VV} {g : HP} {φ φ1 φ2 : Prop}
variable {ci N : Nat} {Cn : String} {T : u_T} {ty : Nat → FieldType}
theorem PO.sz {κ : KK} {P : HP → Heap → Prop} {okb : Nat → Bool} (h : PO κ P okb) {g : HP} {H : Heap} (p : P g H) : H.size = nx g ∧ kb κ ≤ nx g := h.1 g H p
theorem PO.ow {κ : KK} {P : HP → Heap → Prop} {okb : Nat → Bool} (h : PO κ P okb) {g : HP} {H : Heap} {q : Nat} (p : P g H) (ht : tg g q ≠ 0) : q < nx g := h.2.1 g H q p ht
theorem PO.recv {κ : KK} {P : HP → Heap → Prop} {okb : Nat → Bool} (h : PO κ P okb) {g : HP} {H : Heap} {q ci : Nat} (p : P g H) (ht : tg g q = ci + 1) (hl : ci < 11) : ∃ cell : Cell, H[q]? = some cell ∧ cell.vm.isStatics = false ∧ cell.cls = (kD κ).1 ci := h.2.2.1 g H q ci p ht hl
theorem PO.obj {κ : KK} {P : HP → Heap → Prop} {okb : Nat → Bool} (h : PO κ P okb) {g : HP} {H : Heap} {q ci : Nat} (p : P g H) (ht : tg g q = ci + 1) (hl : ci < 11) (hok : okb (ci + 1) = true) : objAt κ g H ci q ∧ kb κ ≤ q := h.2.2.2.1 g H q ci p ht hl hok
/-- the start of every rule on a field -/
theorem fld_at (C : CX Γ cc nL own PP okb rf rl) (hcf : CF ci Cn T N ty) {k : Nat} (hk : k < N) {H : Heap} {a : Nat} (hP : gPi Γ g H) (ht : tg g a = ci + 1) (hok : okb (ci + 1) = true) :
    ∃ (cell : Cell) (cf : ClassId) (kf : Class) (fi' : Nat) (f : Field), H[a]? = some cell ∧ cell.cls = (kD (gK Γ)).1 ci ∧ cell.vm = .none ∧ (∀ j, j < N → cell.slots[(kD (gK Γ)).2 ci j]? = some (fldV g (16 * ci + j) a)) ∧
      (gS Γ).fieldFound? (T k).1 (T k).2.1 (T k).2.2.1 = some (cf, kf, fi', f) ∧ f.slot = (kD (gK Γ)).2 ci k ∧ f.isStatic = false ∧ kb (gK Γ) ≤ a ∧ ∃ kC : Class, (gS Γ).vm.findClass Cn = some ((kD (gK Γ)).1 ci) ∧ (gS Γ).vm.classes[(kD (gK Γ)).1 ci]? = some kC ∧ kC.kind = .ordinary := by
  obtain ⟨⟨r, h1, cell, q1, q2, q3, q4⟩, hkb⟩ := C.po.obj hP ht hcf.2.2.2.2.1 hok
  have hr : r = (Cn, T, N) := Option.some.inj (h1.symm.trans hcf.1)
  subst hr
  obtain ⟨hS, hfc, kC, hkC, hkind⟩ := C.kx.1.1 ci _ hcf.1
  obtain ⟨cf, kf, fi', f, hi, hsl⟩ := hS k hk
  exact ⟨cell, cf, kf, fi', f, q1, q2, q3, q4, hi, hsl, (u_facts hfc hkC (u_lays (fun w hw => C.hts w hw) (fun w hw => hcf.2.1 w hw) hk) hi).1, hkb, kC, hfc, hkC, hkind⟩
theorem z_gfI (C : CX Γ cc nL own PP okb rf rl) (hcf : CF ci Cn T N ty) {index : Nat} {ref : String} {r : Option Nat} (k : Nat) (hk : k < N) (hok : okb (ci + 1) = true) (hr : refF (16 * ci + k) = false) (hdg : decode cc pc = .ok (.getfield index, 3)) (hlink : Cond.fieldLink own index ref (T k).2.1 (T k).2.2.1 ∈ gtbl)
    (hsame : ∀ x, (gS Γ).fieldFound? (T k).1 (T k).2.1 (T k).2.2.1 = some x → (gS Γ).fieldFound? ref (T k).2.1 (T k).2.2.1 = some x) {φ' : Int32 → Prop} (hφ : φ → ∃ x, gfI ci k r g = some x ∧ φ' x)
    (kk : ∀ x, X Γ (pc + 3) L (vI x :: st) g (φ' x)) : X Γ pc L (vR r :: st) g φ := fun h => by
  obtain ⟨x, hx, hf⟩ := hφ h
  refine ⟨(kk x hf).1, (kk x hf).2.1, fun H locs ls A => ?_⟩
  cases r with
  | none => cases hx
  | some a =>
    unfold gfI at hx
    dsimp only at hx
    by_cases ht : tg g a = ci + 1
    · rw [if_pos ht] at hx
      cases hx
      obtain ⟨cell, cf, kf, fi', f, q1, q2, q3, q4, hi, hsl, hst, hkb, -⟩ := fld_at C hcf hk A.pic ht hok
      refine W.getf C.exec C.code C.ow (C.hts _ hlink) (hsame _ hi) hst q1 (by rw [q3]; exact fun h => by cases h) (v := .int (fi g (16 * ci + k) a)) ?_ rfl rfl hdg ((kk _ hf).2.2 H locs ls A)
      rw [hsl, q4 k hk, fldV_I hr]
    · rw [if_neg ht] at hx; cases hx
theorem z_gfR (C : CX Γ cc nL own PP okb rf rl) (hcf : CF ci Cn T N ty) {index : Nat} {ref : String} {r : Option Nat} (k : Nat) (hk : k < N) (hok : okb (ci + 1) = true) (hr : refF (16 * ci + k) = true) (hdg : decode cc pc = .ok (.getfield index, 3)) (hlink : Cond.fieldLink own index ref (T k).2.1 (T k).2.2.1 ∈ gtbl)
    (hsame : ∀ x, (gS Γ).fieldFound? (T k).1 (T k).2.1 (T k).2.2.1 = some x → (gS Γ).fieldFound? ref (T k).2.1 (T k).2.2.1 = some x) {φ' : Option Nat → Prop} (hφ : φ → ∃ x, gfR ci k r g = some x ∧ φ' x)
    (kk : ∀ x, X Γ (pc + 3) L (vR x :: st) g (φ' x)) : X Γ pc L (vR r :: st) g φ := fun h => by
  obtain ⟨x, hx, hf⟩ := hφ h
  refine ⟨(kk x hf).1, (kk x hf).2.1, fun H locs ls A => ?_⟩
  cases r with
  | none => cases hx
  | some a =>
    unfold gfR at hx
    dsimp only at hx
    by_cases ht : tg g a = ci + 1
    · rw [if_pos ht] at hx
      cases hx
      obtain ⟨cell, cf, kf, fi', f, q1, q2, q3, q4, hi, hsl, hst, hkb, -⟩ := fld_at C hcf hk A.pic ht hok
      refine W.getf C.exec C.code C.ow (C.hts _ hlink) (hsame _ hi) hst q1 (by rw [q3]; exact fun h => by cases h) (v := va_rf (fr g (16 * ci + k) a)) ?_ rfl rfl hdg ((kk _ hf).2.2 H locs ls A)
      rw [hsl, q4 k hk, fldV_R hr]
    · rw [if_neg ht] at hx; cases hx
/-- what a put leaves -/
theorem put_at {κ : KK} (hcf : CF ci Cn T N ty) {g1 : HP} {H' : Heap} {a k slot : Nat} {v : Value} {cell : Cell} (hk : k < N) (e1 : H'[a]? = some (cell.setSlot slot v)) (hsl : slot = (kD κ).2 ci k) (q2 : cell.cls = (kD κ).1 ci) (q3 : cell.vm = .none)
    (q4 : ∀ j, j < N → cell.slots[(kD κ).2 ci j]? = some (fldV g (16 * ci + j) a)) (hap : ∀ x y, x < N → y < N → x ≠ y → (kD κ).2 ci x ≠ (kD κ).2 ci y) (hv : fldV g1 (16 * ci + k) a = v) (hne : ∀ j, j ≠ k → fldV g1 (16 * ci + j) a = fldV g (16 * ci + j) a) : objAt κ g1 H' ci a := by
  refine ⟨_, hcf.1, t_OB.to (V := updV (fun j => fldV g (16 * ci + j) a) k v) ⟨_, e1, q2, q3, by rw [hsl]; exact t_set q4 hap hk v⟩ fun j hj => ?_⟩
  unfold updV
  by_cases e : j = k
  · subst e; rw [if_pos rfl]; exact hv.symm
  · rw [if_neg e]; exact (hne j e).symm
theorem At1.put {H H' : Heap} {locs : List Loc} {ls : Array Slot} {a sx : Nat} {g1 : HP} (A : At1 Γ L g H locs ls) (hn : nx g1 = nx g) (hs : sl g1 = sl g) (hP : gPi Γ g1 H') (e3 : ∀ q, q ≠ a → H'[q]? = H[q]?) (hkb : kb (gK Γ) ≤ a) : At1 Γ L g1 H' (locs ++ [⟨a, sx⟩]) ls := by
  refine ⟨by rw [hn]; exact A.n0, by rw [hs]; exact A.s0, hP, fun q hq => (e3 q (by omega)).trans (A.fr q hq), fun z hz => ?_, A.lv⟩
  rcases List.mem_append.mp hz with hz | hz
  · exact A.lo z hz
  · rw [List.mem_singleton.mp hz]; exact hkb
/-- a put of a field that is not final, the heap behind it g1 -/
theorem z_put (C : CX Γ cc nL own PP okb rf rl) (hcf : CF ci Cn T N ty) {index : Nat} {ref : String} {a : Nat} {v : VV} {g1 : HP} (k : Nat) (hk : k < N) (hok : okb (ci + 1) = true) (hdg : decode cc pc = .ok (.putfield index, 3)) (hlink : Cond.fieldLink own index ref (T k).2.1 (T k).2.2.1 ∈ gtbl)
    (hsame : ∀ x, (gS Γ).fieldFound? (T k).1 (T k).2.1 (T k).2.2.1 = some x → (gS Γ).fieldFound? ref (T k).2.1 (T k).2.2.1 = some x) (hfin : (T k).2.2.2 = false) (hn : narrow (ty k) (vv v) = vv v) (hfit : fits (ty k) (vv v) = true) (ht : tg g a = ci + 1)
    (hv : fldV g1 (16 * ci + k) a = vv v) (hne : ∀ j, j ≠ k → fldV g1 (16 * ci + j) a = fldV g (16 * ci + j) a) (enx : nx g1 = nx g) (esl : sl g1 = sl g) (hpo : ∀ H H1, gPi Γ g H → H1.size = H.size → (∀ x, x ≠ a → H1[x]? = H[x]?) → objAt (gK Γ) g1 H1 ci a → gPi Γ g1 H1)
    (kk : X Γ (pc + 3) L st g1 φ) : X Γ pc L (v :: vR (some a) :: st) g φ := fun h => by
  obtain ⟨b1, b2, b3⟩ := kk h
  refine ⟨by rw [← enx]; exact b1, by rw [← esl]; exact b2, fun H locs ls A => ?_⟩
  obtain ⟨cell, cf, kf, fi', f, q1, q2, q3, q4, hi, hsl, hst, hkb, kC, hfc, hkC, hkind⟩ := fld_at C hcf hk A.pic ht hok
  have hap := va_apart (own := own) (fun w hw => C.hts w hw) (fun w hw => hcf.2.1 w hw) ty hcf.2.2.1 hcf.2.2.2.1 C.kx.1 hcf.1
  have hlay := C.hts _ (hcf.2.1 _ (u_in_lay hk))
  unfold u_lay at hlay
  rw [if_neg (by rw [hfin]; decide)] at hlay
  have h6 := u_store hfc hkC hkind hlay hi (hcf.2.2.1 k hk) hn hfit
  refine W.putK C.exec C.code (f := f) ⟨C.ow, C.hts _ hlink, ⟨_, _, _, hsame _ hi⟩, hst⟩ (by rw [q2]; exact h6) q1 q3 (by rw [hsl]; exact k2_hasslot (q4 k hk)) rfl rfl hdg fun H' e1 e2 e3 => ?_
  have := b3 H' _ ls (A.put (sx := f.slot) enx esl (hpo H H' A.pic e2 e3 (put_at hcf hk e1 hsl q2 q3 q4 hap hv hne)) e3 hkb)
  rw [enx, esl] at this
  exact this
theorem z_putF (C : CX Γ cc nL own PP okb rf rl) (hcf : CF ci Cn T N ty) {index : Nat} {ref : String} {a : Nat} {v : VV} {g1 : HP} (k : Nat) (hk : k < N) (hok : okb (ci + 1) = true) (hdg : decode cc pc = .ok (.putfield index, 3)) (hlink : Cond.fieldLink own index ref (T k).2.1 (T k).2.2.1 ∈ gtbl)
    (hsame : ∀ x, (gS Γ).fieldFound? (T k).1 (T k).2.1 (T k).2.2.1 = some x → (gS Γ).fieldFound? ref (T k).2.1 (T k).2.2.1 = some x) (hfin : (T k).2.2.2 = true) (hin2 : (gMe Γ).name = "<init>") (hdecl : (T k).1 = own) (hn : narrow (ty k) (vv v) = vv v) (hfit : fits (ty k) (vv v) = true) (ht : tg g a = ci + 1)
    (hv : fldV g1 (16 * ci + k) a = vv v) (hne : ∀ j, j ≠ k → fldV g1 (16 * ci + j) a = fldV g (16 * ci + j) a) (enx : nx g1 = nx g) (esl : sl g1 = sl g) (hpo : ∀ H H1, gPi Γ g H → H1.size = H.size → (∀ x, x ≠ a → H1[x]? = H[x]?) → objAt (gK Γ) g1 H1 ci a → gPi Γ g1 H1)
    (kk : X Γ (pc + 3) L st g1 φ) : X Γ pc L (v :: vR (some a) :: st) g φ := fun h => by
  obtain ⟨b1, b2, b3⟩ := kk h
  refine ⟨by rw [← enx]; exact b1, by rw [← esl]; exact b2, fun H locs ls A => ?_⟩
  obtain ⟨cell, cf, kf, fi', f, q1, q2, q3, q4, hi, hsl, hst, hkb, kC, hfc, hkC, hkind⟩ := fld_at C hcf hk A.pic ht hok
  have hap := va_apart (own := own) (fun w hw => C.hts w hw) (fun w hw => hcf.2.1 w hw) ty hcf.2.2.1 hcf.2.2.2.1 C.kx.1 hcf.1
  have hlay := C.hts _ (hcf.2.1 _ (u_in_lay hk))
  unfold u_lay at hlay
  rw [if_pos hfin] at hlay
  have hcf2 : (gM Γ).cls = cf := by
    obtain ⟨_, _, c', _, _, _, -, -, hf', -, -, -, hown2, -⟩ := Cond.laysFinal_spec hlay
    have e1 : c' = cf := by have := hi.symm.trans hf'; simp at this; exact this.1.symm
    rw [hdecl] at hown2
    rw [← e1]; exact Option.some.inj (C.ow.symm.trans hown2)
  have h6 := u_fits hfc hkC hkind (Or.inr hlay) hi (hcf.2.2.1 k hk) hn hfit
  refine W.putFinK C.exec C.code C.ow (C.hts _ hlink) (hsame _ hi) hst hcf2 hin2 (by rw [q2]; exact h6) q1 q3 (by rw [hsl]; exact k2_hasslot (q4 k hk)) rfl rfl hdg fun H' e1 e2 e3 => ?_
  have := b3 H' _ ls (A.put (sx := f.slot) enx esl (hpo H H' A.pic e2 e3 (put_at hcf hk e1 hsl q2 q3 q4 hap hv hne)) e3 hkb)
  rw [enx, esl] at this
  exact this
theorem fldV_setI_self {g : HP} {k q : Nat} {v : Int32} (h : refF k = false) : fldV (setI g k q v) k q = .int v := by
  rw [fldV_I h]
  show Value.int (if k = k ∧ q = q then v else _) = _
  rw [if_pos ⟨rfl, rfl⟩]
theorem fldV_setR_self {g : HP} {k q : Nat} {v : Option Nat} (h : refF k = true) : fldV (setR g k q v) k q = va_rf v := by
  rw [fldV_R h]
  show va_rf (if k = k ∧ q = q then v else _) = _
  rw [if_pos ⟨rfl, rfl⟩]
theorem nar_Z {v : Int32} (h : v = 0 ∨ v = 1) : narrow .boolean (.int v) = .int v ∧ fits .boolean (.int v) = true := by
  rcases h with rfl | rfl <;> exact ⟨rfl, rfl⟩
/-- kinds of put, by f: 0 not final, 1 final in <init> -/
def finOk (Γ : GG) (own : String) (T : u_T) (k : Nat) : Prop := (T k).2.2.2 = false ∨ ((T k).2.2.2 = true ∧ (gMe Γ).name = "<init>" ∧ (T k).1 = own)
theorem z_putB (C : CX Γ cc nL own PP okb rf rl) (hcf : CF ci Cn T N ty) {index : Nat} {ref : String} {a : Nat} {v : VV} {g1 : HP} (k : Nat) (hk : k < N) (hok : okb (ci + 1) = true) (hdg : decode cc pc = .ok (.putfield index, 3)) (hlink : Cond.fieldLink own index ref (T k).2.1 (T k).2.2.1 ∈ gtbl)
    (hsame : ∀ x, (gS Γ).fieldFound? (T k).1 (T k).2.1 (T k).2.2.1 = some x → (gS Γ).fieldFound? ref (T k).2.1 (T k).2.2.1 = some x) (hfin : finOk Γ own T k) (hn : narrow (ty k) (vv v) = vv v) (hfit : fits (ty k) (vv v) = true) (ht : tg g a = ci + 1)
    (hv : fldV g1 (16 * ci + k) a = vv v) (hne : ∀ j, j ≠ k → fldV g1 (16 * ci + j) a = fldV g (16 * ci + j) a) (enx : nx g1 = nx g) (esl : sl g1 = sl g) (hpo : ∀ H H1, gPi Γ g H → H1.size = H.size → (∀ x, x ≠ a → H1[x]? = H[x]?) → objAt (gK Γ) g1 H1 ci a → gPi Γ g1 H1)
    (kk : X Γ (pc + 3) L st g1 φ) : X Γ pc L (v :: vR (some a) :: st) g φ := by
  rcases hfin with h | ⟨h1, h2, h3⟩
  · exact z_put C hcf k hk hok hdg hlink hsame h hn hfit ht hv hne enx esl hpo kk
  · exact z_putF C hcf k hk hok hdg hlink hsame h1 h2 h3 hn hfit ht hv hne enx esl hpo kk
theorem z_pfI (C : CX Γ cc nL own PP okb rf rl) (hcf : CF ci Cn T N ty) {index : Nat} {ref : String} {r : Option Nat} {v : Int32} (k : Nat) (hk : k < N) (hok : okb (ci + 1) = true) (hr : refF (16 * ci + k) = false) (hty : ty k = .int) (hfin : finOk Γ own T k) (hdg : decode cc pc = .ok (.putfield index, 3)) (hlink : Cond.fieldLink own index ref (T k).2.1 (T k).2.2.1 ∈ gtbl)
    (hsame : ∀ x, (gS Γ).fieldFound? (T k).1 (T k).2.1 (T k).2.2.1 = some x → (gS Γ).fieldFound? ref (T k).2.1 (T k).2.2.1 = some x) {φ' : HP → Prop} (hφ : φ → ∃ x, pfI ci k r v g = some x ∧ φ' x)
    (kk : ∀ x, X Γ (pc + 3) L st x (φ' x)) : X Γ pc L (vI v :: vR r :: st) g φ := fun h => by
  obtain ⟨x, hx, hf⟩ := hφ h
  cases r with
  | none => cases hx
  | some a =>
    unfold pfI at hx
    dsimp only at hx
    by_cases ht : tg g a = ci + 1
    · rw [if_pos ht] at hx
      cases hx
      exact z_putB (g1 := setI g (16 * ci + k) a v) C hcf k hk hok hdg hlink hsame hfin (by rw [hty]; rfl) (by rw [hty]; rfl) ht (fldV_setI_self hr) (fun j hj => fldV_setI (fun z => hj (by omega))) rfl rfl
        (fun H H1 p z o ob => C.po.2.2.2.2.2.2.1 g H a ci k v H1 p ht hcf.2.2.2.2.1 hok (by have := hcf.2.2.2.2.2; omega) z o ob) (kk _) hf
    · rw [if_neg ht] at hx; cases hx
theorem z_pfZ (C : CX Γ cc nL own PP okb rf rl) (hcf : CF ci Cn T N ty) {index : Nat} {ref : String} {r : Option Nat} {v : Int32} (k : Nat) (hk : k < N) (hok : okb (ci + 1) = true) (hr : refF (16 * ci + k) = false) (hty : ty k = .boolean) (hfin : finOk Γ own T k) (hdg : decode cc pc = .ok (.putfield index, 3)) (hlink : Cond.fieldLink own index ref (T k).2.1 (T k).2.2.1 ∈ gtbl)
    (hsame : ∀ x, (gS Γ).fieldFound? (T k).1 (T k).2.1 (T k).2.2.1 = some x → (gS Γ).fieldFound? ref (T k).2.1 (T k).2.2.1 = some x) {φ' : HP → Prop} (hφ : φ → ∃ x, pfZ ci k r v g = some x ∧ φ' x)
    (kk : ∀ x, X Γ (pc + 3) L st x (φ' x)) : X Γ pc L (vI v :: vR r :: st) g φ := fun h => by
  obtain ⟨x, hx, hf⟩ := hφ h
  cases r with
  | none => cases hx
  | some a =>
    unfold pfZ at hx
    dsimp only at hx
    by_cases ht : tg g a = ci + 1 ∧ (v = 0 ∨ v = 1)
    · rw [if_pos ht] at hx
      cases hx
      exact z_putB (g1 := setI g (16 * ci + k) a v) C hcf k hk hok hdg hlink hsame hfin (by rw [hty]; exact (nar_Z ht.2).1) (by rw [hty]; exact (nar_Z ht.2).2) ht.1 (fldV_setI_self hr) (fun j hj => fldV_setI (fun z => hj (by omega))) rfl rfl
        (fun H H1 p z o ob => C.po.2.2.2.2.2.2.1 g H a ci k v H1 p ht.1 hcf.2.2.2.2.1 hok (by have := hcf.2.2.2.2.2; omega) z o ob) (kk _) hf
    · rw [if_neg ht] at hx; cases hx
def isRefTy (t : FieldType) : Prop := ∀ r : Option Nat, narrow t (va_rf r) = va_rf r ∧ fits t (va_rf r) = true
theorem isRefTy_o (C : String) : isRefTy (.object C) := fun r => by cases r <;> exact ⟨rfl, rfl⟩
theorem isRefTy_a (t : FieldType) : isRefTy (.array t) := fun r => by cases r <;> exact ⟨rfl, rfl⟩
theorem z_pfR (C : CX Γ cc nL own PP okb rf rl) (hcf : CF ci Cn T N ty) {index : Nat} {ref : String} {r v : Option Nat} (k : Nat) (hk : k < N) (hok : okb (ci + 1) = true) (hr : refF (16 * ci + k) = true) (hty : isRefTy (ty k)) (hfin : finOk Γ own T k) (hdg : decode cc pc = .ok (.putfield index, 3)) (hlink : Cond.fieldLink own index ref (T k).2.1 (T k).2.2.1 ∈ gtbl)
    (hsame : ∀ x, (gS Γ).fieldFound? (T k).1 (T k).2.1 (T k).2.2.1 = some x → (gS Γ).fieldFound? ref (T k).2.1 (T k).2.2.1 = some x) {φ' : HP → Prop} (hφ : φ → ∃ x, pfR ci k r v g = some x ∧ φ' x)
    (kk : ∀ x, X Γ (pc + 3) L st x (φ' x)) : X Γ pc L (vR v :: vR r :: st) g φ := fun h => by
  obtain ⟨x, hx, hf⟩ := hφ h
  cases r with
  | none => cases hx
  | some a =>
    unfold pfR at hx
    dsimp only at hx
    by_cases ht : tg g a = ci + 1
    · rw [if_pos ht] at hx
      cases hx
      exact z_putB (g1 := setR g (16 * ci + k) a v) C hcf k hk hok hdg hlink hsame hfin (hty v).1 (hty v).2 ht (fldV_setR_self hr) (fun j hj => fldV_setR (fun z => hj (by omega))) rfl rfl
        (fun H H1 p z o ob => C.po.2.2.2.2.2.2.2.1 g H a ci k v H1 p ht hcf.2.2.2.2.1 hok (by have := hcf.2.2.2.2.2; omega) z o ob) (kk _) hf
    · rw [if_neg ht] at hx; cases hx
end HeapRules
end
section
theorem nb_of {i : Int32} {n : Nat} (h0 : 0 ≤ i) (h1 : i.toNatClampNeg < n) : ¬ (i < 0 ∨ n ≤ i.toNatClampNeg) := fun z => z.elim (fun h => absurd h0 (Int32.not_le.mpr h)) (fun h => absurd h1 (Nat.not_lt.mpr h))
section ArrRules
variable {Γ : GG} {cc : ByteArray} {nL : Nat} {own : String} {PP : KK → HP → Heap → Prop} {okb : Nat → Bool} {rf rl : Nat} {pc : Nat} {L L' : LL} {st : List VV} {g : HP} {φ φ1 φ2 : Prop}
theorem CX.arr (C : CX Γ cc nL own PP okb rf rl) (t : Nat) (ht : t = 20 ∨ t = 21 ∨ t = 22 ∨ t = 23) : ArrOfT (gS Γ) (kA (gK Γ) t) (aty t) := by
  rcases ht with rfl | rfl | rfl | rfl
  · exact (C.kx.1.2 0 _ rfl).1
  · exact (C.kx.1.2 1 _ rfl).1
  · exact (C.kx.1.2 2 _ rfl).1
  · exact (C.kx.1.2 3 _ rfl).1
theorem CX.ai (C : CX Γ cc nL own PP okb rf rl) {H : Heap} {a : Nat} (hP : gPi Γ g H) (h : isI (tg g a)) : H[a]? = some (cellI (arC (gK Γ) (tg g a)) (ia g a)) ∧ (tg g a ≠ 25 → kb (gK Γ) ≤ a) := C.po.2.2.2.2.1 g H a hP h
theorem CX.ao (C : CX Γ cc nL own PP okb rf rl) {H : Heap} {a : Nat} (hP : gPi Γ g H) (h : isO (tg g a)) (hok : okb (tg g a) = true) : H[a]? = some (cellO (arC (gK Γ) (tg g a)) (oa g a)) ∧ (tg g a ≠ 24 → kb (gK Γ) ≤ a) := C.po.2.2.2.2.2.1 g H a hP h hok
theorem z_ldI (C : CX Γ cc nL own PP okb rf rl) {r : Option Nat} {i : Int32} (hdg : decode cc pc = .ok (.iaload, 1)) {φ' : Int32 → Prop} (hφ : φ → ∃ x, ldI r i g = some x ∧ φ' x) (kk : ∀ x, X Γ (pc + 1) L (vI x :: st) g (φ' x)) : X Γ pc L (vI i :: vR r :: st) g φ := fun h => by
  obtain ⟨x, hx, hf⟩ := hφ h
  refine ⟨(kk x hf).1, (kk x hf).2.1, fun H locs ls A => ?_⟩
  cases r with
  | none => cases hx
  | some a =>
    unfold ldI at hx
    dsimp only at hx
    split at hx
    · rename_i hc
      obtain ⟨ht, h0, hl⟩ := hc
      cases hx
      have hI : isI (tg g a) := by unfold isI; omega
      have hcell := (C.ai A.pic hI).1
      have e : arC (gK Γ) (tg g a) = kA (gK Γ) 20 := by rcases ht with h | h <;> rw [h] <;> rfl
      rw [e] at hcell
      exact W.iald C.exec C.code hcell (C.arr 20 (Or.inl rfl) _ _) (fun h => by cases h) (by rw [cellI_size]; exact nb_of h0 hl) (cellI_read _ hl) rfl rfl hdg ((kk _ hf).2.2 H locs ls A)
    · cases hx
theorem z_ldZ (C : CX Γ cc nL own PP okb rf rl) {r : Option Nat} {i : Int32} (hdg : decode cc pc = .ok (.baload, 1)) {φ' : Int32 → Prop} (hφ : φ → ∃ x, ldZ r i g = some x ∧ φ' x) (kk : ∀ x, X Γ (pc + 1) L (vI x :: st) g (φ' x)) : X Γ pc L (vI i :: vR r :: st) g φ := fun h => by
  obtain ⟨x, hx, hf⟩ := hφ h
  refine ⟨(kk x hf).1, (kk x hf).2.1, fun H locs ls A => ?_⟩
  cases r with
  | none => cases hx
  | some a =>
    unfold ldZ at hx
    dsimp only at hx
    split at hx
    · rename_i hc
      obtain ⟨ht, h0, hl⟩ := hc
      cases hx
      have hI : isI (tg g a) := by unfold isI; omega
      have hcell := (C.ai A.pic hI).1
      rw [ht] at hcell
      exact W.zald C.exec C.code hcell (C.arr 21 (Or.inr (Or.inl rfl)) _ _) (fun h => by cases h) (by rw [cellI_size]; exact nb_of h0 hl) (cellI_read _ hl) rfl rfl hdg ((kk _ hf).2.2 H locs ls A)
    · cases hx
theorem z_ldA (C : CX Γ cc nL own PP okb rf rl) {r : Option Nat} {i : Int32} (hok : ∀ t, t = 22 ∨ t = 23 → okb t = true) (hdg : decode cc pc = .ok (.aaload, 1)) {φ' : Option Nat → Prop} (hφ : φ → ∃ x, ldA r i g = some x ∧ φ' x) (kk : ∀ x, X Γ (pc + 1) L (vR x :: st) g (φ' x)) : X Γ pc L (vI i :: vR r :: st) g φ := fun h => by
  obtain ⟨x, hx, hf⟩ := hφ h
  refine ⟨(kk x hf).1, (kk x hf).2.1, fun H locs ls A => ?_⟩
  cases r with
  | none => cases hx
  | some a =>
    unfold ldA at hx
    dsimp only at hx
    split at hx
    · rename_i hc
      obtain ⟨ht, h0, hl⟩ := hc
      cases hx
      have hI : isO (tg g a) := by unfold isO; omega
      have hcell := (C.ao A.pic hI (hok _ ht)).1
      rcases ht with ht | ht
      · rw [ht] at hcell
        exact W.aald C.exec C.code hcell (C.arr 22 (by omega) _ _) rfl (fun h => by cases h) (by rw [cellO_size]; exact nb_of h0 hl) (cellO_read _ hl) rfl rfl hdg ((kk _ hf).2.2 H locs ls A)
      · rw [ht] at hcell
        exact W.aald C.exec C.code hcell (C.arr 23 (by omega) _ _) rfl (fun h => by cases h) (by rw [cellO_size]; exact nb_of h0 hl) (cellO_read _ hl) rfl rfl hdg ((kk _ hf).2.2 H locs ls A)
    · cases hx
theorem z_stI (C : CX Γ cc nL own PP okb rf rl) {r : Option Nat} {i v : Int32} (hdg : decode cc pc = .ok (.iastore, 1)) {φ' : HP → Prop} (hφ : φ → ∃ x, stI r i v g = some x ∧ φ' x) (kk : ∀ x, X Γ (pc + 1) L st x (φ' x)) : X Γ pc L (vI v :: vI i :: vR r :: st) g φ := fun h => by
  obtain ⟨x, hx, hf⟩ := hφ h
  cases r with
  | none => cases hx
  | some a =>
    unfold stI at hx
    dsimp only at hx
    split at hx
    · rename_i hc
      obtain ⟨ht, h0, hl⟩ := hc
      cases hx
      refine ⟨(kk _ hf).1, (kk _ hf).2.1, fun H locs ls A => ?_⟩
      have hI : isI (tg g a) := by unfold isI; omega
      obtain ⟨hcell, hkb⟩ := C.ai A.pic hI
      rw [ht] at hcell
      refine W.iast C.exec C.code hcell (C.arr 20 (Or.inl rfl) _ _) (fun h => by cases h) (by rw [cellI_size]; exact nb_of h0 hl) rfl rfl hdg fun H' e1 e2 e3 => ?_
      refine (kk _ hf).2.2 H' _ ls (A.put rfl rfl (C.po.2.2.2.2.2.2.2.2.1 g H a _ H' A.pic (Or.inl ht) e2 e3 ?_) e3 (hkb (by omega)))
      rw [ht, e1]
      exact congrArg some (cellI_store _ _ _ _)
    · cases hx
theorem z_stZ (C : CX Γ cc nL own PP okb rf rl) {r : Option Nat} {i v : Int32} (hdg : decode cc pc = .ok (.bastore, 1)) {φ' : HP → Prop} (hφ : φ → ∃ x, stZ r i v g = some x ∧ φ' x) (kk : ∀ x, X Γ (pc + 1) L st x (φ' x)) : X Γ pc L (vI v :: vI i :: vR r :: st) g φ := fun h => by
  obtain ⟨x, hx, hf⟩ := hφ h
  cases r with
  | none => cases hx
  | some a =>
    unfold stZ at hx
    dsimp only at hx
    split at hx
    · rename_i hc
      obtain ⟨ht, ⟨h0, hl⟩, hz⟩ := hc
      cases hx
      refine ⟨(kk _ hf).1, (kk _ hf).2.1, fun H locs ls A => ?_⟩
      have hI : isI (tg g a) := by unfold isI; omega
      obtain ⟨hcell, hkb⟩ := C.ai A.pic hI
      rw [ht] at hcell
      refine W.zast C.exec C.code hcell (C.arr 21 (Or.inr (Or.inl rfl)) _ _) (fun h => by cases h) (by rw [cellI_size]; exact nb_of h0 hl) rfl rfl hdg fun H' e1 e2 e3 => ?_
      refine (kk _ hf).2.2 H' _ ls (A.put rfl rfl (C.po.2.2.2.2.2.2.2.2.1 g H a _ H' A.pic (Or.inr ht) e2 e3 ?_) e3 (hkb (by omega)))
      rw [ht, e1, (nar_Z hz).1]
      exact congrArg some (cellI_store _ _ _ _)
    · cases hx
theorem z_lnI (C : CX Γ cc nL own PP okb rf rl) {r : Option Nat} (hdg : decode cc pc = .ok (.arraylength, 1)) {φ' : Int32 → Prop} (hφ : φ → ∃ x, lnI r g = some x ∧ φ' x) (kk : ∀ x, X Γ (pc + 1) L (vI x :: st) g (φ' x)) : X Γ pc L (vR r :: st) g φ := fun h => by
  obtain ⟨x, hx, hf⟩ := hφ h
  refine ⟨(kk x hf).1, (kk x hf).2.1, fun H locs ls A => ?_⟩
  cases r with
  | none => cases hx
  | some a =>
    unfold lnI at hx
    dsimp only at hx
    split at hx
    · rename_i ht
      cases hx
      have hI : isI (tg g a) := ht
      have hcell := (C.ai A.pic hI).1
      have key : ∀ t, (gS Γ).isArrayOf (cellI (arC (gK Γ) (tg g a)) (ia g a)) t → WG Γ H locs (nx g - gn0 Γ) (sl g - gs0 Γ) (F0 (gM Γ) pc ls ((vR (some a) :: st).map vv)) := fun t harr =>
        W.alen (n := Int32.ofNat (ia g a).length) C.exec C.code hcell harr (by rw [cellI_size]) rfl rfl hdg ((kk _ hf).2.2 H locs ls A)
      rcases ht with h | h | h <;> rw [h] at key
      · exact key _ (C.arr 20 (Or.inl rfl) _ _)
      · exact key _ (C.arr 21 (Or.inr (Or.inl rfl)) _ _)
      · exact key _ (C.arr 20 (Or.inl rfl) _ _)
    · cases hx
theorem z_lnA (C : CX Γ cc nL own PP okb rf rl) {r : Option Nat} (hok : ∀ t, t = 22 ∨ t = 24 → okb t = true) (hdg : decode cc pc = .ok (.arraylength, 1)) {φ' : Int32 → Prop} (hφ : φ → ∃ x, lnA r g = some x ∧ φ' x) (kk : ∀ x, X Γ (pc + 1) L (vI x :: st) g (φ' x)) : X Γ pc L (vR r :: st) g φ := fun h => by
  obtain ⟨x, hx, hf⟩ := hφ h
  refine ⟨(kk x hf).1, (kk x hf).2.1, fun H locs ls A => ?_⟩
  cases r with
  | none => cases hx
  | some a =>
    unfold lnA at hx
    dsimp only at hx
    split at hx
    · rename_i ht
      cases hx
      have hI : isO (tg g a) := by unfold isO; omega
      have hcell := (C.ao A.pic hI (hok _ ht)).1
      have e : arC (gK Γ) (tg g a) = kA (gK Γ) 22 := by rcases ht with h | h <;> rw [h] <;> rfl
      rw [e] at hcell
      exact W.alen (n := Int32.ofNat (oa g a).length) C.exec C.code hcell (C.arr 22 (by omega) _ _) (by rw [cellO_size]) rfl rfl hdg ((kk _ hf).2.2 H locs ls A)
    · cases hx
theorem z_cst (C : CX Γ cc nL own PP okb rf rl) {ci N : Nat} {Cn : String} {T : u_T} {ty : Nat → FieldType} (hcf : CF ci Cn T N ty) {index : Nat} {r : Option Nat} (hdg : decode cc pc = .ok (.checkcast index, 3)) (hlink : Cond.classLink own index Cn ∈ gtbl) {φ' : Option Nat → Prop} (hφ : φ → ∃ x, cst ci r g = some x ∧ φ' x) (kk : ∀ x, X Γ (pc + 3) L (vR x :: st) g (φ' x)) : X Γ pc L (vR r :: st) g φ := fun h => by
  obtain ⟨x, hx, hf⟩ := hφ h
  refine ⟨(kk x hf).1, (kk x hf).2.1, fun H locs ls A => ?_⟩
  cases r with
  | none =>
    cases hx
    exact lv_castN C.exec C.code hdg ((kk _ hf).2.2 H locs ls A)
  | some a =>
    unfold cst at hx
    dsimp only at hx
    split at hx
    · rename_i ht
      cases hx
      obtain ⟨cell, h1, h2, h3⟩ := C.po.recv A.pic ht hcf.2.2.2.2.1
      have hca := (C.kx.1.1 ci _ hcf.1).2
      exact va_castS C.exec C.code C.ow (C.hts _ hlink) hca ⟨cell, h1, h2, by rw [h3]; exact hca.1⟩ hdg ((kk _ hf).2.2 H locs ls A)
    · cases hx
theorem At1.new {H H' : Heap} {locs : List Loc} {ls : Array Slot} {g1 : HP} (A : At1 Γ L g H locs ls) (hn : nx g ≤ nx g1) (hs : sl g ≤ sl g1) (hP : gPi Γ g1 H') (hk : kb (gK Γ) ≤ H.size) (e3 : ∀ q, q < H.size → H'[q]? = H[q]?) : At1 Γ L g1 H' locs ls :=
  ⟨Nat.le_trans A.n0 hn, Nat.le_trans A.s0 hs, hP, fun q hq => (e3 q (by omega)).trans (A.fr q hq), A.lo, A.lv⟩
/-- a new object of class ci -/
theorem z_new (C : CX Γ cc nL own PP okb rf rl) {ci N : Nat} {Cn : String} {T : u_T} {ty : Nat → FieldType} (hcf : CF ci Cn T N ty) (hok : okb (ci + 1) = true) {index : Nat} (hdg : decode cc pc = .ok (.new index, 3)) (hlink : Cond.classLink own index Cn ∈ gtbl) (hins : Cond.instantiable Cn N ∈ gtbl) (hini : Cond.initialized Cn ∈ gtbl)
    (hdef : ∀ k, k < N → defaultValue (ty k) = if refF (16 * ci + k) = true then .null else .int 0) (kk : X Γ (pc + 3) L (vR (some (nx g)) :: st) (newG g (ci + 1) N [] []) φ) : X Γ pc L st g φ := fun h => by
  obtain ⟨b1, b2, b3⟩ := kk h
  have b1' : nx g + 1 ≤ gtn Γ := b1
  have b2' : sl g + N ≤ gts Γ := b2
  refine ⟨by omega, by omega, fun H locs ls A => ?_⟩
  have hKn := C.kx.1.1 ci _ hcf.1
  obtain ⟨hz, hkb⟩ := C.po.sz A.pic
  have hrc := C.rc
  have hrs := C.rs
  have a1 := A.n0
  have a2 := A.s0
  refine W.newcK C.exec C.code C.ow (C.hts _ hlink) (C.hts _ hins) (C.hts _ hini) rfl hdg (by omega) (by omega) hKn.2.1 hz fun H1 kC hkC e1 z1 o1 => ?_
  have hob : t_OB H.size ((kD (gK Γ)).1 ci) N ((kD (gK Γ)).2 ci) H1 (fun k => fldV (newG g (ci + 1) N [] []) (16 * ci + k) H.size) := by
    rw [hz]
    refine (u_born ty (fun w hw => C.hts w hw) (fun w hw => hcf.2.1 w hw) hKn hkC e1 hcf.2.2.1).to fun k hk => ?_
    rw [hdef k hk]
    unfold fldV
    have f1 : fi (newG g (ci + 1) N [] []) (16 * ci + k) (nx g) = 0 := if_pos rfl
    have f2 : fr (newG g (ci + 1) N [] []) (16 * ci + k) (nx g) = none := if_pos rfl
    rw [f1, f2]
    rfl
  have := b3 H1 locs ls (A.new (Nat.le_succ _) (Nat.le_add_right _ _) (C.po.2.2.2.2.2.2.2.2.2.2.1 g H ci N H1 A.pic hcf.2.2.2.2.1 hok (by rw [z1, hz]) (fun x hx => o1 x (by rw [← hz]; exact hx)) ⟨_, hcf.1, hob⟩) (by omega) (fun x hx => o1 x (by rw [← hz]; exact hx)))
  have e1 : nx (newG g (ci + 1) N [] []) - gn0 Γ = nx g - gn0 Γ + 1 := by show nx g + 1 - gn0 Γ = _; omega
  have e2 : sl (newG g (ci + 1) N [] []) - gs0 Γ = sl g - gs0 Γ + N := by show sl g + N - gs0 Γ = _; omega
  rw [e1, e2] at this
  exact this
/-- a new int[] (20) or boolean[] (21) -/
theorem z_nwI (C : CX Γ cc nL own PP okb rf rl) {t : Nat} {n : Int32} {at0 : ArrayType} (hat : newarray.typeOf at0 = aty t) (ht : (t = 20 ∧ at0 = .int) ∨ (t = 21 ∧ at0 = .boolean)) (hdg : decode cc pc = .ok (.newarray at0, 2)) (harr : Cond.arrayClass (newarray.typeOf at0) ∈ gtbl) {φ' : Nat × HP → Prop} (hφ : φ → ∃ x, nwI t n g = some x ∧ φ' x)
    (kk : ∀ x, X Γ (pc + 2) L (vR (some x.1) :: st) x.2 (φ' x)) : X Γ pc L (vI n :: st) g φ := fun h => by
  obtain ⟨x, hx, hf⟩ := hφ h
  unfold nwI at hx
  split at hx
  · rename_i hc
    cases hx
    obtain ⟨b1, b2, b3⟩ := kk _ hf
    have b1' : nx g + 1 ≤ gtn Γ := b1
    have b2' : sl g + n.toNatClampNeg ≤ gts Γ := b2
    refine ⟨by omega, by omega, fun H locs ls A => ?_⟩
    obtain ⟨hz, hkb⟩ := C.po.sz A.pic
    have hrc := C.rc
    have hrs := C.rs
    have a1 := A.n0
    have a2 := A.s0
    have hcb : componentBytes (newarray.typeOf at0) ≤ 8 := by rcases ht with ⟨rfl, rfl⟩ | ⟨rfl, rfl⟩ <;> decide
    refine va_newaK C.exec C.code (C.hts _ harr) rfl hdg rfl (fun z => absurd hc.1 (Int32.not_le.mpr z)) rfl (by have := Nat.mul_le_mul hc.2 hcb; omega) (by omega) (by omega) hz fun H1 cA e1 z1 o1 hAr hNm => ?_
    have hA2 : cA = kA (gK Γ) t := by
      rcases ht with ⟨rfl, rfl⟩ | ⟨rfl, rfl⟩
      · have := (C.kx.1.2 0 _ rfl).2
        exact Option.some.inj (hNm.symm.trans this)
      · have := (C.kx.1.2 1 _ rfl).2
        exact Option.some.inj (hNm.symm.trans this)
    have hdv : defaultValue (newarray.typeOf at0) = .int 0 := by rcases ht with ⟨rfl, rfl⟩ | ⟨rfl, rfl⟩ <;> rfl
    have ht' : t = 20 ∨ t = 21 := by omega
    have := b3 H1 locs ls (A.new (Nat.le_succ _) (Nat.le_add_right _ _) (C.po.2.2.2.2.2.2.2.2.2.2.2.1 g H t n.toNatClampNeg _ H1 A.pic ht' (by rw [z1, hz]) (fun x hx => o1 x (by rw [← hz]; exact hx)) (by
      rw [hz, e1, hdv, hA2, cellI_new]
      rcases ht' with rfl | rfl <;> rfl)) (by omega) (fun x hx => o1 x (by rw [← hz]; exact hx)))
    have e1 : nx (newG g t n.toNatClampNeg (List.replicate n.toNatClampNeg 0) []) - gn0 Γ = nx g - gn0 Γ + 1 := by show nx g + 1 - gn0 Γ = _; omega
    have e2 : sl (newG g t n.toNatClampNeg (List.replicate n.toNatClampNeg 0) []) - gs0 Γ = sl g - gs0 Γ + n.toNatClampNeg := by show sl g + n.toNatClampNeg - gs0 Γ = _; omega
    rw [e1, e2] at this
    exact this
  · cases hx
end ArrRules
/-! Contracts, and calls by them. -/
def PcM (κ : KK) (P : HP → Heap → Prop) (as : List VV) (g : HP) : Array Value → State → Prop := va_Pc (as.map vv) (fun U => KX κ U U.heap ∧ P g U.heap)
def QcM (κ : KK) (P : HP → Heap → Prop) (r : Option VV) (g' : HP) : Array Value → State → Outcome → State → Prop := fun _ st o t => o = .returned (r.map vv) ∧ KX κ t t.heap ∧ P g' t.heap ∧ ∀ q, q < kb κ → t.heap[q]? = st.heap[q]?
def rmM (F Lw : Nat) (g g' : HP) : Room := { frames := F, cells := nx g' - nx g, slots := sl g' - sl g, locals := Lw }
/-- y, called with as at the heap g, answers and leaves what o says -/
def MA (l : Launch) (κ : KK) (PP : KK → HP → Heap → Prop) (y : MethodName) (cc : ByteArray) (nL : Nat) (ret : Option FieldType) (F Lw : Nat) (as : List VV) (g : HP) (o : Option (Option VV × HP)) : Prop :=
  ∀ a, o = some a → nx g ≤ nx a.2 ∧ sl g ≤ sl a.2 ∧ Met l y (.code y cc nL ret :: gtbl) (rmM F Lw g a.2) (PcM κ (PP κ) as g) (QcM κ (PP κ) a.1 a.2) (nx a.2 - nx g) (sl a.2 - sl g) (fun q => kb κ ≤ q)
def MM (l : Launch) (PP : KK → HP → Heap → Prop) (y : MethodName) (cc : ByteArray) (nL : Nat) (ret : Option FieldType) (F Lw : Nat) (as : List VV) (g : HP) (o : Option (Option VV × HP)) : Prop := ∀ κ, MA l κ PP y cc nL ret F Lw as g o
/-- the kinds of answer -/
def wI (g : HP) (o : Option Int32) : Option (Option VV × HP) := o.map fun x => (some (vI x), g)
def wR (g : HP) (o : Option (Option Nat)) : Option (Option VV × HP) := o.map fun x => (some (vR x), g)
def wJ (g : HP) (o : Option Int64) : Option (Option VV × HP) := o.map fun x => (some (vJ x), g)
def wIg (o : Option (Int32 × HP)) : Option (Option VV × HP) := o.map fun x => (some (vI x.1), x.2)
def wRg (o : Option (Option Nat × HP)) : Option (Option VV × HP) := o.map fun x => (some (vR x.1), x.2)
def wJg (o : Option (Int64 × HP)) : Option (Option VV × HP) := o.map fun x => (some (vJ x.1), x.2)
def wDg (o : Option (UInt64 × HP)) : Option (Option VV × HP) := o.map fun x => (some (vD x.1), x.2)
def wVg (o : Option HP) : Option (Option VV × HP) := o.map fun x => (none, x)
/-- what the tables say of a method: its code, its class, how many arguments -/
def MF (y : MethodName) (cc : ByteArray) (nL : Nat) (ret : Option FieldType) (n : Nat) : Prop :=
  Cond.code y cc nL ret ∈ gtbl ∧ Cond.initialized y.cls ∈ gtbl ∧ (y.cls ≠ "java/lang/invoke/MethodHandle" ∧ y.cls ≠ "java/lang/invoke/VarHandle" ∧ (parseMethodDescriptor y.desc).map (fun d => d.parameters.length) = some n) ∧ plainName y.cls = true
theorem KX.at {κ : KK} {s U : State} {H : Heap} (h : KX κ s s.heap) (hU : U.heap = H) (hW : s.WarmedH U.vm) (hq : ∀ q, q < kb κ → H[q]? = s.heap[q]?) (hk : kb κ ≤ H.size) : KX κ U U.heap := by
  rw [hU]
  exact h.moved hW.alike (fun k => k.warm hW) hq hk
theorem PcM_blind (κ : KK) (P : HP → Heap → Prop) (as : List VV) (g : HP) : FrameBlind (PcM κ P as g) := by
  intro a U f mk h
  obtain ⟨h1, h2, h3⟩ := h
  exact ⟨h1, KX.moved (u := U) (U := U.calling f mk a) h2 (Vm.Alike.refl U.vm) (fun k => KN.same (u := U) (U := U.calling f mk a) rfl k) (fun _ _ => rfl) h2.2.2.2.2.1, h3⟩
section CallRules
variable {Γ : GG} {cc : ByteArray} {nL : Nat} {own : String} {PP : KK → HP → Heap → Prop} {okb : Nat → Bool} {rf rl : Nat} {pc : Nat} {L L' : LL} {st rest : List VV} {g g1 : HP} {φ φ1 φ2 : Prop}
def retst (r : Option VV) (rest : List VV) : List VV := match r with
  | none => rest
  | some v => v :: rest
/-- behind a call -/
theorem run_X (C : CX Γ cc nL own PP okb rf rl) {H : Heap} {locs : List Loc} {ls : Array Slot} (A : At1 Γ L g H locs ls) {r : Option VV} {a : Array Value} (hn : nx g ≤ nx g1) (hs : sl g ≤ sl g1) {f : JFrame} (ef : ({ f with pc := f.pc + 3, stack := r.toList.map vv ++ rest.map vv } : JFrame) = F0 (gM Γ) (pc + 3) ls ((retst r rest).map vv))
    (hr : va_Run (gP Γ) (gL Γ) (gE Γ) (gR Γ) (gS Γ) (gM Γ) (gA Γ) (gB Γ) (gMe Γ) (gC Γ) H locs (nx g - gn0 Γ) (sl g - gs0 Γ) (nx g1 - nx g) (sl g1 - sl g) f (rest.map vv) (QcM (gK Γ) (PP (gK Γ)) r g1 a) (fun q => kb (gK Γ) ≤ q))
    (k : ∀ (H : Heap) (locs : List Loc) (ls : Array Slot), At1 Γ L g1 H locs ls → WG Γ H locs (nx g1 - gn0 Γ) (sl g1 - gs0 Γ) (F0 (gM Γ) (pc + 3) ls ((retst r rest).map vv))) :
    WG Γ H locs (nx g - gn0 Γ) (sl g - gs0 Γ) f := by
  intro T hT X0
  obtain ⟨v, st₀, t, T', Lc, e0, X', hLc, eh, ev, ⟨q1, q2, q3, q4⟩, hgo⟩ := hr T hT X0
  have a1 := A.n0
  have a2 := A.s0
  have ec : nx g - gn0 Γ + (nx g1 - nx g) = nx g1 - gn0 Γ := by omega
  have es : sl g - gs0 Γ + (sl g1 - sl g) = sl g1 - gs0 Γ := by omega
  rw [ec, es] at X'
  have hv : v = r.map vv := by injection q1
  have hA : At1 Γ L g1 T'.heap (locs ++ Lc) ls := by
    refine ⟨Nat.le_trans a1 hn, Nat.le_trans a2 hs, by rw [C.pp, eh]; exact q3, fun q hq => ?_, fun z hz => ?_, A.lv⟩
    · rw [eh, q4 q hq, e0]; exact A.fr q hq
    · rcases List.mem_append.mp hz with hz | hz
      · exact A.lo z hz
      · exact hLc z hz
  obtain ⟨t2, b1, b2⟩ := k T'.heap _ ls hA T' rfl X'
  refine ⟨t2, hgo _ ?_, b2⟩
  have : v.toList = r.toList.map vv := by rw [hv]; cases r <;> rfl
  rw [this, ef]
  exact b1
theorem map_app_rev (as : List VV) (x : List VV) : (as.reverse ++ x).map vv = (as.map vv).reverse ++ x.map vv := by rw [List.map_append, List.map_reverse]
theorem cat_sum (rest : List VV) : ((rest.map vv).map fun v => v.category) = rest.map vc := by
  rw [List.map_map]
  congr 1
  funext v
  exact vv_cat v
theorem ret_st (r : Option VV) (rest : List VV) : r.toList.map vv ++ rest.map vv = (retst r rest).map vv := by cases r <;> rfl
variable {y : MethodName} {cc' : ByteArray} {nL' F Lw n index : Nat} {ret : Option FieldType} {As : List VV} {b : Nat} {o : Option (Option VV × HP)}
theorem z_callV (C : CX Γ cc nL own PP okb rf rl) {ci N : Nat} {T : u_T} {ty : Nat → FieldType} (hcf : CF ci y.cls T N ty) (hm : MF y cc' nL' ret n) (hin : Cond.instanceMethod y ∈ gtbl) (hsel : Cond.selects y.cls y y ∈ gtbl) (hlink : Cond.methodLink own index y ∈ gtbl)
    (hM : MA (gL Γ) (gK Γ) PP y cc' nL' ret F Lw (vR (some b) :: As) g o) (ht : tg g b = ci + 1) (hn : As.length = n) (hR : F + 1 ≤ rf ∧ 8 + (nL' + 11) + Lw ≤ rl) (hst : st = As.reverse ++ vR (some b) :: rest) (hW : (rest.map vc).sum ≤ 8) (hdg : decode cc pc = .ok (.invokevirtual index, 3))
    {φ' : Option VV × HP → Prop} (hφ : φ → ∃ x, o = some x ∧ φ' x) (kk : ∀ x, X Γ (pc + 3) L (retst x.1 rest) x.2 (φ' x)) : X Γ pc L st g φ := fun h => by
  obtain ⟨x, hx, hf⟩ := hφ h
  obtain ⟨m1, m2, m3⟩ := hM x hx
  obtain ⟨b1, b2, b3⟩ := kk x hf
  refine ⟨Nat.le_trans m1 b1, Nat.le_trans m2 b2, fun H locs ls A => ?_⟩
  obtain ⟨cell, h1, h2, h3⟩ := C.po.recv A.pic ht hcf.2.2.2.2.1
  have hca := (C.kx.1.1 ci _ hcf.1).2
  have hkb := (C.po.sz A.pic).2
  have hz := (C.po.sz A.pic).1
  have a1 := A.n0
  have a2 := A.s0
  have hrc := C.rc
  have hrs := C.rs
  have hP : PP (gK Γ) g H := by have := A.pic; rw [C.pp] at this; exact this
  refine run_X C A (r := x.1) (rest := rest) (a := (Value.ref b :: As.map vv).toArray) m1 m2 ?_ (va_runV C.fix m3 (cwV n C.hts (gtbl_in fun w hw => ?_) rfl rfl rfl ⟨rfl, hm.2.2.1⟩ ?_) ⟨PcM_blind _ _ _ _, ⟨cell, h1, h2, by rw [h3]; exact hca.1⟩, fun U hU hW => ⟨rfl, C.kx.at hU hW A.fr (by rw [hz]; exact hkb), by rw [hU]; exact hP⟩⟩ rfl ?_ ?_ ?_ ?_ hdg ?_) b3
  · show F0 (gM Γ) (pc + 3) ls _ = _
    rw [ret_st]
  · unfold wsV at hw
    simp only [List.mem_append, List.mem_cons, List.not_mem_nil, or_false] at hw
    rcases hw with (rfl | rfl | rfl | rfl) | rfl | hw
    · exact hlink
    · exact hin
    · exact hsel
    · exact hm.2.1
    · exact hm.1
    · exact hw
  · rw [C.hrf, C.hrl]; exact hR
  · rw [List.length_map]; exact hn
  · show ls.size = nL
    rw [A.lv.1]; exact C.ml
  · show st.map vv = _
    rw [hst, map_app_rev]; rfl
  · show 2 * 0 + _ ≤ 8
    rw [cat_sum]; omega
  · constructor <;> omega
theorem z_callS (C : CX Γ cc nL own PP okb rf rl) (hown : y.cls = own) (hm : MF y cc' nL' ret n) (hin : Cond.static y ∈ gtbl) (hlink : Cond.methodLink own index y ∈ gtbl)
    (hM : MA (gL Γ) (gK Γ) PP y cc' nL' ret F Lw As g o) (hn : As.length = n) (hR : F + 1 ≤ rf ∧ 8 + (nL' + 11) + Lw ≤ rl) (hst : st = As.reverse ++ rest) (hW : (rest.map vc).sum ≤ 8) (hdg : decode cc pc = .ok (.invokestatic index, 3))
    {φ' : Option VV × HP → Prop} (hφ : φ → ∃ x, o = some x ∧ φ' x) (kk : ∀ x, X Γ (pc + 3) L (retst x.1 rest) x.2 (φ' x)) : X Γ pc L st g φ := fun h => by
  obtain ⟨x, hx, hf⟩ := hφ h
  obtain ⟨m1, m2, m3⟩ := hM x hx
  obtain ⟨b1, b2, b3⟩ := kk x hf
  refine ⟨Nat.le_trans m1 b1, Nat.le_trans m2 b2, fun H locs ls A => ?_⟩
  have hkb := (C.po.sz A.pic).2
  have hz := (C.po.sz A.pic).1
  have a1 := A.n0
  have a2 := A.s0
  have hrc := C.rc
  have hrs := C.rs
  have hP : PP (gK Γ) g H := by have := A.pic; rw [C.pp] at this; exact this
  refine run_X C A (r := x.1) (rest := rest) (a := (As.map vv).toArray) m1 m2 ?_ (va_runS C.fix m3 (cwS n C.hts (gtbl_in fun w hw => ?_) rfl rfl rfl ⟨hown, hm.2.2.1⟩ ?_) ⟨PcM_blind _ _ _ _, fun U hU hW => ⟨rfl, C.kx.at hU hW A.fr (by rw [hz]; exact hkb), by rw [hU]; exact hP⟩⟩ rfl ?_ ?_ ?_ ?_ hdg ?_) b3
  · show F0 (gM Γ) (pc + 3) ls _ = _
    rw [ret_st]
  · unfold wsS at hw
    simp only [List.mem_append, List.mem_cons, List.not_mem_nil, or_false] at hw
    rcases hw with (rfl | rfl | rfl) | rfl | hw
    · exact hlink
    · exact hin
    · rw [← hown]; exact hm.2.1
    · exact hm.1
    · exact hw
  · rw [C.hrf, C.hrl]; exact hR
  · rw [List.length_map]; exact hn
  · show ls.size = nL
    rw [A.lv.1]; exact C.ml
  · show st.map vv = _
    rw [hst, map_app_rev]
  · show 2 * 0 + _ ≤ 8
    rw [cat_sum]; omega
  · constructor <;> omega
theorem z_callI (C : CX Γ cc nL own PP okb rf rl) (hm : MF y cc' nL' none n) (hin : Cond.instanceMethod y ∈ gtbl) (hnm : y.name = "<init>") (hlink : Cond.methodLink own index y ∈ gtbl)
    (hM : MA (gL Γ) (gK Γ) PP y cc' nL' none F Lw (vR (some b) :: As) g o) (hn : As.length = n) (hR : F + 1 ≤ rf ∧ 8 + (nL' + 11) + Lw ≤ rl) (hst : st = As.reverse ++ vR (some b) :: rest) (hW : (rest.map vc).sum ≤ 8) (hdg : decode cc pc = .ok (.invokespecial index, 3))
    {φ' : Option VV × HP → Prop} (hφ : φ → ∃ x, o = some x ∧ φ' x) (kk : ∀ x, X Γ (pc + 3) L (retst x.1 rest) x.2 (φ' x)) : X Γ pc L st g φ := fun h => by
  obtain ⟨x, hx, hf⟩ := hφ h
  obtain ⟨m1, m2, m3⟩ := hM x hx
  obtain ⟨b1, b2, b3⟩ := kk x hf
  refine ⟨Nat.le_trans m1 b1, Nat.le_trans m2 b2, fun H locs ls A => ?_⟩
  have hkb := (C.po.sz A.pic).2
  have hz := (C.po.sz A.pic).1
  have a1 := A.n0
  have a2 := A.s0
  have hrc := C.rc
  have hrs := C.rs
  have hP : PP (gK Γ) g H := by have := A.pic; rw [C.pp] at this; exact this
  refine run_X C A (r := x.1) (rest := rest) (a := (Value.ref b :: As.map vv).toArray) m1 m2 ?_ (va_runI C.fix m3 (cwI n C.hts (gtbl_in fun w hw => ?_) rfl rfl rfl (C.hts _ hm.2.1) (C.hts _ hlink) (C.hts _ hin) hnm hm.2.2.1 ?_) ⟨PcM_blind _ _ _ _, fun U hU hW => ⟨rfl, C.kx.at hU hW A.fr (by rw [hz]; exact hkb), by rw [hU]; exact hP⟩⟩ rfl ?_ ?_ ?_ ?_ hdg ?_) b3
  · show F0 (gM Γ) (pc + 3) ls _ = _
    rw [ret_st]
  · rcases List.mem_cons.mp hw with rfl | hw
    · exact hm.1
    · exact hw
  · rw [C.hrf, C.hrl]; exact hR
  · rw [List.length_map]; exact hn
  · show ls.size = nL
    rw [A.lv.1]; exact C.ml
  · show st.map vv = _
    rw [hst, map_app_rev]; rfl
  · show 2 * 0 + _ ≤ 8
    rw [cat_sum]; omega
  · constructor <;> omega
theorem z_callSX (C : CX Γ cc nL own PP okb rf rl) (hm : MF y cc' nL' ret n) (hin : Cond.static y ∈ gtbl) (hlink : Cond.methodLink own index y ∈ gtbl)
    (hM : MA (gL Γ) (gK Γ) PP y cc' nL' ret F Lw As g o) (hn : As.length = n) (hR : F + 1 ≤ rf ∧ 8 + (nL' + 11) + Lw ≤ rl) (hst : st = As.reverse ++ rest) (hW : (rest.map vc).sum ≤ 8) (hdg : decode cc pc = .ok (.invokestatic index, 3))
    {φ' : Option VV × HP → Prop} (hφ : φ → ∃ x, o = some x ∧ φ' x) (kk : ∀ x, X Γ (pc + 3) L (retst x.1 rest) x.2 (φ' x)) : X Γ pc L st g φ := fun h => by
  obtain ⟨x, hx, hf⟩ := hφ h
  obtain ⟨m1, m2, m3⟩ := hM x hx
  obtain ⟨b1, b2, b3⟩ := kk x hf
  refine ⟨Nat.le_trans m1 b1, Nat.le_trans m2 b2, fun H locs ls A => ?_⟩
  have hkb := (C.po.sz A.pic).2
  have hz := (C.po.sz A.pic).1
  have a1 := A.n0
  have a2 := A.s0
  have hrc := C.rc
  have hrs := C.rs
  have hP : PP (gK Γ) g H := by have := A.pic; rw [C.pp] at this; exact this
  have hw : ∀ w ∈ Cond.code y cc' nL' ret :: gtbl, w ∈ gtbl := fun w hw => by
    rcases List.mem_cons.mp hw with rfl | hw
    · exact hm.1
    · exact hw
  refine run_X C A (r := x.1) (rest := rest) (a := (As.map vv).toArray) m1 m2 ?_ (va_runS (n := n) C.fix m3 ⟨⟨rfl, rfl, ?_, ?_, fun w h2 a' U hW => word_at hW (good_of_word (gtbl_good w (hw w h2))) (C.hts w (hw w h2)), List.mem_cons_self, C.hts _ hm.1, C.hts _ hm.2.1, ⟨hm.2.2.1.1, hm.2.2.1.2.1⟩, fun sig hs => ?_, C.hts _ hlink⟩, C.hts _ hin⟩ ⟨PcM_blind _ _ _ _, fun U hU hW => ⟨rfl, C.kx.at hU hW A.fr (by rw [hz]; exact hkb), by rw [hU]; exact hP⟩⟩ rfl ?_ ?_ ?_ ?_ hdg ?_) b3
  · show F0 (gM Γ) (pc + 3) ls _ = _
    rw [ret_st]
  · rw [C.hrf]; exact hR.1
  · rw [C.hrl]; exact hR.2
  · have := hm.2.2.1.2.2
    rw [hs] at this
    exact (Option.some.inj this).symm
  · rw [List.length_map]; exact hn
  · show ls.size = nL
    rw [A.lv.1]; exact C.ml
  · show st.map vv = _
    rw [hst, map_app_rev]
  · show 2 * 0 + _ ≤ 8
    rw [cat_sum]; omega
  · constructor <;> omega
theorem z_callIN (C : CX Γ cc nL own PP okb rf rl) {host : String} (hm : MF y cc' nL' none n) (hin : Cond.instanceMethod y ∈ gtbl) (hnm : y.name = "<init>") (hlink : Cond.methodLinkNest own index y host ∈ nestW)
    (hM : MA (gL Γ) (gK Γ) PP y cc' nL' none F Lw (vR (some b) :: As) g o) (hn : As.length = n) (hR : F + 1 ≤ rf ∧ 8 + (nL' + 11) + Lw ≤ rl) (hst : st = As.reverse ++ vR (some b) :: rest) (hW : (rest.map vc).sum ≤ 8) (hdg : decode cc pc = .ok (.invokespecial index, 3))
    {φ' : Option VV × HP → Prop} (hφ : φ → ∃ x, o = some x ∧ φ' x) (kk : ∀ x, X Γ (pc + 3) L (retst x.1 rest) x.2 (φ' x)) : X Γ pc L st g φ := fun h => by
  obtain ⟨x, hx, hf⟩ := hφ h
  obtain ⟨m1, m2, m3⟩ := hM x hx
  obtain ⟨b1, b2, b3⟩ := kk x hf
  refine ⟨Nat.le_trans m1 b1, Nat.le_trans m2 b2, fun H locs ls A => ?_⟩
  have hkb := (C.po.sz A.pic).2
  have hz := (C.po.sz A.pic).1
  have a1 := A.n0
  have a2 := A.s0
  have hrc := C.rc
  have hrs := C.rs
  have hP : PP (gK Γ) g H := by have := A.pic; rw [C.pp] at this; exact this
  have hw : ∀ w ∈ Cond.code y cc' nL' none :: gtbl, w ∈ gtbl := fun w hw => by
    rcases List.mem_cons.mp hw with rfl | hw
    · exact hm.1
    · exact hw
  refine run_X C A (r := x.1) (rest := rest) (a := (Value.ref b :: As.map vv).toArray) m1 m2 ?_ (va_runIN (n := n) (host := host) C.fix m3 ⟨va_cnB n C.hts (gtbl_in hw) rfl rfl rfl (C.kx.2.2.2.2.2.2.2.2 _ hlink) (C.hts _ hm.2.1) hm.2.2.1 ?_, hnm, C.hts _ hin⟩ ⟨PcM_blind _ _ _ _, fun U hU hW => ⟨rfl, C.kx.at hU hW A.fr (by rw [hz]; exact hkb), by rw [hU]; exact hP⟩⟩ rfl ?_ ?_ ?_ ?_ hdg ?_) b3
  · show F0 (gM Γ) (pc + 3) ls _ = _
    rw [ret_st]
  · rw [C.hrf, C.hrl]; exact hR
  · rw [List.length_map]; exact hn
  · show ls.size = nL
    rw [A.lv.1]; exact C.ml
  · show st.map vv = _
    rw [hst, map_app_rev]; rfl
  · show 2 * 0 + _ ≤ 8
    rw [cat_sum]; omega
  · constructor <;> omega
end CallRules
end
section
/-- how a method's walk ends -/
def RX (Γ : GG) (PP : KK → HP → Heap → Prop) (ret : Option FieldType) (fin : Option VV × HP) : Prop :=
  gQ Γ = MQ (gB Γ) (QcM (gK Γ) (PP (gK Γ)) fin.1 fin.2) (gA Γ) (gS Γ) (gtn Γ - gn0 Γ) (gts Γ - gs0 Γ) (fun q => kb (gK Γ) ≤ q) ∧ (gMe Γ).sig.returnType = ret ∧ gtn Γ = nx fin.2 ∧ gts Γ = sl fin.2
section Rets
variable {Γ : GG} {cc : ByteArray} {nL : Nat} {own : String} {PP : KK → HP → Heap → Prop} {okb : Nat → Bool} {rf rl : Nat} {pc : Nat} {L : LL} {g : HP} {φ : Prop} {ret : Option FieldType} {fin : Option VV × HP}
theorem ret_core (C : CX Γ cc nL own PP okb rf rl) (Z : RX Γ PP ret fin) {st : List VV} {r : Option VV} (hφ : φ → fin = (r, g))
    (hw : ∀ (H : Heap) (locs : List Loc) (ls : Array Slot), At1 Γ L g H locs ls → ∀ Qc : Array Value → State → Outcome → State → Prop, (∀ t : State, t.heap = H → (gS Γ).WarmedH t.vm → Qc (gA Γ) (gS Γ) (.returned (r.map vv)) t) → W (gP Γ) (gL Γ) (gE Γ) (gR Γ) (gS Γ) (gM Γ) (gA Γ) (gB Γ) (gMe Γ) (gC Γ) H locs (nx g - gn0 Γ) (sl g - gs0 Γ) (MQ (gB Γ) Qc (gA Γ) (gS Γ) (nx g - gn0 Γ) (sl g - gs0 Γ) (fun q => kb (gK Γ) ≤ q)) (F0 (gM Γ) pc ls (st.map vv))) :
    X Γ pc L st g φ := fun h => by
  have e := hφ h
  obtain ⟨z1, z2, z3, z4⟩ := Z
  subst e
  refine ⟨Nat.le_of_eq z3.symm, Nat.le_of_eq z4.symm, fun H locs ls A => ?_⟩
  unfold WG
  rw [z1, z3, z4]
  refine hw H locs ls A _ fun t ht hW => ⟨rfl, ?_, ?_, fun q hq => by rw [ht]; exact A.fr q hq⟩
  · exact C.kx.at ht hW A.fr (by rw [(C.po.sz A.pic).1]; exact (C.po.sz A.pic).2)
  · rw [ht]
    have := A.pic
    rw [C.pp] at this
    exact this
theorem z_iret (C : CX Γ cc nL own PP okb rf rl) (Z : RX Γ PP ret fin) (hret : ret = some .int) {x : Int32} (hdg : decode cc pc = .ok (.ireturn, 1)) (hφ : φ → fin = (some (vI x), g)) : X Γ pc L [vI x] g φ :=
  ret_core C Z hφ fun H locs ls A Qc hq => W.iret C.exec C.code (Z.2.1.trans hret) hq A.lo hdg C.locks
theorem z_zret (C : CX Γ cc nL own PP okb rf rl) (Z : RX Γ PP ret fin) (hret : ret = some .boolean) {x : Int32} (hdg : decode cc pc = .ok (.ireturn, 1)) (hx : φ → x = 0 ∨ x = 1) (hφ : φ → fin = (some (vI x), g)) : X Γ pc L [vI x] g φ := fun h =>
  ret_core C Z hφ (fun H locs ls A Qc hq => W.zret C.exec C.code (Z.2.1.trans hret) (nar_Z (hx h)).1 hq A.lo hdg C.locks) h
theorem z_aret (C : CX Γ cc nL own PP okb rf rl) (Z : RX Γ PP ret fin) {rt : FieldType} (hret : ret = some rt) (hrt : (∃ n, rt = .object n) ∨ ∃ t, rt = .array t) {x : Option Nat} (hdg : decode cc pc = .ok (.areturn, 1)) (hφ : φ → fin = (some (vR x), g)) : X Γ pc L [vR x] g φ :=
  ret_core C Z hφ fun H locs ls A Qc hq => W.aret C.exec C.code (Z.2.1.trans hret) hrt (by cases x with | none => exact Or.inl rfl | some a => exact Or.inr ⟨a, rfl⟩) hq A.lo hdg C.locks
theorem z_lret (C : CX Γ cc nL own PP okb rf rl) (Z : RX Γ PP ret fin) (hret : ret = some .long) {x : Int64} (hdg : decode cc pc = .ok (.lreturn, 1)) (hφ : φ → fin = (some (vJ x), g)) : X Γ pc L [vJ x] g φ :=
  ret_core C Z hφ fun H locs ls A Qc hq => W.lret C.exec C.code (Z.2.1.trans hret) hq A.lo hdg C.locks
theorem z_dret (C : CX Γ cc nL own PP okb rf rl) (Z : RX Γ PP ret fin) (hret : ret = some .double) {x : UInt64} (hdg : decode cc pc = .ok (.dreturn, 1)) (hφ : φ → fin = (some (vD x), g)) : X Γ pc L [vD x] g φ :=
  ret_core C Z hφ fun H locs ls A Qc hq => W.dret C.exec C.code (Z.2.1.trans hret) hq A.lo hdg C.locks
theorem z_vret (C : CX Γ cc nL own PP okb rf rl) (Z : RX Γ PP ret fin) (hret : ret = none) (hdg : decode cc pc = .ok (.return_, 1)) (hφ : φ → fin = (none, g)) : X Γ pc L [] g φ :=
  ret_core C Z hφ fun H locs ls A Qc hq => W.vret C.exec C.code (Z.2.1.trans hret) hq A.lo hdg C.locks
end Rets
def retZ (x : Int32) : Option Int32 := if x = 0 ∨ x = 1 then some x else none
theorem retZ_of {x y : Int32} (h : retZ x = some y) : (x = 0 ∨ x = 1) ∧ x = y := by
  unfold retZ at h
  split at h
  · rename_i hc
    exact ⟨hc, Option.some.inj h⟩
  · cases h
/-- where the arguments come to lie -/
def entL : Nat → List VV → LL
  | _, [] => []
  | i, v :: vs => (i, v) :: entL (if vc v = 2 then i + 2 else i + 1) vs
theorem entL_eq : ∀ (vs : List VV) (i : Nat), lv_args i (vs.map vv) = lvv (entL i vs)
  | [], _ => rfl
  | v :: vs, i => by
    show (i, vv v) :: lv_args (if (vv v).category = 2 then i + 2 else i + 1) (vs.map vv) = (i, vv v) :: lvv (entL (if vc v = 2 then i + 2 else i + 1) vs)
    rw [vv_cat, entL_eq vs]
def okAll : Nat → Bool := fun _ => true
theorem lg_len : ∀ as : List VV, (lg_sl (as.map vv)).length = (as.map vc).sum
  | [] => rfl
  | v :: vs => by
    have ih := lg_len vs
    have e : lg_sl ((v :: vs).map vv) = (if (vv v).category = 2 then [Slot.val (vv v), Slot.second] else [Slot.val (vv v)]) ++ lg_sl (vs.map vv) := rfl
    rw [e, List.length_append, ih, vv_cat]
    rcases v with x | (_ | a) | x | x <;> simp [vc]
/-- a contract out of a walk -/
theorem MA_of {l : Launch} {κ : KK} {PP : KK → HP → Heap → Prop} {okb : Nat → Bool} (hPO : PO κ (PP κ) okb) {y : MethodName} {cc : ByteArray} {nL n : Nat} {ret : Option FieldType} {F Lw : Nat} {as : List VV} {g : HP} {o : Option (Option VV × HP)} (hm : MF y cc nL ret n)
    (hmono : ∀ a, o = some a → nx g ≤ nx a.2 ∧ sl g ≤ sl a.2) (hlen : (as.map vc).sum ≤ nL)
    (body : ∀ (Γ : GG) (fin : Option VV × HP), o = some fin → gL Γ = l → gK Γ = κ → (gMe Γ).name = y.name → CX Γ cc nL y.cls PP okb F Lw → RX Γ PP ret fin → X Γ 0 (entL 0 as) [] g True) : MA l κ PP y cc nL ret F Lw as g o := by
  intro a ha
  obtain ⟨m1, m2⟩ := hmono a ha
  refine ⟨m1, m2, Met.ofW (cc := cc) (maxL := nL) (ret := ret) hm.2.2.2 rfl ?_⟩
  intro p e s m args below meth c s₁ B hml hv
  obtain ⟨rfl, hK, hP⟩ := hv
  have hts : ∀ w ∈ Cond.code y cc nL ret :: gtbl, w.before (as.map vv).toArray s = true := atoms_spec (ws := Cond.code y cc nL ret :: gtbl) B.pre
  have hown : s.vm.findClass y.cls = some m.cls := findClass_of_methodNamed B.named
  have hname : meth.name = y.name := (name_of_methodNamed B.named B.method).1
  have hl := lv_entry (as.map vv) (n := nL) (by rw [lg_len]; exact hlen)
  rw [lg_entry_eq]
  generalize (lg_sl (as.map vv) ++ List.replicate (nL - (lg_sl (as.map vv)).length) Slot.unset).toArray = ls at hl ⊢
  rw [entL_eq] at hl
  have CC : CX (p, l, e, rmM F Lw g a.2, s, m, (as.map vv).toArray, below, meth, c, κ, PP κ, MQ below (QcM κ (PP κ) a.1 a.2) (as.map vv).toArray s (nx a.2 - nx g) (sl a.2 - sl g) (fun q => kb κ ≤ q), nx g, sl g, nx a.2, sl a.2) cc nL y.cls PP okb F Lw :=
    ⟨B.exec, B.bytes, hml, hown, fun w hw => hts w (List.mem_cons_of_mem _ hw), hK, hPO, B.notSynchronized, Nat.le_refl _, Nat.le_refl _, rfl, rfl, rfl⟩
  obtain ⟨b1, b2, b3⟩ := body _ a ha (by rfl) (by rfl) (by exact hname) CC ⟨rfl, B.returns, rfl, rfl⟩ trivial
  have := b3 s.heap [] ls ⟨Nat.le_refl _, Nat.le_refl _, hP, fun _ _ => rfl, fun z hz => (by cases hz), by show lv_has ls c.maxLocals _; rw [hml]; exact hl⟩
  have e1 : nx g - nx g = 0 := Nat.sub_self _
  have e2 : sl g - sl g = 0 := Nat.sub_self _
  unfold WG at this
  rw [show gn0 (p, l, e, rmM F Lw g a.2, s, m, (as.map vv).toArray, below, meth, c, κ, PP κ, MQ below (QcM κ (PP κ) a.1 a.2) (as.map vv).toArray s (nx a.2 - nx g) (sl a.2 - sl g) (fun q => kb κ ≤ q), nx g, sl g, nx a.2, sl a.2) = nx g from rfl, show gs0 (p, l, e, rmM F Lw g a.2, s, m, (as.map vv).toArray, below, meth, c, κ, PP κ, MQ below (QcM κ (PP κ) a.1 a.2) (as.map vv).toArray s (nx a.2 - nx g) (sl a.2 - sl g) (fun q => kb κ ≤ q), nx g, sl g, nx a.2, sl a.2) = sl g from rfl, e1, e2] at this
  exact this
theorem MM_of {l : Launch} {PP : KK → HP → Heap → Prop} {okb : Nat → Bool} (hPO : ∀ κ, PO κ (PP κ) okb) {y : MethodName} {cc : ByteArray} {nL n : Nat} {ret : Option FieldType} {F Lw : Nat} {as : List VV} {g : HP} {o : Option (Option VV × HP)} (hm : MF y cc nL ret n)
    (hmono : ∀ a, o = some a → nx g ≤ nx a.2 ∧ sl g ≤ sl a.2) (hlen : (as.map vc).sum ≤ nL)
    (body : ∀ (Γ : GG) (fin : Option VV × HP), o = some fin → gL Γ = l → (gMe Γ).name = y.name → CX Γ cc nL y.cls PP okb F Lw → RX Γ PP ret fin → X Γ 0 (entL 0 as) [] g True) : MM l PP y cc nL ret F Lw as g o :=
  fun κ => MA_of (hPO κ) hm hmono hlen fun Γ fin h1 h2 _ h4 h5 h6 => body Γ fin h1 h2 h4 h5 h6
/-! what only grows -/
def Mono {α : Type} (g : HP) (h : α → HP) (o : Option α) : Prop := ∀ a, o = some a → nx g ≤ nx (h a) ∧ sl g ≤ sl (h a)
theorem mo_some {α : Type} {g : HP} {h : α → HP} {a : α} (e : h a = g) : Mono g h (some a) := fun b hb => by cases hb; rw [e]; exact ⟨Nat.le_refl _, Nat.le_refl _⟩
theorem mo_none {α : Type} {g : HP} {h : α → HP} : Mono g h none := fun b hb => by cases hb
theorem mo_ite {α : Type} {g : HP} {h : α → HP} {c : Prop} [Decidable c] {A B : Option α} (h1 : Mono g h A) (h2 : Mono g h B) : Mono g h (if c then A else B) := by
  by_cases hc : c
  · rw [if_pos hc]; exact h1
  · rw [if_neg hc]; exact h2
theorem mo_p {α β : Type} {g : HP} {h : α → HP} {o : Option β} {F : β → Option α} (k : ∀ x, Mono g h (F x)) : Mono g h (o.bind F) := fun a ha => by
  obtain ⟨x, h1, h2⟩ := bd ha
  exact k x a h2
theorem mo_h {α β : Type} {g : HP} {h : α → HP} {h0 : β → HP} {o : Option β} {F : β → Option α} (h1 : Mono g h0 o) (k : ∀ x, Mono (h0 x) h (F x)) : Mono g h (o.bind F) := fun a ha => by
  obtain ⟨x, e1, e2⟩ := bd ha
  have q1 := h1 x e1
  have q2 := k x a e2
  exact ⟨Nat.le_trans q1.1 q2.1, Nat.le_trans q1.2 q2.2⟩
theorem mo_new {α : Type} {g : HP} {h : α → HP} {t n : Nat} {il : List Int32} {ol : List (Option Nat)} {o : Option α} (k : Mono (newG g t n il ol) h o) : Mono g h o := fun a ha => by
  obtain ⟨h1, h2⟩ := k a ha
  have e1 : nx (newG g t n il ol) = nx g + 1 := rfl
  have e2 : sl (newG g t n il ol) = sl g + n := rfl
  omega
theorem mo_pfI {ci k : Nat} {r : Option Nat} {v : Int32} {g : HP} : Mono g id (pfI ci k r v g) := fun a ha => by
  unfold pfI at ha
  split at ha
  · cases ha
  · split at ha
    · cases ha; exact ⟨Nat.le_refl _, Nat.le_refl _⟩
    · cases ha
theorem mo_pfZ {ci k : Nat} {r : Option Nat} {v : Int32} {g : HP} : Mono g id (pfZ ci k r v g) := fun a ha => by
  unfold pfZ at ha
  split at ha
  · cases ha
  · split at ha
    · cases ha; exact ⟨Nat.le_refl _, Nat.le_refl _⟩
    · cases ha
theorem mo_pfR {ci k : Nat} {r v : Option Nat} {g : HP} : Mono g id (pfR ci k r v g) := fun a ha => by
  unfold pfR at ha
  split at ha
  · cases ha
  · split at ha
    · cases ha; exact ⟨Nat.le_refl _, Nat.le_refl _⟩
    · cases ha
theorem mo_stI {r : Option Nat} {i v : Int32} {g : HP} : Mono g id (stI r i v g) := fun a ha => by
  unfold stI at ha
  split at ha
  · cases ha
  · split at ha
    · cases ha; exact ⟨Nat.le_refl _, Nat.le_refl _⟩
    · cases ha
theorem mo_stZ {r : Option Nat} {i v : Int32} {g : HP} : Mono g id (stZ r i v g) := fun a ha => by
  unfold stZ at ha
  split at ha
  · cases ha
  · split at ha
    · cases ha; exact ⟨Nat.le_refl _, Nat.le_refl _⟩
    · cases ha
theorem mo_nwI {t : Nat} {n : Int32} {g : HP} : Mono g (fun x : Nat × HP => x.2) (nwI t n g) := fun a ha => by
  unfold nwI at ha
  split at ha
  · cases ha; exact ⟨Nat.le_succ _, Nat.le_add_right _ _⟩
  · cases ha
theorem mo_nwA {t : Nat} {n : Int32} {g : HP} : Mono g (fun x : Nat × HP => x.2) (nwA t n g) := fun a ha => by
  unfold nwA at ha
  split at ha
  · cases ha; exact ⟨Nat.le_succ _, Nat.le_add_right _ _⟩
  · cases ha
end
section
section More
variable {Γ : GG} {cc : ByteArray} {nL : Nat} {own : String} {PP : KK → HP → Heap → Prop} {okb : Nat → Bool} {rf rl : Nat} {pc : Nat} {L L' : LL} {st rest : List VV} {g : HP} {φ φ1 φ2 : Prop}
theorem X.no (h : φ → False) : X Γ pc L st g φ := fun hφ => (h hφ).elim
theorem no0 {α : Type} {a : α} (h : (none : Option α) = some a) : False := by cases h
theorem no1 {α β : Type} {F : α → Option β} {b : β} (h : (none : Option α).bind F = some b) : False := by cases h
theorem X.cs {c : Prop} [Decidable c] (h1 : φ → c → φ1) (h2 : φ → ¬ c → φ2) (k1 : c → X Γ pc L st g φ1) (k2 : ¬ c → X Γ pc L st g φ2) : X Γ pc L st g φ := fun hφ => by
  by_cases hc : c
  · exact k1 hc (h1 hφ hc)
  · exact k2 hc (h2 hφ hc)
theorem z_tin (C : CX Γ cc nL own PP okb rf rl) {dflt lo hi : Int} {offs : Array Int} {len : Nat} {x : Int32} (v : Int32) {off : Int} {tgt : Nat} (hdg : decode cc pc = .ok (.tableswitch dflt lo hi offs, len)) (hx : x = v) (h1 : ¬ v.toInt < lo) (h2 : ¬ hi < v.toInt) (ho : offs[(v.toInt - lo).toNat]? = some off) (ht : (pc : Int) + off = (tgt : Int))
    (k : X Γ tgt L st g φ) : X Γ pc L (vI x :: st) g φ := fun hφ => ⟨(k hφ).1, (k hφ).2.1, fun H locs ls A => by
  subst hx
  exact lv_tableIn C.exec C.code hdg h1 h2 ho ht ((k hφ).2.2 H locs ls A)⟩
theorem tsw_out {x : Int32} {hi : Nat} (hh : hi < 1000) (h : ∀ k, k ≤ hi → x ≠ Int32.ofNat k) : x.toInt < 0 ∨ (hi : Int) < x.toInt := by
  by_cases h0 : x.toInt < 0
  · exact Or.inl h0
  · refine Or.inr ?_
    by_cases h1 : (hi : Int) < x.toInt
    · exact h1
    · exfalso
      have hk : x.toInt.toNat ≤ hi := by omega
      refine h _ hk ?_
      apply Int32.toInt_inj.mp
      rw [Int32.toInt_ofNat_small (by omega)]
      omega
theorem z_tout (C : CX Γ cc nL own PP okb rf rl) {dflt lo hi : Int} {offs : Array Int} {len : Nat} {x : Int32} {tgt : Nat} (hdg : decode cc pc = .ok (.tableswitch dflt lo hi offs, len)) (h : x.toInt < lo ∨ hi < x.toInt) (ht : (pc : Int) + dflt = (tgt : Int)) (k : X Γ tgt L st g φ) : X Γ pc L (vI x :: st) g φ := fun hφ => ⟨(k hφ).1, (k hφ).2.1, fun H locs ls A =>
  lv_tableOut C.exec C.code hdg h ht ((k hφ).2.2 H locs ls A)⟩
def lpick (L : LL) (ks : List Nat) : LL := ks.filterMap fun k => L[k]?
theorem z_lsub (ks : List Nat) (hl : lpick L ks = L') (k : X Γ pc L' st g φ) : X Γ pc L st g φ := fun hφ => ⟨(k hφ).1, (k hφ).2.1, fun H locs ls A => (k hφ).2.2 H locs ls (A.ls (lv_sub A.lv ks (by
  rw [← hl]
  unfold lv_pick lpick lvv
  rw [List.map_filterMap]
  congr 1
  funext i
  rw [List.getElem?_map])))⟩
theorem z_objInit (C : CX Γ cc nL own PP okb rf rl) {idx a : Nat} (hlink : Cond.methodLink own idx Lib.objectInit ∈ gtbl) (hinst : Cond.instanceMethod Lib.objectInit ∈ gtbl) (hcode : Cond.code Lib.objectInit ⟨#[0xb1]⟩ 1 none ∈ gtbl) (hdg : decode cc pc = .ok (.invokespecial idx, 3)) (hf : 1 ≤ rf) (hlo : (rest.map vc).sum + 12 ≤ rl)
    (k : X Γ (pc + 3) L rest g φ) : X Γ pc L (vR (some a) :: rest) g φ := fun hφ => ⟨(k hφ).1, (k hφ).2.1, fun H locs ls A => W.objInit C.exec C.code C.ow (C.hts _ hlink) (C.hts _ hinst) (C.hts _ hcode) rfl (by show ls.size = _; exact A.lv.1) rfl hdg (by rw [C.hrf]; exact hf) (by
    show 2 * 0 + ((rest.map vv).map fun v => v.category).sum + 12 ≤ _
    rw [cat_sum, C.hrl]; omega) ((k hφ).2.2 H locs ls A)⟩
theorem z_mmax (C : CX Γ cc nL own PP okb rf rl) {index : Nat} {x y : Int32} (hlink : Cond.methodLink own index Lib.Math.max.name ∈ gtbl) (hstat : Cond.static Lib.Math.max.name ∈ gtbl) (hini : Cond.initialized "java/lang/Math" ∈ gtbl) (hcode : Cond.code Lib.Math.max.name Lib.Math.max.code 2 (some .int) ∈ gtbl) (hdg : decode cc pc = .ok (.invokestatic index, 3)) (hf : 1 ≤ rf) (hlo : (rest.map vc).sum + 13 ≤ rl)
    (k : X Γ (pc + 3) L (vI (if x < y then y else x) :: rest) g φ) : X Γ pc L (vI y :: vI x :: rest) g φ := fun hφ => ⟨(k hφ).1, (k hφ).2.1, fun H locs ls A => by
  have hrc := C.rc
  have hrs := C.rs
  have b1 := (k hφ).1
  have b2 := (k hφ).2.1
  exact va_mmax C.exec C.code A.lv.1.symm C.ow (C.hts _ hlink) (C.hts _ hstat) (C.hts _ hini) (C.hts _ hcode) (by rw [C.hrf]; exact hf) (by rw [cat_sum, C.hrl]; exact hlo) (by omega) (by omega) hdg ((k hφ).2.2 H locs ls A)⟩
theorem z_mmin (C : CX Γ cc nL own PP okb rf rl) {index : Nat} {x y : Int32} (hlink : Cond.methodLink own index Lib.Math.min.name ∈ gtbl) (hstat : Cond.static Lib.Math.min.name ∈ gtbl) (hini : Cond.initialized "java/lang/Math" ∈ gtbl) (hcode : Cond.code Lib.Math.min.name Lib.Math.min.code 2 (some .int) ∈ gtbl) (hdg : decode cc pc = .ok (.invokestatic index, 3)) (hf : 1 ≤ rf) (hlo : (rest.map vc).sum + 13 ≤ rl)
    (k : X Γ (pc + 3) L (vI (if y < x then y else x) :: rest) g φ) : X Γ pc L (vI y :: vI x :: rest) g φ := fun hφ => ⟨(k hφ).1, (k hφ).2.1, fun H locs ls A => by
  have hrc := C.rc
  have hrs := C.rs
  have b1 := (k hφ).1
  have b2 := (k hφ).2.1
  exact va_mmin C.exec C.code A.lv.1.symm C.ow (C.hts _ hlink) (C.hts _ hstat) (C.hts _ hini) (C.hts _ hcode) (by rw [C.hrf]; exact hf) (by rw [cat_sum, C.hrl]; exact hlo) (by omega) (by omega) hdg ((k hφ).2.2 H locs ls A)⟩
theorem z_mabs (C : CX Γ cc nL own PP okb rf rl) {index : Nat} {x : Int32} (hlink : Cond.methodLink own index Lib.Math.abs.name ∈ gtbl) (hstat : Cond.static Lib.Math.abs.name ∈ gtbl) (hini : Cond.initialized "java/lang/Math" ∈ gtbl) (hcode : Cond.code Lib.Math.abs.name Lib.Math.abs.code 1 (some .int) ∈ gtbl) (hdg : decode cc pc = .ok (.invokestatic index, 3)) (hf : 1 ≤ rf) (hlo : (rest.map vc).sum + 13 ≤ rl)
    (k : X Γ (pc + 3) L (vI (if 0 ≤ x then x else 0 - x) :: rest) g φ) : X Γ pc L (vI x :: rest) g φ := fun hφ => ⟨(k hφ).1, (k hφ).2.1, fun H locs ls A => by
  have hrc := C.rc
  have hrs := C.rs
  have b1 := (k hφ).1
  have b2 := (k hφ).2.1
  exact va_mabs C.exec C.code A.lv.1.symm C.ow (C.hts _ hlink) (C.hts _ hstat) (C.hts _ hini) (C.hts _ hcode) (by rw [C.hrf]; exact hf) (by rw [cat_sum, C.hrl]; exact hlo) (by omega) (by omega) hdg ((k hφ).2.2 H locs ls A)⟩
end More
theorem gtbl_priv {j : Nat} {q : MethodName × Nat} (h : lw_privs[j]? = some q) (hg : goodWord (Cond.selects q.1.cls q.1 q.1) = true) : Cond.selects q.1.cls q.1 q.1 ∈ gtbl :=
  gtbl_mem (List.mem_append.mpr (Or.inl (List.mem_map.mpr ⟨q, List.mem_of_getElem? h, rfl⟩))) hg
end
section
section Conts
variable {Γ : GG} {cc : ByteArray} {nL : Nat} {own : String} {PP : KK → HP → Heap → Prop} {okb : Nat → Bool} {rf rl : Nat} {pc : Nat} {L L' : LL} {st rest : List VV} {g : HP} {φ φ1 φ2 : Prop}
theorem X.join {τ β : Type} {F : τ → Option β} {fin : β} {B : Option τ} (pcj : Nat) (Lj : τ → LL) (Sj : τ → List VV) (gj : τ → HP) (hj : ∀ r, X Γ pcj (Lj r) (Sj r) (gj r) (F r = some fin)) (hB : (∀ r, X Γ pcj (Lj r) (Sj r) (gj r) (F r = some fin)) → X Γ pc L st g (B.bind F = some fin)) : X Γ pc L st g (B.bind F = some fin) := hB hj
theorem X.ne0 {β : Type} {x : Int32} {F : Int32 → Option β} {fin : β} (k : ¬ x = 0 → X Γ pc L st g (F 0 = some fin)) : X Γ pc L st g ((if x = 0 then none else some (0 : Int32)).bind F = some fin) := fun h => by
  by_cases hx : x = 0
  · rw [if_pos hx] at h; exact (no1 h).elim
  · rw [if_neg hx] at h; exact k hx h
theorem z_rcv {ci : Nat} {r : Option Nat} {φ' : Nat → Prop} (hφ : φ → ∃ b, rcv ci r g = some b ∧ φ' b) (kk : ∀ b, r = some b → tg g b = ci + 1 → X Γ pc L st g (φ' b)) : X Γ pc L st g φ := fun h => by
  obtain ⟨b, hb, hf⟩ := hφ h
  cases r with
  | none => cases hb
  | some a =>
    unfold rcv at hb
    dsimp only at hb
    by_cases ht : tg g a = ci + 1
    · rw [if_pos ht] at hb
      have e := Option.some.inj hb
      subst e
      exact kk a rfl ht hf
    · rw [if_neg ht] at hb; cases hb
theorem bdI {β : Type} {o : Option Int32} {F : Int32 → Option β} {r : β} (h : o.bind F = some r) : ∃ x : Option VV × HP, wI g o = some x ∧ ∃ v, x = (some (vI v), g) ∧ F v = some r := by
  obtain ⟨v, h1, h2⟩ := bd h
  exact ⟨_, by unfold wI; rw [h1]; rfl, v, rfl, h2⟩
theorem bdR {β : Type} {o : Option (Option Nat)} {F : Option Nat → Option β} {r : β} (h : o.bind F = some r) : ∃ x : Option VV × HP, wR g o = some x ∧ ∃ v, x = (some (vR v), g) ∧ F v = some r := by
  obtain ⟨v, h1, h2⟩ := bd h
  exact ⟨_, by unfold wR; rw [h1]; rfl, v, rfl, h2⟩
theorem bdJ {β : Type} {o : Option Int64} {F : Int64 → Option β} {r : β} (h : o.bind F = some r) : ∃ x : Option VV × HP, wJ g o = some x ∧ ∃ v, x = (some (vJ v), g) ∧ F v = some r := by
  obtain ⟨v, h1, h2⟩ := bd h
  exact ⟨_, by unfold wJ; rw [h1]; rfl, v, rfl, h2⟩
theorem bdIg {β : Type} {o : Option (Int32 × HP)} {F : Int32 × HP → Option β} {r : β} (h : o.bind F = some r) : ∃ x : Option VV × HP, wIg o = some x ∧ ∃ v : Int32 × HP, x = (some (vI v.1), v.2) ∧ F v = some r := by
  obtain ⟨v, h1, h2⟩ := bd h
  exact ⟨_, by unfold wIg; rw [h1]; rfl, v, rfl, h2⟩
theorem bdRg {β : Type} {o : Option (Option Nat × HP)} {F : Option Nat × HP → Option β} {r : β} (h : o.bind F = some r) : ∃ x : Option VV × HP, wRg o = some x ∧ ∃ v : Option Nat × HP, x = (some (vR v.1), v.2) ∧ F v = some r := by
  obtain ⟨v, h1, h2⟩ := bd h
  exact ⟨_, by unfold wRg; rw [h1]; rfl, v, rfl, h2⟩
theorem bdJg {β : Type} {o : Option (Int64 × HP)} {F : Int64 × HP → Option β} {r : β} (h : o.bind F = some r) : ∃ x : Option VV × HP, wJg o = some x ∧ ∃ v : Int64 × HP, x = (some (vJ v.1), v.2) ∧ F v = some r := by
  obtain ⟨v, h1, h2⟩ := bd h
  exact ⟨_, by unfold wJg; rw [h1]; rfl, v, rfl, h2⟩
theorem bdDg {β : Type} {o : Option (UInt64 × HP)} {F : UInt64 × HP → Option β} {r : β} (h : o.bind F = some r) : ∃ x : Option VV × HP, wDg o = some x ∧ ∃ v : UInt64 × HP, x = (some (vD v.1), v.2) ∧ F v = some r := by
  obtain ⟨v, h1, h2⟩ := bd h
  exact ⟨_, by unfold wDg; rw [h1]; rfl, v, rfl, h2⟩
theorem bdVg {β : Type} {o : Option HP} {F : HP → Option β} {r : β} (h : o.bind F = some r) : ∃ x : Option VV × HP, wVg o = some x ∧ ∃ v : HP, x = (none, v) ∧ F v = some r := by
  obtain ⟨v, h1, h2⟩ := bd h
  exact ⟨_, by unfold wVg; rw [h1]; rfl, v, rfl, h2⟩
theorem contI {ψ : Int32 → Prop} (k : ∀ v, X Γ pc L (vI v :: rest) g (ψ v)) : ∀ x : Option VV × HP, X Γ pc L (retst x.1 rest) x.2 (∃ v, x = (some (vI v), g) ∧ ψ v) := fun x h => by
  obtain ⟨v, rfl, h2⟩ := h
  exact k v h2
theorem contR {ψ : Option Nat → Prop} (k : ∀ v, X Γ pc L (vR v :: rest) g (ψ v)) : ∀ x : Option VV × HP, X Γ pc L (retst x.1 rest) x.2 (∃ v, x = (some (vR v), g) ∧ ψ v) := fun x h => by
  obtain ⟨v, rfl, h2⟩ := h
  exact k v h2
theorem contJ {ψ : Int64 → Prop} (k : ∀ v, X Γ pc L (vJ v :: rest) g (ψ v)) : ∀ x : Option VV × HP, X Γ pc L (retst x.1 rest) x.2 (∃ v, x = (some (vJ v), g) ∧ ψ v) := fun x h => by
  obtain ⟨v, rfl, h2⟩ := h
  exact k v h2
theorem contIg {ψ : Int32 × HP → Prop} (k : ∀ v, X Γ pc L (vI v.1 :: rest) v.2 (ψ v)) : ∀ x : Option VV × HP, X Γ pc L (retst x.1 rest) x.2 (∃ v : Int32 × HP, x = (some (vI v.1), v.2) ∧ ψ v) := fun x h => by
  obtain ⟨v, rfl, h2⟩ := h
  exact k v h2
theorem contRg {ψ : Option Nat × HP → Prop} (k : ∀ v, X Γ pc L (vR v.1 :: rest) v.2 (ψ v)) : ∀ x : Option VV × HP, X Γ pc L (retst x.1 rest) x.2 (∃ v : Option Nat × HP, x = (some (vR v.1), v.2) ∧ ψ v) := fun x h => by
  obtain ⟨v, rfl, h2⟩ := h
  exact k v h2
theorem contJg {ψ : Int64 × HP → Prop} (k : ∀ v, X Γ pc L (vJ v.1 :: rest) v.2 (ψ v)) : ∀ x : Option VV × HP, X Γ pc L (retst x.1 rest) x.2 (∃ v : Int64 × HP, x = (some (vJ v.1), v.2) ∧ ψ v) := fun x h => by
  obtain ⟨v, rfl, h2⟩ := h
  exact k v h2
theorem contDg {ψ : UInt64 × HP → Prop} (k : ∀ v, X Γ pc L (vD v.1 :: rest) v.2 (ψ v)) : ∀ x : Option VV × HP, X Γ pc L (retst x.1 rest) x.2 (∃ v : UInt64 × HP, x = (some (vD v.1), v.2) ∧ ψ v) := fun x h => by
  obtain ⟨v, rfl, h2⟩ := h
  exact k v h2
theorem contVg {ψ : HP → Prop} (k : ∀ v, X Γ pc L rest v (ψ v)) : ∀ x : Option VV × HP, X Γ pc L (retst x.1 rest) x.2 (∃ v : HP, x = (none, v) ∧ ψ v) := fun x h => by
  obtain ⟨v, rfl, h2⟩ := h
  exact k v h2
end Conts
theorem wI_some {g : HP} {o : Option Int32} {a : Option VV × HP} (h : wI g o = some a) : ∃ v, o = some v ∧ a = (some (vI v), g) := by cases o with | none => cases h | some v => exact ⟨v, rfl, (Option.some.inj h).symm⟩
theorem wR_some {g : HP} {o : Option (Option Nat)} {a : Option VV × HP} (h : wR g o = some a) : ∃ v, o = some v ∧ a = (some (vR v), g) := by cases o with | none => cases h | some v => exact ⟨v, rfl, (Option.some.inj h).symm⟩
theorem wJ_some {g : HP} {o : Option Int64} {a : Option VV × HP} (h : wJ g o = some a) : ∃ v, o = some v ∧ a = (some (vJ v), g) := by cases o with | none => cases h | some v => exact ⟨v, rfl, (Option.some.inj h).symm⟩
theorem wIg_some {o : Option (Int32 × HP)} {a : Option VV × HP} (h : wIg o = some a) : ∃ v, o = some v ∧ a = (some (vI v.1), v.2) := by cases o with | none => cases h | some v => exact ⟨v, rfl, (Option.some.inj h).symm⟩
theorem wRg_some {o : Option (Option Nat × HP)} {a : Option VV × HP} (h : wRg o = some a) : ∃ v, o = some v ∧ a = (some (vR v.1), v.2) := by cases o with | none => cases h | some v => exact ⟨v, rfl, (Option.some.inj h).symm⟩
theorem wJg_some {o : Option (Int64 × HP)} {a : Option VV × HP} (h : wJg o = some a) : ∃ v, o = some v ∧ a = (some (vJ v.1), v.2) := by cases o with | none => cases h | some v => exact ⟨v, rfl, (Option.some.inj h).symm⟩
theorem wDg_some {o : Option (UInt64 × HP)} {a : Option VV × HP} (h : wDg o = some a) : ∃ v, o = some v ∧ a = (some (vD v.1), v.2) := by cases o with | none => cases h | some v => exact ⟨v, rfl, (Option.some.inj h).symm⟩
theorem wVg_some {o : Option HP} {a : Option VV × HP} (h : wVg o = some a) : ∃ v, o = some v ∧ a = (none, v) := by cases o with | none => cases h | some v => exact ⟨v, rfl, (Option.some.inj h).symm⟩
theorem wI_same {g : HP} {o : Option Int32} (a : Option VV × HP) (h : wI g o = some a) : nx g ≤ nx a.2 ∧ sl g ≤ sl a.2 := by obtain ⟨v, -, rfl⟩ := wI_some h; exact ⟨Nat.le_refl _, Nat.le_refl _⟩
theorem wR_same {g : HP} {o : Option (Option Nat)} (a : Option VV × HP) (h : wR g o = some a) : nx g ≤ nx a.2 ∧ sl g ≤ sl a.2 := by obtain ⟨v, -, rfl⟩ := wR_some h; exact ⟨Nat.le_refl _, Nat.le_refl _⟩
theorem wJ_same {g : HP} {o : Option Int64} (a : Option VV × HP) (h : wJ g o = some a) : nx g ≤ nx a.2 ∧ sl g ≤ sl a.2 := by obtain ⟨v, -, rfl⟩ := wJ_some h; exact ⟨Nat.le_refl _, Nat.le_refl _⟩
theorem wIg_mono {g : HP} {o : Option (Int32 × HP)} (hm : Mono g (fun v => v.2) o) (a : Option VV × HP) (h : wIg o = some a) : nx g ≤ nx a.2 ∧ sl g ≤ sl a.2 := by obtain ⟨v, h1, rfl⟩ := wIg_some h; exact hm v h1
theorem wRg_mono {g : HP} {o : Option (Option Nat × HP)} (hm : Mono g (fun v => v.2) o) (a : Option VV × HP) (h : wRg o = some a) : nx g ≤ nx a.2 ∧ sl g ≤ sl a.2 := by obtain ⟨v, h1, rfl⟩ := wRg_some h; exact hm v h1
theorem wJg_mono {g : HP} {o : Option (Int64 × HP)} (hm : Mono g (fun v => v.2) o) (a : Option VV × HP) (h : wJg o = some a) : nx g ≤ nx a.2 ∧ sl g ≤ sl a.2 := by obtain ⟨v, h1, rfl⟩ := wJg_some h; exact hm v h1
theorem wDg_mono {g : HP} {o : Option (UInt64 × HP)} (hm : Mono g (fun v => v.2) o) (a : Option VV × HP) (h : wDg o = some a) : nx g ≤ nx a.2 ∧ sl g ≤ sl a.2 := by obtain ⟨v, h1, rfl⟩ := wDg_some h; exact hm v h1
theorem wVg_mono {g : HP} {o : Option HP} (hm : Mono g id o) (a : Option VV × HP) (h : wVg o = some a) : nx g ≤ nx a.2 ∧ sl g ≤ sl a.2 := by obtain ⟨v, h1, rfl⟩ := wVg_some h; exact hm v h1
theorem retZ_bd {g : HP} {x : Int32} {v0 : Int32 × HP} (h : (retZ x).bind (fun z => some (z, g)) = some v0) : (x = 0 ∨ x = 1) ∧ ((some (vI v0.1), v0.2) : Option VV × HP) = (some (vI x), g) := by
  obtain ⟨z, h1, h2⟩ := bd h
  obtain ⟨h3, rfl⟩ := retZ_of h1
  cases h2
  exact ⟨h3, rfl⟩
def okD (x : UInt64) : Option UInt64 := if x &&& 0x7fffffffffffffff ≤ 0x7ff0000000000000 then some x else none
/-- how many rounds a loop is let go -/
def FU : Nat := 4096
section Lev1
variable {Γ : GG} {cc : ByteArray} {nL : Nat} {own : String} {PP : KK → HP → Heap → Prop} {okb : Nat → Bool} {rf rl : Nat} {pc : Nat} {L L' : LL} {st rest : List VV} {g : HP} {φ φ1 φ2 : Prop}
theorem z_ddivk (C : CX Γ cc nL own PP okb rf rl) {x y : UInt64} (hdg : decode cc pc = .ok (.ddiv, 1)) {φ' : UInt64 → Prop} (hφ : φ → ∃ z, okD (FP.ddiv x y) = some z ∧ φ' z) (kk : ∀ z, X Γ (pc + 1) L (vD z :: st) g (φ' z)) : X Γ pc L (vD y :: vD x :: st) g φ := fun h => by
  obtain ⟨z, hz, hf⟩ := hφ h
  unfold okD at hz
  split at hz
  · rename_i hc
    cases hz
    exact z_ddiv C hdg hc (kk _) hf
  · cases hz
theorem z_gets (C : CX Γ cc nL own PP okb rf rl) {index : Nat} (hdg : decode cc pc = .ok (.getstatic index, 3)) (hlink : Cond.fieldLink own index "java/util/ArrayList" "DEFAULTCAPACITY_EMPTY_ELEMENTDATA" "[Ljava/lang/Object;" ∈ gtbl)
    (k : X Γ (pc + 3) L (vR (some (kE (gK Γ))) :: st) g φ) : X Γ pc L st g φ := fun hφ => ⟨(k hφ).1, (k hφ).2.1, fun H locs ls A => by
  obtain ⟨cf, kf, fi', f, a, cell, h1, h2, h3, h4, h5, h6, h7, h8⟩ := C.kx.2.2.1
  exact W.gets C.exec C.code C.ow (C.hts _ hlink) h1 h2 h3 h4 (by rw [A.fr a (Nat.lt_of_not_le h8)]; exact h5) (fun e => by rw [e] at h6; cases h6) h7 rfl hdg ((k hφ).2.2 H locs ls A)⟩
def okE (g : HP) (v : Option Nat) : Bool := match v with
  | none => true
  | some b => Nat.ble 1 (tg g b) && Nat.ble (tg g b) 11
def stA (r : Option Nat) (i : Int32) (v : Option Nat) (g : HP) : Option HP := match r with
  | none => none
  | some a => if tg g a = 22 ∧ (0 ≤ i ∧ i.toNatClampNeg < (oa g a).length) ∧ okE g v = true then some (setO g a ((oa g a).set i.toNatClampNeg v)) else none
theorem mo_stA {r : Option Nat} {i : Int32} {v : Option Nat} {g : HP} : Mono g id (stA r i v g) := fun a ha => by
  unfold stA at ha
  split at ha
  · cases ha
  · split at ha
    · cases ha; exact ⟨Nat.le_refl _, Nat.le_refl _⟩
    · cases ha
theorem okE_any (C : CX Γ cc nL own PP okb rf rl) {b : Nat} (h : okE g (some b) = true) {H : Heap} (hP : gPi Γ g H) : va_Any "java/lang/Object" (gS Γ) H b := by
  have h' : (Nat.ble 1 (tg g b) && Nat.ble (tg g b) 11) = true := h
  rw [Bool.and_eq_true] at h'
  have h1 := Nat.le_of_ble_eq_true h'.1
  have h2 := Nat.le_of_ble_eq_true h'.2
  obtain ⟨ci, hci⟩ : ∃ ci, tg g b = ci + 1 := ⟨tg g b - 1, by omega⟩
  have hl : ci < 11 := by omega
  obtain ⟨cell, q1, q2, q3⟩ := C.po.recv hP hci hl
  have hlen : ci < vwCl.length := hl
  obtain ⟨r, hr⟩ : ∃ r, vwCl[ci]? = some r := ⟨vwCl[ci], List.getElem?_eq_getElem hlen⟩
  obtain ⟨hfc, kC, hkC, -⟩ := (C.kx.1.1 ci r hr).2
  refine ⟨cell, q1, q2, ⟨kC, by rw [q3]; exact hkC⟩, fun comp hcomp => ?_⟩
  obtain ⟨c0, t1, f1, f2, f3⟩ := Cond.castable_spec (va_Nw.use (A := gA Γ) rfl (C.kx.2.2.2.2.2.1 ci r hr))
  rw [q3]
  have e1 : c0 = (kD (gK Γ)).1 ci := Option.some.inj (f1.symm.trans hfc)
  have e2 : t1 = comp := Option.some.inj (f2.symm.trans hcomp)
  rw [← e1, ← e2]; exact f3
theorem z_stA (C : CX Γ cc nL own PP okb rf rl) (hok : okb 22 = true) {r v : Option Nat} {i : Int32} (hdg : decode cc pc = .ok (.aastore, 1)) {φ' : HP → Prop} (hφ : φ → ∃ x, stA r i v g = some x ∧ φ' x) (kk : ∀ x, X Γ (pc + 1) L st x (φ' x)) : X Γ pc L (vR v :: vI i :: vR r :: st) g φ := fun h => by
  obtain ⟨x, hx, hf⟩ := hφ h
  cases r with
  | none => cases hx
  | some a =>
    unfold stA at hx
    dsimp only at hx
    split at hx
    · rename_i hc
      obtain ⟨ht, ⟨h0, hl⟩, hz⟩ := hc
      cases hx
      refine ⟨(kk _ hf).1, (kk _ hf).2.1, fun H locs ls A => ?_⟩
      have hI : isO (tg g a) := by unfold isO; omega
      obtain ⟨hcell, hkb⟩ := C.ao A.pic hI (by rw [ht]; exact hok)
      rw [ht] at hcell
      have fin : ∀ (H' : Heap), H'[a]? = some ((cellO (kA (gK Γ) 22) (oa g a)).setSlot i.toNatClampNeg (va_rf v)) → H'.size = H.size → (∀ q, q ≠ a → H'[q]? = H[q]?) → WG Γ H' (locs ++ [⟨a, i.toNatClampNeg⟩]) (nx g - gn0 Γ) (sl g - gs0 Γ) (F0 (gM Γ) (pc + 1) ls (st.map vv)) := fun H' e1 e2 e3 => by
        refine (kk _ hf).2.2 H' _ ls (A.put rfl rfl (C.po.2.2.2.2.2.2.2.2.2.1 g H a _ H' A.pic (Or.inl ht) (by rw [ht]; exact hok) e2 e3 ?_) e3 (hkb (by omega)))
        rw [ht, e1]
        exact congrArg some (cellO_store _ _ _ _)
      cases v with
      | none => exact va_WaastN C.exec C.code hcell (C.arr 22 (by omega) _ _) (fun h => by cases h) (by rw [cellO_size]; exact nb_of h0 hl) rfl rfl hdg fin
      | some b =>
        obtain ⟨cellV, g1, g3, ⟨kC, hkC⟩, hasg⟩ := okE_any C hz A.pic
        obtain ⟨kA', comp, k1, k2, k3, -⟩ := (C.kx.1.2 2 _ rfl).2
        obtain ⟨kE', hkE, -⟩ := Vm.findClass_spec k3
        exact W.aast C.exec C.code hcell (fun q h => by cases h) (fun h => by cases h) k1 k2 rfl hkE ⟨fun z => absurd h0 (Int32.not_le.mpr z), by rw [cellO_size]; exact hl⟩ g1 (fun q h => by rw [h] at g3; cases g3) hkC (hasg _ k3) rfl rfl hdg fin
    · cases hx
theorem z_nwA (C : CX Γ cc nL own PP okb rf rl) (hok : okb 22 = true) {index : Nat} {n : Int32} (hdg : decode cc pc = .ok (.anewarray index, 3)) (hlink : Cond.classLink own index "java/lang/Object" ∈ gtbl) {φ' : Nat × HP → Prop} (hφ : φ → ∃ x, nwA 22 n g = some x ∧ φ' x)
    (kk : ∀ x, X Γ (pc + 3) L (vR (some x.1) :: st) x.2 (φ' x)) : X Γ pc L (vI n :: st) g φ := fun h => by
  obtain ⟨x, hx, hf⟩ := hφ h
  unfold nwA at hx
  split at hx
  · rename_i hc
    cases hx
    obtain ⟨b1, b2, b3⟩ := kk _ hf
    have b1' : nx g + 1 ≤ gtn Γ := b1
    have b2' : sl g + n.toNatClampNeg ≤ gts Γ := b2
    refine ⟨by omega, by omega, fun H locs ls A => ?_⟩
    obtain ⟨hz, hkb⟩ := C.po.sz A.pic
    have hrc := C.rc
    have hrs := C.rs
    have a1 := A.n0
    have a2 := A.s0
    refine W.anew C.exec C.code C.ow (C.hts _ hlink) (va_AO.use C.kx.2.2.2.2.2.2.1) rfl hdg rfl (fun z => absurd hc.1 (Int32.not_le.mpr z)) (by omega) (by omega) (by omega) fun cA kA' comp f1 f2 f3 f4 => ?_
    have hA2 : cA = kA (gK Γ) 22 := by
      obtain ⟨_, _, _, _, _, k4⟩ := (C.kx.1.2 2 _ rfl).2
      exact Option.some.inj (f1.symm.trans k4)
    have e0 : ({ cls := cA, slots := Array.replicate n.toNatClampNeg .null, vm := .none } : Cell) = cellO (arC (gK Γ) 22) (List.replicate n.toNatClampNeg none) := by
      rw [arrV_new, hA2, cellO_new]; rfl
    rw [e0]
    have o1 : ∀ x, x < H.size → (H.push (cellO (arC (gK Γ) 22) (List.replicate n.toNatClampNeg none)))[x]? = H[x]? := fun x hx => by
      rw [Array.getElem?_push, if_neg (Nat.ne_of_lt hx)]
    have := b3 (H.push (cellO (arC (gK Γ) 22) (List.replicate n.toNatClampNeg none))) locs ls (A.new (Nat.le_succ _) (Nat.le_add_right _ _) (C.po.2.2.2.2.2.2.2.2.2.2.2.2 g H 22 n.toNatClampNeg _ _ A.pic (Or.inl rfl) hok (by simp) o1 (by simp)) (by omega) o1)
    have e1 : nx (newG g 22 n.toNatClampNeg [] (List.replicate n.toNatClampNeg none)) - gn0 Γ = nx g - gn0 Γ + 1 := by show nx g + 1 - gn0 Γ = _; omega
    have e2 : sl (newG g 22 n.toNatClampNeg [] (List.replicate n.toNatClampNeg none)) - gs0 Γ = sl g - gs0 Γ + n.toNatClampNeg := by show sl g + n.toNatClampNeg - gs0 Γ = _; omega
    rw [e1, e2] at this
    rw [hz]
    exact this
  · cases hx
/-- System.arraycopy between two arrays of ours -/
def cpL (f g : List (Option Nat)) (sp dp n : Nat) : List (Option Nat) := (List.range g.length).map fun k => if dp ≤ k ∧ k < dp + n then f.getD (sp + (k - dp)) none else g.getD k none
def cpA (src : Option Nat) (sp : Int32) (dst : Option Nat) (dp n : Int32) (g : HP) : Option HP := match src, dst with
  | some a0, some a => if (tg g a0 = 22 ∧ tg g a = 22) ∧ (0 ≤ sp ∧ 0 ≤ dp ∧ 0 ≤ n) ∧ (sp.toNatClampNeg + n.toNatClampNeg ≤ (oa g a0).length ∧ dp.toNatClampNeg + n.toNatClampNeg ≤ (oa g a).length) ∧ (oa g a0).all (okE g) = true then some (setO g a (cpL (oa g a0) (oa g a) sp.toNatClampNeg dp.toNatClampNeg n.toNatClampNeg)) else none
  | _, _ => none
theorem mo_cpA {src dst : Option Nat} {sp dp n : Int32} {g : HP} : Mono g id (cpA src sp dst dp n g) := fun a ha => by
  unfold cpA at ha
  split at ha
  · split at ha
    · cases ha; exact ⟨Nat.le_refl _, Nat.le_refl _⟩
    · cases ha
  · cases ha
theorem cpL_cell (c1 : ClassId) (f g : List (Option Nat)) (sp dp n : Nat) : arrV c1 g.length (fun j => va_rf (va_cpy (fun k => f.getD k none) (fun k => g.getD k none) sp dp n j)) = cellO c1 (cpL f g sp dp n) := by
  unfold cellO arrV
  congr 1
  apply Array.ext
  · simp [cpL]
  · intro j h1 h2
    have hj : j < g.length := by simpa using h1
    simp only [Array.getElem_ofFn, va_cpy, cpL, List.getD_eq_getElem?_getD, List.getElem?_map, List.getElem?_range hj, Option.map_some, Option.getD_some]
theorem z_cpA (C : CX Γ cc nL own PP okb rf rl) (hok : okb 22 = true) {index : Nat} (hlink : Cond.methodLink own index arraycopyName ∈ gtbl) (hnat : Cond.native arraycopyName ∈ gtbl) (hstat : Cond.static arraycopyName ∈ gtbl) (hini : Cond.initialized "java/lang/System" ∈ gtbl)
    {src dst : Option Nat} {sp dp n : Int32} (hf1 : 1 ≤ rf) (hlo : (st.map vc).sum + (nativeFrameWords "java/lang/System" "arraycopy" 5 + 11) ≤ rl) (hdg : decode cc pc = .ok (.invokestatic index, 3)) {φ' : HP → Prop} (hφ : φ → ∃ x, cpA src sp dst dp n g = some x ∧ φ' x)
    (kk : ∀ x, X Γ (pc + 3) L st x (φ' x)) : X Γ pc L (vI n :: vI dp :: vR dst :: vI sp :: vR src :: st) g φ := fun h => by
  obtain ⟨x, hx, hf⟩ := hφ h
  cases src with
  | none => cases hx
  | some a0 =>
  cases dst with
  | none => cases hx
  | some a =>
    unfold cpA at hx
    dsimp only at hx
    split at hx
    · rename_i hc
      obtain ⟨⟨ht0, ht1⟩, ⟨h1, h2, h3⟩, ⟨h4, h5⟩, hel⟩ := hc
      cases hx
      refine ⟨(kk _ hf).1, (kk _ hf).2.1, fun H locs ls A => ?_⟩
      have hc0 := (C.ao A.pic (show isO (tg g a0) by unfold isO; omega) (by rw [ht0]; exact hok)).1
      obtain ⟨hc1, hkb⟩ := C.ao A.pic (show isO (tg g a) by unfold isO; omega) (by rw [ht1]; exact hok)
      rw [ht0] at hc0
      rw [ht1] at hc1
      have nn : ∀ z : Int32, 0 ≤ z → z.toInt = (z.toNatClampNeg : Int) := by
        intro z hz
        have hz0 : (0 : Int) ≤ z.toInt := by simpa using Int32.le_iff_toInt_le.mp hz
        show z.toInt = ((z.toInt.toNat : Nat) : Int)
        omega
      intro T hT X0
      obtain ⟨-, k0, hk0, cm0, hkk0⟩ := (C.kx.1.2 2 _ rfl).1 (oa g a0).length (fun j => va_rf ((oa g a0).getD j none))
      obtain ⟨-, k1, hk1, cm1, hkk1⟩ := (C.kx.1.2 2 _ rfl).1 (oa g a).length (fun j => va_rf ((oa g a).getD j none))
      obtain ⟨vm', X', step⟩ := X0.arraycopy C.exec C.ow (C.hts _ hlink) (C.hts _ hnat) (C.hts _ hstat) (C.hts _ hini) (src := a0) (dst := a) (cs := cellO (kA (gK Γ) 22) (oa g a0)) (cd := cellO (kA (gK Γ) 22) (oa g a)) (srcPos := sp) (destPos := dp) (n := n) (by rw [hT]; exact hc0) (by rw [hT]; exact hc1)
        (fun _ h => by cases h) (fun _ h => by cases h) (fun h => by cases h) (fun h => by cases h) hk0 hk1 hkk0 hkk1 rfl (Int32.not_lt.mpr h1) (Int32.not_lt.mpr h2) (Int32.not_lt.mpr h3)
        (by rw [nn sp h1, nn n h3, cellO_size]; omega) (by rw [nn dp h2, nn n h3, cellO_size]; omega)
        (fun vm₁ hal i hi => by
          have e : (cellO (kA (gK Γ) 22) (oa g a0)).slots.getD (sp.toNatClampNeg + i) .null = va_rf ((oa g a0).getD (sp.toNatClampNeg + i) none) := by
            rw [Array.getD_eq_getD_getElem?, cellO_read _ (by omega)]
            rfl
          rw [e]
          cases hy : (oa g a0).getD (sp.toNatClampNeg + i) none with
          | none => exact ⟨rfl, trivial⟩
          | some y =>
            have hlt : sp.toNatClampNeg + i < (oa g a0).length := by omega
            have hmem : some y ∈ oa g a0 := by
              rw [← hy, List.getD_eq_getElem?_getD, List.getElem?_eq_getElem hlt]
              exact List.getElem_mem hlt
            obtain ⟨cellV, g1, g2, ⟨kC, hkC⟩, hasg⟩ := okE_any C (List.all_eq_true.mp hel _ hmem) A.pic
            obtain ⟨kA', comp, r1, r2, r3, -⟩ := (C.kx.1.2 2 _ rfl).2
            cases hk1.symm.trans r1
            cases hkk1.symm.trans r2
            obtain ⟨kE', hkE, -⟩ := Vm.findClass_spec r3
            obtain ⟨kC', hkC', -⟩ := hal.2.2 _ _ hkC
            obtain ⟨kE2, hkE2, -⟩ := hal.2.2 _ _ hkE
            refine ⟨rfl, cellV, (show T.heap[y]? = some cellV by rw [hT]; exact g1), (fun q h => by rw [h] at g2; cases g2), ⟨kC', hkC'⟩, ?_, ?_⟩
            · exact ⟨kE2, hkE2⟩
            · show vm₁.assignable _ _ = true
              rw [hal.assignable]
              exact hasg _ r3)
        (g := F0 (gM Γ) pc ls ((vI n :: vI dp :: vR (some a) :: vI sp :: vR (some a0) :: st).map vv)) rfl A.lv.1 (rest := st.map vv) rfl (by rw [C.code]; exact hdg) (by rw [C.hrf]; exact hf1) (by
          show 2 * 0 + ((st.map vv).map fun v => v.category).sum + _ ≤ _
          rw [cat_sum, C.hrl]; omega)
      have e1 : copied (cellO (kA (gK Γ) 22) (oa g a0)) (cellO (kA (gK Γ) 22) (oa g a)) sp dp n = cellO (kA (gK Γ) 22) (cpL (oa g a0) (oa g a) sp.toNatClampNeg dp.toNatClampNeg n.toNatClampNeg) := by
        rw [← cpL_cell]
        exact va_copied (fun z => va_rf z) (kA (gK Γ) 22) (kA (gK Γ) 22) (fun k => (oa g a0).getD k none) (fun k => (oa g a).getD k none) h4
      rw [e1] at X' step
      have hl : a < H.size := (Array.getElem?_eq_some_iff.mp hc1).1
      have hheap : ((T.setVm vm').setCell a (cellO (kA (gK Γ) 22) (cpL (oa g a0) (oa g a) sp.toNatClampNeg dp.toNatClampNeg n.toNatClampNeg))).heap = H.setIfInBounds a (cellO (kA (gK Γ) 22) (cpL (oa g a0) (oa g a) sp.toNatClampNeg dp.toNatClampNeg n.toNatClampNeg)) := by rw [← hT]; rfl
      have oq : ∀ q : Nat, q ≠ a → (H.setIfInBounds a (cellO (kA (gK Γ) 22) (cpL (oa g a0) (oa g a) sp.toNatClampNeg dp.toNatClampNeg n.toNatClampNeg)))[q]? = H[q]? := fun q hq => by simp [Array.getElem?_setIfInBounds, Ne.symm hq]
      obtain ⟨t, a1, b1⟩ := (kk _ hf).2.2 _ _ ls ⟨A.n0, A.s0, C.po.2.2.2.2.2.2.2.2.2.1 g H a (cpL (oa g a0) (oa g a) sp.toNatClampNeg dp.toNatClampNeg n.toNatClampNeg) _ A.pic (Or.inl ht1) (by rw [ht1]; exact hok) (by simp) oq (by rw [ht1]; simp [Array.getElem?_setIfInBounds, hl]; rfl), fun q hq => by
          rw [oq q (fun e => by have := hkb (by omega); omega)]; exact A.fr q hq, fun z hz => by
          rcases List.mem_append.mp hz with h | h
          · exact A.lo z h
          · obtain ⟨w, -, hw⟩ := List.mem_map.mp h
            rw [← hw]
            exact hkb (by omega), A.lv⟩ _ hheap X'
      exact ⟨t, step t a1, b1⟩
    · cases hx
theorem z_ldcM (C : CX Γ cc nL own PP okb rf rl) {index : Nat} (hdg : decode cc pc = .ok (.ldc index, 2)) (hlink : Cond.classLink own index "[Ljava/lang/Object;" ∈ gtbl) (k : X Γ (pc + 2) L (vR (some (kM (gK Γ))) :: st) g φ) : X Γ pc L st g φ := fun hφ => ⟨(k hφ).1, (k hφ).2.1, fun H locs ls A =>
  va_ldcM C.exec C.code C.ow (C.hts _ hlink) C.kx.2.1 hdg ((k hφ).2.2 H locs ls A)⟩
def gtC (r : Option Nat) (mi : Nat) (g : HP) : Option (Option Nat) := match r with
  | none => none
  | some a => if tg g a = 22 then some (some mi) else none
theorem z_gtC (C : CX Γ cc nL own PP okb rf rl) {index : Nat} (hlink : Cond.methodLink own index ⟨"java/lang/Object", "getClass", "()Ljava/lang/Class;"⟩ ∈ gtbl) (hsel : Cond.selects "[Ljava/lang/Object;" ⟨"java/lang/Object", "getClass", "()Ljava/lang/Class;"⟩ ⟨"java/lang/Object", "getClass", "()Ljava/lang/Class;"⟩ ∈ gtbl) (hinst : Cond.instanceMethod ⟨"java/lang/Object", "getClass", "()Ljava/lang/Class;"⟩ ∈ gtbl) (hnat : Cond.native ⟨"java/lang/Object", "getClass", "()Ljava/lang/Class;"⟩ ∈ gtbl)
    {r : Option Nat} (hf1 : 1 ≤ rf) (hlo : (st.map vc).sum + 14 ≤ rl) (hdg : decode cc pc = .ok (.invokevirtual index, 3)) {φ' : Option Nat → Prop} (hφ : φ → ∃ x, gtC r (kM (gK Γ)) g = some x ∧ φ' x) (kk : ∀ x, X Γ (pc + 3) L (vR x :: st) g (φ' x)) (hok : okb 22 = true := by rfl) : X Γ pc L (vR r :: st) g φ := fun h => by
  obtain ⟨x, hx, hf⟩ := hφ h
  refine ⟨(kk x hf).1, (kk x hf).2.1, fun H locs ls A => ?_⟩
  cases r with
  | none => cases hx
  | some a =>
    unfold gtC at hx
    dsimp only at hx
    split at hx
    · rename_i ht
      cases hx
      have hcell := (C.ao A.pic (show isO (tg g a) by unfold isO; omega) (by rw [ht]; exact hok)).1
      rw [ht] at hcell
      have hnm := va_nmO (nm := "[Ljava/lang/Object;") (C.kx.1.2 2 _ rfl).2 (by decide)
      exact va_getC C.exec C.code A.lv.1.symm C.ow (C.hts _ hlink) (va_Dc.use C.kx.2.2.2.2.2.2.2.1) (C.hts _ hsel) (C.hts _ hinst) (C.hts _ hnat) C.kx.2.1 ⟨_, hcell, rfl, hnm⟩ (by rw [C.hrf]; exact hf1) (by rw [cat_sum, C.hrl]; exact hlo) hdg ((kk _ hf).2.2 H locs ls A)
    · cases hx
end Lev1
theorem okL_ok1 : ∀ t, t = 22 ∨ t = 24 → okAll t = true := fun _ _ => rfl
theorem okA_okAll : ∀ t, t = 22 ∨ t = 23 → okAll t = true := fun _ _ => rfl
end
section
theorem kt1 : (Cond.initialized "Blockduty") ∈ gtbl := gtbl_tab (i := 1) rfl rfl
theorem kt2 : (Cond.initialized "java/util/AbstractCollection") ∈ gtbl := gtbl_tab (i := 2) rfl rfl
theorem kt3 : (Cond.initialized "java/util/AbstractList") ∈ gtbl := gtbl_tab (i := 3) rfl rfl
theorem kt4 : (Cond.initialized "java/util/ArrayList") ∈ gtbl := gtbl_tab (i := 4) rfl rfl
theorem kt5 : (Cond.initialized "Blockduty$WorkRules") ∈ gtbl := gtbl_tab (i := 5) rfl rfl
theorem kt6 : (Cond.initialized "Blockduty$Row") ∈ gtbl := gtbl_tab (i := 6) rfl rfl
theorem kt7 : (Cond.initialized "Blockduty$Followers") ∈ gtbl := gtbl_tab (i := 7) rfl rfl
theorem kt8 : (Cond.initialized "Blockduty$Place") ∈ gtbl := gtbl_tab (i := 8) rfl rfl
theorem kt9 : (Cond.initialized "jdk/internal/util/ArraysSupport") ∈ gtbl := gtbl_tab (i := 9) rfl rfl
theorem kt10 : (Cond.initialized "java/lang/Math") ∈ gtbl := gtbl_tab (i := 10) rfl rfl
theorem kt11 : (Cond.initialized "java/util/Arrays") ∈ gtbl := gtbl_tab (i := 11) rfl rfl
theorem kt12 : (Cond.initialized "java/lang/System") ∈ gtbl := gtbl_tab (i := 12) rfl rfl
theorem kt13 : (Cond.initialized "Blockduty$Line") ∈ gtbl := gtbl_tab (i := 13) rfl rfl
theorem kt14 : (Cond.initialized "java/util/Objects") ∈ gtbl := gtbl_tab (i := 14) rfl rfl
theorem kt15 : (Cond.initialized "jdk/internal/util/Preconditions") ∈ gtbl := gtbl_tab (i := 15) rfl rfl
theorem kt22 : (Cond.initialized "Blockduty$Trip") ∈ gtbl := gtbl_tab (i := 22) rfl rfl
theorem kt23 : (Cond.initialized "Blockduty$Driver") ∈ gtbl := gtbl_tab (i := 23) rfl rfl
theorem kt24 : (Cond.initialized "Blockduty$Block") ∈ gtbl := gtbl_tab (i := 24) rfl rfl
theorem kt25 : (Cond.initialized "Blockduty$Piece") ∈ gtbl := gtbl_tab (i := 25) rfl rfl
theorem kt30 : (Cond.code ({ cls := "Blockduty", name := "<init>", desc := "()V" } : Jvm.MethodName) prog_1_method_1_code 2 (Option.none : Option Jvm.ClassFile.FieldType)) ∈ gtbl := gtbl_tab (i := 30) rfl rfl
theorem kt31 : (Cond.methodLink "Blockduty" 1 ({ cls := "java/lang/Object", name := "<init>", desc := "()V" } : Jvm.MethodName)) ∈ gtbl := gtbl_tab (i := 31) rfl rfl
theorem kt32 : (Cond.instanceMethod ({ cls := "java/lang/Object", name := "<init>", desc := "()V" } : Jvm.MethodName)) ∈ gtbl := gtbl_tab (i := 32) rfl rfl
theorem kt33 : (Cond.code ({ cls := "java/lang/Object", name := "<init>", desc := "()V" } : Jvm.MethodName) object_method_1_code 1 (Option.none : Option Jvm.ClassFile.FieldType)) ∈ gtbl := gtbl_tab (i := 33) rfl rfl
theorem kt34 : (Cond.classLink "Blockduty" 7 "java/util/ArrayList") ∈ gtbl := gtbl_tab (i := 34) rfl rfl
theorem kt36 : (Cond.methodLink "Blockduty" 9 ({ cls := "java/util/ArrayList", name := "<init>", desc := "()V" } : Jvm.MethodName)) ∈ gtbl := gtbl_tab (i := 36) rfl rfl
theorem kt37 : (Cond.instanceMethod ({ cls := "java/util/ArrayList", name := "<init>", desc := "()V" } : Jvm.MethodName)) ∈ gtbl := gtbl_tab (i := 37) rfl rfl
theorem kt38 : (Cond.code ({ cls := "java/util/ArrayList", name := "<init>", desc := "()V" } : Jvm.MethodName) prog_30_method_2_code 1 (Option.none : Option Jvm.ClassFile.FieldType)) ∈ gtbl := gtbl_tab (i := 38) rfl rfl
theorem kt39 : (Cond.methodLink "java/util/ArrayList" 1 ({ cls := "java/util/AbstractList", name := "<init>", desc := "()V" } : Jvm.MethodName)) ∈ gtbl := gtbl_tab (i := 39) rfl rfl
theorem kt40 : (Cond.instanceMethod ({ cls := "java/util/AbstractList", name := "<init>", desc := "()V" } : Jvm.MethodName)) ∈ gtbl := gtbl_tab (i := 40) rfl rfl
theorem kt41 : (Cond.code ({ cls := "java/util/AbstractList", name := "<init>", desc := "()V" } : Jvm.MethodName) prog_29_method_1_code 1 (Option.none : Option Jvm.ClassFile.FieldType)) ∈ gtbl := gtbl_tab (i := 41) rfl rfl
theorem kt42 : (Cond.methodLink "java/util/AbstractList" 1 ({ cls := "java/util/AbstractCollection", name := "<init>", desc := "()V" } : Jvm.MethodName)) ∈ gtbl := gtbl_tab (i := 42) rfl rfl
theorem kt43 : (Cond.instanceMethod ({ cls := "java/util/AbstractCollection", name := "<init>", desc := "()V" } : Jvm.MethodName)) ∈ gtbl := gtbl_tab (i := 43) rfl rfl
theorem kt44 : (Cond.code ({ cls := "java/util/AbstractCollection", name := "<init>", desc := "()V" } : Jvm.MethodName) prog_28_method_1_code 1 (Option.none : Option Jvm.ClassFile.FieldType)) ∈ gtbl := gtbl_tab (i := 44) rfl rfl
theorem kt45 : (Cond.methodLink "java/util/AbstractCollection" 1 ({ cls := "java/lang/Object", name := "<init>", desc := "()V" } : Jvm.MethodName)) ∈ gtbl := gtbl_tab (i := 45) rfl rfl
theorem kt46 : (Cond.fieldLink "java/util/ArrayList" 39 "java/util/ArrayList" "DEFAULTCAPACITY_EMPTY_ELEMENTDATA" "[Ljava/lang/Object;") ∈ gtbl := gtbl_tab (i := 46) rfl rfl
theorem kt48 : (Cond.fieldLink "java/util/ArrayList" 9 "java/util/ArrayList" "elementData" "[Ljava/lang/Object;") ∈ gtbl := gtbl_tab (i := 48) rfl rfl
theorem kt49 : (Cond.fieldLink "java/util/ArrayList" 48 "java/util/ArrayList" "size" "I") ∈ gtbl := gtbl_tab (i := 49) rfl rfl
theorem kt50 : (Cond.fieldLink "java/util/AbstractList" 7 "java/util/AbstractList" "modCount" "I") ∈ gtbl := gtbl_tab (i := 50) rfl rfl
theorem kt51 : (Cond.fieldLink "java/util/ArrayList" 63 "java/util/ArrayList" "modCount" "I") ∈ gtbl := gtbl_tab (i := 51) rfl rfl
theorem kt52 : (Cond.sameField "java/util/ArrayList" "java/util/AbstractList" "modCount" "I") ∈ gtbl := gtbl_tab (i := 52) rfl rfl
theorem kt53 : (Cond.lays "java/util/ArrayList" "java/util/ArrayList" "elementData" "[Ljava/lang/Object;") ∈ gtbl := gtbl_tab (i := 53) rfl rfl
theorem kt55 : (Cond.lays "java/util/ArrayList" "java/util/ArrayList" "size" "I") ∈ gtbl := gtbl_tab (i := 55) rfl rfl
theorem kt57 : (Cond.lays "java/util/ArrayList" "java/util/AbstractList" "modCount" "I") ∈ gtbl := gtbl_tab (i := 57) rfl rfl
theorem kt60 : (Cond.classLink "Blockduty" 31 "Blockduty$WorkRules") ∈ gtbl := gtbl_tab (i := 60) rfl rfl
theorem kt61 : (Cond.instantiable "Blockduty$WorkRules" 2) ∈ gtbl := gtbl_tab (i := 61) rfl rfl
theorem kt63 : (Cond.instanceMethod ({ cls := "Blockduty$WorkRules", name := "<init>", desc := "()V" } : Jvm.MethodName)) ∈ gtbl := gtbl_tab (i := 63) rfl rfl
theorem kt64 : (Cond.code ({ cls := "Blockduty$WorkRules", name := "<init>", desc := "()V" } : Jvm.MethodName) prog_10_method_1_code 1 (Option.none : Option Jvm.ClassFile.FieldType)) ∈ gtbl := gtbl_tab (i := 64) rfl rfl
theorem kt65 : (Cond.methodLink "Blockduty$WorkRules" 3 ({ cls := "java/lang/Object", name := "<init>", desc := "()V" } : Jvm.MethodName)) ∈ gtbl := gtbl_tab (i := 65) rfl rfl
theorem kt66 : (Cond.fieldLink "Blockduty$WorkRules" 9 "Blockduty$WorkRules" "spread" "I") ∈ gtbl := gtbl_tab (i := 66) rfl rfl
theorem kt67 : (Cond.fieldLink "Blockduty$WorkRules" 15 "Blockduty$WorkRules" "drive" "I") ∈ gtbl := gtbl_tab (i := 67) rfl rfl
theorem kt68 : (Cond.lays "Blockduty$WorkRules" "Blockduty$WorkRules" "spread" "I") ∈ gtbl := gtbl_tab (i := 68) rfl rfl
theorem kt70 : (Cond.lays "Blockduty$WorkRules" "Blockduty$WorkRules" "drive" "I") ∈ gtbl := gtbl_tab (i := 70) rfl rfl
theorem kt73 : (Cond.classLink "Blockduty" 42 "Blockduty$Row") ∈ gtbl := gtbl_tab (i := 73) rfl rfl
theorem kt74 : (Cond.instantiable "Blockduty$Row" 1) ∈ gtbl := gtbl_tab (i := 74) rfl rfl
theorem kt76 : (Cond.instanceMethod ({ cls := "Blockduty$Row", name := "<init>", desc := "()V" } : Jvm.MethodName)) ∈ gtbl := gtbl_tab (i := 76) rfl rfl
theorem kt77 : (Cond.code ({ cls := "Blockduty$Row", name := "<init>", desc := "()V" } : Jvm.MethodName) prog_8_method_1_code 1 (Option.none : Option Jvm.ClassFile.FieldType)) ∈ gtbl := gtbl_tab (i := 77) rfl rfl
theorem kt78 : (Cond.methodLink "Blockduty$Row" 3 ({ cls := "java/lang/Object", name := "<init>", desc := "()V" } : Jvm.MethodName)) ∈ gtbl := gtbl_tab (i := 78) rfl rfl
theorem kt79 : (Cond.classLink "Blockduty$Row" 9 "java/util/ArrayList") ∈ gtbl := gtbl_tab (i := 79) rfl rfl
theorem kt80 : (Cond.methodLink "Blockduty$Row" 11 ({ cls := "java/util/ArrayList", name := "<init>", desc := "()V" } : Jvm.MethodName)) ∈ gtbl := gtbl_tab (i := 80) rfl rfl
theorem kt81 : (Cond.fieldLink "Blockduty$Row" 12 "Blockduty$Row" "trips" "Ljava/util/ArrayList;") ∈ gtbl := gtbl_tab (i := 81) rfl rfl
theorem kt82 : (Cond.fieldLink "Blockduty$Block" 48 "Blockduty$Row" "trips" "Ljava/util/ArrayList;") ∈ gtbl := gtbl_tab (i := 82) rfl rfl
theorem kt83 : (Cond.fieldLink "Blockduty$WorkRules" 32 "Blockduty$Row" "trips" "Ljava/util/ArrayList;") ∈ gtbl := gtbl_tab (i := 83) rfl rfl
theorem kt84 : (Cond.fieldLink "Blockduty$Piece" 58 "Blockduty$Row" "trips" "Ljava/util/ArrayList;") ∈ gtbl := gtbl_tab (i := 84) rfl rfl
theorem kt85 : (Cond.fieldLink "Blockduty" 483 "Blockduty$Row" "trips" "Ljava/util/ArrayList;") ∈ gtbl := gtbl_tab (i := 85) rfl rfl
theorem kt86 : (Cond.laysFinal "Blockduty$Row" "Blockduty$Row" "trips" "Ljava/util/ArrayList;") ∈ gtbl := gtbl_tab (i := 86) rfl rfl
theorem kt89 : (Cond.classLink "Blockduty" 56 "Blockduty$Followers") ∈ gtbl := gtbl_tab (i := 89) rfl rfl
theorem kt90 : (Cond.instantiable "Blockduty$Followers" 2) ∈ gtbl := gtbl_tab (i := 90) rfl rfl
theorem kt92 : (Cond.instanceMethod ({ cls := "Blockduty$Followers", name := "<init>", desc := "()V" } : Jvm.MethodName)) ∈ gtbl := gtbl_tab (i := 92) rfl rfl
theorem kt93 : (Cond.code ({ cls := "Blockduty$Followers", name := "<init>", desc := "()V" } : Jvm.MethodName) prog_4_method_1_code 1 (Option.none : Option Jvm.ClassFile.FieldType)) ∈ gtbl := gtbl_tab (i := 93) rfl rfl
theorem kt94 : (Cond.methodLink "Blockduty$Followers" 3 ({ cls := "java/lang/Object", name := "<init>", desc := "()V" } : Jvm.MethodName)) ∈ gtbl := gtbl_tab (i := 94) rfl rfl
theorem kt95 : (Cond.fieldLink "Blockduty$Followers" 9 "Blockduty$Followers" "aheadOf" "[I") ∈ gtbl := gtbl_tab (i := 95) rfl rfl
theorem kt96 : (Cond.fieldLink "Blockduty$Followers" 15 "Blockduty$Followers" "isTried" "[Z") ∈ gtbl := gtbl_tab (i := 96) rfl rfl
theorem kt97 : (Cond.laysFinal "Blockduty$Followers" "Blockduty$Followers" "aheadOf" "[I") ∈ gtbl := gtbl_tab (i := 97) rfl rfl
theorem kt99 : (Cond.laysFinal "Blockduty$Followers" "Blockduty$Followers" "isTried" "[Z") ∈ gtbl := gtbl_tab (i := 99) rfl rfl
theorem kt102 : (Cond.arrayClass Jvm.ClassFile.FieldType.int) ∈ gtbl := gtbl_tab (i := 102) rfl rfl
theorem kt103 : (Cond.arrayClass Jvm.ClassFile.FieldType.boolean) ∈ gtbl := gtbl_tab (i := 103) rfl rfl
theorem kt104 : (Cond.classLink "Blockduty" 63 "Blockduty$Place") ∈ gtbl := gtbl_tab (i := 104) rfl rfl
theorem kt105 : (Cond.instantiable "Blockduty$Place" 4) ∈ gtbl := gtbl_tab (i := 105) rfl rfl
theorem kt106 : (Cond.methodLink "Blockduty" 65 ({ cls := "Blockduty$Place", name := "<init>", desc := "(I)V" } : Jvm.MethodName)) ∈ gtbl := gtbl_tab (i := 106) rfl rfl
theorem kt107 : (Cond.instanceMethod ({ cls := "Blockduty$Place", name := "<init>", desc := "(I)V" } : Jvm.MethodName)) ∈ gtbl := gtbl_tab (i := 107) rfl rfl
theorem kt108 : (Cond.code ({ cls := "Blockduty$Place", name := "<init>", desc := "(I)V" } : Jvm.MethodName) prog_7_method_1_code 2 (Option.none : Option Jvm.ClassFile.FieldType)) ∈ gtbl := gtbl_tab (i := 108) rfl rfl
theorem kt109 : (Cond.methodLink "Blockduty$Place" 3 ({ cls := "java/lang/Object", name := "<init>", desc := "()V" } : Jvm.MethodName)) ∈ gtbl := gtbl_tab (i := 109) rfl rfl
theorem kt110 : (Cond.fieldLink "Blockduty$Place" 9 "Blockduty$Place" "number" "I") ∈ gtbl := gtbl_tab (i := 110) rfl rfl
theorem kt111 : (Cond.fieldLink "Blockduty" 322 "Blockduty$Place" "number" "I") ∈ gtbl := gtbl_tab (i := 111) rfl rfl
theorem kt112 : (Cond.fieldLink "Blockduty$Place" 19 "Blockduty$Place" "x" "I") ∈ gtbl := gtbl_tab (i := 112) rfl rfl
theorem kt113 : (Cond.fieldLink "Blockduty" 108 "Blockduty$Place" "x" "I") ∈ gtbl := gtbl_tab (i := 113) rfl rfl
theorem kt114 : (Cond.fieldLink "Blockduty" 111 "Blockduty$Place" "power" "I") ∈ gtbl := gtbl_tab (i := 114) rfl rfl
theorem kt115 : (Cond.fieldLink "Blockduty$Row" 74 "Blockduty$Place" "power" "I") ∈ gtbl := gtbl_tab (i := 115) rfl rfl
theorem kt116 : (Cond.fieldLink "Blockduty$Place" 15 "Blockduty$Place" "isRelief" "Z") ∈ gtbl := gtbl_tab (i := 116) rfl rfl
theorem kt117 : (Cond.fieldLink "Blockduty" 114 "Blockduty$Place" "isRelief" "Z") ∈ gtbl := gtbl_tab (i := 117) rfl rfl
theorem kt118 : (Cond.fieldLink "Blockduty$WorkRules" 63 "Blockduty$Place" "isRelief" "Z") ∈ gtbl := gtbl_tab (i := 118) rfl rfl
theorem kt119 : (Cond.laysFinal "Blockduty$Place" "Blockduty$Place" "number" "I") ∈ gtbl := gtbl_tab (i := 119) rfl rfl
theorem kt121 : (Cond.lays "Blockduty$Place" "Blockduty$Place" "x" "I") ∈ gtbl := gtbl_tab (i := 121) rfl rfl
theorem kt123 : (Cond.lays "Blockduty$Place" "Blockduty$Place" "power" "I") ∈ gtbl := gtbl_tab (i := 123) rfl rfl
theorem kt125 : (Cond.lays "Blockduty$Place" "Blockduty$Place" "isRelief" "Z") ∈ gtbl := gtbl_tab (i := 125) rfl rfl
theorem kt128 : (Cond.methodLink "Blockduty" 72 ({ cls := "java/util/ArrayList", name := "add", desc := "(Ljava/lang/Object;)Z" } : Jvm.MethodName)) ∈ gtbl := gtbl_tab (i := 128) rfl rfl
theorem kt129 : (Cond.instanceMethod ({ cls := "java/util/ArrayList", name := "add", desc := "(Ljava/lang/Object;)Z" } : Jvm.MethodName)) ∈ gtbl := gtbl_tab (i := 129) rfl rfl
theorem kt130 : (Cond.selects "java/util/ArrayList" ({ cls := "java/util/ArrayList", name := "add", desc := "(Ljava/lang/Object;)Z" } : Jvm.MethodName) ({ cls := "java/util/ArrayList", name := "add", desc := "(Ljava/lang/Object;)Z" } : Jvm.MethodName)) ∈ gtbl := gtbl_tab (i := 130) rfl rfl
theorem kt131 : (Cond.code ({ cls := "java/util/ArrayList", name := "add", desc := "(Ljava/lang/Object;)Z" } : Jvm.MethodName) prog_30_method_25_code 2 (Option.some Jvm.ClassFile.FieldType.boolean)) ∈ gtbl := gtbl_tab (i := 131) rfl rfl
theorem kt132 : (Cond.methodLink "java/util/ArrayList" 131 ({ cls := "java/util/ArrayList", name := "add", desc := "(Ljava/lang/Object;[Ljava/lang/Object;I)V" } : Jvm.MethodName)) ∈ gtbl := gtbl_tab (i := 132) rfl rfl
theorem kt134 : (Cond.instanceMethod ({ cls := "java/util/ArrayList", name := "add", desc := "(Ljava/lang/Object;[Ljava/lang/Object;I)V" } : Jvm.MethodName)) ∈ gtbl := gtbl_tab (i := 134) rfl rfl
theorem kt135 : (Cond.code ({ cls := "java/util/ArrayList", name := "add", desc := "(Ljava/lang/Object;[Ljava/lang/Object;I)V" } : Jvm.MethodName) prog_30_method_24_code 4 (Option.none : Option Jvm.ClassFile.FieldType)) ∈ gtbl := gtbl_tab (i := 135) rfl rfl
theorem kt136 : (Cond.methodLink "java/util/ArrayList" 129 ({ cls := "java/util/ArrayList", name := "grow", desc := "()[Ljava/lang/Object;" } : Jvm.MethodName)) ∈ gtbl := gtbl_tab (i := 136) rfl rfl
theorem kt138 : (Cond.instanceMethod ({ cls := "java/util/ArrayList", name := "grow", desc := "()[Ljava/lang/Object;" } : Jvm.MethodName)) ∈ gtbl := gtbl_tab (i := 138) rfl rfl
theorem kt139 : (Cond.code ({ cls := "java/util/ArrayList", name := "grow", desc := "()[Ljava/lang/Object;" } : Jvm.MethodName) prog_30_method_7_code 1 (Option.some (Jvm.ClassFile.FieldType.array (Jvm.ClassFile.FieldType.object "java/lang/Object")))) ∈ gtbl := gtbl_tab (i := 139) rfl rfl
theorem kt140 : (Cond.methodLink "java/util/ArrayList" 69 ({ cls := "java/util/ArrayList", name := "grow", desc := "(I)[Ljava/lang/Object;" } : Jvm.MethodName)) ∈ gtbl := gtbl_tab (i := 140) rfl rfl
theorem kt142 : (Cond.instanceMethod ({ cls := "java/util/ArrayList", name := "grow", desc := "(I)[Ljava/lang/Object;" } : Jvm.MethodName)) ∈ gtbl := gtbl_tab (i := 142) rfl rfl
theorem kt143 : (Cond.code ({ cls := "java/util/ArrayList", name := "grow", desc := "(I)[Ljava/lang/Object;" } : Jvm.MethodName) prog_30_method_6_code 4 (Option.some (Jvm.ClassFile.FieldType.array (Jvm.ClassFile.FieldType.object "java/lang/Object")))) ∈ gtbl := gtbl_tab (i := 143) rfl rfl
theorem kt144 : (Cond.methodLink "java/util/ArrayList" 73 ({ cls := "jdk/internal/util/ArraysSupport", name := "newLength", desc := "(III)I" } : Jvm.MethodName)) ∈ gtbl := gtbl_tab (i := 144) rfl rfl
theorem kt145 : (Cond.static ({ cls := "jdk/internal/util/ArraysSupport", name := "newLength", desc := "(III)I" } : Jvm.MethodName)) ∈ gtbl := gtbl_tab (i := 145) rfl rfl
theorem kt146 : (Cond.code ({ cls := "jdk/internal/util/ArraysSupport", name := "newLength", desc := "(III)I" } : Jvm.MethodName) prog_37_method_27_code 4 (Option.some Jvm.ClassFile.FieldType.int)) ∈ gtbl := gtbl_tab (i := 146) rfl rfl
theorem kt147 : (Cond.methodLink "jdk/internal/util/ArraysSupport" 194 ({ cls := "java/lang/Math", name := "max", desc := "(II)I" } : Jvm.MethodName)) ∈ gtbl := gtbl_tab (i := 147) rfl rfl
theorem kt148 : (Cond.static ({ cls := "java/lang/Math", name := "max", desc := "(II)I" } : Jvm.MethodName)) ∈ gtbl := gtbl_tab (i := 148) rfl rfl
theorem kt149 : (Cond.code ({ cls := "java/lang/Math", name := "max", desc := "(II)I" } : Jvm.MethodName) prog_23_method_65_code 2 (Option.some Jvm.ClassFile.FieldType.int)) ∈ gtbl := gtbl_tab (i := 149) rfl rfl
theorem kt150 : (Cond.constant "jdk/internal/util/ArraysSupport" 200 (2147483639 : Int32)) ∈ gtbl := gtbl_tab (i := 150) rfl rfl
theorem kt154 : (Cond.methodLink "java/util/ArrayList" 66 ({ cls := "java/util/Arrays", name := "copyOf", desc := "([Ljava/lang/Object;I)[Ljava/lang/Object;" } : Jvm.MethodName)) ∈ gtbl := gtbl_tab (i := 154) rfl rfl
theorem kt155 : (Cond.static ({ cls := "java/util/Arrays", name := "copyOf", desc := "([Ljava/lang/Object;I)[Ljava/lang/Object;" } : Jvm.MethodName)) ∈ gtbl := gtbl_tab (i := 155) rfl rfl
theorem kt156 : (Cond.code ({ cls := "java/util/Arrays", name := "copyOf", desc := "([Ljava/lang/Object;I)[Ljava/lang/Object;" } : Jvm.MethodName) prog_31_method_119_code 2 (Option.some (Jvm.ClassFile.FieldType.array (Jvm.ClassFile.FieldType.object "java/lang/Object")))) ∈ gtbl := gtbl_tab (i := 156) rfl rfl
theorem kt157 : (Cond.methodLink "java/util/Arrays" 86 ({ cls := "java/lang/Object", name := "getClass", desc := "()Ljava/lang/Class;" } : Jvm.MethodName)) ∈ gtbl := gtbl_tab (i := 157) rfl rfl
theorem kt158 : (Cond.instanceMethod ({ cls := "java/lang/Object", name := "getClass", desc := "()Ljava/lang/Class;" } : Jvm.MethodName)) ∈ gtbl := gtbl_tab (i := 158) rfl rfl
theorem kt174 : (Cond.native ({ cls := "java/lang/Object", name := "getClass", desc := "()Ljava/lang/Class;" } : Jvm.MethodName)) ∈ gtbl := gtbl_tab (i := 174) rfl rfl
theorem kt175 : (Cond.methodLink "java/util/Arrays" 300 ({ cls := "java/util/Arrays", name := "copyOf", desc := "([Ljava/lang/Object;ILjava/lang/Class;)[Ljava/lang/Object;" } : Jvm.MethodName)) ∈ gtbl := gtbl_tab (i := 175) rfl rfl
theorem kt176 : (Cond.static ({ cls := "java/util/Arrays", name := "copyOf", desc := "([Ljava/lang/Object;ILjava/lang/Class;)[Ljava/lang/Object;" } : Jvm.MethodName)) ∈ gtbl := gtbl_tab (i := 176) rfl rfl
theorem kt177 : (Cond.code ({ cls := "java/util/Arrays", name := "copyOf", desc := "([Ljava/lang/Object;ILjava/lang/Class;)[Ljava/lang/Object;" } : Jvm.MethodName) prog_31_method_120_code 4 (Option.some (Jvm.ClassFile.FieldType.array (Jvm.ClassFile.FieldType.object "java/lang/Object")))) ∈ gtbl := gtbl_tab (i := 177) rfl rfl
theorem kt178 : (Cond.classLink "java/util/Arrays" 110 "[Ljava/lang/Object;") ∈ gtbl := gtbl_tab (i := 178) rfl rfl
theorem kt180 : (Cond.classLink "java/util/Arrays" 2 "java/lang/Object") ∈ gtbl := gtbl_tab (i := 180) rfl rfl
theorem kt181 : (Cond.methodLink "java/util/Arrays" 304 ({ cls := "java/lang/Math", name := "min", desc := "(II)I" } : Jvm.MethodName)) ∈ gtbl := gtbl_tab (i := 181) rfl rfl
theorem kt182 : (Cond.static ({ cls := "java/lang/Math", name := "min", desc := "(II)I" } : Jvm.MethodName)) ∈ gtbl := gtbl_tab (i := 182) rfl rfl
theorem kt183 : (Cond.code ({ cls := "java/lang/Math", name := "min", desc := "(II)I" } : Jvm.MethodName) prog_23_method_69_code 2 (Option.some Jvm.ClassFile.FieldType.int)) ∈ gtbl := gtbl_tab (i := 183) rfl rfl
theorem kt184 : (Cond.methodLink "java/util/Arrays" 150 ({ cls := "java/lang/System", name := "arraycopy", desc := "(Ljava/lang/Object;ILjava/lang/Object;II)V" } : Jvm.MethodName)) ∈ gtbl := gtbl_tab (i := 184) rfl rfl
theorem kt185 : (Cond.static ({ cls := "java/lang/System", name := "arraycopy", desc := "(Ljava/lang/Object;ILjava/lang/Object;II)V" } : Jvm.MethodName)) ∈ gtbl := gtbl_tab (i := 185) rfl rfl
theorem kt186 : (Cond.native ({ cls := "java/lang/System", name := "arraycopy", desc := "(Ljava/lang/Object;ILjava/lang/Object;II)V" } : Jvm.MethodName)) ∈ gtbl := gtbl_tab (i := 186) rfl rfl
theorem kt187 : (Cond.methodLink "java/util/ArrayList" 79 ({ cls := "java/lang/Math", name := "max", desc := "(II)I" } : Jvm.MethodName)) ∈ gtbl := gtbl_tab (i := 187) rfl rfl
theorem kt188 : (Cond.classLink "java/util/ArrayList" 7 "java/lang/Object") ∈ gtbl := gtbl_tab (i := 188) rfl rfl
theorem kt189 : (Cond.classLink "Blockduty" 76 "Blockduty$Line") ∈ gtbl := gtbl_tab (i := 189) rfl rfl
theorem kt190 : (Cond.instantiable "Blockduty$Line" 3) ∈ gtbl := gtbl_tab (i := 190) rfl rfl
theorem kt191 : (Cond.methodLink "Blockduty" 78 ({ cls := "Blockduty$Line", name := "<init>", desc := "(I)V" } : Jvm.MethodName)) ∈ gtbl := gtbl_tab (i := 191) rfl rfl
theorem kt192 : (Cond.instanceMethod ({ cls := "Blockduty$Line", name := "<init>", desc := "(I)V" } : Jvm.MethodName)) ∈ gtbl := gtbl_tab (i := 192) rfl rfl
theorem kt193 : (Cond.code ({ cls := "Blockduty$Line", name := "<init>", desc := "(I)V" } : Jvm.MethodName) prog_5_method_1_code 2 (Option.none : Option Jvm.ClassFile.FieldType)) ∈ gtbl := gtbl_tab (i := 193) rfl rfl
theorem kt194 : (Cond.methodLink "Blockduty$Line" 3 ({ cls := "java/lang/Object", name := "<init>", desc := "()V" } : Jvm.MethodName)) ∈ gtbl := gtbl_tab (i := 194) rfl rfl
theorem kt195 : (Cond.fieldLink "Blockduty$Line" 15 "Blockduty$Line" "number" "I") ∈ gtbl := gtbl_tab (i := 195) rfl rfl
theorem kt196 : (Cond.fieldLink "Blockduty" 318 "Blockduty$Line" "number" "I") ∈ gtbl := gtbl_tab (i := 196) rfl rfl
theorem kt197 : (Cond.fieldLink "Blockduty$Line" 9 "Blockduty$Line" "fee" "I") ∈ gtbl := gtbl_tab (i := 197) rfl rfl
theorem kt198 : (Cond.fieldLink "Blockduty" 126 "Blockduty$Line" "fee" "I") ∈ gtbl := gtbl_tab (i := 198) rfl rfl
theorem kt199 : (Cond.fieldLink "Blockduty$Trip" 84 "Blockduty$Line" "fee" "I") ∈ gtbl := gtbl_tab (i := 199) rfl rfl
theorem kt200 : (Cond.fieldLink "Blockduty" 129 "Blockduty$Line" "isClosed" "Z") ∈ gtbl := gtbl_tab (i := 200) rfl rfl
theorem kt201 : (Cond.fieldLink "Blockduty$Trip" 62 "Blockduty$Line" "isClosed" "Z") ∈ gtbl := gtbl_tab (i := 201) rfl rfl
theorem kt202 : (Cond.laysFinal "Blockduty$Line" "Blockduty$Line" "number" "I") ∈ gtbl := gtbl_tab (i := 202) rfl rfl
theorem kt204 : (Cond.lays "Blockduty$Line" "Blockduty$Line" "fee" "I") ∈ gtbl := gtbl_tab (i := 204) rfl rfl
theorem kt206 : (Cond.lays "Blockduty$Line" "Blockduty$Line" "isClosed" "Z") ∈ gtbl := gtbl_tab (i := 206) rfl rfl
theorem kt209 : (Cond.fieldLink "Blockduty" 10 "Blockduty" "places" "Ljava/util/ArrayList;") ∈ gtbl := gtbl_tab (i := 209) rfl rfl
theorem kt210 : (Cond.fieldLink "Blockduty" 16 "Blockduty" "lines" "Ljava/util/ArrayList;") ∈ gtbl := gtbl_tab (i := 210) rfl rfl
theorem kt211 : (Cond.fieldLink "Blockduty" 19 "Blockduty" "trips" "Ljava/util/ArrayList;") ∈ gtbl := gtbl_tab (i := 211) rfl rfl
theorem kt212 : (Cond.fieldLink "Blockduty" 22 "Blockduty" "tripsByStart" "Ljava/util/ArrayList;") ∈ gtbl := gtbl_tab (i := 212) rfl rfl
theorem kt213 : (Cond.fieldLink "Blockduty" 25 "Blockduty" "blocks" "Ljava/util/ArrayList;") ∈ gtbl := gtbl_tab (i := 213) rfl rfl
theorem kt214 : (Cond.fieldLink "Blockduty" 28 "Blockduty" "drivers" "Ljava/util/ArrayList;") ∈ gtbl := gtbl_tab (i := 214) rfl rfl
theorem kt215 : (Cond.fieldLink "Blockduty" 68 "Blockduty" "depot" "LBlockduty$Place;") ∈ gtbl := gtbl_tab (i := 215) rfl rfl
theorem kt216 : (Cond.fieldLink "Blockduty" 34 "Blockduty" "workRules" "LBlockduty$WorkRules;") ∈ gtbl := gtbl_tab (i := 216) rfl rfl
theorem kt217 : (Cond.fieldLink "Blockduty" 161 "Blockduty" "coldness" "I") ∈ gtbl := gtbl_tab (i := 217) rfl rfl
theorem kt218 : (Cond.fieldLink "Blockduty" 38 "Blockduty" "finePerLost" "I") ∈ gtbl := gtbl_tab (i := 218) rfl rfl
theorem kt219 : (Cond.fieldLink "Blockduty" 45 "Blockduty" "oneTrial" "LBlockduty$Row;") ∈ gtbl := gtbl_tab (i := 219) rfl rfl
theorem kt220 : (Cond.fieldLink "Blockduty" 49 "Blockduty" "otherTrial" "LBlockduty$Row;") ∈ gtbl := gtbl_tab (i := 220) rfl rfl
theorem kt221 : (Cond.fieldLink "Blockduty" 52 "Blockduty" "pieceEnds" "[I") ∈ gtbl := gtbl_tab (i := 221) rfl rfl
theorem kt222 : (Cond.fieldLink "Blockduty" 59 "Blockduty" "followers" "LBlockduty$Followers;") ∈ gtbl := gtbl_tab (i := 222) rfl rfl
theorem kt223 : (Cond.laysFinal "Blockduty" "Blockduty" "places" "Ljava/util/ArrayList;") ∈ gtbl := gtbl_tab (i := 223) rfl rfl
theorem kt225 : (Cond.laysFinal "Blockduty" "Blockduty" "lines" "Ljava/util/ArrayList;") ∈ gtbl := gtbl_tab (i := 225) rfl rfl
theorem kt227 : (Cond.laysFinal "Blockduty" "Blockduty" "trips" "Ljava/util/ArrayList;") ∈ gtbl := gtbl_tab (i := 227) rfl rfl
theorem kt229 : (Cond.laysFinal "Blockduty" "Blockduty" "tripsByStart" "Ljava/util/ArrayList;") ∈ gtbl := gtbl_tab (i := 229) rfl rfl
theorem kt231 : (Cond.laysFinal "Blockduty" "Blockduty" "blocks" "Ljava/util/ArrayList;") ∈ gtbl := gtbl_tab (i := 231) rfl rfl
theorem kt233 : (Cond.laysFinal "Blockduty" "Blockduty" "drivers" "Ljava/util/ArrayList;") ∈ gtbl := gtbl_tab (i := 233) rfl rfl
theorem kt235 : (Cond.laysFinal "Blockduty" "Blockduty" "depot" "LBlockduty$Place;") ∈ gtbl := gtbl_tab (i := 235) rfl rfl
theorem kt237 : (Cond.laysFinal "Blockduty" "Blockduty" "workRules" "LBlockduty$WorkRules;") ∈ gtbl := gtbl_tab (i := 237) rfl rfl
theorem kt239 : (Cond.lays "Blockduty" "Blockduty" "coldness" "I") ∈ gtbl := gtbl_tab (i := 239) rfl rfl
theorem kt241 : (Cond.lays "Blockduty" "Blockduty" "finePerLost" "I") ∈ gtbl := gtbl_tab (i := 241) rfl rfl
theorem kt243 : (Cond.laysFinal "Blockduty" "Blockduty" "oneTrial" "LBlockduty$Row;") ∈ gtbl := gtbl_tab (i := 243) rfl rfl
theorem kt245 : (Cond.laysFinal "Blockduty" "Blockduty" "otherTrial" "LBlockduty$Row;") ∈ gtbl := gtbl_tab (i := 245) rfl rfl
theorem kt247 : (Cond.laysFinal "Blockduty" "Blockduty" "pieceEnds" "[I") ∈ gtbl := gtbl_tab (i := 247) rfl rfl
theorem kt249 : (Cond.laysFinal "Blockduty" "Blockduty" "followers" "LBlockduty$Followers;") ∈ gtbl := gtbl_tab (i := 249) rfl rfl
theorem kt255 : (Cond.code ({ cls := "Blockduty", name := "place", desc := "(IIIZ)I" } : Jvm.MethodName) prog_1_method_2_code 7 (Option.some Jvm.ClassFile.FieldType.int)) ∈ gtbl := gtbl_tab (i := 255) rfl rfl
theorem kt256 : (Cond.methodLink "Blockduty" 79 ({ cls := "Blockduty", name := "placeNumbered", desc := "(I)LBlockduty$Place;" } : Jvm.MethodName)) ∈ gtbl := gtbl_tab (i := 256) rfl rfl
theorem kt258 : (Cond.instanceMethod ({ cls := "Blockduty", name := "placeNumbered", desc := "(I)LBlockduty$Place;" } : Jvm.MethodName)) ∈ gtbl := gtbl_tab (i := 258) rfl rfl
theorem kt259 : (Cond.code ({ cls := "Blockduty", name := "placeNumbered", desc := "(I)LBlockduty$Place;" } : Jvm.MethodName) prog_1_method_37_code 2 (Option.some (Jvm.ClassFile.FieldType.object "Blockduty$Place"))) ∈ gtbl := gtbl_tab (i := 259) rfl rfl
theorem kt260 : (Cond.methodLink "Blockduty" 136 ({ cls := "java/util/ArrayList", name := "size", desc := "()I" } : Jvm.MethodName)) ∈ gtbl := gtbl_tab (i := 260) rfl rfl
theorem kt261 : (Cond.instanceMethod ({ cls := "java/util/ArrayList", name := "size", desc := "()I" } : Jvm.MethodName)) ∈ gtbl := gtbl_tab (i := 261) rfl rfl
theorem kt262 : (Cond.selects "java/util/ArrayList" ({ cls := "java/util/ArrayList", name := "size", desc := "()I" } : Jvm.MethodName) ({ cls := "java/util/ArrayList", name := "size", desc := "()I" } : Jvm.MethodName)) ∈ gtbl := gtbl_tab (i := 262) rfl rfl
theorem kt263 : (Cond.code ({ cls := "java/util/ArrayList", name := "size", desc := "()I" } : Jvm.MethodName) prog_30_method_8_code 1 (Option.some Jvm.ClassFile.FieldType.int)) ∈ gtbl := gtbl_tab (i := 263) rfl rfl
theorem kt264 : (Cond.methodLink "Blockduty" 222 ({ cls := "java/util/ArrayList", name := "get", desc := "(I)Ljava/lang/Object;" } : Jvm.MethodName)) ∈ gtbl := gtbl_tab (i := 264) rfl rfl
theorem kt265 : (Cond.instanceMethod ({ cls := "java/util/ArrayList", name := "get", desc := "(I)Ljava/lang/Object;" } : Jvm.MethodName)) ∈ gtbl := gtbl_tab (i := 265) rfl rfl
theorem kt266 : (Cond.selects "java/util/ArrayList" ({ cls := "java/util/ArrayList", name := "get", desc := "(I)Ljava/lang/Object;" } : Jvm.MethodName) ({ cls := "java/util/ArrayList", name := "get", desc := "(I)Ljava/lang/Object;" } : Jvm.MethodName)) ∈ gtbl := gtbl_tab (i := 266) rfl rfl
theorem kt267 : (Cond.code ({ cls := "java/util/ArrayList", name := "get", desc := "(I)Ljava/lang/Object;" } : Jvm.MethodName) prog_30_method_20_code 2 (Option.some (Jvm.ClassFile.FieldType.object "java/lang/Object"))) ∈ gtbl := gtbl_tab (i := 267) rfl rfl
theorem kt268 : (Cond.methodLink "java/util/ArrayList" 118 ({ cls := "java/util/Objects", name := "checkIndex", desc := "(II)I" } : Jvm.MethodName)) ∈ gtbl := gtbl_tab (i := 268) rfl rfl
theorem kt269 : (Cond.static ({ cls := "java/util/Objects", name := "checkIndex", desc := "(II)I" } : Jvm.MethodName)) ∈ gtbl := gtbl_tab (i := 269) rfl rfl
theorem kt270 : (Cond.code ({ cls := "java/util/Objects", name := "checkIndex", desc := "(II)I" } : Jvm.MethodName) prog_34_method_17_code 2 (Option.some Jvm.ClassFile.FieldType.int)) ∈ gtbl := gtbl_tab (i := 270) rfl rfl
theorem kt271 : (Cond.methodLink "java/util/Objects" 105 ({ cls := "jdk/internal/util/Preconditions", name := "checkIndex", desc := "(IILjava/util/function/BiFunction;)I" } : Jvm.MethodName)) ∈ gtbl := gtbl_tab (i := 271) rfl rfl
theorem kt272 : (Cond.static ({ cls := "jdk/internal/util/Preconditions", name := "checkIndex", desc := "(IILjava/util/function/BiFunction;)I" } : Jvm.MethodName)) ∈ gtbl := gtbl_tab (i := 272) rfl rfl
theorem kt273 : (Cond.code ({ cls := "jdk/internal/util/Preconditions", name := "checkIndex", desc := "(IILjava/util/function/BiFunction;)I" } : Jvm.MethodName) prog_38_method_11_code 3 (Option.some Jvm.ClassFile.FieldType.int)) ∈ gtbl := gtbl_tab (i := 273) rfl rfl
theorem kt274 : (Cond.methodLink "java/util/ArrayList" 123 ({ cls := "java/util/ArrayList", name := "elementData", desc := "(I)Ljava/lang/Object;" } : Jvm.MethodName)) ∈ gtbl := gtbl_tab (i := 274) rfl rfl
theorem kt275 : (Cond.instanceMethod ({ cls := "java/util/ArrayList", name := "elementData", desc := "(I)Ljava/lang/Object;" } : Jvm.MethodName)) ∈ gtbl := gtbl_tab (i := 275) rfl rfl
theorem kt276 : (Cond.selects "java/util/ArrayList" ({ cls := "java/util/ArrayList", name := "elementData", desc := "(I)Ljava/lang/Object;" } : Jvm.MethodName) ({ cls := "java/util/ArrayList", name := "elementData", desc := "(I)Ljava/lang/Object;" } : Jvm.MethodName)) ∈ gtbl := gtbl_tab (i := 276) rfl rfl
theorem kt277 : (Cond.code ({ cls := "java/util/ArrayList", name := "elementData", desc := "(I)Ljava/lang/Object;" } : Jvm.MethodName) prog_30_method_18_code 2 (Option.some (Jvm.ClassFile.FieldType.object "java/lang/Object"))) ∈ gtbl := gtbl_tab (i := 277) rfl rfl
theorem kt346 : (Cond.methodLink "Blockduty" 90 ({ cls := "Blockduty", name := "isOutside", desc := "(III)Z" } : Jvm.MethodName)) ∈ gtbl := gtbl_tab (i := 346) rfl rfl
theorem kt347 : (Cond.static ({ cls := "Blockduty", name := "isOutside", desc := "(III)Z" } : Jvm.MethodName)) ∈ gtbl := gtbl_tab (i := 347) rfl rfl
theorem kt348 : (Cond.code ({ cls := "Blockduty", name := "isOutside", desc := "(III)Z" } : Jvm.MethodName) prog_1_method_36_code 3 (Option.some Jvm.ClassFile.FieldType.boolean)) ∈ gtbl := gtbl_tab (i := 348) rfl rfl
theorem kt365 : (Cond.methodLink "Blockduty" 99 ({ cls := "java/util/ArrayList", name := "isEmpty", desc := "()Z" } : Jvm.MethodName)) ∈ gtbl := gtbl_tab (i := 365) rfl rfl
theorem kt366 : (Cond.instanceMethod ({ cls := "java/util/ArrayList", name := "isEmpty", desc := "()Z" } : Jvm.MethodName)) ∈ gtbl := gtbl_tab (i := 366) rfl rfl
theorem kt367 : (Cond.selects "java/util/ArrayList" ({ cls := "java/util/ArrayList", name := "isEmpty", desc := "()Z" } : Jvm.MethodName) ({ cls := "java/util/ArrayList", name := "isEmpty", desc := "()Z" } : Jvm.MethodName)) ∈ gtbl := gtbl_tab (i := 367) rfl rfl
theorem kt368 : (Cond.code ({ cls := "java/util/ArrayList", name := "isEmpty", desc := "()Z" } : Jvm.MethodName) prog_30_method_9_code 1 (Option.some Jvm.ClassFile.FieldType.boolean)) ∈ gtbl := gtbl_tab (i := 368) rfl rfl
theorem kt388 : (Cond.code ({ cls := "Blockduty", name := "line", desc := "(IIZ)I" } : Jvm.MethodName) prog_1_method_3_code 6 (Option.some Jvm.ClassFile.FieldType.int)) ∈ gtbl := gtbl_tab (i := 388) rfl rfl
theorem kt389 : (Cond.methodLink "Blockduty" 118 ({ cls := "Blockduty", name := "lineNumbered", desc := "(I)LBlockduty$Line;" } : Jvm.MethodName)) ∈ gtbl := gtbl_tab (i := 389) rfl rfl
theorem kt391 : (Cond.instanceMethod ({ cls := "Blockduty", name := "lineNumbered", desc := "(I)LBlockduty$Line;" } : Jvm.MethodName)) ∈ gtbl := gtbl_tab (i := 391) rfl rfl
theorem kt392 : (Cond.code ({ cls := "Blockduty", name := "lineNumbered", desc := "(I)LBlockduty$Line;" } : Jvm.MethodName) prog_1_method_38_code 2 (Option.some (Jvm.ClassFile.FieldType.object "Blockduty$Line"))) ∈ gtbl := gtbl_tab (i := 392) rfl rfl
theorem kt398 : (Cond.code ({ cls := "Blockduty", name := "trip", desc := "(IIIII)I" } : Jvm.MethodName) prog_1_method_4_code 11 (Option.some Jvm.ClassFile.FieldType.int)) ∈ gtbl := gtbl_tab (i := 398) rfl rfl
set_option maxRecDepth 20000 in
theorem kt402 : (Cond.classLink "Blockduty" 142 "Blockduty$Trip") ∈ gtbl := gtbl_tab (i := 402) rfl rfl
set_option maxRecDepth 20000 in
theorem kt403 : (Cond.instantiable "Blockduty$Trip" 12) ∈ gtbl := gtbl_tab (i := 403) rfl rfl
set_option maxRecDepth 20000 in
theorem kt404 : (Cond.methodLink "Blockduty" 144 ({ cls := "Blockduty$Trip", name := "<init>", desc := "(ILBlockduty$Line;LBlockduty$Place;LBlockduty$Place;II)V" } : Jvm.MethodName)) ∈ gtbl := gtbl_tab (i := 404) rfl rfl
set_option maxRecDepth 20000 in
theorem kt405 : (Cond.instanceMethod ({ cls := "Blockduty$Trip", name := "<init>", desc := "(ILBlockduty$Line;LBlockduty$Place;LBlockduty$Place;II)V" } : Jvm.MethodName)) ∈ gtbl := gtbl_tab (i := 405) rfl rfl
set_option maxRecDepth 20000 in
theorem kt406 : (Cond.code ({ cls := "Blockduty$Trip", name := "<init>", desc := "(ILBlockduty$Line;LBlockduty$Place;LBlockduty$Place;II)V" } : Jvm.MethodName) prog_9_method_1_code 7 (Option.none : Option Jvm.ClassFile.FieldType)) ∈ gtbl := gtbl_tab (i := 406) rfl rfl
set_option maxRecDepth 20000 in
theorem kt407 : (Cond.methodLink "Blockduty$Trip" 3 ({ cls := "java/lang/Object", name := "<init>", desc := "()V" } : Jvm.MethodName)) ∈ gtbl := gtbl_tab (i := 407) rfl rfl
set_option maxRecDepth 20000 in
theorem kt408 : (Cond.fieldLink "Blockduty$Trip" 9 "Blockduty$Trip" "number" "I") ∈ gtbl := gtbl_tab (i := 408) rfl rfl
set_option maxRecDepth 20000 in
theorem kt409 : (Cond.fieldLink "Blockduty" 221 "Blockduty$Trip" "number" "I") ∈ gtbl := gtbl_tab (i := 409) rfl rfl
set_option maxRecDepth 20000 in
theorem kt410 : (Cond.fieldLink "Blockduty$Trip" 15 "Blockduty$Trip" "line" "LBlockduty$Line;") ∈ gtbl := gtbl_tab (i := 410) rfl rfl
set_option maxRecDepth 20000 in
theorem kt411 : (Cond.fieldLink "Blockduty" 314 "Blockduty$Trip" "line" "LBlockduty$Line;") ∈ gtbl := gtbl_tab (i := 411) rfl rfl
set_option maxRecDepth 20000 in
theorem kt412 : (Cond.fieldLink "Blockduty$Trip" 19 "Blockduty$Trip" "from" "LBlockduty$Place;") ∈ gtbl := gtbl_tab (i := 412) rfl rfl
set_option maxRecDepth 20000 in
theorem kt413 : (Cond.fieldLink "Blockduty$Row" 51 "Blockduty$Trip" "from" "LBlockduty$Place;") ∈ gtbl := gtbl_tab (i := 413) rfl rfl
set_option maxRecDepth 20000 in
theorem kt414 : (Cond.fieldLink "Blockduty" 319 "Blockduty$Trip" "from" "LBlockduty$Place;") ∈ gtbl := gtbl_tab (i := 414) rfl rfl
set_option maxRecDepth 20000 in
theorem kt415 : (Cond.fieldLink "Blockduty$Trip" 23 "Blockduty$Trip" "to" "LBlockduty$Place;") ∈ gtbl := gtbl_tab (i := 415) rfl rfl
set_option maxRecDepth 20000 in
theorem kt416 : (Cond.fieldLink "Blockduty$WorkRules" 59 "Blockduty$Trip" "to" "LBlockduty$Place;") ∈ gtbl := gtbl_tab (i := 416) rfl rfl
set_option maxRecDepth 20000 in
theorem kt417 : (Cond.fieldLink "Blockduty$Row" 61 "Blockduty$Trip" "to" "LBlockduty$Place;") ∈ gtbl := gtbl_tab (i := 417) rfl rfl
set_option maxRecDepth 20000 in
theorem kt418 : (Cond.fieldLink "Blockduty" 323 "Blockduty$Trip" "to" "LBlockduty$Place;") ∈ gtbl := gtbl_tab (i := 418) rfl rfl
set_option maxRecDepth 20000 in
theorem kt419 : (Cond.fieldLink "Blockduty$Trip" 26 "Blockduty$Trip" "start" "I") ∈ gtbl := gtbl_tab (i := 419) rfl rfl
set_option maxRecDepth 20000 in
theorem kt420 : (Cond.fieldLink "Blockduty$Piece" 35 "Blockduty$Trip" "start" "I") ∈ gtbl := gtbl_tab (i := 420) rfl rfl
set_option maxRecDepth 20000 in
theorem kt421 : (Cond.fieldLink "Blockduty$WorkRules" 56 "Blockduty$Trip" "start" "I") ∈ gtbl := gtbl_tab (i := 421) rfl rfl
set_option maxRecDepth 20000 in
theorem kt422 : (Cond.fieldLink "Blockduty$Row" 67 "Blockduty$Trip" "start" "I") ∈ gtbl := gtbl_tab (i := 422) rfl rfl
set_option maxRecDepth 20000 in
theorem kt423 : (Cond.fieldLink "Blockduty$Block" 106 "Blockduty$Trip" "start" "I") ∈ gtbl := gtbl_tab (i := 423) rfl rfl
set_option maxRecDepth 20000 in
theorem kt424 : (Cond.fieldLink "Blockduty" 326 "Blockduty$Trip" "start" "I") ∈ gtbl := gtbl_tab (i := 424) rfl rfl
set_option maxRecDepth 20000 in
theorem kt425 : (Cond.fieldLink "Blockduty$Trip" 29 "Blockduty$Trip" "minutes" "I") ∈ gtbl := gtbl_tab (i := 425) rfl rfl
set_option maxRecDepth 20000 in
theorem kt426 : (Cond.fieldLink "Blockduty$WorkRules" 50 "Blockduty$Trip" "minutes" "I") ∈ gtbl := gtbl_tab (i := 426) rfl rfl
set_option maxRecDepth 20000 in
theorem kt427 : (Cond.fieldLink "Blockduty$Row" 77 "Blockduty$Trip" "minutes" "I") ∈ gtbl := gtbl_tab (i := 427) rfl rfl
set_option maxRecDepth 20000 in
theorem kt428 : (Cond.fieldLink "Blockduty$Block" 132 "Blockduty$Trip" "minutes" "I") ∈ gtbl := gtbl_tab (i := 428) rfl rfl
set_option maxRecDepth 20000 in
theorem kt429 : (Cond.fieldLink "Blockduty$Block" 129 "Blockduty$Trip" "delay" "I") ∈ gtbl := gtbl_tab (i := 429) rfl rfl
set_option maxRecDepth 20000 in
theorem kt430 : (Cond.fieldLink "Blockduty" 296 "Blockduty$Trip" "delay" "I") ∈ gtbl := gtbl_tab (i := 430) rfl rfl
set_option maxRecDepth 20000 in
theorem kt431 : (Cond.fieldLink "Blockduty$Block" 55 "Blockduty$Trip" "block" "LBlockduty$Block;") ∈ gtbl := gtbl_tab (i := 431) rfl rfl
set_option maxRecDepth 20000 in
theorem kt432 : (Cond.fieldLink "Blockduty$Trip" 42 "Blockduty$Trip" "block" "LBlockduty$Block;") ∈ gtbl := gtbl_tab (i := 432) rfl rfl
set_option maxRecDepth 20000 in
theorem kt433 : (Cond.fieldLink "Blockduty" 198 "Blockduty$Trip" "block" "LBlockduty$Block;") ∈ gtbl := gtbl_tab (i := 433) rfl rfl
set_option maxRecDepth 20000 in
theorem kt434 : (Cond.fieldLink "Blockduty$Piece" 68 "Blockduty$Trip" "piece" "LBlockduty$Piece;") ∈ gtbl := gtbl_tab (i := 434) rfl rfl
set_option maxRecDepth 20000 in
theorem kt435 : (Cond.fieldLink "Blockduty$Block" 81 "Blockduty$Trip" "piece" "LBlockduty$Piece;") ∈ gtbl := gtbl_tab (i := 435) rfl rfl
set_option maxRecDepth 20000 in
theorem kt436 : (Cond.fieldLink "Blockduty$Trip" 49 "Blockduty$Trip" "piece" "LBlockduty$Piece;") ∈ gtbl := gtbl_tab (i := 436) rfl rfl
set_option maxRecDepth 20000 in
theorem kt437 : (Cond.fieldLink "Blockduty$Trip" 56 "Blockduty$Trip" "cause" "I") ∈ gtbl := gtbl_tab (i := 437) rfl rfl
set_option maxRecDepth 20000 in
theorem kt438 : (Cond.fieldLink "Blockduty$Block" 122 "Blockduty$Trip" "cause" "I") ∈ gtbl := gtbl_tab (i := 438) rfl rfl
set_option maxRecDepth 20000 in
theorem kt439 : (Cond.fieldLink "Blockduty" 338 "Blockduty$Trip" "cause" "I") ∈ gtbl := gtbl_tab (i := 439) rfl rfl
set_option maxRecDepth 20000 in
theorem kt440 : (Cond.fieldLink "Blockduty$Trip" 59 "Blockduty$Trip" "realStart" "I") ∈ gtbl := gtbl_tab (i := 440) rfl rfl
set_option maxRecDepth 20000 in
theorem kt441 : (Cond.fieldLink "Blockduty$Block" 115 "Blockduty$Trip" "realStart" "I") ∈ gtbl := gtbl_tab (i := 441) rfl rfl
set_option maxRecDepth 20000 in
theorem kt442 : (Cond.fieldLink "Blockduty$Piece" 76 "Blockduty$Trip" "realEnd" "I") ∈ gtbl := gtbl_tab (i := 442) rfl rfl
set_option maxRecDepth 20000 in
theorem kt443 : (Cond.fieldLink "Blockduty$Block" 99 "Blockduty$Trip" "realEnd" "I") ∈ gtbl := gtbl_tab (i := 443) rfl rfl
set_option maxRecDepth 20000 in
theorem kt444 : (Cond.fieldLink "Blockduty" 347 "Blockduty$Trip" "realEnd" "I") ∈ gtbl := gtbl_tab (i := 444) rfl rfl
set_option maxRecDepth 20000 in
theorem kt445 : (Cond.laysFinal "Blockduty$Trip" "Blockduty$Trip" "number" "I") ∈ gtbl := gtbl_tab (i := 445) rfl rfl
set_option maxRecDepth 20000 in
theorem kt447 : (Cond.laysFinal "Blockduty$Trip" "Blockduty$Trip" "line" "LBlockduty$Line;") ∈ gtbl := gtbl_tab (i := 447) rfl rfl
set_option maxRecDepth 20000 in
theorem kt449 : (Cond.laysFinal "Blockduty$Trip" "Blockduty$Trip" "from" "LBlockduty$Place;") ∈ gtbl := gtbl_tab (i := 449) rfl rfl
set_option maxRecDepth 20000 in
theorem kt451 : (Cond.laysFinal "Blockduty$Trip" "Blockduty$Trip" "to" "LBlockduty$Place;") ∈ gtbl := gtbl_tab (i := 451) rfl rfl
set_option maxRecDepth 20000 in
theorem kt453 : (Cond.laysFinal "Blockduty$Trip" "Blockduty$Trip" "start" "I") ∈ gtbl := gtbl_tab (i := 453) rfl rfl
set_option maxRecDepth 20000 in
theorem kt455 : (Cond.laysFinal "Blockduty$Trip" "Blockduty$Trip" "minutes" "I") ∈ gtbl := gtbl_tab (i := 455) rfl rfl
set_option maxRecDepth 20000 in
theorem kt457 : (Cond.lays "Blockduty$Trip" "Blockduty$Trip" "delay" "I") ∈ gtbl := gtbl_tab (i := 457) rfl rfl
set_option maxRecDepth 20000 in
theorem kt459 : (Cond.lays "Blockduty$Trip" "Blockduty$Trip" "block" "LBlockduty$Block;") ∈ gtbl := gtbl_tab (i := 459) rfl rfl
set_option maxRecDepth 20000 in
theorem kt461 : (Cond.lays "Blockduty$Trip" "Blockduty$Trip" "piece" "LBlockduty$Piece;") ∈ gtbl := gtbl_tab (i := 461) rfl rfl
set_option maxRecDepth 20000 in
theorem kt463 : (Cond.lays "Blockduty$Trip" "Blockduty$Trip" "cause" "I") ∈ gtbl := gtbl_tab (i := 463) rfl rfl
set_option maxRecDepth 20000 in
theorem kt465 : (Cond.lays "Blockduty$Trip" "Blockduty$Trip" "realStart" "I") ∈ gtbl := gtbl_tab (i := 465) rfl rfl
set_option maxRecDepth 20000 in
theorem kt467 : (Cond.lays "Blockduty$Trip" "Blockduty$Trip" "realEnd" "I") ∈ gtbl := gtbl_tab (i := 467) rfl rfl
set_option maxRecDepth 20000 in
theorem kt470 : (Cond.methodLink "Blockduty" 147 ({ cls := "Blockduty", name := "addByStart", desc := "(LBlockduty$Trip;)V" } : Jvm.MethodName)) ∈ gtbl := gtbl_tab (i := 470) rfl rfl
set_option maxRecDepth 20000 in
theorem kt472 : (Cond.instanceMethod ({ cls := "Blockduty", name := "addByStart", desc := "(LBlockduty$Trip;)V" } : Jvm.MethodName)) ∈ gtbl := gtbl_tab (i := 472) rfl rfl
set_option maxRecDepth 20000 in
theorem kt473 : (Cond.code ({ cls := "Blockduty", name := "addByStart", desc := "(LBlockduty$Trip;)V" } : Jvm.MethodName) prog_1_method_43_code 3 (Option.none : Option Jvm.ClassFile.FieldType)) ∈ gtbl := gtbl_tab (i := 473) rfl rfl
set_option maxRecDepth 20000 in
theorem kt474 : (Cond.methodLink "Blockduty" 474 ({ cls := "java/util/ArrayList", name := "add", desc := "(ILjava/lang/Object;)V" } : Jvm.MethodName)) ∈ gtbl := gtbl_tab (i := 474) rfl rfl
set_option maxRecDepth 20000 in
theorem kt475 : (Cond.instanceMethod ({ cls := "java/util/ArrayList", name := "add", desc := "(ILjava/lang/Object;)V" } : Jvm.MethodName)) ∈ gtbl := gtbl_tab (i := 475) rfl rfl
set_option maxRecDepth 20000 in
theorem kt476 : (Cond.selects "java/util/ArrayList" ({ cls := "java/util/ArrayList", name := "add", desc := "(ILjava/lang/Object;)V" } : Jvm.MethodName) ({ cls := "java/util/ArrayList", name := "add", desc := "(ILjava/lang/Object;)V" } : Jvm.MethodName)) ∈ gtbl := gtbl_tab (i := 476) rfl rfl
set_option maxRecDepth 20000 in
theorem kt477 : (Cond.code ({ cls := "java/util/ArrayList", name := "add", desc := "(ILjava/lang/Object;)V" } : Jvm.MethodName) prog_30_method_26_code 5 (Option.none : Option Jvm.ClassFile.FieldType)) ∈ gtbl := gtbl_tab (i := 477) rfl rfl
set_option maxRecDepth 20000 in
theorem kt478 : (Cond.methodLink "java/util/ArrayList" 135 ({ cls := "java/util/ArrayList", name := "rangeCheckForAdd", desc := "(I)V" } : Jvm.MethodName)) ∈ gtbl := gtbl_tab (i := 478) rfl rfl
set_option maxRecDepth 20000 in
theorem kt480 : (Cond.instanceMethod ({ cls := "java/util/ArrayList", name := "rangeCheckForAdd", desc := "(I)V" } : Jvm.MethodName)) ∈ gtbl := gtbl_tab (i := 480) rfl rfl
set_option maxRecDepth 20000 in
theorem kt481 : (Cond.code ({ cls := "java/util/ArrayList", name := "rangeCheckForAdd", desc := "(I)V" } : Jvm.MethodName) prog_30_method_45_code 2 (Option.none : Option Jvm.ClassFile.FieldType)) ∈ gtbl := gtbl_tab (i := 481) rfl rfl
set_option maxRecDepth 20000 in
theorem kt482 : (Cond.methodLink "java/util/ArrayList" 112 ({ cls := "java/lang/System", name := "arraycopy", desc := "(Ljava/lang/Object;ILjava/lang/Object;II)V" } : Jvm.MethodName)) ∈ gtbl := gtbl_tab (i := 482) rfl rfl
set_option maxRecDepth 20000 in
theorem kt486 : (Cond.code ({ cls := "Blockduty", name := "driver", desc := "()I" } : Jvm.MethodName) prog_1_method_7_code 2 (Option.some Jvm.ClassFile.FieldType.int)) ∈ gtbl := gtbl_tab (i := 486) rfl rfl
set_option maxRecDepth 20000 in
theorem kt488 : (Cond.classLink "Blockduty" 166 "Blockduty$Driver") ∈ gtbl := gtbl_tab (i := 488) rfl rfl
set_option maxRecDepth 20000 in
theorem kt489 : (Cond.instantiable "Blockduty$Driver" 3) ∈ gtbl := gtbl_tab (i := 489) rfl rfl
set_option maxRecDepth 20000 in
theorem kt490 : (Cond.methodLink "Blockduty" 168 ({ cls := "Blockduty$Driver", name := "<init>", desc := "(I)V" } : Jvm.MethodName)) ∈ gtbl := gtbl_tab (i := 490) rfl rfl
set_option maxRecDepth 20000 in
theorem kt491 : (Cond.instanceMethod ({ cls := "Blockduty$Driver", name := "<init>", desc := "(I)V" } : Jvm.MethodName)) ∈ gtbl := gtbl_tab (i := 491) rfl rfl
set_option maxRecDepth 20000 in
theorem kt492 : (Cond.code ({ cls := "Blockduty$Driver", name := "<init>", desc := "(I)V" } : Jvm.MethodName) prog_3_method_1_code 2 (Option.none : Option Jvm.ClassFile.FieldType)) ∈ gtbl := gtbl_tab (i := 492) rfl rfl
set_option maxRecDepth 20000 in
theorem kt493 : (Cond.methodLink "Blockduty$Driver" 3 ({ cls := "java/lang/Object", name := "<init>", desc := "()V" } : Jvm.MethodName)) ∈ gtbl := gtbl_tab (i := 493) rfl rfl
set_option maxRecDepth 20000 in
theorem kt494 : (Cond.classLink "Blockduty$Driver" 9 "java/util/ArrayList") ∈ gtbl := gtbl_tab (i := 494) rfl rfl
set_option maxRecDepth 20000 in
theorem kt495 : (Cond.methodLink "Blockduty$Driver" 11 ({ cls := "java/util/ArrayList", name := "<init>", desc := "()V" } : Jvm.MethodName)) ∈ gtbl := gtbl_tab (i := 495) rfl rfl
set_option maxRecDepth 20000 in
theorem kt496 : (Cond.fieldLink "Blockduty$Driver" 18 "Blockduty$Driver" "number" "I") ∈ gtbl := gtbl_tab (i := 496) rfl rfl
set_option maxRecDepth 20000 in
theorem kt497 : (Cond.fieldLink "Blockduty$Piece" 42 "Blockduty$Driver" "number" "I") ∈ gtbl := gtbl_tab (i := 497) rfl rfl
set_option maxRecDepth 20000 in
theorem kt498 : (Cond.fieldLink "Blockduty$Piece" 49 "Blockduty$Driver" "isSick" "Z") ∈ gtbl := gtbl_tab (i := 498) rfl rfl
set_option maxRecDepth 20000 in
theorem kt499 : (Cond.fieldLink "Blockduty$Trip" 72 "Blockduty$Driver" "isSick" "Z") ∈ gtbl := gtbl_tab (i := 499) rfl rfl
set_option maxRecDepth 20000 in
theorem kt500 : (Cond.fieldLink "Blockduty" 306 "Blockduty$Driver" "isSick" "Z") ∈ gtbl := gtbl_tab (i := 500) rfl rfl
set_option maxRecDepth 20000 in
theorem kt501 : (Cond.fieldLink "Blockduty$Driver" 12 "Blockduty$Driver" "pieces" "Ljava/util/ArrayList;") ∈ gtbl := gtbl_tab (i := 501) rfl rfl
set_option maxRecDepth 20000 in
theorem kt502 : (Cond.fieldLink "Blockduty" 278 "Blockduty$Driver" "pieces" "Ljava/util/ArrayList;") ∈ gtbl := gtbl_tab (i := 502) rfl rfl
set_option maxRecDepth 20000 in
theorem kt503 : (Cond.laysFinal "Blockduty$Driver" "Blockduty$Driver" "number" "I") ∈ gtbl := gtbl_tab (i := 503) rfl rfl
set_option maxRecDepth 20000 in
theorem kt505 : (Cond.lays "Blockduty$Driver" "Blockduty$Driver" "isSick" "Z") ∈ gtbl := gtbl_tab (i := 505) rfl rfl
set_option maxRecDepth 20000 in
theorem kt507 : (Cond.laysFinal "Blockduty$Driver" "Blockduty$Driver" "pieces" "Ljava/util/ArrayList;") ∈ gtbl := gtbl_tab (i := 507) rfl rfl
set_option maxRecDepth 20000 in
theorem kt513 : (Cond.code ({ cls := "Blockduty", name := "block", desc := "(I)I" } : Jvm.MethodName) prog_1_method_8_code 2 (Option.some Jvm.ClassFile.FieldType.int)) ∈ gtbl := gtbl_tab (i := 513) rfl rfl
set_option maxRecDepth 20000 in
theorem kt516 : (Cond.methodLink "Blockduty" 173 ({ cls := "Blockduty", name := "newBlock", desc := "(I)LBlockduty$Block;" } : Jvm.MethodName)) ∈ gtbl := gtbl_tab (i := 516) rfl rfl
set_option maxRecDepth 20000 in
theorem kt518 : (Cond.instanceMethod ({ cls := "Blockduty", name := "newBlock", desc := "(I)LBlockduty$Block;" } : Jvm.MethodName)) ∈ gtbl := gtbl_tab (i := 518) rfl rfl
set_option maxRecDepth 20000 in
theorem kt519 : (Cond.code ({ cls := "Blockduty", name := "newBlock", desc := "(I)LBlockduty$Block;" } : Jvm.MethodName) prog_1_method_44_code 3 (Option.some (Jvm.ClassFile.FieldType.object "Blockduty$Block"))) ∈ gtbl := gtbl_tab (i := 519) rfl rfl
set_option maxRecDepth 20000 in
theorem kt520 : (Cond.classLink "Blockduty" 178 "Blockduty$Block") ∈ gtbl := gtbl_tab (i := 520) rfl rfl
set_option maxRecDepth 20000 in
theorem kt521 : (Cond.instantiable "Blockduty$Block" 5) ∈ gtbl := gtbl_tab (i := 521) rfl rfl
set_option maxRecDepth 20000 in
theorem kt522 : (Cond.methodLink "Blockduty" 477 ({ cls := "Blockduty$Block", name := "<init>", desc := "(II)V" } : Jvm.MethodName)) ∈ gtbl := gtbl_tab (i := 522) rfl rfl
set_option maxRecDepth 20000 in
theorem kt523 : (Cond.instanceMethod ({ cls := "Blockduty$Block", name := "<init>", desc := "(II)V" } : Jvm.MethodName)) ∈ gtbl := gtbl_tab (i := 523) rfl rfl
set_option maxRecDepth 20000 in
theorem kt524 : (Cond.code ({ cls := "Blockduty$Block", name := "<init>", desc := "(II)V" } : Jvm.MethodName) prog_2_method_1_code 3 (Option.none : Option Jvm.ClassFile.FieldType)) ∈ gtbl := gtbl_tab (i := 524) rfl rfl
set_option maxRecDepth 20000 in
theorem kt525 : (Cond.methodLink "Blockduty$Block" 3 ({ cls := "java/lang/Object", name := "<init>", desc := "()V" } : Jvm.MethodName)) ∈ gtbl := gtbl_tab (i := 525) rfl rfl
set_option maxRecDepth 20000 in
theorem kt526 : (Cond.classLink "Blockduty$Block" 15 "Blockduty$Row") ∈ gtbl := gtbl_tab (i := 526) rfl rfl
set_option maxRecDepth 20000 in
theorem kt528 : (Cond.classLink "Blockduty$Block" 22 "java/util/ArrayList") ∈ gtbl := gtbl_tab (i := 528) rfl rfl
set_option maxRecDepth 20000 in
theorem kt529 : (Cond.methodLink "Blockduty$Block" 24 ({ cls := "java/util/ArrayList", name := "<init>", desc := "()V" } : Jvm.MethodName)) ∈ gtbl := gtbl_tab (i := 529) rfl rfl
set_option maxRecDepth 20000 in
theorem kt530 : (Cond.fieldLink "Blockduty$Block" 29 "Blockduty$Block" "number" "I") ∈ gtbl := gtbl_tab (i := 530) rfl rfl
set_option maxRecDepth 20000 in
theorem kt531 : (Cond.fieldLink "Blockduty$Trip" 46 "Blockduty$Block" "number" "I") ∈ gtbl := gtbl_tab (i := 531) rfl rfl
set_option maxRecDepth 20000 in
theorem kt532 : (Cond.fieldLink "Blockduty" 177 "Blockduty$Block" "number" "I") ∈ gtbl := gtbl_tab (i := 532) rfl rfl
set_option maxRecDepth 20000 in
theorem kt533 : (Cond.fieldLink "Blockduty$Block" 32 "Blockduty$Block" "capacity" "I") ∈ gtbl := gtbl_tab (i := 533) rfl rfl
set_option maxRecDepth 20000 in
theorem kt534 : (Cond.fieldLink "Blockduty" 350 "Blockduty$Block" "capacity" "I") ∈ gtbl := gtbl_tab (i := 534) rfl rfl
set_option maxRecDepth 20000 in
theorem kt535 : (Cond.fieldLink "Blockduty$Block" 9 "Blockduty$Block" "breakdown" "I") ∈ gtbl := gtbl_tab (i := 535) rfl rfl
set_option maxRecDepth 20000 in
theorem kt536 : (Cond.fieldLink "Blockduty" 301 "Blockduty$Block" "breakdown" "I") ∈ gtbl := gtbl_tab (i := 536) rfl rfl
set_option maxRecDepth 20000 in
theorem kt537 : (Cond.fieldLink "Blockduty$Block" 18 "Blockduty$Block" "row" "LBlockduty$Row;") ∈ gtbl := gtbl_tab (i := 537) rfl rfl
set_option maxRecDepth 20000 in
theorem kt538 : (Cond.fieldLink "Blockduty" 191 "Blockduty$Block" "row" "LBlockduty$Row;") ∈ gtbl := gtbl_tab (i := 538) rfl rfl
set_option maxRecDepth 20000 in
theorem kt539 : (Cond.fieldLink "Blockduty$Block" 25 "Blockduty$Block" "pieces" "Ljava/util/ArrayList;") ∈ gtbl := gtbl_tab (i := 539) rfl rfl
set_option maxRecDepth 20000 in
theorem kt540 : (Cond.fieldLink "Blockduty" 353 "Blockduty$Block" "pieces" "Ljava/util/ArrayList;") ∈ gtbl := gtbl_tab (i := 540) rfl rfl
set_option maxRecDepth 20000 in
theorem kt541 : (Cond.laysFinal "Blockduty$Block" "Blockduty$Block" "number" "I") ∈ gtbl := gtbl_tab (i := 541) rfl rfl
set_option maxRecDepth 20000 in
theorem kt543 : (Cond.laysFinal "Blockduty$Block" "Blockduty$Block" "capacity" "I") ∈ gtbl := gtbl_tab (i := 543) rfl rfl
set_option maxRecDepth 20000 in
theorem kt545 : (Cond.lays "Blockduty$Block" "Blockduty$Block" "breakdown" "I") ∈ gtbl := gtbl_tab (i := 545) rfl rfl
set_option maxRecDepth 20000 in
theorem kt547 : (Cond.laysFinal "Blockduty$Block" "Blockduty$Block" "row" "LBlockduty$Row;") ∈ gtbl := gtbl_tab (i := 547) rfl rfl
set_option maxRecDepth 20000 in
theorem kt549 : (Cond.laysFinal "Blockduty$Block" "Blockduty$Block" "pieces" "Ljava/util/ArrayList;") ∈ gtbl := gtbl_tab (i := 549) rfl rfl
set_option maxRecDepth 20000 in
theorem kt555 : (Cond.code ({ cls := "Blockduty", name := "takeOff", desc := "(I)I" } : Jvm.MethodName) prog_1_method_10_code 4 (Option.some Jvm.ClassFile.FieldType.int)) ∈ gtbl := gtbl_tab (i := 555) rfl rfl
set_option maxRecDepth 20000 in
theorem kt556 : (Cond.methodLink "Blockduty" 182 ({ cls := "Blockduty", name := "blockNumbered", desc := "(I)LBlockduty$Block;" } : Jvm.MethodName)) ∈ gtbl := gtbl_tab (i := 556) rfl rfl
set_option maxRecDepth 20000 in
theorem kt558 : (Cond.instanceMethod ({ cls := "Blockduty", name := "blockNumbered", desc := "(I)LBlockduty$Block;" } : Jvm.MethodName)) ∈ gtbl := gtbl_tab (i := 558) rfl rfl
set_option maxRecDepth 20000 in
theorem kt559 : (Cond.code ({ cls := "Blockduty", name := "blockNumbered", desc := "(I)LBlockduty$Block;" } : Jvm.MethodName) prog_1_method_40_code 2 (Option.some (Jvm.ClassFile.FieldType.object "Blockduty$Block"))) ∈ gtbl := gtbl_tab (i := 559) rfl rfl
set_option maxRecDepth 20000 in
theorem kt561 : (Cond.methodLink "Blockduty" 216 ({ cls := "Blockduty$Block", name := "removeLastTrip", desc := "()LBlockduty$Trip;" } : Jvm.MethodName)) ∈ gtbl := gtbl_tab (i := 561) rfl rfl
set_option maxRecDepth 20000 in
theorem kt562 : (Cond.instanceMethod ({ cls := "Blockduty$Block", name := "removeLastTrip", desc := "()LBlockduty$Trip;" } : Jvm.MethodName)) ∈ gtbl := gtbl_tab (i := 562) rfl rfl
set_option maxRecDepth 20000 in
theorem kt563 : (Cond.selects "Blockduty$Block" ({ cls := "Blockduty$Block", name := "removeLastTrip", desc := "()LBlockduty$Trip;" } : Jvm.MethodName) ({ cls := "Blockduty$Block", name := "removeLastTrip", desc := "()LBlockduty$Trip;" } : Jvm.MethodName)) ∈ gtbl := gtbl_tab (i := 563) rfl rfl
set_option maxRecDepth 20000 in
theorem kt564 : (Cond.code ({ cls := "Blockduty$Block", name := "removeLastTrip", desc := "()LBlockduty$Trip;" } : Jvm.MethodName) prog_2_method_4_code 2 (Option.some (Jvm.ClassFile.FieldType.object "Blockduty$Trip"))) ∈ gtbl := gtbl_tab (i := 564) rfl rfl
set_option maxRecDepth 20000 in
theorem kt565 : (Cond.methodLink "Blockduty$Block" 61 ({ cls := "Blockduty$Row", name := "last", desc := "()LBlockduty$Trip;" } : Jvm.MethodName)) ∈ gtbl := gtbl_tab (i := 565) rfl rfl
set_option maxRecDepth 20000 in
theorem kt566 : (Cond.instanceMethod ({ cls := "Blockduty$Row", name := "last", desc := "()LBlockduty$Trip;" } : Jvm.MethodName)) ∈ gtbl := gtbl_tab (i := 566) rfl rfl
set_option maxRecDepth 20000 in
theorem kt567 : (Cond.selects "Blockduty$Row" ({ cls := "Blockduty$Row", name := "last", desc := "()LBlockduty$Trip;" } : Jvm.MethodName) ({ cls := "Blockduty$Row", name := "last", desc := "()LBlockduty$Trip;" } : Jvm.MethodName)) ∈ gtbl := gtbl_tab (i := 567) rfl rfl
set_option maxRecDepth 20000 in
theorem kt568 : (Cond.code ({ cls := "Blockduty$Row", name := "last", desc := "()LBlockduty$Trip;" } : Jvm.MethodName) prog_8_method_4_code 1 (Option.some (Jvm.ClassFile.FieldType.object "Blockduty$Trip"))) ∈ gtbl := gtbl_tab (i := 568) rfl rfl
set_option maxRecDepth 20000 in
theorem kt569 : (Cond.methodLink "Blockduty$Row" 18 ({ cls := "java/util/ArrayList", name := "size", desc := "()I" } : Jvm.MethodName)) ∈ gtbl := gtbl_tab (i := 569) rfl rfl
set_option maxRecDepth 20000 in
theorem kt570 : (Cond.methodLink "Blockduty$Row" 28 ({ cls := "Blockduty$Row", name := "get", desc := "(I)LBlockduty$Trip;" } : Jvm.MethodName)) ∈ gtbl := gtbl_tab (i := 570) rfl rfl
set_option maxRecDepth 20000 in
theorem kt571 : (Cond.instanceMethod ({ cls := "Blockduty$Row", name := "get", desc := "(I)LBlockduty$Trip;" } : Jvm.MethodName)) ∈ gtbl := gtbl_tab (i := 571) rfl rfl
set_option maxRecDepth 20000 in
theorem kt572 : (Cond.selects "Blockduty$Row" ({ cls := "Blockduty$Row", name := "get", desc := "(I)LBlockduty$Trip;" } : Jvm.MethodName) ({ cls := "Blockduty$Row", name := "get", desc := "(I)LBlockduty$Trip;" } : Jvm.MethodName)) ∈ gtbl := gtbl_tab (i := 572) rfl rfl
set_option maxRecDepth 20000 in
theorem kt573 : (Cond.code ({ cls := "Blockduty$Row", name := "get", desc := "(I)LBlockduty$Trip;" } : Jvm.MethodName) prog_8_method_3_code 2 (Option.some (Jvm.ClassFile.FieldType.object "Blockduty$Trip"))) ∈ gtbl := gtbl_tab (i := 573) rfl rfl
set_option maxRecDepth 20000 in
theorem kt574 : (Cond.methodLink "Blockduty$Row" 22 ({ cls := "java/util/ArrayList", name := "get", desc := "(I)Ljava/lang/Object;" } : Jvm.MethodName)) ∈ gtbl := gtbl_tab (i := 574) rfl rfl
set_option maxRecDepth 20000 in
theorem kt575 : (Cond.classLink "Blockduty$Row" 26 "Blockduty$Trip") ∈ gtbl := gtbl_tab (i := 575) rfl rfl
set_option maxRecDepth 20000 in
theorem kt576 : (Cond.methodLink "Blockduty$Block" 45 ({ cls := "Blockduty$Block", name := "forgetPieces", desc := "()V" } : Jvm.MethodName)) ∈ gtbl := gtbl_tab (i := 576) rfl rfl
set_option maxRecDepth 20000 in
theorem kt578 : (Cond.instanceMethod ({ cls := "Blockduty$Block", name := "forgetPieces", desc := "()V" } : Jvm.MethodName)) ∈ gtbl := gtbl_tab (i := 578) rfl rfl
set_option maxRecDepth 20000 in
theorem kt579 : (Cond.code ({ cls := "Blockduty$Block", name := "forgetPieces", desc := "()V" } : Jvm.MethodName) prog_2_method_6_code 2 (Option.none : Option Jvm.ClassFile.FieldType)) ∈ gtbl := gtbl_tab (i := 579) rfl rfl
set_option maxRecDepth 20000 in
theorem kt580 : (Cond.methodLink "Blockduty$Block" 35 ({ cls := "java/util/ArrayList", name := "size", desc := "()I" } : Jvm.MethodName)) ∈ gtbl := gtbl_tab (i := 580) rfl rfl
set_option maxRecDepth 20000 in
theorem kt581 : (Cond.methodLink "Blockduty$Block" 39 ({ cls := "java/util/ArrayList", name := "get", desc := "(I)Ljava/lang/Object;" } : Jvm.MethodName)) ∈ gtbl := gtbl_tab (i := 581) rfl rfl
set_option maxRecDepth 20000 in
theorem kt582 : (Cond.classLink "Blockduty$Block" 43 "Blockduty$Piece") ∈ gtbl := gtbl_tab (i := 582) rfl rfl
set_option maxRecDepth 20000 in
theorem kt583 : (Cond.methodLink "Blockduty$Block" 75 ({ cls := "Blockduty$Piece", name := "release", desc := "()V" } : Jvm.MethodName)) ∈ gtbl := gtbl_tab (i := 583) rfl rfl
set_option maxRecDepth 20000 in
theorem kt584 : (Cond.instanceMethod ({ cls := "Blockduty$Piece", name := "release", desc := "()V" } : Jvm.MethodName)) ∈ gtbl := gtbl_tab (i := 584) rfl rfl
set_option maxRecDepth 20000 in
theorem kt585 : (Cond.selects "Blockduty$Piece" ({ cls := "Blockduty$Piece", name := "release", desc := "()V" } : Jvm.MethodName) ({ cls := "Blockduty$Piece", name := "release", desc := "()V" } : Jvm.MethodName)) ∈ gtbl := gtbl_tab (i := 585) rfl rfl
set_option maxRecDepth 20000 in
theorem kt586 : (Cond.code ({ cls := "Blockduty$Piece", name := "release", desc := "()V" } : Jvm.MethodName) prog_6_method_5_code 1 (Option.none : Option Jvm.ClassFile.FieldType)) ∈ gtbl := gtbl_tab (i := 586) rfl rfl
set_option maxRecDepth 20000 in
theorem kt587 : (Cond.methodLink "Blockduty$Piece" 45 ({ cls := "Blockduty$Driver", name := "drop", desc := "(LBlockduty$Piece;)V" } : Jvm.MethodName)) ∈ gtbl := gtbl_tab (i := 587) rfl rfl
set_option maxRecDepth 20000 in
theorem kt588 : (Cond.instanceMethod ({ cls := "Blockduty$Driver", name := "drop", desc := "(LBlockduty$Piece;)V" } : Jvm.MethodName)) ∈ gtbl := gtbl_tab (i := 588) rfl rfl
set_option maxRecDepth 20000 in
theorem kt589 : (Cond.selects "Blockduty$Driver" ({ cls := "Blockduty$Driver", name := "drop", desc := "(LBlockduty$Piece;)V" } : Jvm.MethodName) ({ cls := "Blockduty$Driver", name := "drop", desc := "(LBlockduty$Piece;)V" } : Jvm.MethodName)) ∈ gtbl := gtbl_tab (i := 589) rfl rfl
set_option maxRecDepth 20000 in
theorem kt590 : (Cond.code ({ cls := "Blockduty$Driver", name := "drop", desc := "(LBlockduty$Piece;)V" } : Jvm.MethodName) prog_3_method_3_code 3 (Option.none : Option Jvm.ClassFile.FieldType)) ∈ gtbl := gtbl_tab (i := 590) rfl rfl
set_option maxRecDepth 20000 in
theorem kt591 : (Cond.methodLink "Blockduty$Driver" 22 ({ cls := "java/util/ArrayList", name := "size", desc := "()I" } : Jvm.MethodName)) ∈ gtbl := gtbl_tab (i := 591) rfl rfl
set_option maxRecDepth 20000 in
theorem kt592 : (Cond.methodLink "Blockduty$Driver" 26 ({ cls := "java/util/ArrayList", name := "get", desc := "(I)Ljava/lang/Object;" } : Jvm.MethodName)) ∈ gtbl := gtbl_tab (i := 592) rfl rfl
set_option maxRecDepth 20000 in
theorem kt593 : (Cond.methodLink "Blockduty$Driver" 40 ({ cls := "java/util/ArrayList", name := "remove", desc := "(I)Ljava/lang/Object;" } : Jvm.MethodName)) ∈ gtbl := gtbl_tab (i := 593) rfl rfl
set_option maxRecDepth 20000 in
theorem kt594 : (Cond.instanceMethod ({ cls := "java/util/ArrayList", name := "remove", desc := "(I)Ljava/lang/Object;" } : Jvm.MethodName)) ∈ gtbl := gtbl_tab (i := 594) rfl rfl
set_option maxRecDepth 20000 in
theorem kt595 : (Cond.selects "java/util/ArrayList" ({ cls := "java/util/ArrayList", name := "remove", desc := "(I)Ljava/lang/Object;" } : Jvm.MethodName) ({ cls := "java/util/ArrayList", name := "remove", desc := "(I)Ljava/lang/Object;" } : Jvm.MethodName)) ∈ gtbl := gtbl_tab (i := 595) rfl rfl
set_option maxRecDepth 20000 in
theorem kt596 : (Cond.code ({ cls := "java/util/ArrayList", name := "remove", desc := "(I)Ljava/lang/Object;" } : Jvm.MethodName) prog_30_method_29_code 4 (Option.some (Jvm.ClassFile.FieldType.object "java/lang/Object"))) ∈ gtbl := gtbl_tab (i := 596) rfl rfl
set_option maxRecDepth 20000 in
theorem kt597 : (Cond.methodLink "java/util/ArrayList" 144 ({ cls := "java/util/ArrayList", name := "fastRemove", desc := "([Ljava/lang/Object;I)V" } : Jvm.MethodName)) ∈ gtbl := gtbl_tab (i := 597) rfl rfl
set_option maxRecDepth 20000 in
theorem kt599 : (Cond.instanceMethod ({ cls := "java/util/ArrayList", name := "fastRemove", desc := "([Ljava/lang/Object;I)V" } : Jvm.MethodName)) ∈ gtbl := gtbl_tab (i := 599) rfl rfl
set_option maxRecDepth 20000 in
theorem kt600 : (Cond.code ({ cls := "java/util/ArrayList", name := "fastRemove", desc := "([Ljava/lang/Object;I)V" } : Jvm.MethodName) prog_30_method_39_code 4 (Option.none : Option Jvm.ClassFile.FieldType)) ∈ gtbl := gtbl_tab (i := 600) rfl rfl
set_option maxRecDepth 20000 in
theorem kt601 : (Cond.methodLink "Blockduty$Block" 78 ({ cls := "java/util/ArrayList", name := "clear", desc := "()V" } : Jvm.MethodName)) ∈ gtbl := gtbl_tab (i := 601) rfl rfl
set_option maxRecDepth 20000 in
theorem kt602 : (Cond.instanceMethod ({ cls := "java/util/ArrayList", name := "clear", desc := "()V" } : Jvm.MethodName)) ∈ gtbl := gtbl_tab (i := 602) rfl rfl
set_option maxRecDepth 20000 in
theorem kt603 : (Cond.selects "java/util/ArrayList" ({ cls := "java/util/ArrayList", name := "clear", desc := "()V" } : Jvm.MethodName) ({ cls := "java/util/ArrayList", name := "clear", desc := "()V" } : Jvm.MethodName)) ∈ gtbl := gtbl_tab (i := 603) rfl rfl
set_option maxRecDepth 20000 in
theorem kt604 : (Cond.code ({ cls := "java/util/ArrayList", name := "clear", desc := "()V" } : Jvm.MethodName) prog_30_method_40_code 4 (Option.none : Option Jvm.ClassFile.FieldType)) ∈ gtbl := gtbl_tab (i := 604) rfl rfl
set_option maxRecDepth 20000 in
theorem kt605 : (Cond.methodLink "Blockduty$Block" 65 ({ cls := "Blockduty$Row", name := "count", desc := "()I" } : Jvm.MethodName)) ∈ gtbl := gtbl_tab (i := 605) rfl rfl
set_option maxRecDepth 20000 in
theorem kt606 : (Cond.instanceMethod ({ cls := "Blockduty$Row", name := "count", desc := "()I" } : Jvm.MethodName)) ∈ gtbl := gtbl_tab (i := 606) rfl rfl
set_option maxRecDepth 20000 in
theorem kt607 : (Cond.selects "Blockduty$Row" ({ cls := "Blockduty$Row", name := "count", desc := "()I" } : Jvm.MethodName) ({ cls := "Blockduty$Row", name := "count", desc := "()I" } : Jvm.MethodName)) ∈ gtbl := gtbl_tab (i := 607) rfl rfl
set_option maxRecDepth 20000 in
theorem kt608 : (Cond.code ({ cls := "Blockduty$Row", name := "count", desc := "()I" } : Jvm.MethodName) prog_8_method_2_code 1 (Option.some Jvm.ClassFile.FieldType.int)) ∈ gtbl := gtbl_tab (i := 608) rfl rfl
set_option maxRecDepth 20000 in
theorem kt609 : (Cond.classLink "Blockduty$Block" 56 "Blockduty$Trip") ∈ gtbl := gtbl_tab (i := 609) rfl rfl
set_option maxRecDepth 20000 in
theorem kt610 : (Cond.methodLink "Blockduty$Block" 68 ({ cls := "java/util/ArrayList", name := "remove", desc := "(I)Ljava/lang/Object;" } : Jvm.MethodName)) ∈ gtbl := gtbl_tab (i := 610) rfl rfl
set_option maxRecDepth 20000 in
theorem kt615 : (Cond.code ({ cls := "Blockduty", name := "delay", desc := "(II)I" } : Jvm.MethodName) prog_1_method_16_code 5 (Option.some Jvm.ClassFile.FieldType.int)) ∈ gtbl := gtbl_tab (i := 615) rfl rfl
set_option maxRecDepth 20000 in
theorem kt616 : (Cond.methodLink "Blockduty" 185 ({ cls := "Blockduty", name := "tripNumbered", desc := "(I)LBlockduty$Trip;" } : Jvm.MethodName)) ∈ gtbl := gtbl_tab (i := 616) rfl rfl
set_option maxRecDepth 20000 in
theorem kt618 : (Cond.instanceMethod ({ cls := "Blockduty", name := "tripNumbered", desc := "(I)LBlockduty$Trip;" } : Jvm.MethodName)) ∈ gtbl := gtbl_tab (i := 618) rfl rfl
set_option maxRecDepth 20000 in
theorem kt619 : (Cond.code ({ cls := "Blockduty", name := "tripNumbered", desc := "(I)LBlockduty$Trip;" } : Jvm.MethodName) prog_1_method_39_code 2 (Option.some (Jvm.ClassFile.FieldType.object "Blockduty$Trip"))) ∈ gtbl := gtbl_tab (i := 619) rfl rfl
set_option maxRecDepth 20000 in
theorem kt625 : (Cond.code ({ cls := "Blockduty", name := "sick", desc := "(IZ)Z" } : Jvm.MethodName) prog_1_method_18_code 5 (Option.some Jvm.ClassFile.FieldType.boolean)) ∈ gtbl := gtbl_tab (i := 625) rfl rfl
set_option maxRecDepth 20000 in
theorem kt626 : (Cond.methodLink "Blockduty" 260 ({ cls := "Blockduty", name := "driverNumbered", desc := "(I)LBlockduty$Driver;" } : Jvm.MethodName)) ∈ gtbl := gtbl_tab (i := 626) rfl rfl
set_option maxRecDepth 20000 in
theorem kt628 : (Cond.instanceMethod ({ cls := "Blockduty", name := "driverNumbered", desc := "(I)LBlockduty$Driver;" } : Jvm.MethodName)) ∈ gtbl := gtbl_tab (i := 628) rfl rfl
set_option maxRecDepth 20000 in
theorem kt629 : (Cond.code ({ cls := "Blockduty", name := "driverNumbered", desc := "(I)LBlockduty$Driver;" } : Jvm.MethodName) prog_1_method_42_code 2 (Option.some (Jvm.ClassFile.FieldType.object "Blockduty$Driver"))) ∈ gtbl := gtbl_tab (i := 629) rfl rfl
set_option maxRecDepth 20000 in
theorem kt632 : (Cond.instanceMethod ({ cls := "Blockduty", name := "ofTrip", desc := "(II)I" } : Jvm.MethodName)) ∈ gtbl := gtbl_tab (i := 632) rfl rfl
set_option maxRecDepth 20000 in
theorem kt633 : (Cond.selects "Blockduty" ({ cls := "Blockduty", name := "ofTrip", desc := "(II)I" } : Jvm.MethodName) ({ cls := "Blockduty", name := "ofTrip", desc := "(II)I" } : Jvm.MethodName)) ∈ gtbl := gtbl_tab (i := 633) rfl rfl
set_option maxRecDepth 20000 in
theorem kt634 : (Cond.code ({ cls := "Blockduty", name := "ofTrip", desc := "(II)I" } : Jvm.MethodName) prog_1_method_19_code 4 (Option.some Jvm.ClassFile.FieldType.int)) ∈ gtbl := gtbl_tab (i := 634) rfl rfl
set_option maxRecDepth 20000 in
theorem kt636 : (Cond.methodLink "Blockduty" 311 ({ cls := "Blockduty", name := "runDay", desc := "()V" } : Jvm.MethodName)) ∈ gtbl := gtbl_tab (i := 636) rfl rfl
set_option maxRecDepth 20000 in
theorem kt638 : (Cond.instanceMethod ({ cls := "Blockduty", name := "runDay", desc := "()V" } : Jvm.MethodName)) ∈ gtbl := gtbl_tab (i := 638) rfl rfl
set_option maxRecDepth 20000 in
theorem kt639 : (Cond.code ({ cls := "Blockduty", name := "runDay", desc := "()V" } : Jvm.MethodName) prog_1_method_54_code 3 (Option.none : Option Jvm.ClassFile.FieldType)) ∈ gtbl := gtbl_tab (i := 639) rfl rfl
set_option maxRecDepth 20000 in
theorem kt640 : (Cond.methodLink "Blockduty" 412 ({ cls := "Blockduty$Block", name := "lostIf", desc := "(ILBlockduty$Trip;I)I" } : Jvm.MethodName)) ∈ gtbl := gtbl_tab (i := 640) rfl rfl
set_option maxRecDepth 20000 in
theorem kt641 : (Cond.instanceMethod ({ cls := "Blockduty$Block", name := "lostIf", desc := "(ILBlockduty$Trip;I)I" } : Jvm.MethodName)) ∈ gtbl := gtbl_tab (i := 641) rfl rfl
set_option maxRecDepth 20000 in
theorem kt642 : (Cond.selects "Blockduty$Block" ({ cls := "Blockduty$Block", name := "lostIf", desc := "(ILBlockduty$Trip;I)I" } : Jvm.MethodName) ({ cls := "Blockduty$Block", name := "lostIf", desc := "(ILBlockduty$Trip;I)I" } : Jvm.MethodName)) ∈ gtbl := gtbl_tab (i := 642) rfl rfl
set_option maxRecDepth 20000 in
theorem kt643 : (Cond.code ({ cls := "Blockduty$Block", name := "lostIf", desc := "(ILBlockduty$Trip;I)I" } : Jvm.MethodName) prog_2_method_10_code 10 (Option.some Jvm.ClassFile.FieldType.int)) ∈ gtbl := gtbl_tab (i := 643) rfl rfl
set_option maxRecDepth 20000 in
theorem kt644 : (Cond.methodLink "Blockduty$Block" 102 ({ cls := "Blockduty$Trip", name := "emptyTo", desc := "(LBlockduty$Trip;)I" } : Jvm.MethodName)) ∈ gtbl := gtbl_tab (i := 644) rfl rfl
set_option maxRecDepth 20000 in
theorem kt645 : (Cond.instanceMethod ({ cls := "Blockduty$Trip", name := "emptyTo", desc := "(LBlockduty$Trip;)I" } : Jvm.MethodName)) ∈ gtbl := gtbl_tab (i := 645) rfl rfl
set_option maxRecDepth 20000 in
theorem kt646 : (Cond.selects "Blockduty$Trip" ({ cls := "Blockduty$Trip", name := "emptyTo", desc := "(LBlockduty$Trip;)I" } : Jvm.MethodName) ({ cls := "Blockduty$Trip", name := "emptyTo", desc := "(LBlockduty$Trip;)I" } : Jvm.MethodName)) ∈ gtbl := gtbl_tab (i := 646) rfl rfl
set_option maxRecDepth 20000 in
theorem kt647 : (Cond.code ({ cls := "Blockduty$Trip", name := "emptyTo", desc := "(LBlockduty$Trip;)I" } : Jvm.MethodName) prog_9_method_3_code 2 (Option.some Jvm.ClassFile.FieldType.int)) ∈ gtbl := gtbl_tab (i := 647) rfl rfl
set_option maxRecDepth 20000 in
theorem kt648 : (Cond.methodLink "Blockduty$Trip" 32 ({ cls := "Blockduty$Place", name := "emptyTo", desc := "(LBlockduty$Place;)I" } : Jvm.MethodName)) ∈ gtbl := gtbl_tab (i := 648) rfl rfl
set_option maxRecDepth 20000 in
theorem kt649 : (Cond.instanceMethod ({ cls := "Blockduty$Place", name := "emptyTo", desc := "(LBlockduty$Place;)I" } : Jvm.MethodName)) ∈ gtbl := gtbl_tab (i := 649) rfl rfl
set_option maxRecDepth 20000 in
theorem kt650 : (Cond.selects "Blockduty$Place" ({ cls := "Blockduty$Place", name := "emptyTo", desc := "(LBlockduty$Place;)I" } : Jvm.MethodName) ({ cls := "Blockduty$Place", name := "emptyTo", desc := "(LBlockduty$Place;)I" } : Jvm.MethodName)) ∈ gtbl := gtbl_tab (i := 650) rfl rfl
set_option maxRecDepth 20000 in
theorem kt651 : (Cond.code ({ cls := "Blockduty$Place", name := "emptyTo", desc := "(LBlockduty$Place;)I" } : Jvm.MethodName) prog_7_method_2_code 2 (Option.some Jvm.ClassFile.FieldType.int)) ∈ gtbl := gtbl_tab (i := 651) rfl rfl
set_option maxRecDepth 20000 in
theorem kt652 : (Cond.methodLink "Blockduty$Block" 109 ({ cls := "java/lang/Math", name := "max", desc := "(II)I" } : Jvm.MethodName)) ∈ gtbl := gtbl_tab (i := 652) rfl rfl
set_option maxRecDepth 20000 in
theorem kt653 : (Cond.methodLink "Blockduty$Block" 118 ({ cls := "Blockduty$Trip", name := "causeIf", desc := "(I)I" } : Jvm.MethodName)) ∈ gtbl := gtbl_tab (i := 653) rfl rfl
set_option maxRecDepth 20000 in
theorem kt654 : (Cond.instanceMethod ({ cls := "Blockduty$Trip", name := "causeIf", desc := "(I)I" } : Jvm.MethodName)) ∈ gtbl := gtbl_tab (i := 654) rfl rfl
set_option maxRecDepth 20000 in
theorem kt655 : (Cond.selects "Blockduty$Trip" ({ cls := "Blockduty$Trip", name := "causeIf", desc := "(I)I" } : Jvm.MethodName) ({ cls := "Blockduty$Trip", name := "causeIf", desc := "(I)I" } : Jvm.MethodName)) ∈ gtbl := gtbl_tab (i := 655) rfl rfl
set_option maxRecDepth 20000 in
theorem kt656 : (Cond.code ({ cls := "Blockduty$Trip", name := "causeIf", desc := "(I)I" } : Jvm.MethodName) prog_9_method_10_code 3 (Option.some Jvm.ClassFile.FieldType.int)) ∈ gtbl := gtbl_tab (i := 656) rfl rfl
set_option maxRecDepth 20000 in
theorem kt657 : (Cond.methodLink "Blockduty$Trip" 77 ({ cls := "Blockduty$Trip", name := "late", desc := "()I" } : Jvm.MethodName)) ∈ gtbl := gtbl_tab (i := 657) rfl rfl
set_option maxRecDepth 20000 in
theorem kt658 : (Cond.instanceMethod ({ cls := "Blockduty$Trip", name := "late", desc := "()I" } : Jvm.MethodName)) ∈ gtbl := gtbl_tab (i := 658) rfl rfl
set_option maxRecDepth 20000 in
theorem kt659 : (Cond.selects "Blockduty$Trip" ({ cls := "Blockduty$Trip", name := "late", desc := "()I" } : Jvm.MethodName) ({ cls := "Blockduty$Trip", name := "late", desc := "()I" } : Jvm.MethodName)) ∈ gtbl := gtbl_tab (i := 659) rfl rfl
set_option maxRecDepth 20000 in
theorem kt660 : (Cond.code ({ cls := "Blockduty$Trip", name := "late", desc := "()I" } : Jvm.MethodName) prog_9_method_9_code 1 (Option.some Jvm.ClassFile.FieldType.int)) ∈ gtbl := gtbl_tab (i := 660) rfl rfl
set_option maxRecDepth 20000 in
theorem kt661 : (Cond.methodLink "Blockduty$Block" 125 ({ cls := "Blockduty$Trip", name := "runs", desc := "()Z" } : Jvm.MethodName)) ∈ gtbl := gtbl_tab (i := 661) rfl rfl
set_option maxRecDepth 20000 in
theorem kt662 : (Cond.instanceMethod ({ cls := "Blockduty$Trip", name := "runs", desc := "()Z" } : Jvm.MethodName)) ∈ gtbl := gtbl_tab (i := 662) rfl rfl
set_option maxRecDepth 20000 in
theorem kt663 : (Cond.selects "Blockduty$Trip" ({ cls := "Blockduty$Trip", name := "runs", desc := "()Z" } : Jvm.MethodName) ({ cls := "Blockduty$Trip", name := "runs", desc := "()Z" } : Jvm.MethodName)) ∈ gtbl := gtbl_tab (i := 663) rfl rfl
set_option maxRecDepth 20000 in
theorem kt664 : (Cond.code ({ cls := "Blockduty$Trip", name := "runs", desc := "()Z" } : Jvm.MethodName) prog_9_method_8_code 1 (Option.some Jvm.ClassFile.FieldType.boolean)) ∈ gtbl := gtbl_tab (i := 664) rfl rfl
set_option maxRecDepth 20000 in
theorem kt665 : (Cond.methodLink "Blockduty" 329 ({ cls := "Blockduty$Trip", name := "end", desc := "()I" } : Jvm.MethodName)) ∈ gtbl := gtbl_tab (i := 665) rfl rfl
set_option maxRecDepth 20000 in
theorem kt666 : (Cond.instanceMethod ({ cls := "Blockduty$Trip", name := "end", desc := "()I" } : Jvm.MethodName)) ∈ gtbl := gtbl_tab (i := 666) rfl rfl
set_option maxRecDepth 20000 in
theorem kt667 : (Cond.selects "Blockduty$Trip" ({ cls := "Blockduty$Trip", name := "end", desc := "()I" } : Jvm.MethodName) ({ cls := "Blockduty$Trip", name := "end", desc := "()I" } : Jvm.MethodName)) ∈ gtbl := gtbl_tab (i := 667) rfl rfl
set_option maxRecDepth 20000 in
theorem kt668 : (Cond.code ({ cls := "Blockduty$Trip", name := "end", desc := "()I" } : Jvm.MethodName) prog_9_method_2_code 1 (Option.some Jvm.ClassFile.FieldType.int)) ∈ gtbl := gtbl_tab (i := 668) rfl rfl
set_option maxRecDepth 20000 in
theorem kt669 : (Cond.methodLink "Blockduty" 332 ({ cls := "Blockduty$Trip", name := "blockNumber", desc := "()I" } : Jvm.MethodName)) ∈ gtbl := gtbl_tab (i := 669) rfl rfl
set_option maxRecDepth 20000 in
theorem kt670 : (Cond.instanceMethod ({ cls := "Blockduty$Trip", name := "blockNumber", desc := "()I" } : Jvm.MethodName)) ∈ gtbl := gtbl_tab (i := 670) rfl rfl
set_option maxRecDepth 20000 in
theorem kt671 : (Cond.selects "Blockduty$Trip" ({ cls := "Blockduty$Trip", name := "blockNumber", desc := "()I" } : Jvm.MethodName) ({ cls := "Blockduty$Trip", name := "blockNumber", desc := "()I" } : Jvm.MethodName)) ∈ gtbl := gtbl_tab (i := 671) rfl rfl
set_option maxRecDepth 20000 in
theorem kt672 : (Cond.code ({ cls := "Blockduty$Trip", name := "blockNumber", desc := "()I" } : Jvm.MethodName) prog_9_method_6_code 1 (Option.some Jvm.ClassFile.FieldType.int)) ∈ gtbl := gtbl_tab (i := 672) rfl rfl
set_option maxRecDepth 20000 in
theorem kt673 : (Cond.methodLink "Blockduty" 335 ({ cls := "Blockduty$Trip", name := "pieceNumber", desc := "()I" } : Jvm.MethodName)) ∈ gtbl := gtbl_tab (i := 673) rfl rfl
set_option maxRecDepth 20000 in
theorem kt674 : (Cond.instanceMethod ({ cls := "Blockduty$Trip", name := "pieceNumber", desc := "()I" } : Jvm.MethodName)) ∈ gtbl := gtbl_tab (i := 674) rfl rfl
set_option maxRecDepth 20000 in
theorem kt675 : (Cond.selects "Blockduty$Trip" ({ cls := "Blockduty$Trip", name := "pieceNumber", desc := "()I" } : Jvm.MethodName) ({ cls := "Blockduty$Trip", name := "pieceNumber", desc := "()I" } : Jvm.MethodName)) ∈ gtbl := gtbl_tab (i := 675) rfl rfl
set_option maxRecDepth 20000 in
theorem kt676 : (Cond.code ({ cls := "Blockduty$Trip", name := "pieceNumber", desc := "()I" } : Jvm.MethodName) prog_9_method_7_code 1 (Option.some Jvm.ClassFile.FieldType.int)) ∈ gtbl := gtbl_tab (i := 676) rfl rfl
set_option maxRecDepth 20000 in
theorem kt677 : (Cond.methodLink "Blockduty" 341 ({ cls := "Blockduty$Trip", name := "runs", desc := "()Z" } : Jvm.MethodName)) ∈ gtbl := gtbl_tab (i := 677) rfl rfl
set_option maxRecDepth 20000 in
theorem kt678 : (Cond.methodLink "Blockduty" 344 ({ cls := "Blockduty$Trip", name := "late", desc := "()I" } : Jvm.MethodName)) ∈ gtbl := gtbl_tab (i := 678) rfl rfl
set_option maxRecDepth 20000 in
theorem kt680 : (Cond.instanceMethod ({ cls := "Blockduty", name := "ofBlock", desc := "(II)I" } : Jvm.MethodName)) ∈ gtbl := gtbl_tab (i := 680) rfl rfl
set_option maxRecDepth 20000 in
theorem kt681 : (Cond.selects "Blockduty" ({ cls := "Blockduty", name := "ofBlock", desc := "(II)I" } : Jvm.MethodName) ({ cls := "Blockduty", name := "ofBlock", desc := "(II)I" } : Jvm.MethodName)) ∈ gtbl := gtbl_tab (i := 681) rfl rfl
set_option maxRecDepth 20000 in
theorem kt682 : (Cond.code ({ cls := "Blockduty", name := "ofBlock", desc := "(II)I" } : Jvm.MethodName) prog_1_method_20_code 4 (Option.some Jvm.ClassFile.FieldType.int)) ∈ gtbl := gtbl_tab (i := 682) rfl rfl
set_option maxRecDepth 20000 in
theorem kt683 : (Cond.methodLink "Blockduty" 211 ({ cls := "Blockduty$Row", name := "count", desc := "()I" } : Jvm.MethodName)) ∈ gtbl := gtbl_tab (i := 683) rfl rfl
set_option maxRecDepth 20000 in
theorem kt684 : (Cond.methodLink "Blockduty" 354 ({ cls := "Blockduty", name := "isFlat", desc := "(LBlockduty$Row;I)Z" } : Jvm.MethodName)) ∈ gtbl := gtbl_tab (i := 684) rfl rfl
set_option maxRecDepth 20000 in
theorem kt686 : (Cond.instanceMethod ({ cls := "Blockduty", name := "isFlat", desc := "(LBlockduty$Row;I)Z" } : Jvm.MethodName)) ∈ gtbl := gtbl_tab (i := 686) rfl rfl
set_option maxRecDepth 20000 in
theorem kt687 : (Cond.code ({ cls := "Blockduty", name := "isFlat", desc := "(LBlockduty$Row;I)Z" } : Jvm.MethodName) prog_1_method_45_code 3 (Option.some Jvm.ClassFile.FieldType.boolean)) ∈ gtbl := gtbl_tab (i := 687) rfl rfl
set_option maxRecDepth 20000 in
theorem kt688 : (Cond.methodLink "Blockduty" 358 ({ cls := "Blockduty$Row", name := "leastCharge", desc := "(LBlockduty$Place;II)I" } : Jvm.MethodName)) ∈ gtbl := gtbl_tab (i := 688) rfl rfl
set_option maxRecDepth 20000 in
theorem kt689 : (Cond.instanceMethod ({ cls := "Blockduty$Row", name := "leastCharge", desc := "(LBlockduty$Place;II)I" } : Jvm.MethodName)) ∈ gtbl := gtbl_tab (i := 689) rfl rfl
set_option maxRecDepth 20000 in
theorem kt690 : (Cond.selects "Blockduty$Row" ({ cls := "Blockduty$Row", name := "leastCharge", desc := "(LBlockduty$Place;II)I" } : Jvm.MethodName) ({ cls := "Blockduty$Row", name := "leastCharge", desc := "(LBlockduty$Place;II)I" } : Jvm.MethodName)) ∈ gtbl := gtbl_tab (i := 690) rfl rfl
set_option maxRecDepth 20000 in
theorem kt691 : (Cond.code ({ cls := "Blockduty$Row", name := "leastCharge", desc := "(LBlockduty$Place;II)I" } : Jvm.MethodName) prog_8_method_9_code 12 (Option.some Jvm.ClassFile.FieldType.int)) ∈ gtbl := gtbl_tab (i := 691) rfl rfl
set_option maxRecDepth 20000 in
theorem kt692 : (Cond.methodLink "Blockduty$Row" 55 ({ cls := "Blockduty$Place", name := "emptyTo", desc := "(LBlockduty$Place;)I" } : Jvm.MethodName)) ∈ gtbl := gtbl_tab (i := 692) rfl rfl
set_option maxRecDepth 20000 in
theorem kt693 : (Cond.methodLink "Blockduty$Row" 64 ({ cls := "java/lang/Math", name := "min", desc := "(II)I" } : Jvm.MethodName)) ∈ gtbl := gtbl_tab (i := 693) rfl rfl
set_option maxRecDepth 20000 in
theorem kt694 : (Cond.methodLink "Blockduty$Row" 71 ({ cls := "Blockduty$Trip", name := "end", desc := "()I" } : Jvm.MethodName)) ∈ gtbl := gtbl_tab (i := 694) rfl rfl
set_option maxRecDepth 20000 in
theorem kt695 : (Cond.methodLink "Blockduty" 362 ({ cls := "Blockduty$Row", name := "empty", desc := "(LBlockduty$Place;)I" } : Jvm.MethodName)) ∈ gtbl := gtbl_tab (i := 695) rfl rfl
set_option maxRecDepth 20000 in
theorem kt696 : (Cond.instanceMethod ({ cls := "Blockduty$Row", name := "empty", desc := "(LBlockduty$Place;)I" } : Jvm.MethodName)) ∈ gtbl := gtbl_tab (i := 696) rfl rfl
set_option maxRecDepth 20000 in
theorem kt697 : (Cond.selects "Blockduty$Row" ({ cls := "Blockduty$Row", name := "empty", desc := "(LBlockduty$Place;)I" } : Jvm.MethodName) ({ cls := "Blockduty$Row", name := "empty", desc := "(LBlockduty$Place;)I" } : Jvm.MethodName)) ∈ gtbl := gtbl_tab (i := 697) rfl rfl
set_option maxRecDepth 20000 in
theorem kt698 : (Cond.code ({ cls := "Blockduty$Row", name := "empty", desc := "(LBlockduty$Place;)I" } : Jvm.MethodName) prog_8_method_8_code 6 (Option.some Jvm.ClassFile.FieldType.int)) ∈ gtbl := gtbl_tab (i := 698) rfl rfl
set_option maxRecDepth 20000 in
theorem kt699 : (Cond.methodLink "Blockduty" 366 ({ cls := "Blockduty$Block", name := "lostNow", desc := "()I" } : Jvm.MethodName)) ∈ gtbl := gtbl_tab (i := 699) rfl rfl
set_option maxRecDepth 20000 in
theorem kt700 : (Cond.instanceMethod ({ cls := "Blockduty$Block", name := "lostNow", desc := "()I" } : Jvm.MethodName)) ∈ gtbl := gtbl_tab (i := 700) rfl rfl
set_option maxRecDepth 20000 in
theorem kt701 : (Cond.selects "Blockduty$Block" ({ cls := "Blockduty$Block", name := "lostNow", desc := "()I" } : Jvm.MethodName) ({ cls := "Blockduty$Block", name := "lostNow", desc := "()I" } : Jvm.MethodName)) ∈ gtbl := gtbl_tab (i := 701) rfl rfl
set_option maxRecDepth 20000 in
theorem kt702 : (Cond.code ({ cls := "Blockduty$Block", name := "lostNow", desc := "()I" } : Jvm.MethodName) prog_2_method_9_code 1 (Option.some Jvm.ClassFile.FieldType.int)) ∈ gtbl := gtbl_tab (i := 702) rfl rfl
set_option maxRecDepth 20000 in
theorem kt703 : (Cond.methodLink "Blockduty$Block" 95 ({ cls := "Blockduty$Block", name := "lostIf", desc := "(ILBlockduty$Trip;I)I" } : Jvm.MethodName)) ∈ gtbl := gtbl_tab (i := 703) rfl rfl
set_option maxRecDepth 20000 in
theorem kt705 : (Cond.instanceMethod ({ cls := "Blockduty", name := "ofDriver", desc := "(II)I" } : Jvm.MethodName)) ∈ gtbl := gtbl_tab (i := 705) rfl rfl
set_option maxRecDepth 20000 in
theorem kt706 : (Cond.selects "Blockduty" ({ cls := "Blockduty", name := "ofDriver", desc := "(II)I" } : Jvm.MethodName) ({ cls := "Blockduty", name := "ofDriver", desc := "(II)I" } : Jvm.MethodName)) ∈ gtbl := gtbl_tab (i := 706) rfl rfl
set_option maxRecDepth 20000 in
theorem kt707 : (Cond.code ({ cls := "Blockduty", name := "ofDriver", desc := "(II)I" } : Jvm.MethodName) prog_1_method_23_code 4 (Option.some Jvm.ClassFile.FieldType.int)) ∈ gtbl := gtbl_tab (i := 707) rfl rfl
set_option maxRecDepth 20000 in
theorem kt708 : (Cond.methodLink "Blockduty" 281 ({ cls := "Blockduty$Driver", name := "minutes", desc := "()I" } : Jvm.MethodName)) ∈ gtbl := gtbl_tab (i := 708) rfl rfl
set_option maxRecDepth 20000 in
theorem kt709 : (Cond.instanceMethod ({ cls := "Blockduty$Driver", name := "minutes", desc := "()I" } : Jvm.MethodName)) ∈ gtbl := gtbl_tab (i := 709) rfl rfl
set_option maxRecDepth 20000 in
theorem kt710 : (Cond.selects "Blockduty$Driver" ({ cls := "Blockduty$Driver", name := "minutes", desc := "()I" } : Jvm.MethodName) ({ cls := "Blockduty$Driver", name := "minutes", desc := "()I" } : Jvm.MethodName)) ∈ gtbl := gtbl_tab (i := 710) rfl rfl
set_option maxRecDepth 20000 in
theorem kt711 : (Cond.code ({ cls := "Blockduty$Driver", name := "minutes", desc := "()I" } : Jvm.MethodName) prog_3_method_4_code 3 (Option.some Jvm.ClassFile.FieldType.int)) ∈ gtbl := gtbl_tab (i := 711) rfl rfl
set_option maxRecDepth 20000 in
theorem kt712 : (Cond.classLink "Blockduty$Driver" 30 "Blockduty$Piece") ∈ gtbl := gtbl_tab (i := 712) rfl rfl
set_option maxRecDepth 20000 in
theorem kt713 : (Cond.methodLink "Blockduty$Driver" 39 ({ cls := "Blockduty$Piece", name := "minutes", desc := "()I" } : Jvm.MethodName)) ∈ gtbl := gtbl_tab (i := 713) rfl rfl
set_option maxRecDepth 20000 in
theorem kt714 : (Cond.instanceMethod ({ cls := "Blockduty$Piece", name := "minutes", desc := "()I" } : Jvm.MethodName)) ∈ gtbl := gtbl_tab (i := 714) rfl rfl
set_option maxRecDepth 20000 in
theorem kt715 : (Cond.selects "Blockduty$Piece" ({ cls := "Blockduty$Piece", name := "minutes", desc := "()I" } : Jvm.MethodName) ({ cls := "Blockduty$Piece", name := "minutes", desc := "()I" } : Jvm.MethodName)) ∈ gtbl := gtbl_tab (i := 715) rfl rfl
set_option maxRecDepth 20000 in
theorem kt716 : (Cond.code ({ cls := "Blockduty$Piece", name := "minutes", desc := "()I" } : Jvm.MethodName) prog_6_method_2_code 1 (Option.some Jvm.ClassFile.FieldType.int)) ∈ gtbl := gtbl_tab (i := 716) rfl rfl
set_option maxRecDepth 20000 in
theorem kt717 : (Cond.methodLink "Blockduty$Piece" 29 ({ cls := "Blockduty$Trip", name := "end", desc := "()I" } : Jvm.MethodName)) ∈ gtbl := gtbl_tab (i := 717) rfl rfl
set_option maxRecDepth 20000 in
theorem kt718 : (Cond.methodLink "Blockduty" 386 ({ cls := "Blockduty$Driver", name := "worked", desc := "()I" } : Jvm.MethodName)) ∈ gtbl := gtbl_tab (i := 718) rfl rfl
set_option maxRecDepth 20000 in
theorem kt719 : (Cond.instanceMethod ({ cls := "Blockduty$Driver", name := "worked", desc := "()I" } : Jvm.MethodName)) ∈ gtbl := gtbl_tab (i := 719) rfl rfl
set_option maxRecDepth 20000 in
theorem kt720 : (Cond.selects "Blockduty$Driver" ({ cls := "Blockduty$Driver", name := "worked", desc := "()I" } : Jvm.MethodName) ({ cls := "Blockduty$Driver", name := "worked", desc := "()I" } : Jvm.MethodName)) ∈ gtbl := gtbl_tab (i := 720) rfl rfl
set_option maxRecDepth 20000 in
theorem kt721 : (Cond.code ({ cls := "Blockduty$Driver", name := "worked", desc := "()I" } : Jvm.MethodName) prog_3_method_5_code 3 (Option.some Jvm.ClassFile.FieldType.int)) ∈ gtbl := gtbl_tab (i := 721) rfl rfl
set_option maxRecDepth 20000 in
theorem kt722 : (Cond.methodLink "Blockduty$Driver" 43 ({ cls := "Blockduty$Piece", name := "worked", desc := "()I" } : Jvm.MethodName)) ∈ gtbl := gtbl_tab (i := 722) rfl rfl
set_option maxRecDepth 20000 in
theorem kt723 : (Cond.instanceMethod ({ cls := "Blockduty$Piece", name := "worked", desc := "()I" } : Jvm.MethodName)) ∈ gtbl := gtbl_tab (i := 723) rfl rfl
set_option maxRecDepth 20000 in
theorem kt724 : (Cond.selects "Blockduty$Piece" ({ cls := "Blockduty$Piece", name := "worked", desc := "()I" } : Jvm.MethodName) ({ cls := "Blockduty$Piece", name := "worked", desc := "()I" } : Jvm.MethodName)) ∈ gtbl := gtbl_tab (i := 724) rfl rfl
set_option maxRecDepth 20000 in
theorem kt725 : (Cond.code ({ cls := "Blockduty$Piece", name := "worked", desc := "()I" } : Jvm.MethodName) prog_6_method_6_code 4 (Option.some Jvm.ClassFile.FieldType.int)) ∈ gtbl := gtbl_tab (i := 725) rfl rfl
set_option maxRecDepth 20000 in
theorem kt726 : (Cond.methodLink "Blockduty$Piece" 53 ({ cls := "Blockduty$Row", name := "count", desc := "()I" } : Jvm.MethodName)) ∈ gtbl := gtbl_tab (i := 726) rfl rfl
set_option maxRecDepth 20000 in
theorem kt727 : (Cond.methodLink "Blockduty$Piece" 62 ({ cls := "java/util/ArrayList", name := "get", desc := "(I)Ljava/lang/Object;" } : Jvm.MethodName)) ∈ gtbl := gtbl_tab (i := 727) rfl rfl
set_option maxRecDepth 20000 in
theorem kt728 : (Cond.classLink "Blockduty$Piece" 30 "Blockduty$Trip") ∈ gtbl := gtbl_tab (i := 728) rfl rfl
set_option maxRecDepth 20000 in
theorem kt729 : (Cond.methodLink "Blockduty$Piece" 72 ({ cls := "Blockduty$Trip", name := "runs", desc := "()Z" } : Jvm.MethodName)) ∈ gtbl := gtbl_tab (i := 729) rfl rfl
set_option maxRecDepth 20000 in
theorem kt730 : (Cond.methodLink "Blockduty" 387 ({ cls := "Blockduty$Driver", name := "pay", desc := "()I" } : Jvm.MethodName)) ∈ gtbl := gtbl_tab (i := 730) rfl rfl
set_option maxRecDepth 20000 in
theorem kt731 : (Cond.instanceMethod ({ cls := "Blockduty$Driver", name := "pay", desc := "()I" } : Jvm.MethodName)) ∈ gtbl := gtbl_tab (i := 731) rfl rfl
set_option maxRecDepth 20000 in
theorem kt732 : (Cond.selects "Blockduty$Driver" ({ cls := "Blockduty$Driver", name := "pay", desc := "()I" } : Jvm.MethodName) ({ cls := "Blockduty$Driver", name := "pay", desc := "()I" } : Jvm.MethodName)) ∈ gtbl := gtbl_tab (i := 732) rfl rfl
set_option maxRecDepth 20000 in
theorem kt733 : (Cond.code ({ cls := "Blockduty$Driver", name := "pay", desc := "()I" } : Jvm.MethodName) prog_3_method_6_code 3 (Option.some Jvm.ClassFile.FieldType.int)) ∈ gtbl := gtbl_tab (i := 733) rfl rfl
set_option maxRecDepth 20000 in
theorem kt734 : (Cond.methodLink "Blockduty$Driver" 46 ({ cls := "Blockduty$Driver", name := "worked", desc := "()I" } : Jvm.MethodName)) ∈ gtbl := gtbl_tab (i := 734) rfl rfl
set_option maxRecDepth 20000 in
theorem kt735 : (Cond.methodLink "Blockduty$Driver" 47 ({ cls := "java/lang/Math", name := "max", desc := "(II)I" } : Jvm.MethodName)) ∈ gtbl := gtbl_tab (i := 735) rfl rfl
set_option maxRecDepth 20000 in
theorem kt737 : (Cond.instanceMethod ({ cls := "Blockduty", name := "many", desc := "(I)I" } : Jvm.MethodName)) ∈ gtbl := gtbl_tab (i := 737) rfl rfl
set_option maxRecDepth 20000 in
theorem kt738 : (Cond.selects "Blockduty" ({ cls := "Blockduty", name := "many", desc := "(I)I" } : Jvm.MethodName) ({ cls := "Blockduty", name := "many", desc := "(I)I" } : Jvm.MethodName)) ∈ gtbl := gtbl_tab (i := 738) rfl rfl
set_option maxRecDepth 20000 in
theorem kt739 : (Cond.code ({ cls := "Blockduty", name := "many", desc := "(I)I" } : Jvm.MethodName) prog_1_method_24_code 2 (Option.some Jvm.ClassFile.FieldType.int)) ∈ gtbl := gtbl_tab (i := 739) rfl rfl
set_option maxRecDepth 20000 in
theorem kt740 : (Cond.methodLink "Blockduty" 390 ({ cls := "Blockduty", name := "countOfCause", desc := "(I)I" } : Jvm.MethodName)) ∈ gtbl := gtbl_tab (i := 740) rfl rfl
set_option maxRecDepth 20000 in
theorem kt742 : (Cond.instanceMethod ({ cls := "Blockduty", name := "countOfCause", desc := "(I)I" } : Jvm.MethodName)) ∈ gtbl := gtbl_tab (i := 742) rfl rfl
set_option maxRecDepth 20000 in
theorem kt743 : (Cond.code ({ cls := "Blockduty", name := "countOfCause", desc := "(I)I" } : Jvm.MethodName) prog_1_method_55_code 4 (Option.some Jvm.ClassFile.FieldType.int)) ∈ gtbl := gtbl_tab (i := 743) rfl rfl
set_option maxRecDepth 20000 in
theorem kt744 : (Cond.methodLink "Blockduty" 394 ({ cls := "Blockduty", name := "countyPays", desc := "()I" } : Jvm.MethodName)) ∈ gtbl := gtbl_tab (i := 744) rfl rfl
set_option maxRecDepth 20000 in
theorem kt746 : (Cond.instanceMethod ({ cls := "Blockduty", name := "countyPays", desc := "()I" } : Jvm.MethodName)) ∈ gtbl := gtbl_tab (i := 746) rfl rfl
set_option maxRecDepth 20000 in
theorem kt747 : (Cond.code ({ cls := "Blockduty", name := "countyPays", desc := "()I" } : Jvm.MethodName) prog_1_method_56_code 3 (Option.some Jvm.ClassFile.FieldType.int)) ∈ gtbl := gtbl_tab (i := 747) rfl rfl
set_option maxRecDepth 20000 in
theorem kt748 : (Cond.methodLink "Blockduty" 508 ({ cls := "Blockduty$Trip", name := "pay", desc := "(I)I" } : Jvm.MethodName)) ∈ gtbl := gtbl_tab (i := 748) rfl rfl
set_option maxRecDepth 20000 in
theorem kt749 : (Cond.instanceMethod ({ cls := "Blockduty$Trip", name := "pay", desc := "(I)I" } : Jvm.MethodName)) ∈ gtbl := gtbl_tab (i := 749) rfl rfl
set_option maxRecDepth 20000 in
theorem kt750 : (Cond.selects "Blockduty$Trip" ({ cls := "Blockduty$Trip", name := "pay", desc := "(I)I" } : Jvm.MethodName) ({ cls := "Blockduty$Trip", name := "pay", desc := "(I)I" } : Jvm.MethodName)) ∈ gtbl := gtbl_tab (i := 750) rfl rfl
set_option maxRecDepth 20000 in
theorem kt751 : (Cond.code ({ cls := "Blockduty$Trip", name := "pay", desc := "(I)I" } : Jvm.MethodName) prog_9_method_11_code 2 (Option.some Jvm.ClassFile.FieldType.int)) ∈ gtbl := gtbl_tab (i := 751) rfl rfl
set_option maxRecDepth 20000 in
theorem kt752 : (Cond.methodLink "Blockduty$Trip" 80 ({ cls := "Blockduty$Trip", name := "runs", desc := "()Z" } : Jvm.MethodName)) ∈ gtbl := gtbl_tab (i := 752) rfl rfl
set_option maxRecDepth 20000 in
theorem kt753 : (Cond.methodLink "Blockduty" 397 ({ cls := "Blockduty", name := "driversArePaid", desc := "()I" } : Jvm.MethodName)) ∈ gtbl := gtbl_tab (i := 753) rfl rfl
set_option maxRecDepth 20000 in
theorem kt755 : (Cond.instanceMethod ({ cls := "Blockduty", name := "driversArePaid", desc := "()I" } : Jvm.MethodName)) ∈ gtbl := gtbl_tab (i := 755) rfl rfl
set_option maxRecDepth 20000 in
theorem kt756 : (Cond.code ({ cls := "Blockduty", name := "driversArePaid", desc := "()I" } : Jvm.MethodName) prog_1_method_57_code 3 (Option.some Jvm.ClassFile.FieldType.int)) ∈ gtbl := gtbl_tab (i := 756) rfl rfl
set_option maxRecDepth 20000 in
theorem kt757 : (Cond.methodLink "Blockduty" 400 ({ cls := "Blockduty", name := "allEmpty", desc := "()I" } : Jvm.MethodName)) ∈ gtbl := gtbl_tab (i := 757) rfl rfl
set_option maxRecDepth 20000 in
theorem kt759 : (Cond.instanceMethod ({ cls := "Blockduty", name := "allEmpty", desc := "()I" } : Jvm.MethodName)) ∈ gtbl := gtbl_tab (i := 759) rfl rfl
set_option maxRecDepth 20000 in
theorem kt760 : (Cond.code ({ cls := "Blockduty", name := "allEmpty", desc := "()I" } : Jvm.MethodName) prog_1_method_58_code 3 (Option.some Jvm.ClassFile.FieldType.int)) ∈ gtbl := gtbl_tab (i := 760) rfl rfl
set_option maxRecDepth 20000 in
theorem kt761 : (Cond.methodLink "Blockduty" 403 ({ cls := "Blockduty", name := "greatestLate", desc := "()I" } : Jvm.MethodName)) ∈ gtbl := gtbl_tab (i := 761) rfl rfl
set_option maxRecDepth 20000 in
theorem kt763 : (Cond.instanceMethod ({ cls := "Blockduty", name := "greatestLate", desc := "()I" } : Jvm.MethodName)) ∈ gtbl := gtbl_tab (i := 763) rfl rfl
set_option maxRecDepth 20000 in
theorem kt764 : (Cond.code ({ cls := "Blockduty", name := "greatestLate", desc := "()I" } : Jvm.MethodName) prog_1_method_59_code 4 (Option.some Jvm.ClassFile.FieldType.int)) ∈ gtbl := gtbl_tab (i := 764) rfl rfl
set_option maxRecDepth 20000 in
theorem kt765 : (Cond.methodLink "Blockduty" 510 ({ cls := "java/lang/Math", name := "max", desc := "(II)I" } : Jvm.MethodName)) ∈ gtbl := gtbl_tab (i := 765) rfl rfl
set_option maxRecDepth 20000 in
theorem kt769 : (Cond.code ({ cls := "Blockduty", name := "meanLate", desc := "()D" } : Jvm.MethodName) prog_1_method_26_code 5 (Option.some Jvm.ClassFile.FieldType.double)) ∈ gtbl := gtbl_tab (i := 769) rfl rfl
set_option maxRecDepth 20000 in
theorem kt771 : (Cond.instanceMethod ({ cls := "Blockduty", name := "leastBlocks", desc := "()I" } : Jvm.MethodName)) ∈ gtbl := gtbl_tab (i := 771) rfl rfl
set_option maxRecDepth 20000 in
theorem kt772 : (Cond.selects "Blockduty" ({ cls := "Blockduty", name := "leastBlocks", desc := "()I" } : Jvm.MethodName) ({ cls := "Blockduty", name := "leastBlocks", desc := "()I" } : Jvm.MethodName)) ∈ gtbl := gtbl_tab (i := 772) rfl rfl
set_option maxRecDepth 20000 in
theorem kt773 : (Cond.code ({ cls := "Blockduty", name := "leastBlocks", desc := "()I" } : Jvm.MethodName) prog_1_method_27_code 1 (Option.some Jvm.ClassFile.FieldType.int)) ∈ gtbl := gtbl_tab (i := 773) rfl rfl
set_option maxRecDepth 20000 in
theorem kt774 : (Cond.methodLink "Blockduty" 408 ({ cls := "Blockduty$Followers", name := "mostPairs", desc := "(Ljava/util/ArrayList;)I" } : Jvm.MethodName)) ∈ gtbl := gtbl_tab (i := 774) rfl rfl
set_option maxRecDepth 20000 in
theorem kt775 : (Cond.instanceMethod ({ cls := "Blockduty$Followers", name := "mostPairs", desc := "(Ljava/util/ArrayList;)I" } : Jvm.MethodName)) ∈ gtbl := gtbl_tab (i := 775) rfl rfl
set_option maxRecDepth 20000 in
theorem kt776 : (Cond.selects "Blockduty$Followers" ({ cls := "Blockduty$Followers", name := "mostPairs", desc := "(Ljava/util/ArrayList;)I" } : Jvm.MethodName) ({ cls := "Blockduty$Followers", name := "mostPairs", desc := "(Ljava/util/ArrayList;)I" } : Jvm.MethodName)) ∈ gtbl := gtbl_tab (i := 776) rfl rfl
set_option maxRecDepth 20000 in
theorem kt777 : (Cond.code ({ cls := "Blockduty$Followers", name := "mostPairs", desc := "(Ljava/util/ArrayList;)I" } : Jvm.MethodName) prog_4_method_2_code 5 (Option.some Jvm.ClassFile.FieldType.int)) ∈ gtbl := gtbl_tab (i := 777) rfl rfl
set_option maxRecDepth 20000 in
theorem kt778 : (Cond.methodLink "Blockduty$Followers" 19 ({ cls := "java/util/ArrayList", name := "size", desc := "()I" } : Jvm.MethodName)) ∈ gtbl := gtbl_tab (i := 778) rfl rfl
set_option maxRecDepth 20000 in
theorem kt779 : (Cond.methodLink "Blockduty$Followers" 25 ({ cls := "Blockduty$Followers", name := "findsFollower", desc := "(Ljava/util/ArrayList;I[I[ZI)Z" } : Jvm.MethodName)) ∈ gtbl := gtbl_tab (i := 779) rfl rfl
set_option maxRecDepth 20000 in
theorem kt780 : (Cond.static ({ cls := "Blockduty$Followers", name := "findsFollower", desc := "(Ljava/util/ArrayList;I[I[ZI)Z" } : Jvm.MethodName)) ∈ gtbl := gtbl_tab (i := 780) rfl rfl
set_option maxRecDepth 20000 in
theorem kt781 : (Cond.code ({ cls := "Blockduty$Followers", name := "findsFollower", desc := "(Ljava/util/ArrayList;I[I[ZI)Z" } : Jvm.MethodName) prog_4_method_3_code 8 (Option.some Jvm.ClassFile.FieldType.boolean)) ∈ gtbl := gtbl_tab (i := 781) rfl rfl
set_option maxRecDepth 20000 in
theorem kt782 : (Cond.methodLink "Blockduty$Followers" 29 ({ cls := "java/util/ArrayList", name := "get", desc := "(I)Ljava/lang/Object;" } : Jvm.MethodName)) ∈ gtbl := gtbl_tab (i := 782) rfl rfl
set_option maxRecDepth 20000 in
theorem kt783 : (Cond.classLink "Blockduty$Followers" 33 "Blockduty$Trip") ∈ gtbl := gtbl_tab (i := 783) rfl rfl
set_option maxRecDepth 20000 in
theorem kt784 : (Cond.methodLink "Blockduty$Followers" 35 ({ cls := "java/lang/Math", name := "min", desc := "(II)I" } : Jvm.MethodName)) ∈ gtbl := gtbl_tab (i := 784) rfl rfl
set_option maxRecDepth 20000 in
theorem kt785 : (Cond.methodLink "Blockduty$Followers" 41 ({ cls := "Blockduty$Trip", name := "canFollow", desc := "(LBlockduty$Trip;)Z" } : Jvm.MethodName)) ∈ gtbl := gtbl_tab (i := 785) rfl rfl
set_option maxRecDepth 20000 in
theorem kt786 : (Cond.instanceMethod ({ cls := "Blockduty$Trip", name := "canFollow", desc := "(LBlockduty$Trip;)Z" } : Jvm.MethodName)) ∈ gtbl := gtbl_tab (i := 786) rfl rfl
set_option maxRecDepth 20000 in
theorem kt787 : (Cond.selects "Blockduty$Trip" ({ cls := "Blockduty$Trip", name := "canFollow", desc := "(LBlockduty$Trip;)Z" } : Jvm.MethodName) ({ cls := "Blockduty$Trip", name := "canFollow", desc := "(LBlockduty$Trip;)Z" } : Jvm.MethodName)) ∈ gtbl := gtbl_tab (i := 787) rfl rfl
set_option maxRecDepth 20000 in
theorem kt788 : (Cond.code ({ cls := "Blockduty$Trip", name := "canFollow", desc := "(LBlockduty$Trip;)Z" } : Jvm.MethodName) prog_9_method_5_code 2 (Option.some Jvm.ClassFile.FieldType.boolean)) ∈ gtbl := gtbl_tab (i := 788) rfl rfl
set_option maxRecDepth 20000 in
theorem kt789 : (Cond.methodLink "Blockduty$Trip" 38 ({ cls := "Blockduty$Trip", name := "end", desc := "()I" } : Jvm.MethodName)) ∈ gtbl := gtbl_tab (i := 789) rfl rfl
set_option maxRecDepth 20000 in
theorem kt791 : (Cond.instanceMethod ({ cls := "Blockduty", name := "mayDelay", desc := "(I)I" } : Jvm.MethodName)) ∈ gtbl := gtbl_tab (i := 791) rfl rfl
set_option maxRecDepth 20000 in
theorem kt792 : (Cond.selects "Blockduty" ({ cls := "Blockduty", name := "mayDelay", desc := "(I)I" } : Jvm.MethodName) ({ cls := "Blockduty", name := "mayDelay", desc := "(I)I" } : Jvm.MethodName)) ∈ gtbl := gtbl_tab (i := 792) rfl rfl
set_option maxRecDepth 20000 in
theorem kt793 : (Cond.code ({ cls := "Blockduty", name := "mayDelay", desc := "(I)I" } : Jvm.MethodName) prog_1_method_29_code 7 (Option.some Jvm.ClassFile.FieldType.int)) ∈ gtbl := gtbl_tab (i := 793) rfl rfl
set_option maxRecDepth 20000 in
theorem kt797 : (Cond.code ({ cls := "Blockduty", name := "digest", desc := "()J" } : Jvm.MethodName) prog_1_method_31_code 4 (Option.some Jvm.ClassFile.FieldType.long)) ∈ gtbl := gtbl_tab (i := 797) rfl rfl
set_option maxRecDepth 20000 in
theorem kt798 : (Cond.constantLong "Blockduty" 422 (58195 : Int64)) ∈ gtbl := gtbl_tab (i := 798) rfl rfl
set_option maxRecDepth 20000 in
theorem kt799 : (Cond.methodLink "Blockduty" 424 ({ cls := "Blockduty", name := "many", desc := "(I)I" } : Jvm.MethodName)) ∈ gtbl := gtbl_tab (i := 799) rfl rfl
set_option maxRecDepth 20000 in
theorem kt800 : (Cond.methodLink "Blockduty" 427 ({ cls := "Blockduty", name := "mix", desc := "(JI)J" } : Jvm.MethodName)) ∈ gtbl := gtbl_tab (i := 800) rfl rfl
set_option maxRecDepth 20000 in
theorem kt801 : (Cond.static ({ cls := "Blockduty", name := "mix", desc := "(JI)J" } : Jvm.MethodName)) ∈ gtbl := gtbl_tab (i := 801) rfl rfl
set_option maxRecDepth 20000 in
theorem kt802 : (Cond.code ({ cls := "Blockduty", name := "mix", desc := "(JI)J" } : Jvm.MethodName) prog_1_method_32_code 3 (Option.some Jvm.ClassFile.FieldType.long)) ∈ gtbl := gtbl_tab (i := 802) rfl rfl
set_option maxRecDepth 20000 in
theorem kt803 : (Cond.constantLong "Blockduty" 450 (31 : Int64)) ∈ gtbl := gtbl_tab (i := 803) rfl rfl
set_option maxRecDepth 20000 in
theorem kt804 : (Cond.methodLink "Blockduty" 431 ({ cls := "Blockduty", name := "lost", desc := "(I)I" } : Jvm.MethodName)) ∈ gtbl := gtbl_tab (i := 804) rfl rfl
set_option maxRecDepth 20000 in
theorem kt805 : (Cond.instanceMethod ({ cls := "Blockduty", name := "lost", desc := "(I)I" } : Jvm.MethodName)) ∈ gtbl := gtbl_tab (i := 805) rfl rfl
set_option maxRecDepth 20000 in
theorem kt806 : (Cond.selects "Blockduty" ({ cls := "Blockduty", name := "lost", desc := "(I)I" } : Jvm.MethodName) ({ cls := "Blockduty", name := "lost", desc := "(I)I" } : Jvm.MethodName)) ∈ gtbl := gtbl_tab (i := 806) rfl rfl
set_option maxRecDepth 20000 in
theorem kt807 : (Cond.code ({ cls := "Blockduty", name := "lost", desc := "(I)I" } : Jvm.MethodName) prog_1_method_25_code 2 (Option.some Jvm.ClassFile.FieldType.int)) ∈ gtbl := gtbl_tab (i := 807) rfl rfl
set_option maxRecDepth 20000 in
theorem kt809 : (Cond.methodLink "Blockduty" 434 ({ cls := "Blockduty", name := "mixTrip", desc := "(JI)J" } : Jvm.MethodName)) ∈ gtbl := gtbl_tab (i := 809) rfl rfl
set_option maxRecDepth 20000 in
theorem kt811 : (Cond.instanceMethod ({ cls := "Blockduty", name := "mixTrip", desc := "(JI)J" } : Jvm.MethodName)) ∈ gtbl := gtbl_tab (i := 811) rfl rfl
set_option maxRecDepth 20000 in
theorem kt812 : (Cond.code ({ cls := "Blockduty", name := "mixTrip", desc := "(JI)J" } : Jvm.MethodName) prog_1_method_33_code 7 (Option.some Jvm.ClassFile.FieldType.long)) ∈ gtbl := gtbl_tab (i := 812) rfl rfl
set_option maxRecDepth 20000 in
theorem kt813 : (Cond.methodLink "Blockduty" 452 ({ cls := "Blockduty", name := "ofTrip", desc := "(II)I" } : Jvm.MethodName)) ∈ gtbl := gtbl_tab (i := 813) rfl rfl
set_option maxRecDepth 20000 in
theorem kt814 : (Cond.methodLink "Blockduty" 455 ({ cls := "Blockduty", name := "mayDelay", desc := "(I)I" } : Jvm.MethodName)) ∈ gtbl := gtbl_tab (i := 814) rfl rfl
set_option maxRecDepth 20000 in
theorem kt815 : (Cond.methodLink "Blockduty" 437 ({ cls := "Blockduty", name := "mixBlock", desc := "(JI)J" } : Jvm.MethodName)) ∈ gtbl := gtbl_tab (i := 815) rfl rfl
set_option maxRecDepth 20000 in
theorem kt817 : (Cond.instanceMethod ({ cls := "Blockduty", name := "mixBlock", desc := "(JI)J" } : Jvm.MethodName)) ∈ gtbl := gtbl_tab (i := 817) rfl rfl
set_option maxRecDepth 20000 in
theorem kt818 : (Cond.code ({ cls := "Blockduty", name := "mixBlock", desc := "(JI)J" } : Jvm.MethodName) prog_1_method_34_code 9 (Option.some Jvm.ClassFile.FieldType.long)) ∈ gtbl := gtbl_tab (i := 818) rfl rfl
set_option maxRecDepth 20000 in
theorem kt819 : (Cond.methodLink "Blockduty" 458 ({ cls := "Blockduty", name := "ofBlock", desc := "(II)I" } : Jvm.MethodName)) ∈ gtbl := gtbl_tab (i := 819) rfl rfl
set_option maxRecDepth 20000 in
theorem kt820 : (Cond.methodLink "Blockduty" 461 ({ cls := "Blockduty", name := "ofPiece", desc := "(III)I" } : Jvm.MethodName)) ∈ gtbl := gtbl_tab (i := 820) rfl rfl
set_option maxRecDepth 20000 in
theorem kt821 : (Cond.instanceMethod ({ cls := "Blockduty", name := "ofPiece", desc := "(III)I" } : Jvm.MethodName)) ∈ gtbl := gtbl_tab (i := 821) rfl rfl
set_option maxRecDepth 20000 in
theorem kt822 : (Cond.selects "Blockduty" ({ cls := "Blockduty", name := "ofPiece", desc := "(III)I" } : Jvm.MethodName) ({ cls := "Blockduty", name := "ofPiece", desc := "(III)I" } : Jvm.MethodName)) ∈ gtbl := gtbl_tab (i := 822) rfl rfl
set_option maxRecDepth 20000 in
theorem kt823 : (Cond.code ({ cls := "Blockduty", name := "ofPiece", desc := "(III)I" } : Jvm.MethodName) prog_1_method_22_code 5 (Option.some Jvm.ClassFile.FieldType.int)) ∈ gtbl := gtbl_tab (i := 823) rfl rfl
set_option maxRecDepth 20000 in
theorem kt824 : (Cond.methodLink "Blockduty" 256 ({ cls := "Blockduty", name := "pieceNumbered", desc := "(II)LBlockduty$Piece;" } : Jvm.MethodName)) ∈ gtbl := gtbl_tab (i := 824) rfl rfl
set_option maxRecDepth 20000 in
theorem kt826 : (Cond.instanceMethod ({ cls := "Blockduty", name := "pieceNumbered", desc := "(II)LBlockduty$Piece;" } : Jvm.MethodName)) ∈ gtbl := gtbl_tab (i := 826) rfl rfl
set_option maxRecDepth 20000 in
theorem kt827 : (Cond.code ({ cls := "Blockduty", name := "pieceNumbered", desc := "(II)LBlockduty$Piece;" } : Jvm.MethodName) prog_1_method_41_code 4 (Option.some (Jvm.ClassFile.FieldType.object "Blockduty$Piece"))) ∈ gtbl := gtbl_tab (i := 827) rfl rfl
set_option maxRecDepth 20000 in
theorem kt828 : (Cond.methodLink "Blockduty" 471 ({ cls := "Blockduty$Block", name := "pieceNumbered", desc := "(I)LBlockduty$Piece;" } : Jvm.MethodName)) ∈ gtbl := gtbl_tab (i := 828) rfl rfl
set_option maxRecDepth 20000 in
theorem kt829 : (Cond.instanceMethod ({ cls := "Blockduty$Block", name := "pieceNumbered", desc := "(I)LBlockduty$Piece;" } : Jvm.MethodName)) ∈ gtbl := gtbl_tab (i := 829) rfl rfl
set_option maxRecDepth 20000 in
theorem kt830 : (Cond.selects "Blockduty$Block" ({ cls := "Blockduty$Block", name := "pieceNumbered", desc := "(I)LBlockduty$Piece;" } : Jvm.MethodName) ({ cls := "Blockduty$Block", name := "pieceNumbered", desc := "(I)LBlockduty$Piece;" } : Jvm.MethodName)) ∈ gtbl := gtbl_tab (i := 830) rfl rfl
set_option maxRecDepth 20000 in
theorem kt831 : (Cond.code ({ cls := "Blockduty$Block", name := "pieceNumbered", desc := "(I)LBlockduty$Piece;" } : Jvm.MethodName) prog_2_method_2_code 2 (Option.some (Jvm.ClassFile.FieldType.object "Blockduty$Piece"))) ∈ gtbl := gtbl_tab (i := 831) rfl rfl
set_option maxRecDepth 20000 in
theorem kt833 : (Cond.methodLink "Blockduty" 382 ({ cls := "Blockduty$Piece", name := "minutes", desc := "()I" } : Jvm.MethodName)) ∈ gtbl := gtbl_tab (i := 833) rfl rfl
set_option maxRecDepth 20000 in
theorem kt834 : (Cond.methodLink "Blockduty" 286 ({ cls := "Blockduty$Piece", name := "driverNumber", desc := "()I" } : Jvm.MethodName)) ∈ gtbl := gtbl_tab (i := 834) rfl rfl
set_option maxRecDepth 20000 in
theorem kt835 : (Cond.instanceMethod ({ cls := "Blockduty$Piece", name := "driverNumber", desc := "()I" } : Jvm.MethodName)) ∈ gtbl := gtbl_tab (i := 835) rfl rfl
set_option maxRecDepth 20000 in
theorem kt836 : (Cond.selects "Blockduty$Piece" ({ cls := "Blockduty$Piece", name := "driverNumber", desc := "()I" } : Jvm.MethodName) ({ cls := "Blockduty$Piece", name := "driverNumber", desc := "()I" } : Jvm.MethodName)) ∈ gtbl := gtbl_tab (i := 836) rfl rfl
set_option maxRecDepth 20000 in
theorem kt837 : (Cond.code ({ cls := "Blockduty$Piece", name := "driverNumber", desc := "()I" } : Jvm.MethodName) prog_6_method_4_code 1 (Option.some Jvm.ClassFile.FieldType.int)) ∈ gtbl := gtbl_tab (i := 837) rfl rfl
set_option maxRecDepth 20000 in
theorem kt838 : (Cond.methodLink "Blockduty" 383 ({ cls := "Blockduty$Piece", name := "worked", desc := "()I" } : Jvm.MethodName)) ∈ gtbl := gtbl_tab (i := 838) rfl rfl
set_option maxRecDepth 20000 in
theorem kt839 : (Cond.methodLink "Blockduty" 465 ({ cls := "Blockduty", name := "wouldLose", desc := "(II)I" } : Jvm.MethodName)) ∈ gtbl := gtbl_tab (i := 839) rfl rfl
set_option maxRecDepth 20000 in
theorem kt840 : (Cond.instanceMethod ({ cls := "Blockduty", name := "wouldLose", desc := "(II)I" } : Jvm.MethodName)) ∈ gtbl := gtbl_tab (i := 840) rfl rfl
set_option maxRecDepth 20000 in
theorem kt841 : (Cond.selects "Blockduty" ({ cls := "Blockduty", name := "wouldLose", desc := "(II)I" } : Jvm.MethodName) ({ cls := "Blockduty", name := "wouldLose", desc := "(II)I" } : Jvm.MethodName)) ∈ gtbl := gtbl_tab (i := 841) rfl rfl
set_option maxRecDepth 20000 in
theorem kt842 : (Cond.code ({ cls := "Blockduty", name := "wouldLose", desc := "(II)I" } : Jvm.MethodName) prog_1_method_28_code 4 (Option.some Jvm.ClassFile.FieldType.int)) ∈ gtbl := gtbl_tab (i := 842) rfl rfl
set_option maxRecDepth 20000 in
theorem kt844 : (Cond.methodLink "Blockduty" 440 ({ cls := "Blockduty", name := "mixDriver", desc := "(JI)J" } : Jvm.MethodName)) ∈ gtbl := gtbl_tab (i := 844) rfl rfl
set_option maxRecDepth 20000 in
theorem kt846 : (Cond.instanceMethod ({ cls := "Blockduty", name := "mixDriver", desc := "(JI)J" } : Jvm.MethodName)) ∈ gtbl := gtbl_tab (i := 846) rfl rfl
set_option maxRecDepth 20000 in
theorem kt847 : (Cond.code ({ cls := "Blockduty", name := "mixDriver", desc := "(JI)J" } : Jvm.MethodName) prog_1_method_35_code 7 (Option.some Jvm.ClassFile.FieldType.long)) ∈ gtbl := gtbl_tab (i := 847) rfl rfl
set_option maxRecDepth 20000 in
theorem kt848 : (Cond.methodLink "Blockduty" 468 ({ cls := "Blockduty", name := "ofDriver", desc := "(II)I" } : Jvm.MethodName)) ∈ gtbl := gtbl_tab (i := 848) rfl rfl
set_option maxRecDepth 20000 in
theorem kt849 : (Cond.methodLink "Blockduty" 443 ({ cls := "Blockduty", name := "leastBlocks", desc := "()I" } : Jvm.MethodName)) ∈ gtbl := gtbl_tab (i := 849) rfl rfl
set_option maxRecDepth 20000 in
theorem kt850 : (Cond.methodLink "Blockduty" 446 ({ cls := "Blockduty", name := "bestSwap", desc := "(II)I" } : Jvm.MethodName)) ∈ gtbl := gtbl_tab (i := 850) rfl rfl
set_option maxRecDepth 20000 in
theorem kt851 : (Cond.instanceMethod ({ cls := "Blockduty", name := "bestSwap", desc := "(II)I" } : Jvm.MethodName)) ∈ gtbl := gtbl_tab (i := 851) rfl rfl
set_option maxRecDepth 20000 in
theorem kt852 : (Cond.selects "Blockduty" ({ cls := "Blockduty", name := "bestSwap", desc := "(II)I" } : Jvm.MethodName) ({ cls := "Blockduty", name := "bestSwap", desc := "(II)I" } : Jvm.MethodName)) ∈ gtbl := gtbl_tab (i := 852) rfl rfl
set_option maxRecDepth 20000 in
theorem kt853 : (Cond.code ({ cls := "Blockduty", name := "bestSwap", desc := "(II)I" } : Jvm.MethodName) prog_1_method_30_code 10 (Option.some Jvm.ClassFile.FieldType.int)) ∈ gtbl := gtbl_tab (i := 853) rfl rfl
set_option maxRecDepth 20000 in
theorem kt855 : (Cond.methodLink "Blockduty" 418 ({ cls := "Blockduty", name := "emptyOfSwap", desc := "(LBlockduty$Block;ILBlockduty$Block;I)I" } : Jvm.MethodName)) ∈ gtbl := gtbl_tab (i := 855) rfl rfl
set_option maxRecDepth 20000 in
theorem kt857 : (Cond.instanceMethod ({ cls := "Blockduty", name := "emptyOfSwap", desc := "(LBlockduty$Block;ILBlockduty$Block;I)I" } : Jvm.MethodName)) ∈ gtbl := gtbl_tab (i := 857) rfl rfl
set_option maxRecDepth 20000 in
theorem kt858 : (Cond.code ({ cls := "Blockduty", name := "emptyOfSwap", desc := "(LBlockduty$Block;ILBlockduty$Block;I)I" } : Jvm.MethodName) prog_1_method_53_code 5 (Option.some Jvm.ClassFile.FieldType.int)) ∈ gtbl := gtbl_tab (i := 858) rfl rfl
set_option maxRecDepth 20000 in
theorem kt859 : (Cond.methodLink "Blockduty" 232 ({ cls := "Blockduty", name := "canSwap", desc := "(LBlockduty$Row;ILBlockduty$Row;I)Z" } : Jvm.MethodName)) ∈ gtbl := gtbl_tab (i := 859) rfl rfl
set_option maxRecDepth 20000 in
theorem kt860 : (Cond.static ({ cls := "Blockduty", name := "canSwap", desc := "(LBlockduty$Row;ILBlockduty$Row;I)Z" } : Jvm.MethodName)) ∈ gtbl := gtbl_tab (i := 860) rfl rfl
set_option maxRecDepth 20000 in
theorem kt861 : (Cond.code ({ cls := "Blockduty", name := "canSwap", desc := "(LBlockduty$Row;ILBlockduty$Row;I)Z" } : Jvm.MethodName) prog_1_method_50_code 4 (Option.some Jvm.ClassFile.FieldType.boolean)) ∈ gtbl := gtbl_tab (i := 861) rfl rfl
set_option maxRecDepth 20000 in
theorem kt862 : (Cond.methodLink "Blockduty" 502 ({ cls := "Blockduty", name := "canJoin", desc := "(LBlockduty$Row;ILBlockduty$Row;I)Z" } : Jvm.MethodName)) ∈ gtbl := gtbl_tab (i := 862) rfl rfl
set_option maxRecDepth 20000 in
theorem kt863 : (Cond.static ({ cls := "Blockduty", name := "canJoin", desc := "(LBlockduty$Row;ILBlockduty$Row;I)Z" } : Jvm.MethodName)) ∈ gtbl := gtbl_tab (i := 863) rfl rfl
set_option maxRecDepth 20000 in
theorem kt864 : (Cond.code ({ cls := "Blockduty", name := "canJoin", desc := "(LBlockduty$Row;ILBlockduty$Row;I)Z" } : Jvm.MethodName) prog_1_method_51_code 6 (Option.some Jvm.ClassFile.FieldType.boolean)) ∈ gtbl := gtbl_tab (i := 864) rfl rfl
set_option maxRecDepth 20000 in
theorem kt865 : (Cond.methodLink "Blockduty" 371 ({ cls := "Blockduty$Row", name := "get", desc := "(I)LBlockduty$Trip;" } : Jvm.MethodName)) ∈ gtbl := gtbl_tab (i := 865) rfl rfl
set_option maxRecDepth 20000 in
theorem kt866 : (Cond.methodLink "Blockduty" 202 ({ cls := "Blockduty$Trip", name := "canFollow", desc := "(LBlockduty$Trip;)Z" } : Jvm.MethodName)) ∈ gtbl := gtbl_tab (i := 866) rfl rfl
set_option maxRecDepth 20000 in
theorem kt867 : (Cond.methodLink "Blockduty" 238 ({ cls := "Blockduty", name := "trySwap", desc := "(LBlockduty$Row;ILBlockduty$Row;I)V" } : Jvm.MethodName)) ∈ gtbl := gtbl_tab (i := 867) rfl rfl
set_option maxRecDepth 20000 in
theorem kt869 : (Cond.instanceMethod ({ cls := "Blockduty", name := "trySwap", desc := "(LBlockduty$Row;ILBlockduty$Row;I)V" } : Jvm.MethodName)) ∈ gtbl := gtbl_tab (i := 869) rfl rfl
set_option maxRecDepth 20000 in
theorem kt870 : (Cond.code ({ cls := "Blockduty", name := "trySwap", desc := "(LBlockduty$Row;ILBlockduty$Row;I)V" } : Jvm.MethodName) prog_1_method_52_code 5 (Option.none : Option Jvm.ClassFile.FieldType)) ∈ gtbl := gtbl_tab (i := 870) rfl rfl
set_option maxRecDepth 20000 in
theorem kt871 : (Cond.methodLink "Blockduty" 505 ({ cls := "Blockduty$Row", name := "join", desc := "(LBlockduty$Row;ILBlockduty$Row;I)V" } : Jvm.MethodName)) ∈ gtbl := gtbl_tab (i := 871) rfl rfl
set_option maxRecDepth 20000 in
theorem kt872 : (Cond.instanceMethod ({ cls := "Blockduty$Row", name := "join", desc := "(LBlockduty$Row;ILBlockduty$Row;I)V" } : Jvm.MethodName)) ∈ gtbl := gtbl_tab (i := 872) rfl rfl
set_option maxRecDepth 20000 in
theorem kt873 : (Cond.selects "Blockduty$Row" ({ cls := "Blockduty$Row", name := "join", desc := "(LBlockduty$Row;ILBlockduty$Row;I)V" } : Jvm.MethodName) ({ cls := "Blockduty$Row", name := "join", desc := "(LBlockduty$Row;ILBlockduty$Row;I)V" } : Jvm.MethodName)) ∈ gtbl := gtbl_tab (i := 873) rfl rfl
set_option maxRecDepth 20000 in
theorem kt874 : (Cond.code ({ cls := "Blockduty$Row", name := "join", desc := "(LBlockduty$Row;ILBlockduty$Row;I)V" } : Jvm.MethodName) prog_8_method_5_code 5 (Option.none : Option Jvm.ClassFile.FieldType)) ∈ gtbl := gtbl_tab (i := 874) rfl rfl
set_option maxRecDepth 20000 in
theorem kt875 : (Cond.methodLink "Blockduty$Row" 31 ({ cls := "java/util/ArrayList", name := "clear", desc := "()V" } : Jvm.MethodName)) ∈ gtbl := gtbl_tab (i := 875) rfl rfl
set_option maxRecDepth 20000 in
theorem kt876 : (Cond.methodLink "Blockduty$Row" 34 ({ cls := "Blockduty$Row", name := "addPart", desc := "(LBlockduty$Row;II)V" } : Jvm.MethodName)) ∈ gtbl := gtbl_tab (i := 876) rfl rfl
set_option maxRecDepth 20000 in
theorem kt878 : (Cond.instanceMethod ({ cls := "Blockduty$Row", name := "addPart", desc := "(LBlockduty$Row;II)V" } : Jvm.MethodName)) ∈ gtbl := gtbl_tab (i := 878) rfl rfl
set_option maxRecDepth 20000 in
theorem kt879 : (Cond.code ({ cls := "Blockduty$Row", name := "addPart", desc := "(LBlockduty$Row;II)V" } : Jvm.MethodName) prog_8_method_7_code 5 (Option.none : Option Jvm.ClassFile.FieldType)) ∈ gtbl := gtbl_tab (i := 879) rfl rfl
set_option maxRecDepth 20000 in
theorem kt880 : (Cond.methodLink "Blockduty$Row" 41 ({ cls := "java/lang/Math", name := "max", desc := "(II)I" } : Jvm.MethodName)) ∈ gtbl := gtbl_tab (i := 880) rfl rfl
set_option maxRecDepth 20000 in
theorem kt881 : (Cond.methodLink "Blockduty$Row" 47 ({ cls := "java/util/ArrayList", name := "add", desc := "(Ljava/lang/Object;)Z" } : Jvm.MethodName)) ∈ gtbl := gtbl_tab (i := 881) rfl rfl
set_option maxRecDepth 20000 in
theorem kt882 : (Cond.methodLink "Blockduty$Row" 38 ({ cls := "Blockduty$Row", name := "count", desc := "()I" } : Jvm.MethodName)) ∈ gtbl := gtbl_tab (i := 882) rfl rfl
set_option maxRecDepth 20000 in
theorem kt897 : (Cond.code ({ cls := "Blockduty", name := "build", desc := "(I)I" } : Jvm.MethodName) prog_1_method_11_code 5 (Option.some Jvm.ClassFile.FieldType.int)) ∈ gtbl := gtbl_tab (i := 897) rfl rfl
set_option maxRecDepth 20000 in
theorem kt898 : (Cond.methodLink "Blockduty" 226 ({ cls := "Blockduty", name := "putIntoSomeBlock", desc := "(LBlockduty$Trip;I)Z" } : Jvm.MethodName)) ∈ gtbl := gtbl_tab (i := 898) rfl rfl
set_option maxRecDepth 20000 in
theorem kt900 : (Cond.instanceMethod ({ cls := "Blockduty", name := "putIntoSomeBlock", desc := "(LBlockduty$Trip;I)Z" } : Jvm.MethodName)) ∈ gtbl := gtbl_tab (i := 900) rfl rfl
set_option maxRecDepth 20000 in
theorem kt901 : (Cond.code ({ cls := "Blockduty", name := "putIntoSomeBlock", desc := "(LBlockduty$Trip;I)Z" } : Jvm.MethodName) prog_1_method_48_code 4 (Option.some Jvm.ClassFile.FieldType.boolean)) ∈ gtbl := gtbl_tab (i := 901) rfl rfl
set_option maxRecDepth 20000 in
theorem kt902 : (Cond.methodLink "Blockduty" 487 ({ cls := "Blockduty", name := "nearestBlock", desc := "(LBlockduty$Trip;)LBlockduty$Block;" } : Jvm.MethodName)) ∈ gtbl := gtbl_tab (i := 902) rfl rfl
set_option maxRecDepth 20000 in
theorem kt904 : (Cond.instanceMethod ({ cls := "Blockduty", name := "nearestBlock", desc := "(LBlockduty$Trip;)LBlockduty$Block;" } : Jvm.MethodName)) ∈ gtbl := gtbl_tab (i := 904) rfl rfl
set_option maxRecDepth 20000 in
theorem kt905 : (Cond.code ({ cls := "Blockduty", name := "nearestBlock", desc := "(LBlockduty$Trip;)LBlockduty$Block;" } : Jvm.MethodName) prog_1_method_49_code 7 (Option.some (Jvm.ClassFile.FieldType.object "Blockduty$Block"))) ∈ gtbl := gtbl_tab (i := 905) rfl rfl
set_option maxRecDepth 20000 in
theorem kt906 : (Cond.methodLink "Blockduty" 194 ({ cls := "Blockduty$Row", name := "last", desc := "()LBlockduty$Trip;" } : Jvm.MethodName)) ∈ gtbl := gtbl_tab (i := 906) rfl rfl
set_option maxRecDepth 20000 in
theorem kt907 : (Cond.methodLink "Blockduty" 494 ({ cls := "Blockduty$Trip", name := "emptyTo", desc := "(LBlockduty$Trip;)I" } : Jvm.MethodName)) ∈ gtbl := gtbl_tab (i := 907) rfl rfl
set_option maxRecDepth 20000 in
theorem kt908 : (Cond.methodLink "Blockduty" 498 ({ cls := "Blockduty", name := "wouldBeFlat", desc := "(LBlockduty$Row;LBlockduty$Trip;I)Z" } : Jvm.MethodName)) ∈ gtbl := gtbl_tab (i := 908) rfl rfl
set_option maxRecDepth 20000 in
theorem kt910 : (Cond.instanceMethod ({ cls := "Blockduty", name := "wouldBeFlat", desc := "(LBlockduty$Row;LBlockduty$Trip;I)Z" } : Jvm.MethodName)) ∈ gtbl := gtbl_tab (i := 910) rfl rfl
set_option maxRecDepth 20000 in
theorem kt911 : (Cond.code ({ cls := "Blockduty", name := "wouldBeFlat", desc := "(LBlockduty$Row;LBlockduty$Trip;I)Z" } : Jvm.MethodName) prog_1_method_46_code 4 (Option.some Jvm.ClassFile.FieldType.boolean)) ∈ gtbl := gtbl_tab (i := 911) rfl rfl
set_option maxRecDepth 20000 in
theorem kt912 : (Cond.methodLink "Blockduty" 480 ({ cls := "Blockduty$Row", name := "copy", desc := "(LBlockduty$Row;)V" } : Jvm.MethodName)) ∈ gtbl := gtbl_tab (i := 912) rfl rfl
set_option maxRecDepth 20000 in
theorem kt913 : (Cond.instanceMethod ({ cls := "Blockduty$Row", name := "copy", desc := "(LBlockduty$Row;)V" } : Jvm.MethodName)) ∈ gtbl := gtbl_tab (i := 913) rfl rfl
set_option maxRecDepth 20000 in
theorem kt914 : (Cond.selects "Blockduty$Row" ({ cls := "Blockduty$Row", name := "copy", desc := "(LBlockduty$Row;)V" } : Jvm.MethodName) ({ cls := "Blockduty$Row", name := "copy", desc := "(LBlockduty$Row;)V" } : Jvm.MethodName)) ∈ gtbl := gtbl_tab (i := 914) rfl rfl
set_option maxRecDepth 20000 in
theorem kt915 : (Cond.code ({ cls := "Blockduty$Row", name := "copy", desc := "(LBlockduty$Row;)V" } : Jvm.MethodName) prog_8_method_6_code 2 (Option.none : Option Jvm.ClassFile.FieldType)) ∈ gtbl := gtbl_tab (i := 915) rfl rfl
set_option maxRecDepth 20000 in
theorem kt916 : (Cond.methodLink "Blockduty" 208 ({ cls := "Blockduty$Block", name := "addTrip", desc := "(LBlockduty$Trip;)V" } : Jvm.MethodName)) ∈ gtbl := gtbl_tab (i := 916) rfl rfl
set_option maxRecDepth 20000 in
theorem kt917 : (Cond.instanceMethod ({ cls := "Blockduty$Block", name := "addTrip", desc := "(LBlockduty$Trip;)V" } : Jvm.MethodName)) ∈ gtbl := gtbl_tab (i := 917) rfl rfl
set_option maxRecDepth 20000 in
theorem kt918 : (Cond.selects "Blockduty$Block" ({ cls := "Blockduty$Block", name := "addTrip", desc := "(LBlockduty$Trip;)V" } : Jvm.MethodName) ({ cls := "Blockduty$Block", name := "addTrip", desc := "(LBlockduty$Trip;)V" } : Jvm.MethodName)) ∈ gtbl := gtbl_tab (i := 918) rfl rfl
set_option maxRecDepth 20000 in
theorem kt919 : (Cond.code ({ cls := "Blockduty$Block", name := "addTrip", desc := "(LBlockduty$Trip;)V" } : Jvm.MethodName) prog_2_method_3_code 2 (Option.none : Option Jvm.ClassFile.FieldType)) ∈ gtbl := gtbl_tab (i := 919) rfl rfl
set_option maxRecDepth 20000 in
theorem kt920 : (Cond.methodLink "Blockduty$Block" 51 ({ cls := "java/util/ArrayList", name := "add", desc := "(Ljava/lang/Object;)Z" } : Jvm.MethodName)) ∈ gtbl := gtbl_tab (i := 920) rfl rfl
set_option maxRecDepth 20000 in
theorem kt921 : (Cond.methodLink "Blockduty" 491 ({ cls := "Blockduty", name := "wouldBeFlatAlone", desc := "(LBlockduty$Trip;I)Z" } : Jvm.MethodName)) ∈ gtbl := gtbl_tab (i := 921) rfl rfl
set_option maxRecDepth 20000 in
theorem kt923 : (Cond.instanceMethod ({ cls := "Blockduty", name := "wouldBeFlatAlone", desc := "(LBlockduty$Trip;I)Z" } : Jvm.MethodName)) ∈ gtbl := gtbl_tab (i := 923) rfl rfl
set_option maxRecDepth 20000 in
theorem kt924 : (Cond.code ({ cls := "Blockduty", name := "wouldBeFlatAlone", desc := "(LBlockduty$Trip;I)Z" } : Jvm.MethodName) prog_1_method_47_code 3 (Option.some Jvm.ClassFile.FieldType.boolean)) ∈ gtbl := gtbl_tab (i := 924) rfl rfl
set_option maxRecDepth 20000 in
theorem kt925 : (Cond.methodLink "Blockduty" 484 ({ cls := "java/util/ArrayList", name := "clear", desc := "()V" } : Jvm.MethodName)) ∈ gtbl := gtbl_tab (i := 925) rfl rfl
set_option maxRecDepth 20000 in
theorem kt933 : (Cond.code ({ cls := "Blockduty", name := "at", desc := "(II)I" } : Jvm.MethodName) prog_1_method_21_code 5 (Option.some Jvm.ClassFile.FieldType.int)) ∈ gtbl := gtbl_tab (i := 933) rfl rfl
set_option maxRecDepth 20000 in
theorem kt939 : (Cond.static ({ cls := "java/lang/Math", name := "abs", desc := "(I)I" } : Jvm.MethodName)) ∈ gtbl := gtbl_tab (i := 939) rfl rfl
set_option maxRecDepth 20000 in
theorem kt940 : (Cond.code ({ cls := "java/lang/Math", name := "abs", desc := "(I)I" } : Jvm.MethodName) prog_23_method_59_code 1 (Option.some Jvm.ClassFile.FieldType.int)) ∈ gtbl := gtbl_tab (i := 940) rfl rfl
set_option maxRecDepth 20000 in
theorem kt944 : (Cond.code ({ cls := "Blockduty", name := "append", desc := "(II)I" } : Jvm.MethodName) prog_1_method_9_code 6 (Option.some Jvm.ClassFile.FieldType.int)) ∈ gtbl := gtbl_tab (i := 944) rfl rfl
set_option maxRecDepth 20000 in
theorem kt953 : (Cond.code ({ cls := "Blockduty", name := "swap", desc := "(IIII)I" } : Jvm.MethodName) prog_1_method_12_code 10 (Option.some Jvm.ClassFile.FieldType.int)) ∈ gtbl := gtbl_tab (i := 953) rfl rfl
set_option maxRecDepth 20000 in
theorem kt956 : (Cond.methodLink "Blockduty" 242 ({ cls := "Blockduty$Block", name := "takeOver", desc := "(LBlockduty$Row;)V" } : Jvm.MethodName)) ∈ gtbl := gtbl_tab (i := 956) rfl rfl
set_option maxRecDepth 20000 in
theorem kt957 : (Cond.instanceMethod ({ cls := "Blockduty$Block", name := "takeOver", desc := "(LBlockduty$Row;)V" } : Jvm.MethodName)) ∈ gtbl := gtbl_tab (i := 957) rfl rfl
set_option maxRecDepth 20000 in
theorem kt958 : (Cond.selects "Blockduty$Block" ({ cls := "Blockduty$Block", name := "takeOver", desc := "(LBlockduty$Row;)V" } : Jvm.MethodName) ({ cls := "Blockduty$Block", name := "takeOver", desc := "(LBlockduty$Row;)V" } : Jvm.MethodName)) ∈ gtbl := gtbl_tab (i := 958) rfl rfl
set_option maxRecDepth 20000 in
theorem kt959 : (Cond.code ({ cls := "Blockduty$Block", name := "takeOver", desc := "(LBlockduty$Row;)V" } : Jvm.MethodName) prog_2_method_5_code 3 (Option.none : Option Jvm.ClassFile.FieldType)) ∈ gtbl := gtbl_tab (i := 959) rfl rfl
set_option maxRecDepth 20000 in
theorem kt960 : (Cond.methodLink "Blockduty$Block" 71 ({ cls := "Blockduty$Row", name := "copy", desc := "(LBlockduty$Row;)V" } : Jvm.MethodName)) ∈ gtbl := gtbl_tab (i := 960) rfl rfl
set_option maxRecDepth 20000 in
theorem kt967 : (Cond.code ({ cls := "Blockduty", name := "cut", desc := "(I)I" } : Jvm.MethodName) prog_1_method_13_code 4 (Option.some Jvm.ClassFile.FieldType.int)) ∈ gtbl := gtbl_tab (i := 967) rfl rfl
set_option maxRecDepth 20000 in
theorem kt968 : (Cond.methodLink "Blockduty" 246 ({ cls := "Blockduty$WorkRules", name := "planPieces", desc := "(LBlockduty$Row;[I)I" } : Jvm.MethodName)) ∈ gtbl := gtbl_tab (i := 968) rfl rfl
set_option maxRecDepth 20000 in
theorem kt969 : (Cond.instanceMethod ({ cls := "Blockduty$WorkRules", name := "planPieces", desc := "(LBlockduty$Row;[I)I" } : Jvm.MethodName)) ∈ gtbl := gtbl_tab (i := 969) rfl rfl
set_option maxRecDepth 20000 in
theorem kt970 : (Cond.selects "Blockduty$WorkRules" ({ cls := "Blockduty$WorkRules", name := "planPieces", desc := "(LBlockduty$Row;[I)I" } : Jvm.MethodName) ({ cls := "Blockduty$WorkRules", name := "planPieces", desc := "(LBlockduty$Row;[I)I" } : Jvm.MethodName)) ∈ gtbl := gtbl_tab (i := 970) rfl rfl
set_option maxRecDepth 20000 in
theorem kt971 : (Cond.code ({ cls := "Blockduty$WorkRules", name := "planPieces", desc := "(LBlockduty$Row;[I)I" } : Jvm.MethodName) prog_10_method_2_code 6 (Option.some Jvm.ClassFile.FieldType.int)) ∈ gtbl := gtbl_tab (i := 971) rfl rfl
set_option maxRecDepth 20000 in
theorem kt972 : (Cond.methodLink "Blockduty$WorkRules" 18 ({ cls := "Blockduty$Row", name := "count", desc := "()I" } : Jvm.MethodName)) ∈ gtbl := gtbl_tab (i := 972) rfl rfl
set_option maxRecDepth 20000 in
theorem kt973 : (Cond.methodLink "Blockduty$WorkRules" 24 ({ cls := "Blockduty$WorkRules", name := "endOfLongest", desc := "(LBlockduty$Row;I)I" } : Jvm.MethodName)) ∈ gtbl := gtbl_tab (i := 973) rfl rfl
set_option maxRecDepth 20000 in
theorem kt975 : (Cond.instanceMethod ({ cls := "Blockduty$WorkRules", name := "endOfLongest", desc := "(LBlockduty$Row;I)I" } : Jvm.MethodName)) ∈ gtbl := gtbl_tab (i := 975) rfl rfl
set_option maxRecDepth 20000 in
theorem kt976 : (Cond.code ({ cls := "Blockduty$WorkRules", name := "endOfLongest", desc := "(LBlockduty$Row;I)I" } : Jvm.MethodName) prog_10_method_3_code 9 (Option.some Jvm.ClassFile.FieldType.int)) ∈ gtbl := gtbl_tab (i := 976) rfl rfl
set_option maxRecDepth 20000 in
theorem kt977 : (Cond.methodLink "Blockduty$WorkRules" 28 ({ cls := "Blockduty$Row", name := "get", desc := "(I)LBlockduty$Trip;" } : Jvm.MethodName)) ∈ gtbl := gtbl_tab (i := 977) rfl rfl
set_option maxRecDepth 20000 in
theorem kt978 : (Cond.methodLink "Blockduty$WorkRules" 36 ({ cls := "java/util/ArrayList", name := "get", desc := "(I)Ljava/lang/Object;" } : Jvm.MethodName)) ∈ gtbl := gtbl_tab (i := 978) rfl rfl
set_option maxRecDepth 20000 in
theorem kt979 : (Cond.classLink "Blockduty$WorkRules" 41 "Blockduty$Trip") ∈ gtbl := gtbl_tab (i := 979) rfl rfl
set_option maxRecDepth 20000 in
theorem kt980 : (Cond.methodLink "Blockduty$WorkRules" 43 ({ cls := "Blockduty$Trip", name := "emptyTo", desc := "(LBlockduty$Trip;)I" } : Jvm.MethodName)) ∈ gtbl := gtbl_tab (i := 980) rfl rfl
set_option maxRecDepth 20000 in
theorem kt981 : (Cond.methodLink "Blockduty$WorkRules" 47 ({ cls := "Blockduty$Trip", name := "waitBehind", desc := "(LBlockduty$Trip;)I" } : Jvm.MethodName)) ∈ gtbl := gtbl_tab (i := 981) rfl rfl
set_option maxRecDepth 20000 in
theorem kt982 : (Cond.instanceMethod ({ cls := "Blockduty$Trip", name := "waitBehind", desc := "(LBlockduty$Trip;)I" } : Jvm.MethodName)) ∈ gtbl := gtbl_tab (i := 982) rfl rfl
set_option maxRecDepth 20000 in
theorem kt983 : (Cond.selects "Blockduty$Trip" ({ cls := "Blockduty$Trip", name := "waitBehind", desc := "(LBlockduty$Trip;)I" } : Jvm.MethodName) ({ cls := "Blockduty$Trip", name := "waitBehind", desc := "(LBlockduty$Trip;)I" } : Jvm.MethodName)) ∈ gtbl := gtbl_tab (i := 983) rfl rfl
set_option maxRecDepth 20000 in
theorem kt984 : (Cond.code ({ cls := "Blockduty$Trip", name := "waitBehind", desc := "(LBlockduty$Trip;)I" } : Jvm.MethodName) prog_9_method_4_code 2 (Option.some Jvm.ClassFile.FieldType.int)) ∈ gtbl := gtbl_tab (i := 984) rfl rfl
set_option maxRecDepth 20000 in
theorem kt985 : (Cond.methodLink "Blockduty$WorkRules" 53 ({ cls := "Blockduty$Trip", name := "end", desc := "()I" } : Jvm.MethodName)) ∈ gtbl := gtbl_tab (i := 985) rfl rfl
set_option maxRecDepth 20000 in
theorem kt987 : (Cond.methodLink "Blockduty" 252 ({ cls := "Blockduty$Block", name := "cutAt", desc := "([II)V" } : Jvm.MethodName)) ∈ gtbl := gtbl_tab (i := 987) rfl rfl
set_option maxRecDepth 20000 in
theorem kt988 : (Cond.instanceMethod ({ cls := "Blockduty$Block", name := "cutAt", desc := "([II)V" } : Jvm.MethodName)) ∈ gtbl := gtbl_tab (i := 988) rfl rfl
set_option maxRecDepth 20000 in
theorem kt989 : (Cond.selects "Blockduty$Block" ({ cls := "Blockduty$Block", name := "cutAt", desc := "([II)V" } : Jvm.MethodName) ({ cls := "Blockduty$Block", name := "cutAt", desc := "([II)V" } : Jvm.MethodName)) ∈ gtbl := gtbl_tab (i := 989) rfl rfl
set_option maxRecDepth 20000 in
theorem kt990 : (Cond.code ({ cls := "Blockduty$Block", name := "cutAt", desc := "([II)V" } : Jvm.MethodName) prog_2_method_7_code 5 (Option.none : Option Jvm.ClassFile.FieldType)) ∈ gtbl := gtbl_tab (i := 990) rfl rfl
set_option maxRecDepth 20000 in
theorem kt991 : (Cond.methodLink "Blockduty$Block" 85 ({ cls := "Blockduty$Block", name := "addPiece", desc := "(II)V" } : Jvm.MethodName)) ∈ gtbl := gtbl_tab (i := 991) rfl rfl
set_option maxRecDepth 20000 in
theorem kt993 : (Cond.instanceMethod ({ cls := "Blockduty$Block", name := "addPiece", desc := "(II)V" } : Jvm.MethodName)) ∈ gtbl := gtbl_tab (i := 993) rfl rfl
set_option maxRecDepth 20000 in
theorem kt994 : (Cond.code ({ cls := "Blockduty$Block", name := "addPiece", desc := "(II)V" } : Jvm.MethodName) prog_2_method_8_code 7 (Option.none : Option Jvm.ClassFile.FieldType)) ∈ gtbl := gtbl_tab (i := 994) rfl rfl
set_option maxRecDepth 20000 in
theorem kt995 : (Cond.methodLink "Blockduty$Block" 89 ({ cls := "Blockduty$Row", name := "get", desc := "(I)LBlockduty$Trip;" } : Jvm.MethodName)) ∈ gtbl := gtbl_tab (i := 995) rfl rfl
set_option maxRecDepth 20000 in
theorem kt996 : (Cond.instantiable "Blockduty$Piece" 6) ∈ gtbl := gtbl_tab (i := 996) rfl rfl
set_option maxRecDepth 20000 in
theorem kt997 : (Cond.methodLink "Blockduty$Block" 92 ({ cls := "Blockduty$Piece", name := "<init>", desc := "(ILBlockduty$Row;LBlockduty$Trip;LBlockduty$Trip;I)V" } : Jvm.MethodName)) ∈ gtbl := gtbl_tab (i := 997) rfl rfl
set_option maxRecDepth 20000 in
theorem kt998 : (Cond.instanceMethod ({ cls := "Blockduty$Piece", name := "<init>", desc := "(ILBlockduty$Row;LBlockduty$Trip;LBlockduty$Trip;I)V" } : Jvm.MethodName)) ∈ gtbl := gtbl_tab (i := 998) rfl rfl
set_option maxRecDepth 20000 in
theorem kt999 : (Cond.code ({ cls := "Blockduty$Piece", name := "<init>", desc := "(ILBlockduty$Row;LBlockduty$Trip;LBlockduty$Trip;I)V" } : Jvm.MethodName) prog_6_method_1_code 6 (Option.none : Option Jvm.ClassFile.FieldType)) ∈ gtbl := gtbl_tab (i := 999) rfl rfl
set_option maxRecDepth 20000 in
theorem kt1000 : (Cond.methodLink "Blockduty$Piece" 3 ({ cls := "java/lang/Object", name := "<init>", desc := "()V" } : Jvm.MethodName)) ∈ gtbl := gtbl_tab (i := 1000) rfl rfl
set_option maxRecDepth 20000 in
theorem kt1001 : (Cond.fieldLink "Blockduty$Piece" 9 "Blockduty$Piece" "number" "I") ∈ gtbl := gtbl_tab (i := 1001) rfl rfl
set_option maxRecDepth 20000 in
theorem kt1002 : (Cond.fieldLink "Blockduty$Trip" 53 "Blockduty$Piece" "number" "I") ∈ gtbl := gtbl_tab (i := 1002) rfl rfl
set_option maxRecDepth 20000 in
theorem kt1003 : (Cond.fieldLink "Blockduty$Piece" 15 "Blockduty$Piece" "row" "LBlockduty$Row;") ∈ gtbl := gtbl_tab (i := 1003) rfl rfl
set_option maxRecDepth 20000 in
theorem kt1004 : (Cond.fieldLink "Blockduty$Piece" 19 "Blockduty$Piece" "first" "LBlockduty$Trip;") ∈ gtbl := gtbl_tab (i := 1004) rfl rfl
set_option maxRecDepth 20000 in
theorem kt1005 : (Cond.fieldLink "Blockduty" 373 "Blockduty$Piece" "first" "LBlockduty$Trip;") ∈ gtbl := gtbl_tab (i := 1005) rfl rfl
set_option maxRecDepth 20000 in
theorem kt1006 : (Cond.fieldLink "Blockduty$Piece" 23 "Blockduty$Piece" "last" "LBlockduty$Trip;") ∈ gtbl := gtbl_tab (i := 1006) rfl rfl
set_option maxRecDepth 20000 in
theorem kt1007 : (Cond.fieldLink "Blockduty" 377 "Blockduty$Piece" "last" "LBlockduty$Trip;") ∈ gtbl := gtbl_tab (i := 1007) rfl rfl
set_option maxRecDepth 20000 in
theorem kt1008 : (Cond.fieldLink "Blockduty$Piece" 26 "Blockduty$Piece" "tripCount" "I") ∈ gtbl := gtbl_tab (i := 1008) rfl rfl
set_option maxRecDepth 20000 in
theorem kt1009 : (Cond.fieldLink "Blockduty" 379 "Blockduty$Piece" "tripCount" "I") ∈ gtbl := gtbl_tab (i := 1009) rfl rfl
set_option maxRecDepth 20000 in
theorem kt1010 : (Cond.fieldLink "Blockduty$Piece" 38 "Blockduty$Piece" "driver" "LBlockduty$Driver;") ∈ gtbl := gtbl_tab (i := 1010) rfl rfl
set_option maxRecDepth 20000 in
theorem kt1011 : (Cond.fieldLink "Blockduty$Trip" 68 "Blockduty$Piece" "driver" "LBlockduty$Driver;") ∈ gtbl := gtbl_tab (i := 1011) rfl rfl
set_option maxRecDepth 20000 in
theorem kt1012 : (Cond.fieldLink "Blockduty" 266 "Blockduty$Piece" "driver" "LBlockduty$Driver;") ∈ gtbl := gtbl_tab (i := 1012) rfl rfl
set_option maxRecDepth 20000 in
theorem kt1013 : (Cond.laysFinal "Blockduty$Piece" "Blockduty$Piece" "number" "I") ∈ gtbl := gtbl_tab (i := 1013) rfl rfl
set_option maxRecDepth 20000 in
theorem kt1015 : (Cond.laysFinal "Blockduty$Piece" "Blockduty$Piece" "row" "LBlockduty$Row;") ∈ gtbl := gtbl_tab (i := 1015) rfl rfl
set_option maxRecDepth 20000 in
theorem kt1017 : (Cond.laysFinal "Blockduty$Piece" "Blockduty$Piece" "first" "LBlockduty$Trip;") ∈ gtbl := gtbl_tab (i := 1017) rfl rfl
set_option maxRecDepth 20000 in
theorem kt1019 : (Cond.laysFinal "Blockduty$Piece" "Blockduty$Piece" "last" "LBlockduty$Trip;") ∈ gtbl := gtbl_tab (i := 1019) rfl rfl
set_option maxRecDepth 20000 in
theorem kt1021 : (Cond.laysFinal "Blockduty$Piece" "Blockduty$Piece" "tripCount" "I") ∈ gtbl := gtbl_tab (i := 1021) rfl rfl
set_option maxRecDepth 20000 in
theorem kt1023 : (Cond.lays "Blockduty$Piece" "Blockduty$Piece" "driver" "LBlockduty$Driver;") ∈ gtbl := gtbl_tab (i := 1023) rfl rfl
set_option maxRecDepth 20000 in
theorem kt1033 : (Cond.code ({ cls := "Blockduty", name := "give", desc := "(III)I" } : Jvm.MethodName) prog_1_method_14_code 6 (Option.some Jvm.ClassFile.FieldType.int)) ∈ gtbl := gtbl_tab (i := 1033) rfl rfl
set_option maxRecDepth 20000 in
theorem kt1035 : (Cond.methodLink "Blockduty" 272 ({ cls := "Blockduty$Driver", name := "canGet", desc := "(LBlockduty$Piece;)Z" } : Jvm.MethodName)) ∈ gtbl := gtbl_tab (i := 1035) rfl rfl
set_option maxRecDepth 20000 in
theorem kt1036 : (Cond.instanceMethod ({ cls := "Blockduty$Driver", name := "canGet", desc := "(LBlockduty$Piece;)Z" } : Jvm.MethodName)) ∈ gtbl := gtbl_tab (i := 1036) rfl rfl
set_option maxRecDepth 20000 in
theorem kt1037 : (Cond.selects "Blockduty$Driver" ({ cls := "Blockduty$Driver", name := "canGet", desc := "(LBlockduty$Piece;)Z" } : Jvm.MethodName) ({ cls := "Blockduty$Driver", name := "canGet", desc := "(LBlockduty$Piece;)Z" } : Jvm.MethodName)) ∈ gtbl := gtbl_tab (i := 1037) rfl rfl
set_option maxRecDepth 20000 in
theorem kt1038 : (Cond.code ({ cls := "Blockduty$Driver", name := "canGet", desc := "(LBlockduty$Piece;)Z" } : Jvm.MethodName) prog_3_method_2_code 3 (Option.some Jvm.ClassFile.FieldType.boolean)) ∈ gtbl := gtbl_tab (i := 1038) rfl rfl
set_option maxRecDepth 20000 in
theorem kt1039 : (Cond.methodLink "Blockduty$Driver" 32 ({ cls := "Blockduty$Piece", name := "isNear", desc := "(LBlockduty$Piece;)Z" } : Jvm.MethodName)) ∈ gtbl := gtbl_tab (i := 1039) rfl rfl
set_option maxRecDepth 20000 in
theorem kt1040 : (Cond.instanceMethod ({ cls := "Blockduty$Piece", name := "isNear", desc := "(LBlockduty$Piece;)Z" } : Jvm.MethodName)) ∈ gtbl := gtbl_tab (i := 1040) rfl rfl
set_option maxRecDepth 20000 in
theorem kt1041 : (Cond.selects "Blockduty$Piece" ({ cls := "Blockduty$Piece", name := "isNear", desc := "(LBlockduty$Piece;)Z" } : Jvm.MethodName) ({ cls := "Blockduty$Piece", name := "isNear", desc := "(LBlockduty$Piece;)Z" } : Jvm.MethodName)) ∈ gtbl := gtbl_tab (i := 1041) rfl rfl
set_option maxRecDepth 20000 in
theorem kt1042 : (Cond.code ({ cls := "Blockduty$Piece", name := "isNear", desc := "(LBlockduty$Piece;)Z" } : Jvm.MethodName) prog_6_method_3_code 2 (Option.some Jvm.ClassFile.FieldType.boolean)) ∈ gtbl := gtbl_tab (i := 1042) rfl rfl
set_option maxRecDepth 20000 in
theorem kt1043 : (Cond.methodLink "Blockduty$Driver" 36 ({ cls := "Blockduty$Driver", name := "minutes", desc := "()I" } : Jvm.MethodName)) ∈ gtbl := gtbl_tab (i := 1043) rfl rfl
set_option maxRecDepth 20000 in
theorem kt1052 : (Cond.code ({ cls := "Blockduty", name := "breakdown", desc := "(II)I" } : Jvm.MethodName) prog_1_method_17_code 5 (Option.some Jvm.ClassFile.FieldType.int)) ∈ gtbl := gtbl_tab (i := 1052) rfl rfl
set_option maxRecDepth 20000 in
theorem kt1078 : (Cond.selects "[Ljava/lang/Object;" ({ cls := "java/lang/Object", name := "getClass", desc := "()Ljava/lang/Class;" } : Jvm.MethodName) ({ cls := "java/lang/Object", name := "getClass", desc := "()Ljava/lang/Class;" } : Jvm.MethodName)) ∈ gtbl := gtbl_tab (i := 1078) rfl rfl
end
section
theorem kwOI : Cond.instanceMethod Lib.objectInit ∈ gtbl := kt32
theorem kwOC : Cond.code Lib.objectInit ⟨#[0xb1]⟩ 1 none ∈ gtbl := kt33
theorem kw_mmax_s : Cond.static Lib.Math.max.name ∈ gtbl := kt148
theorem kw_mmax_c : Cond.code Lib.Math.max.name Lib.Math.max.code 2 (some .int) ∈ gtbl := kt149
theorem kw_mmin_s : Cond.static Lib.Math.min.name ∈ gtbl := kt182
theorem kw_mmin_c : Cond.code Lib.Math.min.name Lib.Math.min.code 2 (some .int) ∈ gtbl := kt183
theorem kw_mabs_s : Cond.static Lib.Math.abs.name ∈ gtbl := kt939
theorem kw_mabs_c : Cond.code Lib.Math.abs.name Lib.Math.abs.code 1 (some .int) ∈ gtbl := kt940
theorem kw_math : Cond.initialized "java/lang/Math" ∈ gtbl := kt10
theorem kwCn : Cond.native arraycopyName ∈ gtbl := kt186
theorem kwCs : Cond.static arraycopyName ∈ gtbl := kt185
theorem kwCi : Cond.initialized "java/lang/System" ∈ gtbl := kt12
theorem kwGi : Cond.instanceMethod ⟨"java/lang/Object", "getClass", "()Ljava/lang/Class;"⟩ ∈ gtbl := kt158
theorem kwGn : Cond.native ⟨"java/lang/Object", "getClass", "()Ljava/lang/Class;"⟩ ∈ gtbl := kt174
theorem kwGs : Cond.selects "[Ljava/lang/Object;" ⟨"java/lang/Object", "getClass", "()Ljava/lang/Class;"⟩ ⟨"java/lang/Object", "getClass", "()Ljava/lang/Class;"⟩ ∈ gtbl := kt1078
theorem arr20 : Cond.arrayClass (newarray.typeOf .int) ∈ gtbl := kt102
theorem arr21 : Cond.arrayClass (newarray.typeOf .boolean) ∈ gtbl := kt103
theorem uw0 : ∀ w ∈ u_ws RJx4a65c TJx4a65c 3, w ∈ gtbl := by
  intro w hw
  obtain ⟨k, hk, rfl⟩ := List.mem_map.mp hw
  have hk := List.mem_range.mp hk
  rcases (show k = 0 ∨ k = 1 ∨ k = 2 by omega) with rfl | rfl | rfl
  · exact kt57
  · exact kt53
  · exact kt55
theorem cf0 : CF 0 RJx4a65c TJx4a65c 3 tyJx4a65c := ⟨rfl, uw0, tyJx4a65c_ok, nmJx4a65c, by decide, by decide⟩
theorem def0 : ∀ k, k < 3 → defaultValue (tyJx4a65c k) = if refF (16 * 0 + k) = true then .null else .int 0 := by
  intro k hk
  rcases (show k = 0 ∨ k = 1 ∨ k = 2 by omega) with rfl | rfl | rfl <;> rfl
theorem uw1 : ∀ w ∈ u_ws RX0 TX0 5, w ∈ gtbl := by
  intro w hw
  obtain ⟨k, hk, rfl⟩ := List.mem_map.mp hw
  have hk := List.mem_range.mp hk
  rcases (show k = 0 ∨ k = 1 ∨ k = 2 ∨ k = 3 ∨ k = 4 by omega) with rfl | rfl | rfl | rfl | rfl
  · exact kt541
  · exact kt543
  · exact kt545
  · exact kt547
  · exact kt549
theorem cf1 : CF 1 RX0 TX0 5 tyX0 := ⟨rfl, uw1, tyX0_ok, nmX0, by decide, by decide⟩
theorem def1 : ∀ k, k < 5 → defaultValue (tyX0 k) = if refF (16 * 1 + k) = true then .null else .int 0 := by
  intro k hk
  rcases (show k = 0 ∨ k = 1 ∨ k = 2 ∨ k = 3 ∨ k = 4 by omega) with rfl | rfl | rfl | rfl | rfl <;> rfl
theorem uw2 : ∀ w ∈ u_ws RX1 TX1 3, w ∈ gtbl := by
  intro w hw
  obtain ⟨k, hk, rfl⟩ := List.mem_map.mp hw
  have hk := List.mem_range.mp hk
  rcases (show k = 0 ∨ k = 1 ∨ k = 2 by omega) with rfl | rfl | rfl
  · exact kt503
  · exact kt505
  · exact kt507
theorem cf2 : CF 2 RX1 TX1 3 tyX1 := ⟨rfl, uw2, tyX1_ok, nmX1, by decide, by decide⟩
theorem def2 : ∀ k, k < 3 → defaultValue (tyX1 k) = if refF (16 * 2 + k) = true then .null else .int 0 := by
  intro k hk
  rcases (show k = 0 ∨ k = 1 ∨ k = 2 by omega) with rfl | rfl | rfl <;> rfl
theorem uw3 : ∀ w ∈ u_ws RX2 TX2 2, w ∈ gtbl := by
  intro w hw
  obtain ⟨k, hk, rfl⟩ := List.mem_map.mp hw
  have hk := List.mem_range.mp hk
  rcases (show k = 0 ∨ k = 1 by omega) with rfl | rfl
  · exact kt97
  · exact kt99
theorem cf3 : CF 3 RX2 TX2 2 tyX2 := ⟨rfl, uw3, tyX2_ok, nmX2, by decide, by decide⟩
theorem def3 : ∀ k, k < 2 → defaultValue (tyX2 k) = if refF (16 * 3 + k) = true then .null else .int 0 := by
  intro k hk
  rcases (show k = 0 ∨ k = 1 by omega) with rfl | rfl <;> rfl
theorem uw4 : ∀ w ∈ u_ws RX3 TX3 3, w ∈ gtbl := by
  intro w hw
  obtain ⟨k, hk, rfl⟩ := List.mem_map.mp hw
  have hk := List.mem_range.mp hk
  rcases (show k = 0 ∨ k = 1 ∨ k = 2 by omega) with rfl | rfl | rfl
  · exact kt202
  · exact kt204
  · exact kt206
theorem cf4 : CF 4 RX3 TX3 3 tyX3 := ⟨rfl, uw4, tyX3_ok, nmX3, by decide, by decide⟩
theorem def4 : ∀ k, k < 3 → defaultValue (tyX3 k) = if refF (16 * 4 + k) = true then .null else .int 0 := by
  intro k hk
  rcases (show k = 0 ∨ k = 1 ∨ k = 2 by omega) with rfl | rfl | rfl <;> rfl
theorem uw5 : ∀ w ∈ u_ws RX4 TX4 6, w ∈ gtbl := by
  intro w hw
  obtain ⟨k, hk, rfl⟩ := List.mem_map.mp hw
  have hk := List.mem_range.mp hk
  rcases (show k = 0 ∨ k = 1 ∨ k = 2 ∨ k = 3 ∨ k = 4 ∨ k = 5 by omega) with rfl | rfl | rfl | rfl | rfl | rfl
  · exact kt1013
  · exact kt1015
  · exact kt1017
  · exact kt1019
  · exact kt1021
  · exact kt1023
theorem cf5 : CF 5 RX4 TX4 6 tyX4 := ⟨rfl, uw5, tyX4_ok, nmX4, by decide, by decide⟩
theorem def5 : ∀ k, k < 6 → defaultValue (tyX4 k) = if refF (16 * 5 + k) = true then .null else .int 0 := by
  intro k hk
  rcases (show k = 0 ∨ k = 1 ∨ k = 2 ∨ k = 3 ∨ k = 4 ∨ k = 5 by omega) with rfl | rfl | rfl | rfl | rfl | rfl <;> rfl
theorem uw6 : ∀ w ∈ u_ws RX5 TX5 4, w ∈ gtbl := by
  intro w hw
  obtain ⟨k, hk, rfl⟩ := List.mem_map.mp hw
  have hk := List.mem_range.mp hk
  rcases (show k = 0 ∨ k = 1 ∨ k = 2 ∨ k = 3 by omega) with rfl | rfl | rfl | rfl
  · exact kt119
  · exact kt121
  · exact kt123
  · exact kt125
theorem cf6 : CF 6 RX5 TX5 4 tyX5 := ⟨rfl, uw6, tyX5_ok, nmX5, by decide, by decide⟩
theorem def6 : ∀ k, k < 4 → defaultValue (tyX5 k) = if refF (16 * 6 + k) = true then .null else .int 0 := by
  intro k hk
  rcases (show k = 0 ∨ k = 1 ∨ k = 2 ∨ k = 3 by omega) with rfl | rfl | rfl | rfl <;> rfl
theorem uw7 : ∀ w ∈ u_ws RX6 TX6 1, w ∈ gtbl := by
  intro w hw
  obtain ⟨k, hk, rfl⟩ := List.mem_map.mp hw
  have hk := List.mem_range.mp hk
  rcases (show k = 0 by omega) with rfl
  · exact kt86
theorem cf7 : CF 7 RX6 TX6 1 tyX6 := ⟨rfl, uw7, tyX6_ok, nmX6, by decide, by decide⟩
theorem def7 : ∀ k, k < 1 → defaultValue (tyX6 k) = if refF (16 * 7 + k) = true then .null else .int 0 := by
  intro k hk
  rcases (show k = 0 by omega) with rfl <;> rfl
theorem uw8 : ∀ w ∈ u_ws RX7 TX7 12, w ∈ gtbl := by
  intro w hw
  obtain ⟨k, hk, rfl⟩ := List.mem_map.mp hw
  have hk := List.mem_range.mp hk
  rcases (show k = 0 ∨ k = 1 ∨ k = 2 ∨ k = 3 ∨ k = 4 ∨ k = 5 ∨ k = 6 ∨ k = 7 ∨ k = 8 ∨ k = 9 ∨ k = 10 ∨ k = 11 by omega) with rfl | rfl | rfl | rfl | rfl | rfl | rfl | rfl | rfl | rfl | rfl | rfl
  · exact kt445
  · exact kt447
  · exact kt449
  · exact kt451
  · exact kt453
  · exact kt455
  · exact kt457
  · exact kt459
  · exact kt461
  · exact kt463
  · exact kt465
  · exact kt467
theorem cf8 : CF 8 RX7 TX7 12 tyX7 := ⟨rfl, uw8, tyX7_ok, nmX7, by decide, by decide⟩
theorem def8 : ∀ k, k < 12 → defaultValue (tyX7 k) = if refF (16 * 8 + k) = true then .null else .int 0 := by
  intro k hk
  rcases (show k = 0 ∨ k = 1 ∨ k = 2 ∨ k = 3 ∨ k = 4 ∨ k = 5 ∨ k = 6 ∨ k = 7 ∨ k = 8 ∨ k = 9 ∨ k = 10 ∨ k = 11 by omega) with rfl | rfl | rfl | rfl | rfl | rfl | rfl | rfl | rfl | rfl | rfl | rfl <;> rfl
theorem uw9 : ∀ w ∈ u_ws RX8 TX8 2, w ∈ gtbl := by
  intro w hw
  obtain ⟨k, hk, rfl⟩ := List.mem_map.mp hw
  have hk := List.mem_range.mp hk
  rcases (show k = 0 ∨ k = 1 by omega) with rfl | rfl
  · exact kt68
  · exact kt70
theorem cf9 : CF 9 RX8 TX8 2 tyX8 := ⟨rfl, uw9, tyX8_ok, nmX8, by decide, by decide⟩
theorem def9 : ∀ k, k < 2 → defaultValue (tyX8 k) = if refF (16 * 9 + k) = true then .null else .int 0 := by
  intro k hk
  rcases (show k = 0 ∨ k = 1 by omega) with rfl | rfl <;> rfl
theorem uw10 : ∀ w ∈ u_ws RX9 TX9 14, w ∈ gtbl := by
  intro w hw
  obtain ⟨k, hk, rfl⟩ := List.mem_map.mp hw
  have hk := List.mem_range.mp hk
  rcases (show k = 0 ∨ k = 1 ∨ k = 2 ∨ k = 3 ∨ k = 4 ∨ k = 5 ∨ k = 6 ∨ k = 7 ∨ k = 8 ∨ k = 9 ∨ k = 10 ∨ k = 11 ∨ k = 12 ∨ k = 13 by omega) with rfl | rfl | rfl | rfl | rfl | rfl | rfl | rfl | rfl | rfl | rfl | rfl | rfl | rfl
  · exact kt223
  · exact kt225
  · exact kt227
  · exact kt229
  · exact kt231
  · exact kt233
  · exact kt235
  · exact kt237
  · exact kt239
  · exact kt241
  · exact kt243
  · exact kt245
  · exact kt247
  · exact kt249
theorem cf10 : CF 10 RX9 TX9 14 tyX9 := ⟨rfl, uw10, tyX9_ok, nmX9, by decide, by decide⟩
theorem def10 : ∀ k, k < 14 → defaultValue (tyX9 k) = if refF (16 * 10 + k) = true then .null else .int 0 := by
  intro k hk
  rcases (show k = 0 ∨ k = 1 ∨ k = 2 ∨ k = 3 ∨ k = 4 ∨ k = 5 ∨ k = 6 ∨ k = 7 ∨ k = 8 ∨ k = 9 ∨ k = 10 ∨ k = 11 ∨ k = 12 ∨ k = 13 by omega) with rfl | rfl | rfl | rfl | rfl | rfl | rfl | rfl | rfl | rfl | rfl | rfl | rfl | rfl <;> rfl
theorem mf_Jxa1e45_init_da8c8 : MF yJxa1e45_init_da8c8 cJxa1e45_init_da8c8 1 none 0 := ⟨kt44, kt2, by decide +kernel, by decide⟩
theorem mf_Jxc12de_init_da8c8 : MF yJxc12de_init_da8c8 cJxc12de_init_da8c8 1 none 0 := ⟨kt41, kt3, by decide +kernel, by decide⟩
theorem mf_Jx4a65c_init_da8c8 : MF yJx4a65c_init_da8c8 cJx4a65c_init_da8c8 1 none 0 := ⟨kt38, kt4, by decide +kernel, by decide⟩
theorem mf_Jx4a65c_size_8abf5 : MF yJx4a65c_size_8abf5 cJx4a65c_size_8abf5 1 (some .int) 0 := ⟨kt263, kt4, by decide +kernel, by decide⟩
theorem mf_Jx4a65c_isEmpty_aae02 : MF yJx4a65c_isEmpty_aae02 cJx4a65c_isEmpty_aae02 1 (some .boolean) 0 := ⟨kt368, kt4, by decide +kernel, by decide⟩
theorem mf_Jx4a65c_elementData_915e3 : MF yJx4a65c_elementData_915e3 cJx4a65c_elementData_915e3 2 (some (.object "java/lang/Object")) 1 := ⟨kt277, kt4, by decide +kernel, by decide⟩
theorem mf_J3_checkIndex_8e157 : MF yJ3_checkIndex_8e157 cJ3_checkIndex_8e157 3 (some .int) 3 := ⟨kt273, kt15, by decide +kernel, by decide⟩
theorem mf_J15_checkIndex_7cf53 : MF yJ15_checkIndex_7cf53 cJ15_checkIndex_7cf53 2 (some .int) 2 := ⟨kt270, kt14, by decide +kernel, by decide⟩
theorem mf_Jx4a65c_get_915e3 : MF yJx4a65c_get_915e3 cJx4a65c_get_915e3 2 (some (.object "java/lang/Object")) 1 := ⟨kt267, kt4, by decide +kernel, by decide⟩
theorem mf_J8_newLength_cabcc : MF yJ8_newLength_cabcc cJ8_newLength_cabcc 4 (some .int) 3 := ⟨kt146, kt9, by decide +kernel, by decide⟩
theorem mf_J7_copyOf_6403c : MF yJ7_copyOf_6403c cJ7_copyOf_6403c 4 (some (.array (.object "java/lang/Object"))) 3 := ⟨kt177, kt11, by decide +kernel, by decide⟩
theorem mf_J7_copyOf_1904c : MF yJ7_copyOf_1904c cJ7_copyOf_1904c 2 (some (.array (.object "java/lang/Object"))) 2 := ⟨kt156, kt11, by decide +kernel, by decide⟩
theorem mf_Jx4a65c_grow_92f84 : MF yJx4a65c_grow_92f84 cJx4a65c_grow_92f84 4 (some (.array (.object "java/lang/Object"))) 1 := ⟨kt143, kt4, by decide +kernel, by decide⟩
theorem mf_Jx4a65c_grow_d5877 : MF yJx4a65c_grow_d5877 cJx4a65c_grow_d5877 1 (some (.array (.object "java/lang/Object"))) 0 := ⟨kt139, kt4, by decide +kernel, by decide⟩
theorem mf_Jx4a65c_add_72be8 : MF yJx4a65c_add_72be8 cJx4a65c_add_72be8 4 none 3 := ⟨kt135, kt4, by decide +kernel, by decide⟩
theorem mf_Jx4a65c_add_9ea2d : MF yJx4a65c_add_9ea2d cJx4a65c_add_9ea2d 2 (some .boolean) 1 := ⟨kt131, kt4, by decide +kernel, by decide⟩
theorem mf_Jx4a65c_rangeCheckForAdd_d00df : MF yJx4a65c_rangeCheckForAdd_d00df cJx4a65c_rangeCheckForAdd_d00df 2 none 1 := ⟨kt481, kt4, by decide +kernel, by decide⟩
theorem mf_Jx4a65c_add_7a177 : MF yJx4a65c_add_7a177 cJx4a65c_add_7a177 5 none 2 := ⟨kt477, kt4, by decide +kernel, by decide⟩
theorem mf_Jx4a65c_fastRemove_b59b0 : MF yJx4a65c_fastRemove_b59b0 cJx4a65c_fastRemove_b59b0 4 none 2 := ⟨kt600, kt4, by decide +kernel, by decide⟩
theorem mf_Jx4a65c_remove_915e3 : MF yJx4a65c_remove_915e3 cJx4a65c_remove_915e3 4 (some (.object "java/lang/Object")) 1 := ⟨kt596, kt4, by decide +kernel, by decide⟩
theorem mf_Jx4a65c_clear_da8c8 : MF yJx4a65c_clear_da8c8 cJx4a65c_clear_da8c8 4 none 0 := ⟨kt604, kt4, by decide +kernel, by decide⟩
theorem mf_X6_init : MF yX6_init cX6_init 1 none 0 := ⟨kt77, kt6, by decide +kernel, by decide⟩
theorem mf_X0_init : MF yX0_init cX0_init 3 none 2 := ⟨kt524, kt24, by decide +kernel, by decide⟩
theorem mf_X0_pieceNumbered : MF yX0_pieceNumbered cX0_pieceNumbered 2 (some (.object "Blockduty$Piece")) 1 := ⟨kt831, kt24, by decide +kernel, by decide⟩
theorem mf_X1_drop : MF yX1_drop cX1_drop 3 none 1 := ⟨kt590, kt23, by decide +kernel, by decide⟩
theorem mf_X4_release : MF yX4_release cX4_release 1 none 0 := ⟨kt586, kt25, by decide +kernel, by decide⟩
theorem mf_X6_count : MF yX6_count cX6_count 1 (some .int) 0 := ⟨kt608, kt6, by decide +kernel, by decide⟩
theorem mf_X0_forgetPieces : MF yX0_forgetPieces cX0_forgetPieces 2 none 0 := ⟨kt579, kt24, by decide +kernel, by decide⟩
theorem mf_X0_addTrip : MF yX0_addTrip cX0_addTrip 2 none 1 := ⟨kt919, kt24, by decide +kernel, by decide⟩
theorem mf_X6_get : MF yX6_get cX6_get 2 (some (.object "Blockduty$Trip")) 1 := ⟨kt573, kt6, by decide +kernel, by decide⟩
theorem mf_X6_last : MF yX6_last cX6_last 1 (some (.object "Blockduty$Trip")) 0 := ⟨kt568, kt6, by decide +kernel, by decide⟩
theorem mf_X0_removeLastTrip : MF yX0_removeLastTrip cX0_removeLastTrip 2 (some (.object "Blockduty$Trip")) 0 := ⟨kt564, kt24, by decide +kernel, by decide⟩
theorem mf_X6_addPart : MF yX6_addPart cX6_addPart 5 none 3 := ⟨kt879, kt6, by decide +kernel, by decide⟩
theorem mf_X6_copy : MF yX6_copy cX6_copy 2 none 1 := ⟨kt915, kt6, by decide +kernel, by decide⟩
theorem mf_X0_takeOver : MF yX0_takeOver cX0_takeOver 3 none 1 := ⟨kt959, kt24, by decide +kernel, by decide⟩
theorem mf_X4_init : MF yX4_init cX4_init 6 none 5 := ⟨kt999, kt25, by decide +kernel, by decide⟩
theorem mf_X0_addPiece : MF yX0_addPiece cX0_addPiece 7 none 2 := ⟨kt994, kt24, by decide +kernel, by decide⟩
theorem mf_X0_cutAt : MF yX0_cutAt cX0_cutAt 5 none 2 := ⟨kt990, kt24, by decide +kernel, by decide⟩
theorem mf_X7_runs : MF yX7_runs cX7_runs 1 (some .boolean) 0 := ⟨kt664, kt22, by decide +kernel, by decide⟩
theorem mf_X5_emptyTo : MF yX5_emptyTo cX5_emptyTo 2 (some .int) 1 := ⟨kt651, kt8, by decide +kernel, by decide⟩
theorem mf_X7_emptyTo : MF yX7_emptyTo cX7_emptyTo 2 (some .int) 1 := ⟨kt647, kt22, by decide +kernel, by decide⟩
theorem mf_X7_late : MF yX7_late cX7_late 1 (some .int) 0 := ⟨kt660, kt22, by decide +kernel, by decide⟩
theorem mf_X7_causeIf : MF yX7_causeIf cX7_causeIf 3 (some .int) 1 := ⟨kt656, kt22, by decide +kernel, by decide⟩
theorem mf_X0_lostIf : MF yX0_lostIf cX0_lostIf 10 (some .int) 3 := ⟨kt643, kt24, by decide +kernel, by decide⟩
theorem mf_X0_lostNow : MF yX0_lostNow cX0_lostNow 1 (some .int) 0 := ⟨kt702, kt24, by decide +kernel, by decide⟩
theorem mf_X1_init : MF yX1_init cX1_init 2 none 1 := ⟨kt492, kt23, by decide +kernel, by decide⟩
theorem mf_X7_end : MF yX7_end cX7_end 1 (some .int) 0 := ⟨kt668, kt22, by decide +kernel, by decide⟩
theorem mf_X4_minutes : MF yX4_minutes cX4_minutes 1 (some .int) 0 := ⟨kt716, kt25, by decide +kernel, by decide⟩
theorem mf_X1_minutes : MF yX1_minutes cX1_minutes 3 (some .int) 0 := ⟨kt711, kt23, by decide +kernel, by decide⟩
theorem mf_X4_isNear : MF yX4_isNear cX4_isNear 2 (some .boolean) 1 := ⟨kt1042, kt25, by decide +kernel, by decide⟩
theorem mf_X1_canGet : MF yX1_canGet cX1_canGet 3 (some .boolean) 1 := ⟨kt1038, kt23, by decide +kernel, by decide⟩
theorem mf_X4_worked : MF yX4_worked cX4_worked 4 (some .int) 0 := ⟨kt725, kt25, by decide +kernel, by decide⟩
theorem mf_X1_worked : MF yX1_worked cX1_worked 3 (some .int) 0 := ⟨kt721, kt23, by decide +kernel, by decide⟩
theorem mf_X1_pay : MF yX1_pay cX1_pay 3 (some .int) 0 := ⟨kt733, kt23, by decide +kernel, by decide⟩
theorem mf_X2_init : MF yX2_init cX2_init 1 none 0 := ⟨kt93, kt7, by decide +kernel, by decide⟩
theorem mf_X7_canFollow : MF yX7_canFollow cX7_canFollow 2 (some .boolean) 1 := ⟨kt788, kt22, by decide +kernel, by decide⟩
theorem mf_X2_findsFollower : MF yX2_findsFollower cX2_findsFollower 8 (some .boolean) 5 := ⟨kt781, kt7, by decide +kernel, by decide⟩
theorem mf_X2_mostPairs : MF yX2_mostPairs cX2_mostPairs 5 (some .int) 1 := ⟨kt777, kt7, by decide +kernel, by decide⟩
theorem mf_X3_init : MF yX3_init cX3_init 2 none 1 := ⟨kt193, kt13, by decide +kernel, by decide⟩
theorem mf_X4_driverNumber : MF yX4_driverNumber cX4_driverNumber 1 (some .int) 0 := ⟨kt837, kt25, by decide +kernel, by decide⟩
theorem mf_X5_init : MF yX5_init cX5_init 2 none 1 := ⟨kt108, kt8, by decide +kernel, by decide⟩
theorem mf_X6_join : MF yX6_join cX6_join 5 none 4 := ⟨kt874, kt6, by decide +kernel, by decide⟩
theorem mf_X6_empty : MF yX6_empty cX6_empty 6 (some .int) 1 := ⟨kt698, kt6, by decide +kernel, by decide⟩
theorem mf_X6_leastCharge : MF yX6_leastCharge cX6_leastCharge 12 (some .int) 3 := ⟨kt691, kt6, by decide +kernel, by decide⟩
theorem mf_X7_init : MF yX7_init cX7_init 7 none 6 := ⟨kt406, kt22, by decide +kernel, by decide⟩
theorem mf_X7_waitBehind : MF yX7_waitBehind cX7_waitBehind 2 (some .int) 1 := ⟨kt984, kt22, by decide +kernel, by decide⟩
theorem mf_X7_blockNumber : MF yX7_blockNumber cX7_blockNumber 1 (some .int) 0 := ⟨kt672, kt22, by decide +kernel, by decide⟩
theorem mf_X7_pieceNumber : MF yX7_pieceNumber cX7_pieceNumber 1 (some .int) 0 := ⟨kt676, kt22, by decide +kernel, by decide⟩
theorem mf_X7_pay : MF yX7_pay cX7_pay 2 (some .int) 1 := ⟨kt751, kt22, by decide +kernel, by decide⟩
theorem mf_X8_init : MF yX8_init cX8_init 1 none 0 := ⟨kt64, kt5, by decide +kernel, by decide⟩
theorem mf_X8_endOfLongest : MF yX8_endOfLongest cX8_endOfLongest 9 (some .int) 2 := ⟨kt976, kt5, by decide +kernel, by decide⟩
theorem mf_X8_planPieces : MF yX8_planPieces cX8_planPieces 6 (some .int) 2 := ⟨kt971, kt5, by decide +kernel, by decide⟩
theorem mf_X9_init : MF yX9_init cX9_init 2 none 0 := ⟨kt30, kt1, by decide +kernel, by decide⟩
theorem mf_X9_placeNumbered : MF yX9_placeNumbered cX9_placeNumbered 2 (some (.object "Blockduty$Place")) 1 := ⟨kt259, kt1, by decide +kernel, by decide⟩
theorem mf_X9_isOutside : MF yX9_isOutside cX9_isOutside 3 (some .boolean) 3 := ⟨kt348, kt1, by decide +kernel, by decide⟩
theorem mf_X9_place : MF yX9_place cX9_place 7 (some .int) 4 := ⟨kt255, kt1, by decide +kernel, by decide⟩
theorem mf_X9_lineNumbered : MF yX9_lineNumbered cX9_lineNumbered 2 (some (.object "Blockduty$Line")) 1 := ⟨kt392, kt1, by decide +kernel, by decide⟩
theorem mf_X9_line : MF yX9_line cX9_line 6 (some .int) 3 := ⟨kt388, kt1, by decide +kernel, by decide⟩
theorem mf_X9_addByStart : MF yX9_addByStart cX9_addByStart 3 none 1 := ⟨kt473, kt1, by decide +kernel, by decide⟩
theorem mf_X9_trip : MF yX9_trip cX9_trip 11 (some .int) 5 := ⟨kt398, kt1, by decide +kernel, by decide⟩
theorem mf_X9_driver : MF yX9_driver cX9_driver 2 (some .int) 0 := ⟨kt486, kt1, by decide +kernel, by decide⟩
theorem mf_X9_newBlock : MF yX9_newBlock cX9_newBlock 3 (some (.object "Blockduty$Block")) 1 := ⟨kt519, kt1, by decide +kernel, by decide⟩
theorem mf_X9_block : MF yX9_block cX9_block 2 (some .int) 1 := ⟨kt513, kt1, by decide +kernel, by decide⟩
theorem mf_X9_blockNumbered : MF yX9_blockNumbered cX9_blockNumbered 2 (some (.object "Blockduty$Block")) 1 := ⟨kt559, kt1, by decide +kernel, by decide⟩
theorem mf_X9_tripNumbered : MF yX9_tripNumbered cX9_tripNumbered 2 (some (.object "Blockduty$Trip")) 1 := ⟨kt619, kt1, by decide +kernel, by decide⟩
theorem mf_X9_append : MF yX9_append cX9_append 6 (some .int) 2 := ⟨kt944, kt1, by decide +kernel, by decide⟩
theorem mf_X9_takeOff : MF yX9_takeOff cX9_takeOff 4 (some .int) 1 := ⟨kt555, kt1, by decide +kernel, by decide⟩
theorem mf_X9_isFlat : MF yX9_isFlat cX9_isFlat 3 (some .boolean) 2 := ⟨kt687, kt1, by decide +kernel, by decide⟩
theorem mf_X9_wouldBeFlatAlone : MF yX9_wouldBeFlatAlone cX9_wouldBeFlatAlone 3 (some .boolean) 2 := ⟨kt924, kt1, by decide +kernel, by decide⟩
theorem mf_X9_wouldBeFlat : MF yX9_wouldBeFlat cX9_wouldBeFlat 4 (some .boolean) 3 := ⟨kt911, kt1, by decide +kernel, by decide⟩
theorem mf_X9_nearestBlock : MF yX9_nearestBlock cX9_nearestBlock 7 (some (.object "Blockduty$Block")) 1 := ⟨kt905, kt1, by decide +kernel, by decide⟩
theorem mf_X9_putIntoSomeBlock : MF yX9_putIntoSomeBlock cX9_putIntoSomeBlock 4 (some .boolean) 2 := ⟨kt901, kt1, by decide +kernel, by decide⟩
theorem mf_X9_build : MF yX9_build cX9_build 5 (some .int) 1 := ⟨kt897, kt1, by decide +kernel, by decide⟩
theorem mf_X9_canJoin : MF yX9_canJoin cX9_canJoin 6 (some .boolean) 4 := ⟨kt864, kt1, by decide +kernel, by decide⟩
theorem mf_X9_canSwap : MF yX9_canSwap cX9_canSwap 4 (some .boolean) 4 := ⟨kt861, kt1, by decide +kernel, by decide⟩
theorem mf_X9_trySwap : MF yX9_trySwap cX9_trySwap 5 none 4 := ⟨kt870, kt1, by decide +kernel, by decide⟩
theorem mf_X9_swap : MF yX9_swap cX9_swap 10 (some .int) 4 := ⟨kt953, kt1, by decide +kernel, by decide⟩
theorem mf_X9_cut : MF yX9_cut cX9_cut 4 (some .int) 1 := ⟨kt967, kt1, by decide +kernel, by decide⟩
theorem mf_X9_driverNumbered : MF yX9_driverNumbered cX9_driverNumbered 2 (some (.object "Blockduty$Driver")) 1 := ⟨kt629, kt1, by decide +kernel, by decide⟩
theorem mf_X9_pieceNumbered : MF yX9_pieceNumbered cX9_pieceNumbered 4 (some (.object "Blockduty$Piece")) 2 := ⟨kt827, kt1, by decide +kernel, by decide⟩
theorem mf_X9_give : MF yX9_give cX9_give 6 (some .int) 3 := ⟨kt1033, kt1, by decide +kernel, by decide⟩
theorem mf_X9_delay : MF yX9_delay cX9_delay 5 (some .int) 2 := ⟨kt615, kt1, by decide +kernel, by decide⟩
theorem mf_X9_breakdown : MF yX9_breakdown cX9_breakdown 5 (some .int) 2 := ⟨kt1052, kt1, by decide +kernel, by decide⟩
theorem mf_X9_sick : MF yX9_sick cX9_sick 5 (some .boolean) 2 := ⟨kt625, kt1, by decide +kernel, by decide⟩
theorem mf_X9_runDay : MF yX9_runDay cX9_runDay 3 none 0 := ⟨kt639, kt1, by decide +kernel, by decide⟩
theorem mf_X9_ofTrip : MF yX9_ofTrip cX9_ofTrip 4 (some .int) 2 := ⟨kt634, kt1, by decide +kernel, by decide⟩
theorem mf_X9_ofBlock : MF yX9_ofBlock cX9_ofBlock 4 (some .int) 2 := ⟨kt682, kt1, by decide +kernel, by decide⟩
theorem mf_X9_at : MF yX9_at cX9_at 5 (some .int) 2 := ⟨kt933, kt1, by decide +kernel, by decide⟩
theorem mf_X9_ofPiece : MF yX9_ofPiece cX9_ofPiece 5 (some .int) 3 := ⟨kt823, kt1, by decide +kernel, by decide⟩
theorem mf_X9_ofDriver : MF yX9_ofDriver cX9_ofDriver 4 (some .int) 2 := ⟨kt707, kt1, by decide +kernel, by decide⟩
theorem mf_X9_countOfCause : MF yX9_countOfCause cX9_countOfCause 4 (some .int) 1 := ⟨kt743, kt1, by decide +kernel, by decide⟩
theorem mf_X9_greatestLate : MF yX9_greatestLate cX9_greatestLate 4 (some .int) 0 := ⟨kt764, kt1, by decide +kernel, by decide⟩
theorem mf_X9_countyPays : MF yX9_countyPays cX9_countyPays 3 (some .int) 0 := ⟨kt747, kt1, by decide +kernel, by decide⟩
theorem mf_X9_driversArePaid : MF yX9_driversArePaid cX9_driversArePaid 3 (some .int) 0 := ⟨kt756, kt1, by decide +kernel, by decide⟩
theorem mf_X9_allEmpty : MF yX9_allEmpty cX9_allEmpty 3 (some .int) 0 := ⟨kt760, kt1, by decide +kernel, by decide⟩
theorem mf_X9_many : MF yX9_many cX9_many 2 (some .int) 1 := ⟨kt739, kt1, by decide +kernel, by decide⟩
theorem mf_X9_lost : MF yX9_lost cX9_lost 2 (some .int) 1 := ⟨kt807, kt1, by decide +kernel, by decide⟩
theorem mf_X9_meanLate : MF yX9_meanLate cX9_meanLate 5 (some .double) 0 := ⟨kt769, kt1, by decide +kernel, by decide⟩
theorem mf_X9_leastBlocks : MF yX9_leastBlocks cX9_leastBlocks 1 (some .int) 0 := ⟨kt773, kt1, by decide +kernel, by decide⟩
theorem mf_X9_wouldLose : MF yX9_wouldLose cX9_wouldLose 4 (some .int) 2 := ⟨kt842, kt1, by decide +kernel, by decide⟩
theorem mf_X9_mayDelay : MF yX9_mayDelay cX9_mayDelay 7 (some .int) 1 := ⟨kt793, kt1, by decide +kernel, by decide⟩
theorem mf_X9_emptyOfSwap : MF yX9_emptyOfSwap cX9_emptyOfSwap 5 (some .int) 4 := ⟨kt858, kt1, by decide +kernel, by decide⟩
theorem mf_X9_bestSwap : MF yX9_bestSwap cX9_bestSwap 10 (some .int) 2 := ⟨kt853, kt1, by decide +kernel, by decide⟩
theorem mf_X9_mix : MF yX9_mix cX9_mix 3 (some .long) 2 := ⟨kt802, kt1, by decide +kernel, by decide⟩
theorem mf_X9_mixTrip : MF yX9_mixTrip cX9_mixTrip 7 (some .long) 2 := ⟨kt812, kt1, by decide +kernel, by decide⟩
theorem mf_X9_mixDriver : MF yX9_mixDriver cX9_mixDriver 7 (some .long) 2 := ⟨kt847, kt1, by decide +kernel, by decide⟩
theorem mf_X9_mixBlock : MF yX9_mixBlock cX9_mixBlock 9 (some .long) 2 := ⟨kt818, kt1, by decide +kernel, by decide⟩
theorem mf_X9_digest : MF yX9_digest cX9_digest 4 (some .long) 0 := ⟨kt797, kt1, by decide +kernel, by decide⟩
end
section
/-! the methods of the lists, as functions of the heap, and that the machine follows them: printed by a program of ours -/
def f_Jxa1e45_init_da8c8 (e mi : Nat) (b : Nat) (g : HP) : Option HP :=
  some g
def f_Jxc12de_init_da8c8 (e mi : Nat) (b : Nat) (g : HP) : Option HP :=
  (f_Jxa1e45_init_da8c8 e mi b g).bind fun g1 =>
  (pfI 0 0 (some b) 0 g1).bind fun g2 =>
  some g2
def f_Jx4a65c_init_da8c8 (e mi : Nat) (b : Nat) (g : HP) : Option HP :=
  (f_Jxc12de_init_da8c8 e mi b g).bind fun g1 =>
  (pfR 0 1 (some b) (some e) g1).bind fun g2 =>
  some g2
def f_Jx4a65c_size_8abf5 (e mi : Nat) (b : Nat) (g : HP) : Option Int32 :=
  (gfI 0 2 (some b) g).bind fun x1 =>
  some x1
def f_Jx4a65c_isEmpty_aae02 (e mi : Nat) (b : Nat) (g : HP) : Option Int32 :=
  (gfI 0 2 (some b) g).bind fun x1 =>
  (if x1 = 0 then
  some 1
  else
  some 0)
def f_Jx4a65c_elementData_915e3 (e mi : Nat) (b : Nat) (s1 : Int32) (g : HP) : Option (Option Nat) :=
  (gfR 0 1 (some b) g).bind fun r1 =>
  (ldA r1 s1 g).bind fun r2 =>
  some r2
def f_J3_checkIndex_8e157 (e mi : Nat) (s1 : Int32) (s2 : Int32) (s3 : Option Nat) (g : HP) : Option Int32 :=
  (if s1 < 0 then
  none
  else
  (if s1 < s2 then
  some s1
  else
  none))
def f_J15_checkIndex_7cf53 (e mi : Nat) (s1 : Int32) (s2 : Int32) (g : HP) : Option Int32 :=
  (f_J3_checkIndex_8e157 e mi s1 s2 none g).bind fun x1 =>
  some x1
def f_Jx4a65c_get_915e3 (e mi : Nat) (b : Nat) (s1 : Int32) (g : HP) : Option (Option Nat) :=
  (gfI 0 2 (some b) g).bind fun x1 =>
  (f_J15_checkIndex_7cf53 e mi s1 x1 g).bind fun x2 =>
  (rcv 0 (some b) g).bind fun b3 =>
  (f_Jx4a65c_elementData_915e3 e mi b3 s1 g).bind fun r4 =>
  some r4
def f_J8_newLength_cabcc (e mi : Nat) (s1 : Int32) (s2 : Int32) (s3 : Int32) (g : HP) : Option Int32 :=
  (if s1 + (if s2 < s3 then s3 else s2) ≤ 0 then
  none
  else
  (if 2147483639 < s1 + (if s2 < s3 then s3 else s2) then
  none
  else
  some (s1 + (if s2 < s3 then s3 else s2))))
def f_J7_copyOf_6403c (e mi : Nat) (s1 : Option Nat) (s2 : Int32) (s3 : Option Nat) (g : HP) : Option (Option Nat × HP) :=
  (if s3 = (some mi) then
  (nwA 22 s2 g).bind fun a1 =>
  (lnA s1 a1.2).bind fun x2 =>
  (cpA s1 0 (some a1.1) 0 (if s2 < x2 then s2 else x2) a1.2).bind fun g3 =>
  some ((some a1.1), g3)
  else
  none)
def f_J7_copyOf_1904c (e mi : Nat) (s1 : Option Nat) (s2 : Int32) (g : HP) : Option (Option Nat × HP) :=
  (gtC s1 mi g).bind fun r1 =>
  (f_J7_copyOf_6403c e mi s1 s2 r1 g).bind fun v2 =>
  some (v2.1, v2.2)
def f_Jx4a65c_grow_92f84 (e mi : Nat) (b : Nat) (s1 : Int32) (g : HP) : Option (Option Nat × HP) :=
  (gfR 0 1 (some b) g).bind fun r1 =>
  (lnA r1 g).bind fun x2 =>
  (if 0 < x2 then
  (f_J8_newLength_cabcc e mi x2 (s1 - x2) (x2 >>> (1 &&& 31)) g).bind fun x3 =>
  (gfR 0 1 (some b) g).bind fun r4 =>
  (f_J7_copyOf_1904c e mi r4 x3 g).bind fun v5 =>
  (pfR 0 1 (some b) v5.1 v5.2).bind fun g6 =>
  some (v5.1, g6)
  else
  (gfR 0 1 (some b) g).bind fun r7 =>
  (if r7 = (some e) then
  (nwA 22 (if 10 < s1 then s1 else 10) g).bind fun a8 =>
  (pfR 0 1 (some b) (some a8.1) a8.2).bind fun g9 =>
  some ((some a8.1), g9)
  else
  (f_J8_newLength_cabcc e mi x2 (s1 - x2) (x2 >>> (1 &&& 31)) g).bind fun x10 =>
  (gfR 0 1 (some b) g).bind fun r11 =>
  (f_J7_copyOf_1904c e mi r11 x10 g).bind fun v12 =>
  (pfR 0 1 (some b) v12.1 v12.2).bind fun g13 =>
  some (v12.1, g13)))
def f_Jx4a65c_grow_d5877 (e mi : Nat) (b : Nat) (g : HP) : Option (Option Nat × HP) :=
  (gfI 0 2 (some b) g).bind fun x1 =>
  (rcv 0 (some b) g).bind fun b2 =>
  (f_Jx4a65c_grow_92f84 e mi b2 (x1 + 1) g).bind fun v3 =>
  some (v3.1, v3.2)
def f_Jx4a65c_add_72be8 (e mi : Nat) (b : Nat) (s1 : Option Nat) (s2 : Option Nat) (s3 : Int32) (g : HP) : Option HP :=
  (lnA s2 g).bind fun x1 =>
  ((if s3 = x1 then
  (rcv 0 (some b) g).bind fun b2 =>
  (f_Jx4a65c_grow_d5877 e mi b2 g).bind fun v3 =>
  some (v3.1, v3.2)
  else
  some (s2, g))).bind fun q4 =>
  (stA q4.1 s3 s1 q4.2).bind fun g5 =>
  (pfI 0 2 (some b) (s3 + 1) g5).bind fun g6 =>
  some g6
def f_Jx4a65c_add_9ea2d (e mi : Nat) (b : Nat) (s1 : Option Nat) (g : HP) : Option (Int32 × HP) :=
  (gfI 0 0 (some b) g).bind fun x1 =>
  (pfI 0 0 (some b) (x1 + 1) g).bind fun g2 =>
  (gfR 0 1 (some b) g2).bind fun r3 =>
  (gfI 0 2 (some b) g2).bind fun x4 =>
  (rcv 0 (some b) g2).bind fun b5 =>
  (f_Jx4a65c_add_72be8 e mi b5 s1 r3 x4 g2).bind fun g6 =>
  some (1, g6)
def f_Jx4a65c_rangeCheckForAdd_d00df (e mi : Nat) (b : Nat) (s1 : Int32) (g : HP) : Option HP :=
  (gfI 0 2 (some b) g).bind fun x1 =>
  (if x1 < s1 then
  none
  else
  (if 0 ≤ s1 then
  some g
  else
  none))
def f_Jx4a65c_add_7a177 (e mi : Nat) (b : Nat) (s1 : Int32) (s2 : Option Nat) (g : HP) : Option HP :=
  (rcv 0 (some b) g).bind fun b1 =>
  (f_Jx4a65c_rangeCheckForAdd_d00df e mi b1 s1 g).bind fun g2 =>
  (gfI 0 0 (some b) g2).bind fun x3 =>
  (pfI 0 0 (some b) (x3 + 1) g2).bind fun g4 =>
  (gfI 0 2 (some b) g4).bind fun x5 =>
  (gfR 0 1 (some b) g4).bind fun r6 =>
  (lnA r6 g4).bind fun x7 =>
  ((if x5 = x7 then
  (rcv 0 (some b) g4).bind fun b8 =>
  (f_Jx4a65c_grow_d5877 e mi b8 g4).bind fun v9 =>
  some (v9.1, v9.2)
  else
  some (r6, g4))).bind fun q10 =>
  (cpA q10.1 s1 q10.1 (s1 + 1) (x5 - s1) q10.2).bind fun g11 =>
  (stA q10.1 s1 s2 g11).bind fun g12 =>
  (pfI 0 2 (some b) (x5 + 1) g12).bind fun g13 =>
  some g13
def f_Jx4a65c_fastRemove_b59b0 (e mi : Nat) (b : Nat) (s1 : Option Nat) (s2 : Int32) (g : HP) : Option HP :=
  (gfI 0 0 (some b) g).bind fun x1 =>
  (pfI 0 0 (some b) (x1 + 1) g).bind fun g2 =>
  (gfI 0 2 (some b) g2).bind fun x3 =>
  ((if x3 - 1 ≤ s2 then
  some g2
  else
  (cpA s1 (s2 + 1) s1 s2 ((x3 - 1) - s2) g2).bind fun g4 =>
  some g4)).bind fun q5 =>
  (pfI 0 2 (some b) (x3 - 1) q5).bind fun g6 =>
  (stA s1 (x3 - 1) none g6).bind fun g7 =>
  some g7
def f_Jx4a65c_remove_915e3 (e mi : Nat) (b : Nat) (s1 : Int32) (g : HP) : Option (Option Nat × HP) :=
  (gfI 0 2 (some b) g).bind fun x1 =>
  (f_J15_checkIndex_7cf53 e mi s1 x1 g).bind fun x2 =>
  (gfR 0 1 (some b) g).bind fun r3 =>
  (ldA r3 s1 g).bind fun r4 =>
  (rcv 0 (some b) g).bind fun b5 =>
  (f_Jx4a65c_fastRemove_b59b0 e mi b5 r3 s1 g).bind fun g6 =>
  some (r4, g6)
def f_Jx4a65c_clear_da8c8_L27 (p27_1 : Option Nat) (p27_2 : Int32) : Nat → Int32 → HP → Option HP
  | 0, _, _ => none
  | m27 + 1, u27_3, w27 =>
  (if p27_2 ≤ u27_3 then
  some w27
  else
  (stA p27_1 u27_3 none w27).bind fun g6 =>
  f_Jx4a65c_clear_da8c8_L27 p27_1 p27_2 m27 (u27_3 + 1) g6)
def f_Jx4a65c_clear_da8c8 (e mi : Nat) (b : Nat) (g : HP) : Option HP :=
  (gfI 0 0 (some b) g).bind fun x1 =>
  (pfI 0 0 (some b) (x1 + 1) g).bind fun g2 =>
  (gfR 0 1 (some b) g2).bind fun r3 =>
  (gfI 0 2 (some b) g2).bind fun x4 =>
  (pfI 0 2 (some b) 0 g2).bind fun g5 =>
  (f_Jx4a65c_clear_da8c8_L27 r3 x4 FU 0 g5).bind fun q7 =>
  some q7
theorem f_Jxa1e45_init_da8c8_mono (e mi : Nat) (b : Nat) (g : HP) : Mono g id (f_Jxa1e45_init_da8c8 e mi b g) := by
  unfold f_Jxa1e45_init_da8c8
  exact mo_some rfl
theorem f_Jxc12de_init_da8c8_mono (e mi : Nat) (b : Nat) (g : HP) : Mono g id (f_Jxc12de_init_da8c8 e mi b g) := by
  unfold f_Jxc12de_init_da8c8
  refine mo_h (h0 := id) (f_Jxa1e45_init_da8c8_mono _ _ _ _) (fun g1 => ?_)
  refine mo_h mo_pfI (fun g2 => ?_)
  exact mo_some rfl
theorem f_Jx4a65c_init_da8c8_mono (e mi : Nat) (b : Nat) (g : HP) : Mono g id (f_Jx4a65c_init_da8c8 e mi b g) := by
  unfold f_Jx4a65c_init_da8c8
  refine mo_h (h0 := id) (f_Jxc12de_init_da8c8_mono _ _ _ _) (fun g1 => ?_)
  refine mo_h mo_pfR (fun g2 => ?_)
  exact mo_some rfl
theorem f_J7_copyOf_6403c_mono (e mi : Nat) (s1 : Option Nat) (s2 : Int32) (s3 : Option Nat) (g : HP) : Mono g (fun v => v.2) (f_J7_copyOf_6403c e mi s1 s2 s3 g) := by
  unfold f_J7_copyOf_6403c
  refine mo_ite ?_ ?_
  · refine mo_h mo_nwA (fun a1 => ?_)
    refine mo_p (fun x2 => ?_)
    refine mo_h mo_cpA (fun g3 => ?_)
    exact mo_some rfl
  · exact mo_none
theorem f_J7_copyOf_1904c_mono (e mi : Nat) (s1 : Option Nat) (s2 : Int32) (g : HP) : Mono g (fun v => v.2) (f_J7_copyOf_1904c e mi s1 s2 g) := by
  unfold f_J7_copyOf_1904c
  refine mo_p (fun r1 => ?_)
  refine mo_h (h0 := (fun v => v.2)) (f_J7_copyOf_6403c_mono _ _ _ _ _ _) (fun v2 => ?_)
  exact mo_some rfl
theorem f_Jx4a65c_grow_92f84_mono (e mi : Nat) (b : Nat) (s1 : Int32) (g : HP) : Mono g (fun v => v.2) (f_Jx4a65c_grow_92f84 e mi b s1 g) := by
  unfold f_Jx4a65c_grow_92f84
  refine mo_p (fun r1 => ?_)
  refine mo_p (fun x2 => ?_)
  refine mo_ite ?_ ?_
  · refine mo_p (fun x3 => ?_)
    refine mo_p (fun r4 => ?_)
    refine mo_h (h0 := (fun v => v.2)) (f_J7_copyOf_1904c_mono _ _ _ _ _) (fun v5 => ?_)
    refine mo_h mo_pfR (fun g6 => ?_)
    exact mo_some rfl
  · refine mo_p (fun r7 => ?_)
    refine mo_ite ?_ ?_
    · refine mo_h mo_nwA (fun a8 => ?_)
      refine mo_h mo_pfR (fun g9 => ?_)
      exact mo_some rfl
    · refine mo_p (fun x10 => ?_)
      refine mo_p (fun r11 => ?_)
      refine mo_h (h0 := (fun v => v.2)) (f_J7_copyOf_1904c_mono _ _ _ _ _) (fun v12 => ?_)
      refine mo_h mo_pfR (fun g13 => ?_)
      exact mo_some rfl
theorem f_Jx4a65c_grow_d5877_mono (e mi : Nat) (b : Nat) (g : HP) : Mono g (fun v => v.2) (f_Jx4a65c_grow_d5877 e mi b g) := by
  unfold f_Jx4a65c_grow_d5877
  refine mo_p (fun x1 => ?_)
  refine mo_p (fun b2 => ?_)
  refine mo_h (h0 := (fun v => v.2)) (f_Jx4a65c_grow_92f84_mono _ _ _ _ _) (fun v3 => ?_)
  exact mo_some rfl
theorem f_Jx4a65c_add_72be8_mono (e mi : Nat) (b : Nat) (s1 : Option Nat) (s2 : Option Nat) (s3 : Int32) (g : HP) : Mono g id (f_Jx4a65c_add_72be8 e mi b s1 s2 s3 g) := by
  unfold f_Jx4a65c_add_72be8
  refine mo_p (fun x1 => ?_)
  refine mo_h (h0 := fun v => v.2) ?_ (fun q4 => ?_)
  · refine mo_ite ?_ ?_
    · refine mo_p (fun b2 => ?_)
      refine mo_h (h0 := (fun v => v.2)) (f_Jx4a65c_grow_d5877_mono _ _ _ _) (fun v3 => ?_)
      exact mo_some rfl
    · exact mo_some rfl
  · refine mo_h mo_stA (fun g5 => ?_)
    refine mo_h mo_pfI (fun g6 => ?_)
    exact mo_some rfl
theorem f_Jx4a65c_add_9ea2d_mono (e mi : Nat) (b : Nat) (s1 : Option Nat) (g : HP) : Mono g (fun v => v.2) (f_Jx4a65c_add_9ea2d e mi b s1 g) := by
  unfold f_Jx4a65c_add_9ea2d
  refine mo_p (fun x1 => ?_)
  refine mo_h mo_pfI (fun g2 => ?_)
  refine mo_p (fun r3 => ?_)
  refine mo_p (fun x4 => ?_)
  refine mo_p (fun b5 => ?_)
  refine mo_h (h0 := id) (f_Jx4a65c_add_72be8_mono _ _ _ _ _ _ _) (fun g6 => ?_)
  exact mo_some rfl
theorem f_Jx4a65c_rangeCheckForAdd_d00df_mono (e mi : Nat) (b : Nat) (s1 : Int32) (g : HP) : Mono g id (f_Jx4a65c_rangeCheckForAdd_d00df e mi b s1 g) := by
  unfold f_Jx4a65c_rangeCheckForAdd_d00df
  refine mo_p (fun x1 => ?_)
  refine mo_ite ?_ ?_
  · exact mo_none
  · refine mo_ite ?_ ?_
    · exact mo_some rfl
    · exact mo_none
theorem f_Jx4a65c_add_7a177_mono (e mi : Nat) (b : Nat) (s1 : Int32) (s2 : Option Nat) (g : HP) : Mono g id (f_Jx4a65c_add_7a177 e mi b s1 s2 g) := by
  unfold f_Jx4a65c_add_7a177
  refine mo_p (fun b1 => ?_)
  refine mo_h (h0 := id) (f_Jx4a65c_rangeCheckForAdd_d00df_mono _ _ _ _ _) (fun g2 => ?_)
  refine mo_p (fun x3 => ?_)
  refine mo_h mo_pfI (fun g4 => ?_)
  refine mo_p (fun x5 => ?_)
  refine mo_p (fun r6 => ?_)
  refine mo_p (fun x7 => ?_)
  refine mo_h (h0 := fun v => v.2) ?_ (fun q10 => ?_)
  · refine mo_ite ?_ ?_
    · refine mo_p (fun b8 => ?_)
      refine mo_h (h0 := (fun v => v.2)) (f_Jx4a65c_grow_d5877_mono _ _ _ _) (fun v9 => ?_)
      exact mo_some rfl
    · exact mo_some rfl
  · refine mo_h mo_cpA (fun g11 => ?_)
    refine mo_h mo_stA (fun g12 => ?_)
    refine mo_h mo_pfI (fun g13 => ?_)
    exact mo_some rfl
theorem f_Jx4a65c_fastRemove_b59b0_mono (e mi : Nat) (b : Nat) (s1 : Option Nat) (s2 : Int32) (g : HP) : Mono g id (f_Jx4a65c_fastRemove_b59b0 e mi b s1 s2 g) := by
  unfold f_Jx4a65c_fastRemove_b59b0
  refine mo_p (fun x1 => ?_)
  refine mo_h mo_pfI (fun g2 => ?_)
  refine mo_p (fun x3 => ?_)
  refine mo_h (h0 := fun v => v) ?_ (fun q5 => ?_)
  · refine mo_ite ?_ ?_
    · exact mo_some rfl
    · refine mo_h mo_cpA (fun g4 => ?_)
      exact mo_some rfl
  · refine mo_h mo_pfI (fun g6 => ?_)
    refine mo_h mo_stA (fun g7 => ?_)
    exact mo_some rfl
theorem f_Jx4a65c_remove_915e3_mono (e mi : Nat) (b : Nat) (s1 : Int32) (g : HP) : Mono g (fun v => v.2) (f_Jx4a65c_remove_915e3 e mi b s1 g) := by
  unfold f_Jx4a65c_remove_915e3
  refine mo_p (fun x1 => ?_)
  refine mo_p (fun x2 => ?_)
  refine mo_p (fun r3 => ?_)
  refine mo_p (fun r4 => ?_)
  refine mo_p (fun b5 => ?_)
  refine mo_h (h0 := id) (f_Jx4a65c_fastRemove_b59b0_mono _ _ _ _ _ _) (fun g6 => ?_)
  exact mo_some rfl
theorem f_Jx4a65c_clear_da8c8_L27_mono (p27_1 : Option Nat) (p27_2 : Int32) : ∀ (m27 : Nat) (u27_3 : Int32) (w27 : HP), Mono w27 (fun v => v) (f_Jx4a65c_clear_da8c8_L27 p27_1 p27_2 m27 u27_3 w27) := by
  intro m27
  induction m27 with
  | zero =>
    intro u27_3 w27
    exact mo_none
  | succ m27 ih =>
    intro u27_3 w27
    unfold f_Jx4a65c_clear_da8c8_L27
    refine mo_ite ?_ ?_
    · exact mo_some rfl
    · refine mo_h mo_stA (fun g6 => ?_)
      exact ih _ _
theorem f_Jx4a65c_clear_da8c8_mono (e mi : Nat) (b : Nat) (g : HP) : Mono g id (f_Jx4a65c_clear_da8c8 e mi b g) := by
  unfold f_Jx4a65c_clear_da8c8
  refine mo_p (fun x1 => ?_)
  refine mo_h mo_pfI (fun g2 => ?_)
  refine mo_p (fun r3 => ?_)
  refine mo_p (fun x4 => ?_)
  refine mo_h mo_pfI (fun g5 => ?_)
  refine mo_h (h0 := fun v => v) (f_Jx4a65c_clear_da8c8_L27_mono _ _ _ _ _) (fun q7 => ?_)
  exact mo_some rfl
theorem k_Jxa1e45_init_da8c8 (l : Launch) (κ : KK) (b : Nat) (g : HP) : MA l κ Pi1 yJxa1e45_init_da8c8 cJxa1e45_init_da8c8 1 none 1 40 [vR (some b)] g (wVg (f_Jxa1e45_init_da8c8 (kE κ) (kM κ) b g)) := by
  refine MA_of (PO_Pic1 κ) mf_Jxa1e45_init_da8c8 (fun a ha => wVg_mono (f_Jxa1e45_init_da8c8_mono (kE κ) (kM κ) b g) a ha) (Nat.le_of_ble_eq_true rfl) ?_
  intro Γ fin hfin hl hk hin C0 Z0
  subst hl
  subst hk
  obtain ⟨v0, hv, rfl⟩ := wVg_some hfin
  have C : CX Γ cJxa1e45_init_da8c8 1 "java/util/AbstractCollection" Pi1 okAll 1 40 := C0
  have Z : RX Γ Pi1 none (none, v0) := Z0
  refine X.conv (fun _ => hv) ?_
  unfold f_Jxa1e45_init_da8c8
  show X Γ 0 [(0, vR (some b))] [] g _
  refine z_aload_n C dJxa1e45_init_da8c8_0 rfl 0 rfl ?_
  refine z_objInit C kt45 kwOI kwOC dJxa1e45_init_da8c8_1 (by decide) (Nat.le_of_ble_eq_true rfl) ?_
  exact z_vret C Z rfl dJxa1e45_init_da8c8_4 (fun h => by cases h; rfl)
theorem k_Jxc12de_init_da8c8 (l : Launch) (κ : KK) (b : Nat) (g : HP) : MA l κ Pi1 yJxc12de_init_da8c8 cJxc12de_init_da8c8 1 none 2 60 [vR (some b)] g (wVg (f_Jxc12de_init_da8c8 (kE κ) (kM κ) b g)) := by
  refine MA_of (PO_Pic1 κ) mf_Jxc12de_init_da8c8 (fun a ha => wVg_mono (f_Jxc12de_init_da8c8_mono (kE κ) (kM κ) b g) a ha) (Nat.le_of_ble_eq_true rfl) ?_
  intro Γ fin hfin hl hk hin C0 Z0
  subst hl
  subst hk
  obtain ⟨v0, hv, rfl⟩ := wVg_some hfin
  have C : CX Γ cJxc12de_init_da8c8 1 "java/util/AbstractList" Pi1 okAll 2 60 := C0
  have Z : RX Γ Pi1 none (none, v0) := Z0
  refine X.conv (fun _ => hv) ?_
  unfold f_Jxc12de_init_da8c8
  show X Γ 0 [(0, vR (some b))] [] g _
  refine z_aload_n C dJxc12de_init_da8c8_0 rfl 0 rfl ?_
  refine z_callI C mf_Jxa1e45_init_da8c8 kt43 rfl kt42 (k_Jxa1e45_init_da8c8 (gL Γ) (gK Γ) b g) rfl ⟨Nat.le_of_ble_eq_true rfl, Nat.le_of_ble_eq_true rfl⟩ (rest := []) rfl (Nat.le_of_ble_eq_true rfl) dJxc12de_init_da8c8_1 (bdVg) (contVg fun g1 => ?_)
  refine z_aload_n C dJxc12de_init_da8c8_4 rfl 0 rfl ?_
  refine z_iconst C dJxc12de_init_da8c8_5 (v := 0) (by decide) ?_
  refine z_pfI C cf0 0 (by decide) rfl rfl rfl (Or.inl rfl) dJxc12de_init_da8c8_6 kt50 (fun _ h => h) bd (fun g2 => ?_)
  exact z_vret C Z rfl dJxc12de_init_da8c8_9 (fun h => by cases h; rfl)
theorem k_Jx4a65c_init_da8c8 (l : Launch) (κ : KK) (b : Nat) (g : HP) : MA l κ Pi1 yJx4a65c_init_da8c8 cJx4a65c_init_da8c8 1 none 3 80 [vR (some b)] g (wVg (f_Jx4a65c_init_da8c8 (kE κ) (kM κ) b g)) := by
  refine MA_of (PO_Pic1 κ) mf_Jx4a65c_init_da8c8 (fun a ha => wVg_mono (f_Jx4a65c_init_da8c8_mono (kE κ) (kM κ) b g) a ha) (Nat.le_of_ble_eq_true rfl) ?_
  intro Γ fin hfin hl hk hin C0 Z0
  subst hl
  subst hk
  obtain ⟨v0, hv, rfl⟩ := wVg_some hfin
  have C : CX Γ cJx4a65c_init_da8c8 1 "java/util/ArrayList" Pi1 okAll 3 80 := C0
  have Z : RX Γ Pi1 none (none, v0) := Z0
  refine X.conv (fun _ => hv) ?_
  unfold f_Jx4a65c_init_da8c8
  show X Γ 0 [(0, vR (some b))] [] g _
  refine z_aload_n C dJx4a65c_init_da8c8_0 rfl 0 rfl ?_
  refine z_callI C mf_Jxc12de_init_da8c8 kt40 rfl kt39 (k_Jxc12de_init_da8c8 (gL Γ) (gK Γ) b g) rfl ⟨Nat.le_of_ble_eq_true rfl, Nat.le_of_ble_eq_true rfl⟩ (rest := []) rfl (Nat.le_of_ble_eq_true rfl) dJx4a65c_init_da8c8_1 (bdVg) (contVg fun g1 => ?_)
  refine z_aload_n C dJx4a65c_init_da8c8_4 rfl 0 rfl ?_
  refine z_gets C dJx4a65c_init_da8c8_5 kt46 ?_
  refine z_pfR C cf0 1 (by decide) rfl rfl (isRefTy_a _) (Or.inl rfl) dJx4a65c_init_da8c8_8 kt48 (fun _ h => h) bd (fun g2 => ?_)
  exact z_vret C Z rfl dJx4a65c_init_da8c8_11 (fun h => by cases h; rfl)
theorem k_Jx4a65c_size_8abf5 (l : Launch) (κ : KK) (b : Nat) (g : HP) : MA l κ Pi1 yJx4a65c_size_8abf5 cJx4a65c_size_8abf5 1 (some .int) 0 0 [vR (some b)] g (wI g (f_Jx4a65c_size_8abf5 (kE κ) (kM κ) b g)) := by
  refine MA_of (PO_Pic1 κ) mf_Jx4a65c_size_8abf5 (fun a ha => wI_same a ha) (Nat.le_of_ble_eq_true rfl) ?_
  intro Γ fin hfin hl hk hin C0 Z0
  subst hl
  subst hk
  obtain ⟨v0, hv, rfl⟩ := wI_some hfin
  have C : CX Γ cJx4a65c_size_8abf5 1 "java/util/ArrayList" Pi1 okAll 0 0 := C0
  have Z : RX Γ Pi1 (some .int) (some (vI v0), g) := Z0
  refine X.conv (fun _ => hv) ?_
  unfold f_Jx4a65c_size_8abf5
  show X Γ 0 [(0, vR (some b))] [] g _
  refine z_aload_n C dJx4a65c_size_8abf5_0 rfl 0 rfl ?_
  refine z_gfI C cf0 2 (by decide) rfl rfl dJx4a65c_size_8abf5_1 kt49 (fun _ h => h) bd (fun x1 => ?_)
  exact z_iret C Z rfl dJx4a65c_size_8abf5_4 (fun h => by cases h; rfl)
theorem k_Jx4a65c_isEmpty_aae02 (l : Launch) (κ : KK) (b : Nat) (g : HP) : MA l κ Pi1 yJx4a65c_isEmpty_aae02 cJx4a65c_isEmpty_aae02 1 (some .boolean) 0 0 [vR (some b)] g (wI g (f_Jx4a65c_isEmpty_aae02 (kE κ) (kM κ) b g)) := by
  refine MA_of (PO_Pic1 κ) mf_Jx4a65c_isEmpty_aae02 (fun a ha => wI_same a ha) (Nat.le_of_ble_eq_true rfl) ?_
  intro Γ fin hfin hl hk hin C0 Z0
  subst hl
  subst hk
  obtain ⟨v0, hv, rfl⟩ := wI_some hfin
  have C : CX Γ cJx4a65c_isEmpty_aae02 1 "java/util/ArrayList" Pi1 okAll 0 0 := C0
  have Z : RX Γ Pi1 (some .boolean) (some (vI v0), g) := Z0
  refine X.conv (fun _ => hv) ?_
  unfold f_Jx4a65c_isEmpty_aae02
  show X Γ 0 [(0, vR (some b))] [] g _
  refine z_aload_n C dJx4a65c_isEmpty_aae02_0 rfl 0 rfl ?_
  refine z_gfI C cf0 2 (by decide) rfl rfl dJx4a65c_isEmpty_aae02_1 kt49 (fun _ h => h) bd (fun x1 => ?_)
  refine z_if_ne C dJx4a65c_isEmpty_aae02_4 (tgt := 11) rfl it jf ?_ ?_
  · refine z_iconst C dJx4a65c_isEmpty_aae02_7 (v := 1) (by decide) ?_
    refine z_goto C dJx4a65c_isEmpty_aae02_8 (tgt := 12) rfl ?_
    exact z_zret C Z rfl dJx4a65c_isEmpty_aae02_12 (fun _ => Or.inr rfl) (fun h => by cases h; rfl)
  · refine z_iconst C dJx4a65c_isEmpty_aae02_11 (v := 0) (by decide) ?_
    exact z_zret C Z rfl dJx4a65c_isEmpty_aae02_12 (fun _ => Or.inl rfl) (fun h => by cases h; rfl)
theorem k_Jx4a65c_elementData_915e3 (l : Launch) (κ : KK) (b : Nat) (s1 : Int32) (g : HP) : MA l κ Pi1 yJx4a65c_elementData_915e3 cJx4a65c_elementData_915e3 2 (some (.object "java/lang/Object")) 0 0 [vR (some b), vI s1] g (wR g (f_Jx4a65c_elementData_915e3 (kE κ) (kM κ) b s1 g)) := by
  refine MA_of (PO_Pic1 κ) mf_Jx4a65c_elementData_915e3 (fun a ha => wR_same a ha) (Nat.le_of_ble_eq_true rfl) ?_
  intro Γ fin hfin hl hk hin C0 Z0
  subst hl
  subst hk
  obtain ⟨v0, hv, rfl⟩ := wR_some hfin
  have C : CX Γ cJx4a65c_elementData_915e3 2 "java/util/ArrayList" Pi1 okAll 0 0 := C0
  have Z : RX Γ Pi1 (some (.object "java/lang/Object")) (some (vR v0), g) := Z0
  refine X.conv (fun _ => hv) ?_
  unfold f_Jx4a65c_elementData_915e3
  show X Γ 0 [(0, vR (some b)), (1, vI s1)] [] g _
  refine z_aload_n C dJx4a65c_elementData_915e3_0 rfl 0 rfl ?_
  refine z_gfR C cf0 1 (by decide) rfl rfl dJx4a65c_elementData_915e3_1 kt48 (fun _ h => h) bd (fun r1 => ?_)
  refine z_iload_n C dJx4a65c_elementData_915e3_4 rfl 1 rfl ?_
  refine z_ldA C okA_okAll dJx4a65c_elementData_915e3_5 bd (fun r2 => ?_)
  exact z_aret C Z rfl (Or.inl ⟨_, rfl⟩) dJx4a65c_elementData_915e3_6 (fun h => by cases h; rfl)
theorem k_J3_checkIndex_8e157 (l : Launch) (κ : KK) (s1 : Int32) (s2 : Int32) (s3 : Option Nat) (g : HP) : MA l κ Pi1 yJ3_checkIndex_8e157 cJ3_checkIndex_8e157 3 (some .int) 0 0 [vI s1, vI s2, vR s3] g (wI g (f_J3_checkIndex_8e157 (kE κ) (kM κ) s1 s2 s3 g)) := by
  refine MA_of (PO_Pic1 κ) mf_J3_checkIndex_8e157 (fun a ha => wI_same a ha) (Nat.le_of_ble_eq_true rfl) ?_
  intro Γ fin hfin hl hk hin C0 Z0
  subst hl
  subst hk
  obtain ⟨v0, hv, rfl⟩ := wI_some hfin
  have C : CX Γ cJ3_checkIndex_8e157 3 "jdk/internal/util/Preconditions" Pi1 okAll 0 0 := C0
  have Z : RX Γ Pi1 (some .int) (some (vI v0), g) := Z0
  refine X.conv (fun _ => hv) ?_
  unfold f_J3_checkIndex_8e157
  show X Γ 0 [(0, vI s1), (1, vI s2), (2, vR s3)] [] g _
  refine z_iload_n C dJ3_checkIndex_8e157_0 rfl 0 rfl ?_
  refine z_if_lt C dJ3_checkIndex_8e157_1 (tgt := 9) rfl it jf ?_ ?_
  · exact X.no no0
  · refine z_iload_n C dJ3_checkIndex_8e157_4 rfl 0 rfl ?_
    refine z_iload_n C dJ3_checkIndex_8e157_5 rfl 1 rfl ?_
    refine z_icmp_lt C dJ3_checkIndex_8e157_6 (tgt := 16) rfl it jf ?_ ?_
    · refine z_iload_n C dJ3_checkIndex_8e157_16 rfl 0 rfl ?_
      exact z_iret C Z rfl dJ3_checkIndex_8e157_17 (fun h => by cases h; rfl)
    · exact X.no no0
theorem k_J15_checkIndex_7cf53 (l : Launch) (κ : KK) (s1 : Int32) (s2 : Int32) (g : HP) : MA l κ Pi1 yJ15_checkIndex_7cf53 cJ15_checkIndex_7cf53 2 (some .int) 1 22 [vI s1, vI s2] g (wI g (f_J15_checkIndex_7cf53 (kE κ) (kM κ) s1 s2 g)) := by
  refine MA_of (PO_Pic1 κ) mf_J15_checkIndex_7cf53 (fun a ha => wI_same a ha) (Nat.le_of_ble_eq_true rfl) ?_
  intro Γ fin hfin hl hk hin C0 Z0
  subst hl
  subst hk
  obtain ⟨v0, hv, rfl⟩ := wI_some hfin
  have C : CX Γ cJ15_checkIndex_7cf53 2 "java/util/Objects" Pi1 okAll 1 22 := C0
  have Z : RX Γ Pi1 (some .int) (some (vI v0), g) := Z0
  refine X.conv (fun _ => hv) ?_
  unfold f_J15_checkIndex_7cf53
  show X Γ 0 [(0, vI s1), (1, vI s2)] [] g _
  refine z_iload_n C dJ15_checkIndex_7cf53_0 rfl 0 rfl ?_
  refine z_iload_n C dJ15_checkIndex_7cf53_1 rfl 1 rfl ?_
  refine z_null C dJ15_checkIndex_7cf53_2 ?_
  refine z_callSX C mf_J3_checkIndex_8e157 kt272 kt271 (k_J3_checkIndex_8e157 (gL Γ) (gK Γ) s1 s2 none g) rfl ⟨Nat.le_of_ble_eq_true rfl, Nat.le_of_ble_eq_true rfl⟩ (rest := []) rfl (Nat.le_of_ble_eq_true rfl) dJ15_checkIndex_7cf53_3 (bdI) (contI fun x1 => ?_)
  exact z_iret C Z rfl dJ15_checkIndex_7cf53_6 (fun h => by cases h; rfl)
theorem k_Jx4a65c_get_915e3 (l : Launch) (κ : KK) (b : Nat) (s1 : Int32) (g : HP) : MA l κ Pi1 yJx4a65c_get_915e3 cJx4a65c_get_915e3 2 (some (.object "java/lang/Object")) 2 43 [vR (some b), vI s1] g (wR g (f_Jx4a65c_get_915e3 (kE κ) (kM κ) b s1 g)) := by
  refine MA_of (PO_Pic1 κ) mf_Jx4a65c_get_915e3 (fun a ha => wR_same a ha) (Nat.le_of_ble_eq_true rfl) ?_
  intro Γ fin hfin hl hk hin C0 Z0
  subst hl
  subst hk
  obtain ⟨v0, hv, rfl⟩ := wR_some hfin
  have C : CX Γ cJx4a65c_get_915e3 2 "java/util/ArrayList" Pi1 okAll 2 43 := C0
  have Z : RX Γ Pi1 (some (.object "java/lang/Object")) (some (vR v0), g) := Z0
  refine X.conv (fun _ => hv) ?_
  unfold f_Jx4a65c_get_915e3
  show X Γ 0 [(0, vR (some b)), (1, vI s1)] [] g _
  refine z_iload_n C dJx4a65c_get_915e3_0 rfl 1 rfl ?_
  refine z_aload_n C dJx4a65c_get_915e3_1 rfl 0 rfl ?_
  refine z_gfI C cf0 2 (by decide) rfl rfl dJx4a65c_get_915e3_2 kt49 (fun _ h => h) bd (fun x1 => ?_)
  refine z_callSX C mf_J15_checkIndex_7cf53 kt269 kt268 (k_J15_checkIndex_7cf53 (gL Γ) (gK Γ) s1 x1 g) rfl ⟨Nat.le_of_ble_eq_true rfl, Nat.le_of_ble_eq_true rfl⟩ (rest := []) rfl (Nat.le_of_ble_eq_true rfl) dJx4a65c_get_915e3_5 (bdI) (contI fun x2 => ?_)
  refine z_pop C dJx4a65c_get_915e3_8 rfl ?_
  refine z_aload_n C dJx4a65c_get_915e3_9 rfl 0 rfl ?_
  refine z_iload_n C dJx4a65c_get_915e3_10 rfl 1 rfl ?_
  refine z_rcv bd (fun b3 hbb3 htb3 => ?_)
  have heb3 := Option.some.inj hbb3
  subst heb3
  refine z_callV C cf0 mf_Jx4a65c_elementData_915e3 kt275 kt276 kt274 (k_Jx4a65c_elementData_915e3 (gL Γ) (gK Γ) b s1 g) htb3 rfl ⟨Nat.le_of_ble_eq_true rfl, Nat.le_of_ble_eq_true rfl⟩ (rest := []) rfl (Nat.le_of_ble_eq_true rfl) dJx4a65c_get_915e3_11 (bdR) (contR fun r4 => ?_)
  exact z_aret C Z rfl (Or.inl ⟨_, rfl⟩) dJx4a65c_get_915e3_14 (fun h => by cases h; rfl)
theorem k_J8_newLength_cabcc (l : Launch) (κ : KK) (s1 : Int32) (s2 : Int32) (s3 : Int32) (g : HP) : MA l κ Pi1 yJ8_newLength_cabcc cJ8_newLength_cabcc 4 (some .int) 1 40 [vI s1, vI s2, vI s3] g (wI g (f_J8_newLength_cabcc (kE κ) (kM κ) s1 s2 s3 g)) := by
  refine MA_of (PO_Pic1 κ) mf_J8_newLength_cabcc (fun a ha => wI_same a ha) (Nat.le_of_ble_eq_true rfl) ?_
  intro Γ fin hfin hl hk hin C0 Z0
  subst hl
  subst hk
  obtain ⟨v0, hv, rfl⟩ := wI_some hfin
  have C : CX Γ cJ8_newLength_cabcc 4 "jdk/internal/util/ArraysSupport" Pi1 okAll 1 40 := C0
  have Z : RX Γ Pi1 (some .int) (some (vI v0), g) := Z0
  refine X.conv (fun _ => hv) ?_
  unfold f_J8_newLength_cabcc
  show X Γ 0 [(0, vI s1), (1, vI s2), (2, vI s3)] [] g _
  refine z_iload_n C dJ8_newLength_cabcc_0 rfl 0 rfl ?_
  refine z_iload_n C dJ8_newLength_cabcc_1 rfl 1 rfl ?_
  refine z_iload_n C dJ8_newLength_cabcc_2 rfl 2 rfl ?_
  refine z_mmax C kt147 kw_mmax_s kw_math kw_mmax_c dJ8_newLength_cabcc_3 (by decide) (Nat.le_of_ble_eq_true rfl) ?_
  refine z_iadd C dJ8_newLength_cabcc_6 ?_
  refine z_istore_n (L' := [(3, vI (s1 + (if s2 < s3 then s3 else s2))), (0, vI s1), (1, vI s2), (2, vI s3)]) C dJ8_newLength_cabcc_7 rfl (by decide) rfl ?_
  refine z_iconst C dJ8_newLength_cabcc_8 (v := 0) (by decide) ?_
  refine z_iload_n C dJ8_newLength_cabcc_9 rfl 0 rfl ?_
  refine z_icmp_ge C dJ8_newLength_cabcc_10 (tgt := 21) rfl it jf ?_ ?_
  · exact X.no no0
  · refine z_iload_n C dJ8_newLength_cabcc_13 rfl 0 rfl ?_
    refine z_ldc C dJ8_newLength_cabcc_14 kt150 ?_
    refine z_icmp_gt C dJ8_newLength_cabcc_16 (tgt := 21) rfl it jf ?_ ?_
    · exact X.no no0
    · refine z_iload_n C dJ8_newLength_cabcc_19 rfl 0 rfl ?_
      exact z_iret C Z rfl dJ8_newLength_cabcc_20 (fun h => by cases h; rfl)
theorem k_J7_copyOf_6403c (l : Launch) (κ : KK) (s1 : Option Nat) (s2 : Int32) (s3 : Option Nat) (g : HP) : MA l κ Pi1 yJ7_copyOf_6403c cJ7_copyOf_6403c 4 (some (.array (.object "java/lang/Object"))) 1 60 [vR s1, vI s2, vR s3] g (wRg (f_J7_copyOf_6403c (kE κ) (kM κ) s1 s2 s3 g)) := by
  refine MA_of (PO_Pic1 κ) mf_J7_copyOf_6403c (fun a ha => wRg_mono (f_J7_copyOf_6403c_mono (kE κ) (kM κ) s1 s2 s3 g) a ha) (Nat.le_of_ble_eq_true rfl) ?_
  intro Γ fin hfin hl hk hin C0 Z0
  subst hl
  subst hk
  obtain ⟨v0, hv, rfl⟩ := wRg_some hfin
  have C : CX Γ cJ7_copyOf_6403c 4 "java/util/Arrays" Pi1 okAll 1 60 := C0
  have Z : RX Γ Pi1 (some (.array (.object "java/lang/Object"))) (some (vR v0.1), v0.2) := Z0
  refine X.conv (fun _ => hv) ?_
  unfold f_J7_copyOf_6403c
  show X Γ 0 [(0, vR s1), (1, vI s2), (2, vR s3)] [] g _
  refine z_aload_n C dJ7_copyOf_6403c_0 rfl 2 rfl ?_
  refine z_ldcM C dJ7_copyOf_6403c_1 kt178 ?_
  refine z_acmp_ne C dJ7_copyOf_6403c_3 (tgt := 13) rfl it jf ?_ ?_
  · refine z_iload_n C dJ7_copyOf_6403c_6 rfl 1 rfl ?_
    refine z_nwA C rfl dJ7_copyOf_6403c_7 kt180 bd (fun a1 => ?_)
    refine z_goto C dJ7_copyOf_6403c_10 (tgt := 24) rfl ?_
    refine z_astore_n (L' := [(3, vR (some a1.1)), (0, vR s1), (1, vI s2), (2, vR s3)]) C dJ7_copyOf_6403c_24 rfl (by decide) rfl ?_
    refine z_aload_n C dJ7_copyOf_6403c_25 rfl 1 rfl ?_
    refine z_iconst C dJ7_copyOf_6403c_26 (v := 0) (by decide) ?_
    refine z_aload_n C dJ7_copyOf_6403c_27 rfl 0 rfl ?_
    refine z_iconst C dJ7_copyOf_6403c_28 (v := 0) (by decide) ?_
    refine z_aload_n C dJ7_copyOf_6403c_29 rfl 1 rfl ?_
    refine z_lnA C okL_ok1 dJ7_copyOf_6403c_30 bd (fun x2 => ?_)
    refine z_iload_n C dJ7_copyOf_6403c_31 rfl 2 rfl ?_
    refine z_mmin C kt181 kw_mmin_s kw_math kw_mmin_c dJ7_copyOf_6403c_32 (by decide) (Nat.le_of_ble_eq_true rfl) ?_
    refine z_cpA C rfl kt184 kwCn kwCs kwCi (by decide) (by show _ + (nativeFrameWords "java/lang/System" "arraycopy" 5 + 11) ≤ _; exact Nat.le_of_ble_eq_true (by rfl)) dJ7_copyOf_6403c_35 bd (fun g3 => ?_)
    refine z_aload_n C dJ7_copyOf_6403c_38 rfl 0 rfl ?_
    exact z_aret C Z rfl (Or.inr ⟨_, rfl⟩) dJ7_copyOf_6403c_39 (fun h => by cases h; rfl)
  · exact X.no no0
theorem k_J7_copyOf_1904c (l : Launch) (κ : KK) (s1 : Option Nat) (s2 : Int32) (g : HP) : MA l κ Pi1 yJ7_copyOf_1904c cJ7_copyOf_1904c 2 (some (.array (.object "java/lang/Object"))) 2 83 [vR s1, vI s2] g (wRg (f_J7_copyOf_1904c (kE κ) (kM κ) s1 s2 g)) := by
  refine MA_of (PO_Pic1 κ) mf_J7_copyOf_1904c (fun a ha => wRg_mono (f_J7_copyOf_1904c_mono (kE κ) (kM κ) s1 s2 g) a ha) (Nat.le_of_ble_eq_true rfl) ?_
  intro Γ fin hfin hl hk hin C0 Z0
  subst hl
  subst hk
  obtain ⟨v0, hv, rfl⟩ := wRg_some hfin
  have C : CX Γ cJ7_copyOf_1904c 2 "java/util/Arrays" Pi1 okAll 2 83 := C0
  have Z : RX Γ Pi1 (some (.array (.object "java/lang/Object"))) (some (vR v0.1), v0.2) := Z0
  refine X.conv (fun _ => hv) ?_
  unfold f_J7_copyOf_1904c
  show X Γ 0 [(0, vR s1), (1, vI s2)] [] g _
  refine z_aload_n C dJ7_copyOf_1904c_0 rfl 0 rfl ?_
  refine z_iload_n C dJ7_copyOf_1904c_1 rfl 1 rfl ?_
  refine z_aload_n C dJ7_copyOf_1904c_2 rfl 0 rfl ?_
  refine z_gtC C kt157 kwGs kwGi kwGn (by decide) (Nat.le_of_ble_eq_true rfl) dJ7_copyOf_1904c_3 bd (fun r1 => ?_)
  refine z_callS C rfl mf_J7_copyOf_6403c kt176 kt175 (k_J7_copyOf_6403c (gL Γ) (gK Γ) s1 s2 r1 g) rfl ⟨Nat.le_of_ble_eq_true rfl, Nat.le_of_ble_eq_true rfl⟩ (rest := []) rfl (Nat.le_of_ble_eq_true rfl) dJ7_copyOf_1904c_6 (bdRg) (contRg fun v2 => ?_)
  exact z_aret C Z rfl (Or.inr ⟨_, rfl⟩) dJ7_copyOf_1904c_9 (fun h => by cases h; rfl)
theorem k_Jx4a65c_grow_92f84 (l : Launch) (κ : KK) (b : Nat) (s1 : Int32) (g : HP) : MA l κ Pi1 yJx4a65c_grow_92f84 cJx4a65c_grow_92f84 4 (some (.array (.object "java/lang/Object"))) 3 104 [vR (some b), vI s1] g (wRg (f_Jx4a65c_grow_92f84 (kE κ) (kM κ) b s1 g)) := by
  refine MA_of (PO_Pic1 κ) mf_Jx4a65c_grow_92f84 (fun a ha => wRg_mono (f_Jx4a65c_grow_92f84_mono (kE κ) (kM κ) b s1 g) a ha) (Nat.le_of_ble_eq_true rfl) ?_
  intro Γ fin hfin hl hk hin C0 Z0
  subst hl
  subst hk
  obtain ⟨v0, hv, rfl⟩ := wRg_some hfin
  have C : CX Γ cJx4a65c_grow_92f84 4 "java/util/ArrayList" Pi1 okAll 3 104 := C0
  have Z : RX Γ Pi1 (some (.array (.object "java/lang/Object"))) (some (vR v0.1), v0.2) := Z0
  refine X.conv (fun _ => hv) ?_
  unfold f_Jx4a65c_grow_92f84
  show X Γ 0 [(0, vR (some b)), (1, vI s1)] [] g _
  refine z_aload_n C dJx4a65c_grow_92f84_0 rfl 0 rfl ?_
  refine z_gfR C cf0 1 (by decide) rfl rfl dJx4a65c_grow_92f84_1 kt48 (fun _ h => h) bd (fun r1 => ?_)
  refine z_lnA C okL_ok1 dJx4a65c_grow_92f84_4 bd (fun x2 => ?_)
  refine z_istore_n (L' := [(2, vI x2), (0, vR (some b)), (1, vI s1)]) C dJx4a65c_grow_92f84_5 rfl (by decide) rfl ?_
  refine z_iload_n C dJx4a65c_grow_92f84_6 rfl 0 rfl ?_
  refine z_if_gt C dJx4a65c_grow_92f84_7 (tgt := 20) rfl it jf ?_ ?_
  · refine z_iload_n C dJx4a65c_grow_92f84_20 rfl 0 rfl ?_
    refine z_iload_n C dJx4a65c_grow_92f84_21 rfl 2 rfl ?_
    refine z_iload_n C dJx4a65c_grow_92f84_22 rfl 0 rfl ?_
    refine z_isub C dJx4a65c_grow_92f84_23 ?_
    refine z_iload_n C dJx4a65c_grow_92f84_24 rfl 0 rfl ?_
    refine z_iconst C dJx4a65c_grow_92f84_25 (v := 1) (by decide) ?_
    refine z_ishr C dJx4a65c_grow_92f84_26 ?_
    refine z_callSX C mf_J8_newLength_cabcc kt145 kt144 (k_J8_newLength_cabcc (gL Γ) (gK Γ) x2 (s1 - x2) (x2 >>> (1 &&& 31)) g) rfl ⟨Nat.le_of_ble_eq_true rfl, Nat.le_of_ble_eq_true rfl⟩ (rest := []) rfl (Nat.le_of_ble_eq_true rfl) dJx4a65c_grow_92f84_27 (bdI) (contI fun x3 => ?_)
    refine z_istore_n (L' := [(3, vI x3), (2, vI x2), (0, vR (some b)), (1, vI s1)]) C dJx4a65c_grow_92f84_30 rfl (by decide) rfl ?_
    refine z_aload_n C dJx4a65c_grow_92f84_31 rfl 2 rfl ?_
    refine z_aload_n C dJx4a65c_grow_92f84_32 rfl 2 rfl ?_
    refine z_gfR C cf0 1 (by decide) rfl rfl dJx4a65c_grow_92f84_33 kt48 (fun _ h => h) bd (fun r4 => ?_)
    refine z_iload_n C dJx4a65c_grow_92f84_36 rfl 0 rfl ?_
    refine z_callSX C mf_J7_copyOf_1904c kt155 kt154 (k_J7_copyOf_1904c (gL Γ) (gK Γ) r4 x3 g) rfl ⟨Nat.le_of_ble_eq_true rfl, Nat.le_of_ble_eq_true rfl⟩ (rest := [vR (some b)]) rfl (Nat.le_of_ble_eq_true rfl) dJx4a65c_grow_92f84_37 (bdRg) (contRg fun v5 => ?_)
    refine z_dup_x1 C dJx4a65c_grow_92f84_40 rfl rfl ?_
    refine z_pfR C cf0 1 (by decide) rfl rfl (isRefTy_a _) (Or.inl rfl) dJx4a65c_grow_92f84_41 kt48 (fun _ h => h) bd (fun g6 => ?_)
    exact z_aret C Z rfl (Or.inr ⟨_, rfl⟩) dJx4a65c_grow_92f84_44 (fun h => by cases h; rfl)
  · refine z_aload_n C dJx4a65c_grow_92f84_10 rfl 1 rfl ?_
    refine z_gfR C cf0 1 (by decide) rfl rfl dJx4a65c_grow_92f84_11 kt48 (fun _ h => h) bd (fun r7 => ?_)
    refine z_gets C dJx4a65c_grow_92f84_14 kt46 ?_
    refine z_acmp_eq C dJx4a65c_grow_92f84_17 (tgt := 45) rfl it jf ?_ ?_
    · refine z_aload_n C dJx4a65c_grow_92f84_45 rfl 1 rfl ?_
      refine z_bipush C dJx4a65c_grow_92f84_46 (v := 10) (by decide) ?_
      refine z_iload_n C dJx4a65c_grow_92f84_48 rfl 2 rfl ?_
      refine z_mmax C kt187 kw_mmax_s kw_math kw_mmax_c dJx4a65c_grow_92f84_49 (by decide) (Nat.le_of_ble_eq_true rfl) ?_
      refine z_nwA C rfl dJx4a65c_grow_92f84_52 kt188 bd (fun a8 => ?_)
      refine z_dup_x1 C dJx4a65c_grow_92f84_55 rfl rfl ?_
      refine z_pfR C cf0 1 (by decide) rfl rfl (isRefTy_a _) (Or.inl rfl) dJx4a65c_grow_92f84_56 kt48 (fun _ h => h) bd (fun g9 => ?_)
      exact z_aret C Z rfl (Or.inr ⟨_, rfl⟩) dJx4a65c_grow_92f84_59 (fun h => by cases h; rfl)
    · refine z_iload_n C dJx4a65c_grow_92f84_20 rfl 0 rfl ?_
      refine z_iload_n C dJx4a65c_grow_92f84_21 rfl 2 rfl ?_
      refine z_iload_n C dJx4a65c_grow_92f84_22 rfl 0 rfl ?_
      refine z_isub C dJx4a65c_grow_92f84_23 ?_
      refine z_iload_n C dJx4a65c_grow_92f84_24 rfl 0 rfl ?_
      refine z_iconst C dJx4a65c_grow_92f84_25 (v := 1) (by decide) ?_
      refine z_ishr C dJx4a65c_grow_92f84_26 ?_
      refine z_callSX C mf_J8_newLength_cabcc kt145 kt144 (k_J8_newLength_cabcc (gL Γ) (gK Γ) x2 (s1 - x2) (x2 >>> (1 &&& 31)) g) rfl ⟨Nat.le_of_ble_eq_true rfl, Nat.le_of_ble_eq_true rfl⟩ (rest := []) rfl (Nat.le_of_ble_eq_true rfl) dJx4a65c_grow_92f84_27 (bdI) (contI fun x10 => ?_)
      refine z_istore_n (L' := [(3, vI x10), (2, vI x2), (0, vR (some b)), (1, vI s1)]) C dJx4a65c_grow_92f84_30 rfl (by decide) rfl ?_
      refine z_aload_n C dJx4a65c_grow_92f84_31 rfl 2 rfl ?_
      refine z_aload_n C dJx4a65c_grow_92f84_32 rfl 2 rfl ?_
      refine z_gfR C cf0 1 (by decide) rfl rfl dJx4a65c_grow_92f84_33 kt48 (fun _ h => h) bd (fun r11 => ?_)
      refine z_iload_n C dJx4a65c_grow_92f84_36 rfl 0 rfl ?_
      refine z_callSX C mf_J7_copyOf_1904c kt155 kt154 (k_J7_copyOf_1904c (gL Γ) (gK Γ) r11 x10 g) rfl ⟨Nat.le_of_ble_eq_true rfl, Nat.le_of_ble_eq_true rfl⟩ (rest := [vR (some b)]) rfl (Nat.le_of_ble_eq_true rfl) dJx4a65c_grow_92f84_37 (bdRg) (contRg fun v12 => ?_)
      refine z_dup_x1 C dJx4a65c_grow_92f84_40 rfl rfl ?_
      refine z_pfR C cf0 1 (by decide) rfl rfl (isRefTy_a _) (Or.inl rfl) dJx4a65c_grow_92f84_41 kt48 (fun _ h => h) bd (fun g13 => ?_)
      exact z_aret C Z rfl (Or.inr ⟨_, rfl⟩) dJx4a65c_grow_92f84_44 (fun h => by cases h; rfl)
theorem k_Jx4a65c_grow_d5877 (l : Launch) (κ : KK) (b : Nat) (g : HP) : MA l κ Pi1 yJx4a65c_grow_d5877 cJx4a65c_grow_d5877 1 (some (.array (.object "java/lang/Object"))) 4 127 [vR (some b)] g (wRg (f_Jx4a65c_grow_d5877 (kE κ) (kM κ) b g)) := by
  refine MA_of (PO_Pic1 κ) mf_Jx4a65c_grow_d5877 (fun a ha => wRg_mono (f_Jx4a65c_grow_d5877_mono (kE κ) (kM κ) b g) a ha) (Nat.le_of_ble_eq_true rfl) ?_
  intro Γ fin hfin hl hk hin C0 Z0
  subst hl
  subst hk
  obtain ⟨v0, hv, rfl⟩ := wRg_some hfin
  have C : CX Γ cJx4a65c_grow_d5877 1 "java/util/ArrayList" Pi1 okAll 4 127 := C0
  have Z : RX Γ Pi1 (some (.array (.object "java/lang/Object"))) (some (vR v0.1), v0.2) := Z0
  refine X.conv (fun _ => hv) ?_
  unfold f_Jx4a65c_grow_d5877
  show X Γ 0 [(0, vR (some b))] [] g _
  refine z_aload_n C dJx4a65c_grow_d5877_0 rfl 0 rfl ?_
  refine z_aload_n C dJx4a65c_grow_d5877_1 rfl 0 rfl ?_
  refine z_gfI C cf0 2 (by decide) rfl rfl dJx4a65c_grow_d5877_2 kt49 (fun _ h => h) bd (fun x1 => ?_)
  refine z_iconst C dJx4a65c_grow_d5877_5 (v := 1) (by decide) ?_
  refine z_iadd C dJx4a65c_grow_d5877_6 ?_
  refine z_rcv bd (fun b2 hbb2 htb2 => ?_)
  have heb2 := Option.some.inj hbb2
  subst heb2
  refine z_callV C cf0 mf_Jx4a65c_grow_92f84 kt142 (gtbl_priv (j := 2) rfl rfl) kt140 (k_Jx4a65c_grow_92f84 (gL Γ) (gK Γ) b (x1 + 1) g) htb2 rfl ⟨Nat.le_of_ble_eq_true rfl, Nat.le_of_ble_eq_true rfl⟩ (rest := []) rfl (Nat.le_of_ble_eq_true rfl) dJx4a65c_grow_d5877_7 (bdRg) (contRg fun v3 => ?_)
  exact z_aret C Z rfl (Or.inr ⟨_, rfl⟩) dJx4a65c_grow_d5877_10 (fun h => by cases h; rfl)
theorem k_Jx4a65c_add_72be8 (l : Launch) (κ : KK) (b : Nat) (s1 : Option Nat) (s2 : Option Nat) (s3 : Int32) (g : HP) : MA l κ Pi1 yJx4a65c_add_72be8 cJx4a65c_add_72be8 4 none 5 147 [vR (some b), vR s1, vR s2, vI s3] g (wVg (f_Jx4a65c_add_72be8 (kE κ) (kM κ) b s1 s2 s3 g)) := by
  refine MA_of (PO_Pic1 κ) mf_Jx4a65c_add_72be8 (fun a ha => wVg_mono (f_Jx4a65c_add_72be8_mono (kE κ) (kM κ) b s1 s2 s3 g) a ha) (Nat.le_of_ble_eq_true rfl) ?_
  intro Γ fin hfin hl hk hin C0 Z0
  subst hl
  subst hk
  obtain ⟨v0, hv, rfl⟩ := wVg_some hfin
  have C : CX Γ cJx4a65c_add_72be8 4 "java/util/ArrayList" Pi1 okAll 5 147 := C0
  have Z : RX Γ Pi1 none (none, v0) := Z0
  refine X.conv (fun _ => hv) ?_
  unfold f_Jx4a65c_add_72be8
  show X Γ 0 [(0, vR (some b)), (1, vR s1), (2, vR s2), (3, vI s3)] [] g _
  refine z_iload_n C dJx4a65c_add_72be8_0 rfl 3 rfl ?_
  refine z_aload_n C dJx4a65c_add_72be8_1 rfl 2 rfl ?_
  refine z_lnA C okL_ok1 dJx4a65c_add_72be8_2 bd (fun x1 => ?_)
  refine X.join (τ := ((Option Nat) × HP)) 11 (fun q4 => [(0, vR (some b)), (1, vR s1), (2, vR q4.1), (3, vI s3)]) (fun q4 => []) (fun q4 => q4.2) (fun q4 => ?_) (fun hj11 => ?_)
  · refine z_aload_n C dJx4a65c_add_72be8_11 rfl 2 rfl ?_
    refine z_iload_n C dJx4a65c_add_72be8_12 rfl 3 rfl ?_
    refine z_aload_n C dJx4a65c_add_72be8_13 rfl 1 rfl ?_
    refine z_stA C rfl dJx4a65c_add_72be8_14 bd (fun g5 => ?_)
    refine z_aload_n C dJx4a65c_add_72be8_15 rfl 0 rfl ?_
    refine z_iload_n C dJx4a65c_add_72be8_16 rfl 3 rfl ?_
    refine z_iconst C dJx4a65c_add_72be8_17 (v := 1) (by decide) ?_
    refine z_iadd C dJx4a65c_add_72be8_18 ?_
    refine z_pfI C cf0 2 (by decide) rfl rfl rfl (Or.inl rfl) dJx4a65c_add_72be8_19 kt49 (fun _ h => h) bd (fun g6 => ?_)
    exact z_vret C Z rfl dJx4a65c_add_72be8_22 (fun h => by cases h; rfl)
  · refine X.conv bi ?_
    refine z_icmp_ne C dJx4a65c_add_72be8_3 (tgt := 11) rfl it jf ?_ ?_
    · refine z_aload_n C dJx4a65c_add_72be8_6 rfl 0 rfl ?_
      refine X.conv bb ?_
      refine z_rcv bd (fun b2 hbb2 htb2 => ?_)
      have heb2 := Option.some.inj hbb2
      subst heb2
      refine X.conv bb ?_
      refine z_callV C cf0 mf_Jx4a65c_grow_d5877 kt138 (gtbl_priv (j := 1) rfl rfl) kt136 (k_Jx4a65c_grow_d5877 (gL Γ) (gK Γ) b g) htb2 rfl ⟨Nat.le_of_ble_eq_true rfl, Nat.le_of_ble_eq_true rfl⟩ (rest := []) rfl (Nat.le_of_ble_eq_true rfl) dJx4a65c_add_72be8_7 (bdRg) (contRg fun v3 => ?_)
      refine z_astore_n (L' := [(2, vR v3.1), (0, vR (some b)), (1, vR s1), (3, vI s3)]) C dJx4a65c_add_72be8_10 rfl (by decide) rfl ?_
      refine z_lsub [1, 2, 0, 3] rfl ?_
      exact hj11 (v3.1, v3.2)
    · refine z_lsub [0, 1, 2, 3] rfl ?_
      exact hj11 (s2, g)
theorem k_Jx4a65c_add_9ea2d (l : Launch) (κ : KK) (b : Nat) (s1 : Option Nat) (g : HP) : MA l κ Pi1 yJx4a65c_add_9ea2d cJx4a65c_add_9ea2d 2 (some .boolean) 6 170 [vR (some b), vR s1] g (wIg (f_Jx4a65c_add_9ea2d (kE κ) (kM κ) b s1 g)) := by
  refine MA_of (PO_Pic1 κ) mf_Jx4a65c_add_9ea2d (fun a ha => wIg_mono (f_Jx4a65c_add_9ea2d_mono (kE κ) (kM κ) b s1 g) a ha) (Nat.le_of_ble_eq_true rfl) ?_
  intro Γ fin hfin hl hk hin C0 Z0
  subst hl
  subst hk
  obtain ⟨v0, hv, rfl⟩ := wIg_some hfin
  have C : CX Γ cJx4a65c_add_9ea2d 2 "java/util/ArrayList" Pi1 okAll 6 170 := C0
  have Z : RX Γ Pi1 (some .boolean) (some (vI v0.1), v0.2) := Z0
  refine X.conv (fun _ => hv) ?_
  unfold f_Jx4a65c_add_9ea2d
  show X Γ 0 [(0, vR (some b)), (1, vR s1)] [] g _
  refine z_aload_n C dJx4a65c_add_9ea2d_0 rfl 0 rfl ?_
  refine z_dup C dJx4a65c_add_9ea2d_1 rfl ?_
  refine z_gfI C cf0 0 (by decide) rfl rfl dJx4a65c_add_9ea2d_2 kt51 (fun x9 h9 => u_same (C.hts _ kt52) x9 h9) bd (fun x1 => ?_)
  refine z_iconst C dJx4a65c_add_9ea2d_5 (v := 1) (by decide) ?_
  refine z_iadd C dJx4a65c_add_9ea2d_6 ?_
  refine z_pfI C cf0 0 (by decide) rfl rfl rfl (Or.inl rfl) dJx4a65c_add_9ea2d_7 kt51 (fun x9 h9 => u_same (C.hts _ kt52) x9 h9) bd (fun g2 => ?_)
  refine z_aload_n C dJx4a65c_add_9ea2d_10 rfl 0 rfl ?_
  refine z_aload_n C dJx4a65c_add_9ea2d_11 rfl 1 rfl ?_
  refine z_aload_n C dJx4a65c_add_9ea2d_12 rfl 0 rfl ?_
  refine z_gfR C cf0 1 (by decide) rfl rfl dJx4a65c_add_9ea2d_13 kt48 (fun _ h => h) bd (fun r3 => ?_)
  refine z_aload_n C dJx4a65c_add_9ea2d_16 rfl 0 rfl ?_
  refine z_gfI C cf0 2 (by decide) rfl rfl dJx4a65c_add_9ea2d_17 kt49 (fun _ h => h) bd (fun x4 => ?_)
  refine z_rcv bd (fun b5 hbb5 htb5 => ?_)
  have heb5 := Option.some.inj hbb5
  subst heb5
  refine z_callV C cf0 mf_Jx4a65c_add_72be8 kt134 (gtbl_priv (j := 0) rfl rfl) kt132 (k_Jx4a65c_add_72be8 (gL Γ) (gK Γ) b s1 r3 x4 g2) htb5 rfl ⟨Nat.le_of_ble_eq_true rfl, Nat.le_of_ble_eq_true rfl⟩ (rest := []) rfl (Nat.le_of_ble_eq_true rfl) dJx4a65c_add_9ea2d_20 (bdVg) (contVg fun g6 => ?_)
  refine z_iconst C dJx4a65c_add_9ea2d_23 (v := 1) (by decide) ?_
  exact z_zret C Z rfl dJx4a65c_add_9ea2d_24 (fun _ => Or.inr rfl) (fun h => by cases h; rfl)
theorem k_Jx4a65c_rangeCheckForAdd_d00df (l : Launch) (κ : KK) (b : Nat) (s1 : Int32) (g : HP) : MA l κ Pi1 yJx4a65c_rangeCheckForAdd_d00df cJx4a65c_rangeCheckForAdd_d00df 2 none 0 0 [vR (some b), vI s1] g (wVg (f_Jx4a65c_rangeCheckForAdd_d00df (kE κ) (kM κ) b s1 g)) := by
  refine MA_of (PO_Pic1 κ) mf_Jx4a65c_rangeCheckForAdd_d00df (fun a ha => wVg_mono (f_Jx4a65c_rangeCheckForAdd_d00df_mono (kE κ) (kM κ) b s1 g) a ha) (Nat.le_of_ble_eq_true rfl) ?_
  intro Γ fin hfin hl hk hin C0 Z0
  subst hl
  subst hk
  obtain ⟨v0, hv, rfl⟩ := wVg_some hfin
  have C : CX Γ cJx4a65c_rangeCheckForAdd_d00df 2 "java/util/ArrayList" Pi1 okAll 0 0 := C0
  have Z : RX Γ Pi1 none (none, v0) := Z0
  refine X.conv (fun _ => hv) ?_
  unfold f_Jx4a65c_rangeCheckForAdd_d00df
  show X Γ 0 [(0, vR (some b)), (1, vI s1)] [] g _
  refine z_iload_n C dJx4a65c_rangeCheckForAdd_d00df_0 rfl 1 rfl ?_
  refine z_aload_n C dJx4a65c_rangeCheckForAdd_d00df_1 rfl 0 rfl ?_
  refine z_gfI C cf0 2 (by decide) rfl rfl dJx4a65c_rangeCheckForAdd_d00df_2 kt49 (fun _ h => h) bd (fun x1 => ?_)
  refine z_icmp_gt C dJx4a65c_rangeCheckForAdd_d00df_5 (tgt := 12) rfl it jf ?_ ?_
  · exact X.no no0
  · refine z_iload_n C dJx4a65c_rangeCheckForAdd_d00df_8 rfl 1 rfl ?_
    refine z_if_ge C dJx4a65c_rangeCheckForAdd_d00df_9 (tgt := 25) rfl it jf ?_ ?_
    · exact z_vret C Z rfl dJx4a65c_rangeCheckForAdd_d00df_25 (fun h => by cases h; rfl)
    · exact X.no no0
theorem k_Jx4a65c_add_7a177 (l : Launch) (κ : KK) (b : Nat) (s1 : Int32) (s2 : Option Nat) (g : HP) : MA l κ Pi1 yJx4a65c_add_7a177 cJx4a65c_add_7a177 5 none 5 147 [vR (some b), vI s1, vR s2] g (wVg (f_Jx4a65c_add_7a177 (kE κ) (kM κ) b s1 s2 g)) := by
  refine MA_of (PO_Pic1 κ) mf_Jx4a65c_add_7a177 (fun a ha => wVg_mono (f_Jx4a65c_add_7a177_mono (kE κ) (kM κ) b s1 s2 g) a ha) (Nat.le_of_ble_eq_true rfl) ?_
  intro Γ fin hfin hl hk hin C0 Z0
  subst hl
  subst hk
  obtain ⟨v0, hv, rfl⟩ := wVg_some hfin
  have C : CX Γ cJx4a65c_add_7a177 5 "java/util/ArrayList" Pi1 okAll 5 147 := C0
  have Z : RX Γ Pi1 none (none, v0) := Z0
  refine X.conv (fun _ => hv) ?_
  unfold f_Jx4a65c_add_7a177
  show X Γ 0 [(0, vR (some b)), (1, vI s1), (2, vR s2)] [] g _
  refine z_aload_n C dJx4a65c_add_7a177_0 rfl 0 rfl ?_
  refine z_iload_n C dJx4a65c_add_7a177_1 rfl 1 rfl ?_
  refine z_rcv bd (fun b1 hbb1 htb1 => ?_)
  have heb1 := Option.some.inj hbb1
  subst heb1
  refine z_callV C cf0 mf_Jx4a65c_rangeCheckForAdd_d00df kt480 (gtbl_priv (j := 7) rfl rfl) kt478 (k_Jx4a65c_rangeCheckForAdd_d00df (gL Γ) (gK Γ) b s1 g) htb1 rfl ⟨Nat.le_of_ble_eq_true rfl, Nat.le_of_ble_eq_true rfl⟩ (rest := []) rfl (Nat.le_of_ble_eq_true rfl) dJx4a65c_add_7a177_2 (bdVg) (contVg fun g2 => ?_)
  refine z_aload_n C dJx4a65c_add_7a177_5 rfl 0 rfl ?_
  refine z_dup C dJx4a65c_add_7a177_6 rfl ?_
  refine z_gfI C cf0 0 (by decide) rfl rfl dJx4a65c_add_7a177_7 kt51 (fun x9 h9 => u_same (C.hts _ kt52) x9 h9) bd (fun x3 => ?_)
  refine z_iconst C dJx4a65c_add_7a177_10 (v := 1) (by decide) ?_
  refine z_iadd C dJx4a65c_add_7a177_11 ?_
  refine z_pfI C cf0 0 (by decide) rfl rfl rfl (Or.inl rfl) dJx4a65c_add_7a177_12 kt51 (fun x9 h9 => u_same (C.hts _ kt52) x9 h9) bd (fun g4 => ?_)
  refine z_aload_n C dJx4a65c_add_7a177_15 rfl 0 rfl ?_
  refine z_gfI C cf0 2 (by decide) rfl rfl dJx4a65c_add_7a177_16 kt49 (fun _ h => h) bd (fun x5 => ?_)
  refine z_dup C dJx4a65c_add_7a177_19 rfl ?_
  refine z_istore_n (L' := [(3, vI x5), (0, vR (some b)), (1, vI s1), (2, vR s2)]) C dJx4a65c_add_7a177_20 rfl (by decide) rfl ?_
  refine z_aload_n C dJx4a65c_add_7a177_21 rfl 1 rfl ?_
  refine z_gfR C cf0 1 (by decide) rfl rfl dJx4a65c_add_7a177_22 kt48 (fun _ h => h) bd (fun r6 => ?_)
  refine z_dup C dJx4a65c_add_7a177_25 rfl ?_
  refine z_astore (L' := [(4, vR r6), (3, vI x5), (0, vR (some b)), (1, vI s1), (2, vR s2)]) C dJx4a65c_add_7a177_26 (by decide) rfl ?_
  refine z_lnA C okL_ok1 dJx4a65c_add_7a177_28 bd (fun x7 => ?_)
  refine X.join (τ := ((Option Nat) × HP)) 38 (fun q10 => [(0, vR (some b)), (1, vI s1), (2, vR s2), (3, vI x5), (4, vR q10.1)]) (fun q10 => []) (fun q10 => q10.2) (fun q10 => ?_) (fun hj38 => ?_)
  · refine z_aload C dJx4a65c_add_7a177_38 4 rfl ?_
    refine z_iload_n C dJx4a65c_add_7a177_40 rfl 1 rfl ?_
    refine z_aload C dJx4a65c_add_7a177_41 4 rfl ?_
    refine z_iload_n C dJx4a65c_add_7a177_43 rfl 1 rfl ?_
    refine z_iconst C dJx4a65c_add_7a177_44 (v := 1) (by decide) ?_
    refine z_iadd C dJx4a65c_add_7a177_45 ?_
    refine z_iload_n C dJx4a65c_add_7a177_46 rfl 3 rfl ?_
    refine z_iload_n C dJx4a65c_add_7a177_47 rfl 1 rfl ?_
    refine z_isub C dJx4a65c_add_7a177_48 ?_
    refine z_cpA C rfl kt482 kwCn kwCs kwCi (by decide) (by show _ + (nativeFrameWords "java/lang/System" "arraycopy" 5 + 11) ≤ _; exact Nat.le_of_ble_eq_true (by rfl)) dJx4a65c_add_7a177_49 bd (fun g11 => ?_)
    refine z_aload C dJx4a65c_add_7a177_52 4 rfl ?_
    refine z_iload_n C dJx4a65c_add_7a177_54 rfl 1 rfl ?_
    refine z_aload_n C dJx4a65c_add_7a177_55 rfl 2 rfl ?_
    refine z_stA C rfl dJx4a65c_add_7a177_56 bd (fun g12 => ?_)
    refine z_aload_n C dJx4a65c_add_7a177_57 rfl 0 rfl ?_
    refine z_iload_n C dJx4a65c_add_7a177_58 rfl 3 rfl ?_
    refine z_iconst C dJx4a65c_add_7a177_59 (v := 1) (by decide) ?_
    refine z_iadd C dJx4a65c_add_7a177_60 ?_
    refine z_pfI C cf0 2 (by decide) rfl rfl rfl (Or.inl rfl) dJx4a65c_add_7a177_61 kt49 (fun _ h => h) bd (fun g13 => ?_)
    exact z_vret C Z rfl dJx4a65c_add_7a177_64 (fun h => by cases h; rfl)
  · refine X.conv bi ?_
    refine z_icmp_ne C dJx4a65c_add_7a177_29 (tgt := 38) rfl it jf ?_ ?_
    · refine z_aload_n C dJx4a65c_add_7a177_32 rfl 2 rfl ?_
      refine X.conv bb ?_
      refine z_rcv bd (fun b8 hbb8 htb8 => ?_)
      have heb8 := Option.some.inj hbb8
      subst heb8
      refine X.conv bb ?_
      refine z_callV C cf0 mf_Jx4a65c_grow_d5877 kt138 (gtbl_priv (j := 1) rfl rfl) kt136 (k_Jx4a65c_grow_d5877 (gL Γ) (gK Γ) b g4) htb8 rfl ⟨Nat.le_of_ble_eq_true rfl, Nat.le_of_ble_eq_true rfl⟩ (rest := []) rfl (Nat.le_of_ble_eq_true rfl) dJx4a65c_add_7a177_33 (bdRg) (contRg fun v9 => ?_)
      refine z_astore (L' := [(4, vR v9.1), (3, vI x5), (0, vR (some b)), (1, vI s1), (2, vR s2)]) C dJx4a65c_add_7a177_36 (by decide) rfl ?_
      refine z_lsub [2, 3, 4, 1, 0] rfl ?_
      exact hj38 (v9.1, v9.2)
    · refine z_lsub [2, 3, 4, 1, 0] rfl ?_
      exact hj38 (r6, g4)
theorem k_Jx4a65c_fastRemove_b59b0 (l : Launch) (κ : KK) (b : Nat) (s1 : Option Nat) (s2 : Int32) (g : HP) : MA l κ Pi1 yJx4a65c_fastRemove_b59b0 cJx4a65c_fastRemove_b59b0 4 none 1 60 [vR (some b), vR s1, vI s2] g (wVg (f_Jx4a65c_fastRemove_b59b0 (kE κ) (kM κ) b s1 s2 g)) := by
  refine MA_of (PO_Pic1 κ) mf_Jx4a65c_fastRemove_b59b0 (fun a ha => wVg_mono (f_Jx4a65c_fastRemove_b59b0_mono (kE κ) (kM κ) b s1 s2 g) a ha) (Nat.le_of_ble_eq_true rfl) ?_
  intro Γ fin hfin hl hk hin C0 Z0
  subst hl
  subst hk
  obtain ⟨v0, hv, rfl⟩ := wVg_some hfin
  have C : CX Γ cJx4a65c_fastRemove_b59b0 4 "java/util/ArrayList" Pi1 okAll 1 60 := C0
  have Z : RX Γ Pi1 none (none, v0) := Z0
  refine X.conv (fun _ => hv) ?_
  unfold f_Jx4a65c_fastRemove_b59b0
  show X Γ 0 [(0, vR (some b)), (1, vR s1), (2, vI s2)] [] g _
  refine z_aload_n C dJx4a65c_fastRemove_b59b0_0 rfl 0 rfl ?_
  refine z_dup C dJx4a65c_fastRemove_b59b0_1 rfl ?_
  refine z_gfI C cf0 0 (by decide) rfl rfl dJx4a65c_fastRemove_b59b0_2 kt51 (fun x9 h9 => u_same (C.hts _ kt52) x9 h9) bd (fun x1 => ?_)
  refine z_iconst C dJx4a65c_fastRemove_b59b0_5 (v := 1) (by decide) ?_
  refine z_iadd C dJx4a65c_fastRemove_b59b0_6 ?_
  refine z_pfI C cf0 0 (by decide) rfl rfl rfl (Or.inl rfl) dJx4a65c_fastRemove_b59b0_7 kt51 (fun x9 h9 => u_same (C.hts _ kt52) x9 h9) bd (fun g2 => ?_)
  refine z_aload_n C dJx4a65c_fastRemove_b59b0_10 rfl 0 rfl ?_
  refine z_gfI C cf0 2 (by decide) rfl rfl dJx4a65c_fastRemove_b59b0_11 kt49 (fun _ h => h) bd (fun x3 => ?_)
  refine z_iconst C dJx4a65c_fastRemove_b59b0_14 (v := 1) (by decide) ?_
  refine z_isub C dJx4a65c_fastRemove_b59b0_15 ?_
  refine z_dup C dJx4a65c_fastRemove_b59b0_16 rfl ?_
  refine z_istore_n (L' := [(3, vI (x3 - 1)), (0, vR (some b)), (1, vR s1), (2, vI s2)]) C dJx4a65c_fastRemove_b59b0_17 rfl (by decide) rfl ?_
  refine z_iload_n C dJx4a65c_fastRemove_b59b0_18 rfl 3 rfl ?_
  refine X.join (τ := HP) 34 (fun q5 => [(0, vR (some b)), (1, vR s1), (3, vI (x3 - 1))]) (fun q5 => []) (fun q5 => q5) (fun q5 => ?_) (fun hj34 => ?_)
  · refine z_aload_n C dJx4a65c_fastRemove_b59b0_34 rfl 1 rfl ?_
    refine z_aload_n C dJx4a65c_fastRemove_b59b0_35 rfl 0 rfl ?_
    refine z_iload_n C dJx4a65c_fastRemove_b59b0_36 rfl 2 rfl ?_
    refine z_dup_x1 C dJx4a65c_fastRemove_b59b0_37 rfl rfl ?_
    refine z_pfI C cf0 2 (by decide) rfl rfl rfl (Or.inl rfl) dJx4a65c_fastRemove_b59b0_38 kt49 (fun _ h => h) bd (fun g6 => ?_)
    refine z_null C dJx4a65c_fastRemove_b59b0_41 ?_
    refine z_stA C rfl dJx4a65c_fastRemove_b59b0_42 bd (fun g7 => ?_)
    exact z_vret C Z rfl dJx4a65c_fastRemove_b59b0_43 (fun h => by cases h; rfl)
  · refine X.conv bi ?_
    refine z_icmp_le C dJx4a65c_fastRemove_b59b0_19 (tgt := 34) rfl it jf ?_ ?_
    · refine z_lsub [1, 2, 0] rfl ?_
      exact hj34 g2
    · refine z_aload_n C dJx4a65c_fastRemove_b59b0_22 rfl 2 rfl ?_
      refine z_iload_n C dJx4a65c_fastRemove_b59b0_23 rfl 3 rfl ?_
      refine z_iconst C dJx4a65c_fastRemove_b59b0_24 (v := 1) (by decide) ?_
      refine z_iadd C dJx4a65c_fastRemove_b59b0_25 ?_
      refine z_aload_n C dJx4a65c_fastRemove_b59b0_26 rfl 2 rfl ?_
      refine z_iload_n C dJx4a65c_fastRemove_b59b0_27 rfl 3 rfl ?_
      refine z_iload_n C dJx4a65c_fastRemove_b59b0_28 rfl 0 rfl ?_
      refine z_iload_n C dJx4a65c_fastRemove_b59b0_29 rfl 3 rfl ?_
      refine z_isub C dJx4a65c_fastRemove_b59b0_30 ?_
      refine X.conv bb ?_
      refine z_cpA C rfl kt482 kwCn kwCs kwCi (by decide) (by show _ + (nativeFrameWords "java/lang/System" "arraycopy" 5 + 11) ≤ _; exact Nat.le_of_ble_eq_true (by rfl)) dJx4a65c_fastRemove_b59b0_31 bd (fun g4 => ?_)
      refine z_lsub [1, 2, 0] rfl ?_
      exact hj34 g4
theorem k_Jx4a65c_remove_915e3 (l : Launch) (κ : KK) (b : Nat) (s1 : Int32) (g : HP) : MA l κ Pi1 yJx4a65c_remove_915e3 cJx4a65c_remove_915e3 4 (some (.object "java/lang/Object")) 2 83 [vR (some b), vI s1] g (wRg (f_Jx4a65c_remove_915e3 (kE κ) (kM κ) b s1 g)) := by
  refine MA_of (PO_Pic1 κ) mf_Jx4a65c_remove_915e3 (fun a ha => wRg_mono (f_Jx4a65c_remove_915e3_mono (kE κ) (kM κ) b s1 g) a ha) (Nat.le_of_ble_eq_true rfl) ?_
  intro Γ fin hfin hl hk hin C0 Z0
  subst hl
  subst hk
  obtain ⟨v0, hv, rfl⟩ := wRg_some hfin
  have C : CX Γ cJx4a65c_remove_915e3 4 "java/util/ArrayList" Pi1 okAll 2 83 := C0
  have Z : RX Γ Pi1 (some (.object "java/lang/Object")) (some (vR v0.1), v0.2) := Z0
  refine X.conv (fun _ => hv) ?_
  unfold f_Jx4a65c_remove_915e3
  show X Γ 0 [(0, vR (some b)), (1, vI s1)] [] g _
  refine z_iload_n C dJx4a65c_remove_915e3_0 rfl 1 rfl ?_
  refine z_aload_n C dJx4a65c_remove_915e3_1 rfl 0 rfl ?_
  refine z_gfI C cf0 2 (by decide) rfl rfl dJx4a65c_remove_915e3_2 kt49 (fun _ h => h) bd (fun x1 => ?_)
  refine z_callSX C mf_J15_checkIndex_7cf53 kt269 kt268 (k_J15_checkIndex_7cf53 (gL Γ) (gK Γ) s1 x1 g) rfl ⟨Nat.le_of_ble_eq_true rfl, Nat.le_of_ble_eq_true rfl⟩ (rest := []) rfl (Nat.le_of_ble_eq_true rfl) dJx4a65c_remove_915e3_5 (bdI) (contI fun x2 => ?_)
  refine z_pop C dJx4a65c_remove_915e3_8 rfl ?_
  refine z_aload_n C dJx4a65c_remove_915e3_9 rfl 0 rfl ?_
  refine z_gfR C cf0 1 (by decide) rfl rfl dJx4a65c_remove_915e3_10 kt48 (fun _ h => h) bd (fun r3 => ?_)
  refine z_astore_n (L' := [(2, vR r3), (0, vR (some b)), (1, vI s1)]) C dJx4a65c_remove_915e3_13 rfl (by decide) rfl ?_
  refine z_aload_n C dJx4a65c_remove_915e3_14 rfl 0 rfl ?_
  refine z_iload_n C dJx4a65c_remove_915e3_15 rfl 2 rfl ?_
  refine z_ldA C okA_okAll dJx4a65c_remove_915e3_16 bd (fun r4 => ?_)
  refine z_astore_n (L' := [(3, vR r4), (2, vR r3), (0, vR (some b)), (1, vI s1)]) C dJx4a65c_remove_915e3_17 rfl (by decide) rfl ?_
  refine z_aload_n C dJx4a65c_remove_915e3_18 rfl 2 rfl ?_
  refine z_aload_n C dJx4a65c_remove_915e3_19 rfl 1 rfl ?_
  refine z_iload_n C dJx4a65c_remove_915e3_20 rfl 3 rfl ?_
  refine z_rcv bd (fun b5 hbb5 htb5 => ?_)
  have heb5 := Option.some.inj hbb5
  subst heb5
  refine z_callV C cf0 mf_Jx4a65c_fastRemove_b59b0 kt599 (gtbl_priv (j := 11) rfl rfl) kt597 (k_Jx4a65c_fastRemove_b59b0 (gL Γ) (gK Γ) b r3 s1 g) htb5 rfl ⟨Nat.le_of_ble_eq_true rfl, Nat.le_of_ble_eq_true rfl⟩ (rest := []) rfl (Nat.le_of_ble_eq_true rfl) dJx4a65c_remove_915e3_21 (bdVg) (contVg fun g6 => ?_)
  refine z_aload_n C dJx4a65c_remove_915e3_24 rfl 0 rfl ?_
  exact z_aret C Z rfl (Or.inl ⟨_, rfl⟩) dJx4a65c_remove_915e3_25 (fun h => by cases h; rfl)
theorem k_Jx4a65c_clear_da8c8_L27 {Γ : GG} {β : Type} {fin0 : β} {F0 : HP → Option β} (C : CX Γ cJx4a65c_clear_da8c8 4 "java/util/ArrayList" Pi1 okAll 0 0) (p27_1 : Option Nat) (p27_2 : Int32) (hexit : ∀ q27 : HP, X Γ 42 [] [] q27 (F0 q27 = some fin0)) : ∀ (m27 : Nat) (u27_3 : Int32) (w27 : HP), X Γ 27 [(1, vR p27_1), (2, vI p27_2), (3, vI u27_3)] [] w27 ((f_Jx4a65c_clear_da8c8_L27 p27_1 p27_2 m27 u27_3 w27).bind F0 = some fin0) := by
  intro m27
  induction m27 with
  | zero =>
    intro u27_3 w27
    exact X.no no1
  | succ m27 ih =>
    intro u27_3 w27
    unfold f_Jx4a65c_clear_da8c8_L27
    refine z_iload_n C dJx4a65c_clear_da8c8_27 rfl 2 rfl ?_
    refine z_iload_n C dJx4a65c_clear_da8c8_28 rfl 1 rfl ?_
    refine X.conv bi ?_
    refine z_icmp_ge C dJx4a65c_clear_da8c8_29 (tgt := 42) rfl it jf ?_ ?_
    · refine z_lsub [] rfl ?_
      exact hexit w27
    · refine z_aload_n C dJx4a65c_clear_da8c8_32 rfl 0 rfl ?_
      refine z_iload_n C dJx4a65c_clear_da8c8_33 rfl 2 rfl ?_
      refine z_null C dJx4a65c_clear_da8c8_34 ?_
      refine X.conv bb ?_
      refine z_stA C rfl dJx4a65c_clear_da8c8_35 bd (fun g6 => ?_)
      refine z_iinc (L' := [(3, vI (u27_3 + 1)), (1, vR p27_1), (2, vI p27_2)]) C dJx4a65c_clear_da8c8_36 2 rfl (v := u27_3 + 1) rfl (by decide) rfl ?_
      refine z_goto C dJx4a65c_clear_da8c8_39 (tgt := 27) rfl ?_
      refine z_lsub [1, 2, 0] rfl ?_
      exact ih (u27_3 + 1) g6
theorem k_Jx4a65c_clear_da8c8 (l : Launch) (κ : KK) (b : Nat) (g : HP) : MA l κ Pi1 yJx4a65c_clear_da8c8 cJx4a65c_clear_da8c8 4 none 0 0 [vR (some b)] g (wVg (f_Jx4a65c_clear_da8c8 (kE κ) (kM κ) b g)) := by
  refine MA_of (PO_Pic1 κ) mf_Jx4a65c_clear_da8c8 (fun a ha => wVg_mono (f_Jx4a65c_clear_da8c8_mono (kE κ) (kM κ) b g) a ha) (Nat.le_of_ble_eq_true rfl) ?_
  intro Γ fin hfin hl hk hin C0 Z0
  subst hl
  subst hk
  obtain ⟨v0, hv, rfl⟩ := wVg_some hfin
  have C : CX Γ cJx4a65c_clear_da8c8 4 "java/util/ArrayList" Pi1 okAll 0 0 := C0
  have Z : RX Γ Pi1 none (none, v0) := Z0
  refine X.conv (fun _ => hv) ?_
  unfold f_Jx4a65c_clear_da8c8
  show X Γ 0 [(0, vR (some b))] [] g _
  refine z_aload_n C dJx4a65c_clear_da8c8_0 rfl 0 rfl ?_
  refine z_dup C dJx4a65c_clear_da8c8_1 rfl ?_
  refine z_gfI C cf0 0 (by decide) rfl rfl dJx4a65c_clear_da8c8_2 kt51 (fun x9 h9 => u_same (C.hts _ kt52) x9 h9) bd (fun x1 => ?_)
  refine z_iconst C dJx4a65c_clear_da8c8_5 (v := 1) (by decide) ?_
  refine z_iadd C dJx4a65c_clear_da8c8_6 ?_
  refine z_pfI C cf0 0 (by decide) rfl rfl rfl (Or.inl rfl) dJx4a65c_clear_da8c8_7 kt51 (fun x9 h9 => u_same (C.hts _ kt52) x9 h9) bd (fun g2 => ?_)
  refine z_aload_n C dJx4a65c_clear_da8c8_10 rfl 0 rfl ?_
  refine z_gfR C cf0 1 (by decide) rfl rfl dJx4a65c_clear_da8c8_11 kt48 (fun _ h => h) bd (fun r3 => ?_)
  refine z_astore_n (L' := [(1, vR r3), (0, vR (some b))]) C dJx4a65c_clear_da8c8_14 rfl (by decide) rfl ?_
  refine z_aload_n C dJx4a65c_clear_da8c8_15 rfl 1 rfl ?_
  refine z_gfI C cf0 2 (by decide) rfl rfl dJx4a65c_clear_da8c8_16 kt49 (fun _ h => h) bd (fun x4 => ?_)
  refine z_istore_n (L' := [(2, vI x4), (1, vR r3), (0, vR (some b))]) C dJx4a65c_clear_da8c8_19 rfl (by decide) rfl ?_
  refine z_aload_n C dJx4a65c_clear_da8c8_20 rfl 2 rfl ?_
  refine z_iconst C dJx4a65c_clear_da8c8_21 (v := 0) (by decide) ?_
  refine z_dup_x1 C dJx4a65c_clear_da8c8_22 rfl rfl ?_
  refine z_pfI C cf0 2 (by decide) rfl rfl rfl (Or.inl rfl) dJx4a65c_clear_da8c8_23 kt49 (fun _ h => h) bd (fun g5 => ?_)
  refine z_istore_n (L' := [(3, vI 0), (2, vI x4), (1, vR r3), (0, vR (some b))]) C dJx4a65c_clear_da8c8_26 rfl (by decide) rfl ?_
  refine z_lsub [2, 1, 0] rfl ?_
  refine k_Jx4a65c_clear_da8c8_L27 C r3 x4 (fun q7 => ?_) FU 0 g5
  exact z_vret C Z rfl dJx4a65c_clear_da8c8_42 (fun h => by cases h; rfl)
end
