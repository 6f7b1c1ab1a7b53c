theorem f_X6_init_mono (b : Nat) (g : HP) : Mono g id (f_X6_init b g) := by
  unfold f_X6_init
  refine mo_new (t := 31) (n := 3) (il := []) (ol := []) ?_
  refine mo_h (h0 := id) (al_init_mono _ _) (fun g1 => ?_)
  refine mo_h mo_pfR (fun g2 => ?_)
  exact mo_some rfl
theorem f_X0_init_mono (b : Nat) (s1 : Int32) (s2 : Int32) (g : HP) : Mono g id (f_X0_init b s1 s2 g) := by
  unfold f_X0_init
  refine mo_h mo_pfI (fun g1 => ?_)
  refine mo_new (t := 8) (n := 1) (il := []) (ol := []) ?_
  refine mo_h (h0 := id) (f_X6_init_mono _ _) (fun g2 => ?_)
  refine mo_h mo_pfR (fun g3 => ?_)
  refine mo_new (t := 31) (n := 3) (il := []) (ol := []) ?_
  refine mo_h (h0 := id) (al_init_mono _ _) (fun g4 => ?_)
  refine mo_h mo_pfR (fun g5 => ?_)
  refine mo_h mo_pfI (fun g6 => ?_)
  refine mo_h mo_pfI (fun g7 => ?_)
  exact mo_some rfl
theorem f_X1_drop_L2_mono (p2_0 : Nat) (p2_1 : Option Nat) (w2 : HP) : ∀ (m2 : Nat) (u2_2 : Int32), Mono w2 id (f_X1_drop_L2 p2_0 p2_1 w2 m2 u2_2) := by
  intro m2
  induction m2 with
  | zero =>
    intro u2_2
    exact mo_none
  | succ m2 ih =>
    intro u2_2
    unfold f_X1_drop_L2
    refine mo_p (fun r1 => ?_)
    refine mo_p (fun b2 => ?_)
    refine mo_p (fun x3 => ?_)
    refine mo_ite ?_ ?_
    · exact mo_some rfl
    · refine mo_p (fun r4 => ?_)
      refine mo_p (fun b5 => ?_)
      refine mo_p (fun r6 => ?_)
      refine mo_ite ?_ ?_
      · refine mo_p (fun r7 => ?_)
        refine mo_p (fun b8 => ?_)
        refine mo_h (h0 := (fun v => v.2)) (al_remove_mono _ _ _) (fun v9 => ?_)
        exact mo_some rfl
      · exact ih _
theorem f_X1_drop_mono (b : Nat) (s1 : Option Nat) (g : HP) : Mono g id (f_X1_drop b s1 g) := by
  unfold f_X1_drop
  exact f_X1_drop_L2_mono _ _ _ _ _
theorem f_X4_release_mono (b : Nat) (g : HP) : Mono g id (f_X4_release b g) := by
  unfold f_X4_release
  refine mo_p (fun r1 => ?_)
  refine mo_ite ?_ ?_
  · exact mo_some rfl
  · refine mo_p (fun r2 => ?_)
    refine mo_p (fun b3 => ?_)
    refine mo_h (h0 := id) (f_X1_drop_mono _ _ _) (fun g4 => ?_)
    refine mo_h mo_pfR (fun g5 => ?_)
    exact mo_some rfl
theorem f_X0_forgetPieces_L2_mono (p2_0 : Nat) : ∀ (m2 : Nat) (u2_1 : Int32) (w2 : HP), Mono w2 (fun v => v) (f_X0_forgetPieces_L2 p2_0 m2 u2_1 w2) := by
  intro m2
  induction m2 with
  | zero =>
    intro u2_1 w2
    exact mo_none
  | succ m2 ih =>
    intro u2_1 w2
    unfold f_X0_forgetPieces_L2
    refine mo_p (fun r1 => ?_)
    refine mo_p (fun b2 => ?_)
    refine mo_p (fun x3 => ?_)
    refine mo_ite ?_ ?_
    · exact mo_some rfl
    · refine mo_p (fun r4 => ?_)
      refine mo_p (fun b5 => ?_)
      refine mo_p (fun r6 => ?_)
      refine mo_p (fun r7 => ?_)
      refine mo_p (fun b8 => ?_)
      refine mo_h (h0 := id) (f_X4_release_mono _ _) (fun g9 => ?_)
      exact ih _ _
theorem f_X0_forgetPieces_L42_mono (p42_0 : Nat) : ∀ (m42 : Nat) (u42_1 : Int32) (w42 : HP), Mono w42 (fun v => v) (f_X0_forgetPieces_L42 p42_0 m42 u42_1 w42) := by
  intro m42
  induction m42 with
  | zero =>
    intro u42_1 w42
    exact mo_none
  | succ m42 ih =>
    intro u42_1 w42
    unfold f_X0_forgetPieces_L42
    refine mo_p (fun r14 => ?_)
    refine mo_p (fun b15 => ?_)
    refine mo_p (fun x16 => ?_)
    refine mo_ite ?_ ?_
    · exact mo_some rfl
    · refine mo_p (fun r17 => ?_)
      refine mo_p (fun r18 => ?_)
      refine mo_p (fun b19 => ?_)
      refine mo_p (fun r20 => ?_)
      refine mo_p (fun r21 => ?_)
      refine mo_h mo_pfR (fun g22 => ?_)
      exact ih _ _
theorem f_X0_forgetPieces_mono (b : Nat) (g : HP) : Mono g id (f_X0_forgetPieces b g) := by
  unfold f_X0_forgetPieces
  refine mo_h (h0 := fun v => v) (f_X0_forgetPieces_L2_mono _ _ _ _) (fun q10 => ?_)
  refine mo_p (fun r11 => ?_)
  refine mo_p (fun b12 => ?_)
  refine mo_h (h0 := id) (al_clear_mono _ _) (fun g13 => ?_)
  refine mo_h (h0 := fun v => v) (f_X0_forgetPieces_L42_mono _ _ _ _) (fun q23 => ?_)
  exact mo_some rfl
theorem f_X0_addTrip_mono (b : Nat) (s1 : Option Nat) (g : HP) : Mono g id (f_X0_addTrip b s1 g) := by
  unfold f_X0_addTrip
  refine mo_p (fun b1 => ?_)
  refine mo_h (h0 := id) (f_X0_forgetPieces_mono _ _) (fun g2 => ?_)
  refine mo_p (fun r3 => ?_)
  refine mo_p (fun r4 => ?_)
  refine mo_p (fun b5 => ?_)
  refine mo_h (h0 := (fun v => v.2)) (al_add_mono _ _ _) (fun v6 => ?_)
  refine mo_h mo_pfR (fun g7 => ?_)
  exact mo_some rfl
theorem f_X0_removeLastTrip_mono (b : Nat) (g : HP) : Mono g (fun v => v.2) (f_X0_removeLastTrip b g) := by
  unfold f_X0_removeLastTrip
  refine mo_p (fun r1 => ?_)
  refine mo_p (fun b2 => ?_)
  refine mo_p (fun r3 => ?_)
  refine mo_ite ?_ ?_
  · exact mo_some rfl
  · refine mo_p (fun b4 => ?_)
    refine mo_h (h0 := id) (f_X0_forgetPieces_mono _ _) (fun g5 => ?_)
    refine mo_p (fun r6 => ?_)
    refine mo_p (fun r7 => ?_)
    refine mo_p (fun r8 => ?_)
    refine mo_p (fun b9 => ?_)
    refine mo_p (fun x10 => ?_)
    refine mo_p (fun b11 => ?_)
    refine mo_h (h0 := (fun v => v.2)) (al_remove_mono _ _ _) (fun v12 => ?_)
    refine mo_h mo_pfR (fun g13 => ?_)
    exact mo_some rfl
theorem f_X6_addPart_L7_mono (p7_0 : Nat) (p7_1 : Option Nat) (p7_3 : Int32) : ∀ (m7 : Nat) (u7_4 : Int32) (w7 : HP), Mono w7 (fun v => v) (f_X6_addPart_L7 p7_0 p7_1 p7_3 m7 u7_4 w7) := by
  intro m7
  induction m7 with
  | zero =>
    intro u7_4 w7
    exact mo_none
  | succ m7 ih =>
    intro u7_4 w7
    unfold f_X6_addPart_L7
    refine mo_ite ?_ ?_
    · exact mo_some rfl
    · refine mo_p (fun r1 => ?_)
      refine mo_p (fun b2 => ?_)
      refine mo_p (fun x3 => ?_)
      refine mo_ite ?_ ?_
      · exact mo_some rfl
      · refine mo_p (fun r4 => ?_)
        refine mo_p (fun r5 => ?_)
        refine mo_p (fun b6 => ?_)
        refine mo_p (fun r7 => ?_)
        refine mo_p (fun r8 => ?_)
        refine mo_p (fun b9 => ?_)
        refine mo_h (h0 := (fun v => v.2)) (al_add_mono _ _ _) (fun v10 => ?_)
        exact ih _ _
theorem f_X6_addPart_mono (b : Nat) (s1 : Option Nat) (s2 : Int32) (s3 : Int32) (g : HP) : Mono g id (f_X6_addPart b s1 s2 s3 g) := by
  unfold f_X6_addPart
  refine mo_h (h0 := fun v => v) (f_X6_addPart_L7_mono _ _ _ _ _ _) (fun q11 => ?_)
  exact mo_some rfl
theorem f_X6_copy_mono (b : Nat) (s1 : Option Nat) (g : HP) : Mono g id (f_X6_copy b s1 g) := by
  unfold f_X6_copy
  refine mo_p (fun r1 => ?_)
  refine mo_p (fun b2 => ?_)
  refine mo_h (h0 := id) (al_clear_mono _ _) (fun g3 => ?_)
  refine mo_p (fun b4 => ?_)
  refine mo_p (fun x5 => ?_)
  refine mo_p (fun b6 => ?_)
  refine mo_h (h0 := id) (f_X6_addPart_mono _ _ _ _ _) (fun g7 => ?_)
  exact mo_some rfl
theorem f_X0_takeOver_L14_mono (p14_0 : Nat) : ∀ (m14 : Nat) (u14_2 : Int32) (w14 : HP), Mono w14 (fun v => v) (f_X0_takeOver_L14 p14_0 m14 u14_2 w14) := by
  intro m14
  induction m14 with
  | zero =>
    intro u14_2 w14
    exact mo_none
  | succ m14 ih =>
    intro u14_2 w14
    unfold f_X0_takeOver_L14
    refine mo_p (fun r6 => ?_)
    refine mo_p (fun b7 => ?_)
    refine mo_p (fun x8 => ?_)
    refine mo_ite ?_ ?_
    · exact mo_some rfl
    · refine mo_p (fun r9 => ?_)
      refine mo_p (fun r10 => ?_)
      refine mo_p (fun b11 => ?_)
      refine mo_p (fun r12 => ?_)
      refine mo_p (fun r13 => ?_)
      refine mo_h mo_pfR (fun g14 => ?_)
      exact ih _ _
theorem f_X0_takeOver_mono (b : Nat) (s1 : Option Nat) (g : HP) : Mono g id (f_X0_takeOver b s1 g) := by
  unfold f_X0_takeOver
  refine mo_p (fun b1 => ?_)
  refine mo_h (h0 := id) (f_X0_forgetPieces_mono _ _) (fun g2 => ?_)
  refine mo_p (fun r3 => ?_)
  refine mo_p (fun b4 => ?_)
  refine mo_h (h0 := id) (f_X6_copy_mono _ _ _) (fun g5 => ?_)
  refine mo_h (h0 := fun v => v) (f_X0_takeOver_L14_mono _ _ _ _) (fun q15 => ?_)
  exact mo_some rfl
theorem f_X4_init_mono (b : Nat) (s1 : Int32) (s2 : Option Nat) (s3 : Option Nat) (s4 : Option Nat) (s5 : Int32) (g : HP) : Mono g id (f_X4_init b s1 s2 s3 s4 s5 g) := by
  unfold f_X4_init
  refine mo_h mo_pfI (fun g1 => ?_)
  refine mo_h mo_pfR (fun g2 => ?_)
  refine mo_h mo_pfR (fun g3 => ?_)
  refine mo_h mo_pfR (fun g4 => ?_)
  refine mo_h mo_pfI (fun g5 => ?_)
  exact mo_some rfl
theorem f_X0_addPiece_L70_mono (p70_0 : Nat) (p70_2 : Int32) (p70_5 : Option Nat) : ∀ (m70 : Nat) (u70_6 : Int32) (w70 : HP), Mono w70 (fun v => v) (f_X0_addPiece_L70 p70_0 p70_2 p70_5 m70 u70_6 w70) := by
  intro m70
  induction m70 with
  | zero =>
    intro u70_6 w70
    exact mo_none
  | succ m70 ih =>
    intro u70_6 w70
    unfold f_X0_addPiece_L70
    refine mo_ite ?_ ?_
    · exact mo_some rfl
    · refine mo_p (fun r15 => ?_)
      refine mo_p (fun r16 => ?_)
      refine mo_p (fun b17 => ?_)
      refine mo_p (fun r18 => ?_)
      refine mo_p (fun r19 => ?_)
      refine mo_h mo_pfR (fun g20 => ?_)
      exact ih _ _
theorem f_X0_addPiece_mono (b : Nat) (s1 : Int32) (s2 : Int32) (g : HP) : Mono g id (f_X0_addPiece b s1 s2 g) := by
  unfold f_X0_addPiece
  refine mo_p (fun r1 => ?_)
  refine mo_p (fun b2 => ?_)
  refine mo_p (fun r3 => ?_)
  refine mo_p (fun r4 => ?_)
  refine mo_p (fun b5 => ?_)
  refine mo_p (fun r6 => ?_)
  refine mo_ite ?_ ?_
  · exact mo_some rfl
  · refine mo_ite ?_ ?_
    · exact mo_some rfl
    · refine mo_new (t := 6) (n := 6) (il := []) (ol := []) ?_
      refine mo_p (fun r7 => ?_)
      refine mo_p (fun b8 => ?_)
      refine mo_p (fun x9 => ?_)
      refine mo_p (fun r10 => ?_)
      refine mo_h (h0 := id) (f_X4_init_mono _ _ _ _ _ _ _) (fun g11 => ?_)
      refine mo_p (fun r12 => ?_)
      refine mo_p (fun b13 => ?_)
      refine mo_h (h0 := (fun v => v.2)) (al_add_mono _ _ _) (fun v14 => ?_)
      refine mo_h (h0 := fun v => v) (f_X0_addPiece_L70_mono _ _ _ _ _ _) (fun q21 => ?_)
      exact mo_some rfl
theorem f_X0_cutAt_L9_mono (p9_0 : Nat) (p9_1 : Option Nat) (p9_2 : Int32) : ∀ (m9 : Nat) (u9_3 : Int32) (u9_4 : Int32) (w9 : HP), Mono w9 (fun v => v) (f_X0_cutAt_L9 p9_0 p9_1 p9_2 m9 u9_3 u9_4 w9) := by
  intro m9
  induction m9 with
  | zero =>
    intro u9_3 u9_4 w9
    exact mo_none
  | succ m9 ih =>
    intro u9_3 u9_4 w9
    unfold f_X0_cutAt_L9
    refine mo_ite ?_ ?_
    · exact mo_some rfl
    · refine mo_p (fun x3 => ?_)
      refine mo_ite ?_ ?_
      · exact mo_some rfl
      · refine mo_p (fun x4 => ?_)
        refine mo_p (fun b5 => ?_)
        refine mo_h (h0 := id) (f_X0_addPiece_mono _ _ _ _) (fun g6 => ?_)
        refine mo_p (fun x7 => ?_)
        exact ih _ _ _
theorem f_X0_cutAt_mono (b : Nat) (s1 : Option Nat) (s2 : Int32) (g : HP) : Mono g id (f_X0_cutAt b s1 s2 g) := by
  unfold f_X0_cutAt
  refine mo_p (fun b1 => ?_)
  refine mo_h (h0 := id) (f_X0_forgetPieces_mono _ _) (fun g2 => ?_)
  refine mo_h (h0 := fun v => v) (f_X0_cutAt_L9_mono _ _ _ _ _ _ _) (fun q8 => ?_)
  exact mo_some rfl
theorem f_X0_lostIf_L9_mono (p9_0 : Nat) (p9_1 : Int32) (p9_2 : Option Nat) (p9_3 : Int32) : ∀ (m9 : Nat) (u9_4 : Int32) (u9_5 : Option Nat) (u9_6 : Int32) (w9 : HP), Mono w9 (fun v => v.2) (f_X0_lostIf_L9 p9_0 p9_1 p9_2 p9_3 m9 u9_4 u9_5 u9_6 w9) := by
  intro m9
  induction m9 with
  | zero =>
    intro u9_4 u9_5 u9_6 w9
    exact mo_none
  | succ m9 ih =>
    intro u9_4 u9_5 u9_6 w9
    unfold f_X0_lostIf_L9
    refine mo_p (fun r1 => ?_)
    refine mo_p (fun b2 => ?_)
    refine mo_p (fun x3 => ?_)
    refine mo_ite ?_ ?_
    · exact mo_some rfl
    · refine mo_p (fun r4 => ?_)
      refine mo_p (fun r5 => ?_)
      refine mo_p (fun b6 => ?_)
      refine mo_p (fun r7 => ?_)
      refine mo_p (fun r8 => ?_)
      refine mo_p (fun q12 => ?_)
      refine mo_p (fun x13 => ?_)
      refine mo_h mo_pfI (fun g14 => ?_)
      refine mo_p (fun b15 => ?_)
      refine mo_p (fun x16 => ?_)
      refine mo_h mo_pfI (fun g17 => ?_)
      refine mo_p (fun b18 => ?_)
      refine mo_p (fun x19 => ?_)
      refine mo_ite ?_ ?_
      · exact ih _ _ _ _
      · refine mo_p (fun q21 => ?_)
        refine mo_p (fun x22 => ?_)
        refine mo_p (fun x23 => ?_)
        refine mo_h mo_pfI (fun g24 => ?_)
        exact ih _ _ _ _
theorem f_X0_lostIf_mono (b : Nat) (s1 : Int32) (s2 : Option Nat) (s3 : Int32) (g : HP) : Mono g (fun v => v.2) (f_X0_lostIf b s1 s2 s3 g) := by
  unfold f_X0_lostIf
  refine mo_h (h0 := fun v => v.2) (f_X0_lostIf_L9_mono _ _ _ _ _ _ _ _ _) (fun q25 => ?_)
  exact mo_some rfl
theorem f_X0_lostNow_mono (b : Nat) (g : HP) : Mono g (fun v => v.2) (f_X0_lostNow b g) := by
  unfold f_X0_lostNow
  refine mo_p (fun x1 => ?_)
  refine mo_p (fun b2 => ?_)
  refine mo_h (h0 := (fun v => v.2)) (f_X0_lostIf_mono _ _ _ _ _) (fun v3 => ?_)
  exact mo_some rfl
theorem f_X1_init_mono (b : Nat) (s1 : Int32) (g : HP) : Mono g id (f_X1_init b s1 g) := by
  unfold f_X1_init
  refine mo_new (t := 31) (n := 3) (il := []) (ol := []) ?_
  refine mo_h (h0 := id) (al_init_mono _ _) (fun g1 => ?_)
  refine mo_h mo_pfR (fun g2 => ?_)
  refine mo_h mo_pfI (fun g3 => ?_)
  exact mo_some rfl
theorem f_X2_init_mono (b : Nat) (g : HP) : Mono g id (f_X2_init b g) := by
  unfold f_X2_init
  refine mo_h mo_nwI (fun a1 => ?_)
  refine mo_h mo_pfR (fun g2 => ?_)
  refine mo_h mo_nwI (fun a3 => ?_)
  refine mo_h mo_pfR (fun g4 => ?_)
  exact mo_some rfl
theorem f_X2_findsFollower_L50_mono (rec : Option Nat → Int32 → Option Nat → Option Nat → Int32 → HP → Option (Int32 × HP)) (hrecm : ∀ (z0 : Option Nat) (z1 : Int32) (z2 : Option Nat) (z3 : Option Nat) (z4 : Int32) (g : HP), Mono g (fun v => v.2) (rec z0 z1 z2 z3 z4 g)) (p50_0 : Nat) (p50_1 : Int32) (p50_2 : Option Nat) (p50_3 : Option Nat) (p50_4 : Int32) (p50_5 : Option Nat) (p50_6 : Int32) : ∀ (m50 : Nat) (u50_7 : Int32) (w50 : HP), Mono w50 (fun v => v.2) (f_X2_findsFollower_L50 rec p50_0 p50_1 p50_2 p50_3 p50_4 p50_5 p50_6 m50 u50_7 w50) := by
  intro m50
  induction m50 with
  | zero =>
    intro u50_7 w50
    exact mo_none
  | succ m50 ih =>
    intro u50_7 w50
    unfold f_X2_findsFollower_L50
    refine mo_ite ?_ ?_
    · exact mo_some rfl
    · refine mo_p (fun x10 => ?_)
      refine mo_ite ?_ ?_
      · refine mo_p (fun b11 => ?_)
        refine mo_p (fun r12 => ?_)
        refine mo_p (fun r13 => ?_)
        refine mo_p (fun b14 => ?_)
        refine mo_p (fun x15 => ?_)
        refine mo_ite ?_ ?_
        · exact ih _ _
        · refine mo_h mo_stZ (fun g16 => ?_)
          refine mo_p (fun x17 => ?_)
          refine mo_ite ?_ ?_
          · refine mo_h mo_stI (fun g18 => ?_)
            exact mo_some rfl
          · refine mo_p (fun x19 => ?_)
            refine mo_h (h0 := (fun v => v.2)) (hrecm _ _ _ _ _ _) (fun v20 => ?_)
            refine mo_ite ?_ ?_
            · exact ih _ _
            · refine mo_h mo_stI (fun g21 => ?_)
              exact mo_some rfl
      · exact ih _ _
theorem f_X2_findsFollower_mono : ∀ (d : Nat) (s1 : Option Nat) (s2 : Int32) (s3 : Option Nat) (s4 : Option Nat) (s5 : Int32) (g : HP), Mono g (fun v => v.2) (f_X2_findsFollower d s1 s2 s3 s4 s5 g) := by
  intro d
  induction d with
  | zero =>
    intro s1 s2 s3 s4 s5 g
    exact mo_none
  | succ d ih =>
    intro s1 s2 s3 s4 s5 g
    unfold f_X2_findsFollower
    refine mo_ite ?_ ?_
    · exact mo_some rfl
    · refine mo_ite ?_ ?_
      · exact mo_some rfl
      · refine mo_p (fun b1 => ?_)
        refine mo_p (fun x2 => ?_)
        refine mo_ite ?_ ?_
        · refine mo_p (fun b3 => ?_)
          refine mo_p (fun r4 => ?_)
          refine mo_p (fun r5 => ?_)
          refine mo_p (fun b6 => ?_)
          refine mo_p (fun x7 => ?_)
          refine mo_p (fun x8 => ?_)
          refine mo_p (fun x9 => ?_)
          exact f_X2_findsFollower_L50_mono (f_X2_findsFollower d) (fun s1 s2 s3 s4 s5 g => ih s1 s2 s3 s4 s5 g) _ _ _ _ _ _ _ _ _ _
        · exact mo_some rfl
theorem f_X2_mostPairs_L2_mono (p2_0 : Nat) (p2_1 : Option Nat) : ∀ (m2 : Nat) (u2_2 : Int32) (w2 : HP), Mono w2 (fun v => v) (f_X2_mostPairs_L2 p2_0 p2_1 m2 u2_2 w2) := by
  intro m2
  induction m2 with
  | zero =>
    intro u2_2 w2
    exact mo_none
  | succ m2 ih =>
    intro u2_2 w2
    unfold f_X2_mostPairs_L2
    refine mo_p (fun r1 => ?_)
    refine mo_p (fun x2 => ?_)
    refine mo_ite ?_ ?_
    · exact mo_some rfl
    · refine mo_p (fun r3 => ?_)
      refine mo_h mo_stI (fun g4 => ?_)
      exact ih _ _
theorem f_X2_mostPairs_L39_mono (p39_0 : Nat) (p39_1 : Nat) (p39_2 : Int32) (p39_3 : Int32) : ∀ (m39 : Nat) (u39_4 : Int32) (w39 : HP), Mono w39 (fun v => v) (f_X2_mostPairs_L39 p39_0 p39_1 p39_2 p39_3 m39 u39_4 w39) := by
  intro m39
  induction m39 with
  | zero =>
    intro u39_4 w39
    exact mo_none
  | succ m39 ih =>
    intro u39_4 w39
    unfold f_X2_mostPairs_L39
    refine mo_p (fun r8 => ?_)
    refine mo_p (fun x9 => ?_)
    refine mo_ite ?_ ?_
    · exact mo_some rfl
    · refine mo_p (fun r10 => ?_)
      refine mo_h mo_stZ (fun g11 => ?_)
      exact ih _ _
theorem f_X2_mostPairs_L28_mono (p28_0 : Nat) (p28_1 : Option Nat) : ∀ (m28 : Nat) (u28_2 : Int32) (u28_3 : Int32) (w28 : HP), Mono w28 (fun v => v.2) (f_X2_mostPairs_L28 p28_0 p28_1 m28 u28_2 u28_3 w28) := by
  intro m28
  induction m28 with
  | zero =>
    intro u28_2 u28_3 w28
    exact mo_none
  | succ m28 ih =>
    intro u28_2 u28_3 w28
    unfold f_X2_mostPairs_L28
    refine mo_p (fun b6 => ?_)
    refine mo_p (fun x7 => ?_)
    refine mo_ite ?_ ?_
    · exact mo_some rfl
    · refine mo_h (h0 := fun v => v) (f_X2_mostPairs_L39_mono _ _ _ _ _ _ _) (fun q12 => ?_)
      refine mo_p (fun r13 => ?_)
      refine mo_p (fun r14 => ?_)
      refine mo_h (h0 := (fun v => v.2)) (f_X2_findsFollower_mono 20 _ _ _ _ _ _) (fun v15 => ?_)
      refine mo_ite ?_ ?_
      · exact ih _ _ _
      · exact ih _ _ _
theorem f_X2_mostPairs_mono (b : Nat) (s1 : Option Nat) (g : HP) : Mono g (fun v => v.2) (f_X2_mostPairs b s1 g) := by
  unfold f_X2_mostPairs
  refine mo_h (h0 := fun v => v) (f_X2_mostPairs_L2_mono _ _ _ _ _) (fun q5 => ?_)
  refine mo_h (h0 := fun v => v.2) (f_X2_mostPairs_L28_mono _ _ _ _ _ _) (fun q16 => ?_)
  exact mo_some rfl
theorem f_X3_init_mono (b : Nat) (s1 : Int32) (g : HP) : Mono g id (f_X3_init b s1 g) := by
  unfold f_X3_init
  refine mo_h mo_pfI (fun g1 => ?_)
  refine mo_h mo_pfI (fun g2 => ?_)
  exact mo_some rfl
theorem f_X5_init_mono (b : Nat) (s1 : Int32) (g : HP) : Mono g id (f_X5_init b s1 g) := by
  unfold f_X5_init
  refine mo_h mo_pfI (fun g1 => ?_)
  refine mo_ite ?_ ?_
  · refine mo_h mo_pfZ (fun g2 => ?_)
    exact mo_some rfl
  · refine mo_h mo_pfZ (fun g3 => ?_)
    exact mo_some rfl
theorem f_X6_join_mono (b : Nat) (s1 : Option Nat) (s2 : Int32) (s3 : Option Nat) (s4 : Int32) (g : HP) : Mono g id (f_X6_join b s1 s2 s3 s4 g) := by
  unfold f_X6_join
  refine mo_p (fun r1 => ?_)
  refine mo_p (fun b2 => ?_)
  refine mo_h (h0 := id) (al_clear_mono _ _) (fun g3 => ?_)
  refine mo_p (fun b4 => ?_)
  refine mo_h (h0 := id) (f_X6_addPart_mono _ _ _ _ _) (fun g5 => ?_)
  refine mo_p (fun b6 => ?_)
  refine mo_p (fun x7 => ?_)
  refine mo_p (fun b8 => ?_)
  refine mo_h (h0 := id) (f_X6_addPart_mono _ _ _ _ _) (fun g9 => ?_)
  exact mo_some rfl
theorem f_X7_init_mono (b : Nat) (s1 : Int32) (s2 : Option Nat) (s3 : Option Nat) (s4 : Option Nat) (s5 : Int32) (s6 : Int32) (g : HP) : Mono g id (f_X7_init b s1 s2 s3 s4 s5 s6 g) := by
  unfold f_X7_init
  refine mo_h mo_pfI (fun g1 => ?_)
  refine mo_h mo_pfR (fun g2 => ?_)
  refine mo_h mo_pfR (fun g3 => ?_)
  refine mo_h mo_pfR (fun g4 => ?_)
  refine mo_h mo_pfI (fun g5 => ?_)
  refine mo_h mo_pfI (fun g6 => ?_)
  exact mo_some rfl
theorem f_X8_init_mono (b : Nat) (g : HP) : Mono g id (f_X8_init b g) := by
  unfold f_X8_init
  refine mo_h mo_pfI (fun g1 => ?_)
  refine mo_h mo_pfI (fun g2 => ?_)
  exact mo_some rfl
theorem f_X8_planPieces_L5_mono (p5_0 : Nat) (p5_1 : Option Nat) (p5_2 : Option Nat) : ∀ (m5 : Nat) (u5_3 : Int32) (u5_4 : Int32) (w5 : HP), Mono w5 (fun v => v.2) (f_X8_planPieces_L5 p5_0 p5_1 p5_2 m5 u5_3 u5_4 w5) := by
  intro m5
  induction m5 with
  | zero =>
    intro u5_3 u5_4 w5
    exact mo_none
  | succ m5 ih =>
    intro u5_3 u5_4 w5
    unfold f_X8_planPieces_L5
    refine mo_p (fun b1 => ?_)
    refine mo_p (fun x2 => ?_)
    refine mo_ite ?_ ?_
    · exact mo_some rfl
    · refine mo_p (fun x3 => ?_)
      refine mo_ite ?_ ?_
      · exact mo_some rfl
      · refine mo_p (fun b4 => ?_)
        refine mo_p (fun x5 => ?_)
        refine mo_ite ?_ ?_
        · refine mo_h mo_stI (fun g6 => ?_)
          exact ih _ _ _
        · exact mo_some rfl
theorem f_X8_planPieces_mono (b : Nat) (s1 : Option Nat) (s2 : Option Nat) (g : HP) : Mono g (fun v => v.2) (f_X8_planPieces b s1 s2 g) := by
  unfold f_X8_planPieces
  exact f_X8_planPieces_L5_mono _ _ _ _ _ _ _
theorem f_X9_init_L153_mono (p153_0 : Nat) : ∀ (m153 : Nat) (u153_1 : Int32) (w153 : HP), Mono w153 (fun v => v) (f_X9_init_L153 p153_0 m153 u153_1 w153) := by
  intro m153
  induction m153 with
  | zero =>
    intro u153_1 w153
    exact mo_none
  | succ m153 ih =>
    intro u153_1 w153
    unfold f_X9_init_L153
    refine mo_ite ?_ ?_
    · exact mo_some rfl
    · refine mo_p (fun r30 => ?_)
      refine mo_new (t := 7) (n := 4) (il := []) (ol := []) ?_
      refine mo_h (h0 := id) (f_X5_init_mono _ _ _) (fun g31 => ?_)
      refine mo_p (fun b32 => ?_)
      refine mo_h (h0 := (fun v => v.2)) (al_add_mono _ _ _) (fun v33 => ?_)
      exact ih _ _
theorem f_X9_init_L183_mono (p183_0 : Nat) : ∀ (m183 : Nat) (u183_1 : Int32) (w183 : HP), Mono w183 (fun v => v) (f_X9_init_L183 p183_0 m183 u183_1 w183) := by
  intro m183
  induction m183 with
  | zero =>
    intro u183_1 w183
    exact mo_none
  | succ m183 ih =>
    intro u183_1 w183
    unfold f_X9_init_L183
    refine mo_ite ?_ ?_
    · exact mo_some rfl
    · refine mo_p (fun r35 => ?_)
      refine mo_new (t := 5) (n := 3) (il := []) (ol := []) ?_
      refine mo_h (h0 := id) (f_X3_init_mono _ _ _) (fun g36 => ?_)
      refine mo_p (fun b37 => ?_)
      refine mo_h (h0 := (fun v => v.2)) (al_add_mono _ _ _) (fun v38 => ?_)
      exact ih _ _
theorem f_X9_init_mono (b : Nat) (g : HP) : Mono g id (f_X9_init b g) := by
  unfold f_X9_init
  refine mo_new (t := 31) (n := 3) (il := []) (ol := []) ?_
  refine mo_h (h0 := id) (al_init_mono _ _) (fun g1 => ?_)
  refine mo_h mo_pfR (fun g2 => ?_)
  refine mo_new (t := 31) (n := 3) (il := []) (ol := []) ?_
  refine mo_h (h0 := id) (al_init_mono _ _) (fun g3 => ?_)
  refine mo_h mo_pfR (fun g4 => ?_)
  refine mo_new (t := 31) (n := 3) (il := []) (ol := []) ?_
  refine mo_h (h0 := id) (al_init_mono _ _) (fun g5 => ?_)
  refine mo_h mo_pfR (fun g6 => ?_)
  refine mo_new (t := 31) (n := 3) (il := []) (ol := []) ?_
  refine mo_h (h0 := id) (al_init_mono _ _) (fun g7 => ?_)
  refine mo_h mo_pfR (fun g8 => ?_)
  refine mo_new (t := 31) (n := 3) (il := []) (ol := []) ?_
  refine mo_h (h0 := id) (al_init_mono _ _) (fun g9 => ?_)
  refine mo_h mo_pfR (fun g10 => ?_)
  refine mo_new (t := 31) (n := 3) (il := []) (ol := []) ?_
  refine mo_h (h0 := id) (al_init_mono _ _) (fun g11 => ?_)
  refine mo_h mo_pfR (fun g12 => ?_)
  refine mo_new (t := 10) (n := 2) (il := []) (ol := []) ?_
  refine mo_h (h0 := id) (f_X8_init_mono _ _) (fun g13 => ?_)
  refine mo_h mo_pfR (fun g14 => ?_)
  refine mo_h mo_pfI (fun g15 => ?_)
  refine mo_new (t := 8) (n := 1) (il := []) (ol := []) ?_
  refine mo_h (h0 := id) (f_X6_init_mono _ _) (fun g16 => ?_)
  refine mo_h mo_pfR (fun g17 => ?_)
  refine mo_new (t := 8) (n := 1) (il := []) (ol := []) ?_
  refine mo_h (h0 := id) (f_X6_init_mono _ _) (fun g18 => ?_)
  refine mo_h mo_pfR (fun g19 => ?_)
  refine mo_h mo_nwI (fun a20 => ?_)
  refine mo_h mo_pfR (fun g21 => ?_)
  refine mo_new (t := 4) (n := 2) (il := []) (ol := []) ?_
  refine mo_h (h0 := id) (f_X2_init_mono _ _) (fun g22 => ?_)
  refine mo_h mo_pfR (fun g23 => ?_)
  refine mo_new (t := 7) (n := 4) (il := []) (ol := []) ?_
  refine mo_h (h0 := id) (f_X5_init_mono _ _ _) (fun g24 => ?_)
  refine mo_h mo_pfR (fun g25 => ?_)
  refine mo_p (fun r26 => ?_)
  refine mo_p (fun r27 => ?_)
  refine mo_p (fun b28 => ?_)
  refine mo_h (h0 := (fun v => v.2)) (al_add_mono _ _ _) (fun v29 => ?_)
  refine mo_h (h0 := fun v => v) (f_X9_init_L153_mono _ _ _ _) (fun q34 => ?_)
  refine mo_h (h0 := fun v => v) (f_X9_init_L183_mono _ _ _ _) (fun q39 => ?_)
  exact mo_some rfl
theorem f_X9_place_mono (b : Nat) (s1 : Int32) (s2 : Int32) (s3 : Int32) (s4 : Int32) (g : HP) : Mono g (fun v => v.2) (f_X9_place b s1 s2 s3 s4 g) := by
  unfold f_X9_place
  refine mo_p (fun b1 => ?_)
  refine mo_p (fun r2 => ?_)
  refine mo_ite ?_ ?_
  · exact mo_none
  · refine mo_p (fun x3 => ?_)
    refine mo_ite ?_ ?_
    · refine mo_p (fun x4 => ?_)
      refine mo_ite ?_ ?_
      · refine mo_p (fun r5 => ?_)
        refine mo_p (fun b6 => ?_)
        refine mo_p (fun x7 => ?_)
        refine mo_ite ?_ ?_
        · exact mo_none
        · refine mo_p (fun x8 => ?_)
          refine mo_h mo_pfI (fun g9 => ?_)
          refine mo_h mo_pfI (fun g10 => ?_)
          refine mo_ite ?_ ?_
          · refine mo_p (fun r11 => ?_)
            refine mo_ite ?_ ?_
            · refine mo_h mo_pfZ (fun g12 => ?_)
              exact mo_some rfl
            · refine mo_h mo_pfZ (fun g13 => ?_)
              exact mo_some rfl
          · refine mo_h mo_pfZ (fun g14 => ?_)
            exact mo_some rfl
      · exact mo_none
    · exact mo_none
theorem f_X9_line_mono (b : Nat) (s1 : Int32) (s2 : Int32) (s3 : Int32) (g : HP) : Mono g (fun v => v.2) (f_X9_line b s1 s2 s3 g) := by
  unfold f_X9_line
  refine mo_p (fun b1 => ?_)
  refine mo_p (fun r2 => ?_)
  refine mo_ite ?_ ?_
  · exact mo_none
  · refine mo_p (fun x3 => ?_)
    refine mo_ite ?_ ?_
    · refine mo_p (fun x4 => ?_)
      refine mo_h mo_pfI (fun g5 => ?_)
      refine mo_h mo_pfZ (fun g6 => ?_)
      exact mo_some rfl
    · exact mo_none
theorem f_X9_addByStart_mono (b : Nat) (s1 : Option Nat) (g : HP) : Mono g id (f_X9_addByStart b s1 g) := by
  unfold f_X9_addByStart
  refine mo_p (fun q10 => ?_)
  refine mo_p (fun r11 => ?_)
  refine mo_p (fun b12 => ?_)
  refine mo_h (h0 := id) (al_addAt_mono _ _ _ _) (fun g13 => ?_)
  exact mo_some rfl
theorem f_X9_trip_mono (b : Nat) (s1 : Int32) (s2 : Int32) (s3 : Int32) (s4 : Int32) (s5 : Int32) (g : HP) : Mono g (fun v => v.2) (f_X9_trip b s1 s2 s3 s4 s5 g) := by
  unfold f_X9_trip
  refine mo_p (fun b1 => ?_)
  refine mo_p (fun r2 => ?_)
  refine mo_p (fun b3 => ?_)
  refine mo_p (fun r4 => ?_)
  refine mo_p (fun b5 => ?_)
  refine mo_p (fun r6 => ?_)
  refine mo_ite ?_ ?_
  · exact mo_none
  · refine mo_ite ?_ ?_
    · exact mo_none
    · refine mo_ite ?_ ?_
      · exact mo_none
      · refine mo_p (fun x7 => ?_)
        refine mo_ite ?_ ?_
        · refine mo_p (fun x8 => ?_)
          refine mo_ite ?_ ?_
          · refine mo_p (fun r9 => ?_)
            refine mo_p (fun b10 => ?_)
            refine mo_p (fun x11 => ?_)
            refine mo_ite ?_ ?_
            · refine mo_new (t := 9) (n := 12) (il := []) (ol := []) ?_
              refine mo_h (h0 := id) (f_X7_init_mono _ _ _ _ _ _ _ _) (fun g12 => ?_)
              refine mo_p (fun r13 => ?_)
              refine mo_p (fun b14 => ?_)
              refine mo_h (h0 := (fun v => v.2)) (al_add_mono _ _ _) (fun v15 => ?_)
              refine mo_p (fun b16 => ?_)
              refine mo_h (h0 := id) (f_X9_addByStart_mono _ _ _) (fun g17 => ?_)
              exact mo_some rfl
            · exact mo_none
          · exact mo_none
        · exact mo_none
theorem f_X9_driver_mono (b : Nat) (g : HP) : Mono g (fun v => v.2) (f_X9_driver b g) := by
  unfold f_X9_driver
  refine mo_p (fun r1 => ?_)
  refine mo_p (fun b2 => ?_)
  refine mo_p (fun x3 => ?_)
  refine mo_ite ?_ ?_
  · refine mo_p (fun r4 => ?_)
    refine mo_new (t := 3) (n := 3) (il := []) (ol := []) ?_
    refine mo_h (h0 := id) (f_X1_init_mono _ _ _) (fun g5 => ?_)
    refine mo_p (fun b6 => ?_)
    refine mo_h (h0 := (fun v => v.2)) (al_add_mono _ _ _) (fun v7 => ?_)
    exact mo_some rfl
  · exact mo_none
theorem f_X9_newBlock_mono (b : Nat) (s1 : Int32) (g : HP) : Mono g (fun v => v.2) (f_X9_newBlock b s1 g) := by
  unfold f_X9_newBlock
  refine mo_new (t := 2) (n := 5) (il := []) (ol := []) ?_
  refine mo_p (fun r1 => ?_)
  refine mo_p (fun b2 => ?_)
  refine mo_p (fun x3 => ?_)
  refine mo_h (h0 := id) (f_X0_init_mono _ _ _ _) (fun g4 => ?_)
  refine mo_p (fun r5 => ?_)
  refine mo_p (fun b6 => ?_)
  refine mo_h (h0 := (fun v => v.2)) (al_add_mono _ _ _) (fun v7 => ?_)
  exact mo_some rfl
theorem f_X9_block_mono (b : Nat) (s1 : Int32) (g : HP) : Mono g (fun v => v.2) (f_X9_block b s1 g) := by
  unfold f_X9_block
  refine mo_p (fun x1 => ?_)
  refine mo_ite ?_ ?_
  · refine mo_p (fun r2 => ?_)
    refine mo_p (fun b3 => ?_)
    refine mo_p (fun x4 => ?_)
    refine mo_ite ?_ ?_
    · refine mo_p (fun b5 => ?_)
      refine mo_h (h0 := (fun v => v.2)) (f_X9_newBlock_mono _ _ _) (fun v6 => ?_)
      refine mo_p (fun x7 => ?_)
      exact mo_some rfl
    · exact mo_none
  · exact mo_none
theorem f_X9_append_mono (b : Nat) (s1 : Int32) (s2 : Int32) (g : HP) : Mono g (fun v => v.2) (f_X9_append b s1 s2 g) := by
  unfold f_X9_append
  refine mo_p (fun b1 => ?_)
  refine mo_p (fun r2 => ?_)
  refine mo_p (fun b3 => ?_)
  refine mo_p (fun r4 => ?_)
  refine mo_ite ?_ ?_
  · exact mo_none
  · refine mo_ite ?_ ?_
    · exact mo_none
    · refine mo_p (fun r5 => ?_)
      refine mo_p (fun b6 => ?_)
      refine mo_p (fun r7 => ?_)
      refine mo_p (fun r8 => ?_)
      refine mo_ite ?_ ?_
      · refine mo_p (fun q11 => ?_)
        refine mo_p (fun b12 => ?_)
        refine mo_h (h0 := id) (f_X0_addTrip_mono _ _ _) (fun g13 => ?_)
        refine mo_p (fun r14 => ?_)
        refine mo_p (fun b15 => ?_)
        refine mo_p (fun x16 => ?_)
        exact mo_some rfl
      · exact mo_none
theorem f_X9_takeOff_mono (b : Nat) (s1 : Int32) (g : HP) : Mono g (fun v => v.2) (f_X9_takeOff b s1 g) := by
  unfold f_X9_takeOff
  refine mo_p (fun b1 => ?_)
  refine mo_p (fun r2 => ?_)
  refine mo_ite ?_ ?_
  · exact mo_none
  · refine mo_p (fun b3 => ?_)
    refine mo_h (h0 := (fun v => v.2)) (f_X0_removeLastTrip_mono _ _) (fun v4 => ?_)
    refine mo_ite ?_ ?_
    · exact mo_none
    · refine mo_p (fun x5 => ?_)
      exact mo_some rfl
theorem f_X9_wouldBeFlat_mono (b : Nat) (s1 : Option Nat) (s2 : Option Nat) (s3 : Int32) (g : HP) : Mono g (fun v => v.2) (f_X9_wouldBeFlat b s1 s2 s3 g) := by
  unfold f_X9_wouldBeFlat
  refine mo_p (fun r1 => ?_)
  refine mo_p (fun b2 => ?_)
  refine mo_h (h0 := id) (f_X6_copy_mono _ _ _) (fun g3 => ?_)
  refine mo_p (fun r4 => ?_)
  refine mo_p (fun r5 => ?_)
  refine mo_p (fun b6 => ?_)
  refine mo_h (h0 := (fun v => v.2)) (al_add_mono _ _ _) (fun v7 => ?_)
  refine mo_p (fun r8 => ?_)
  refine mo_p (fun b9 => ?_)
  refine mo_p (fun x10 => ?_)
  refine mo_p (fun z => ?_)
  exact mo_some rfl
theorem f_X9_nearestBlock_L7_mono (p7_0 : Nat) (p7_1 : Option Nat) : ∀ (m7 : Nat) (u7_2 : Option Nat) (u7_3 : Int32) (u7_4 : Int32) (w7 : HP), Mono w7 (fun v => v.2) (f_X9_nearestBlock_L7 p7_0 p7_1 m7 u7_2 u7_3 u7_4 w7) := by
  intro m7
  induction m7 with
  | zero =>
    intro u7_2 u7_3 u7_4 w7
    exact mo_none
  | succ m7 ih =>
    intro u7_2 u7_3 u7_4 w7
    unfold f_X9_nearestBlock_L7
    refine mo_p (fun r1 => ?_)
    refine mo_p (fun b2 => ?_)
    refine mo_p (fun x3 => ?_)
    refine mo_ite ?_ ?_
    · exact mo_some rfl
    · refine mo_p (fun r4 => ?_)
      refine mo_p (fun b5 => ?_)
      refine mo_p (fun r6 => ?_)
      refine mo_p (fun r7 => ?_)
      refine mo_p (fun r8 => ?_)
      refine mo_p (fun b9 => ?_)
      refine mo_p (fun r10 => ?_)
      refine mo_ite ?_ ?_
      · exact ih _ _ _ _
      · refine mo_p (fun b11 => ?_)
        refine mo_p (fun x12 => ?_)
        refine mo_ite ?_ ?_
        · exact ih _ _ _ _
        · refine mo_ite ?_ ?_
          · refine mo_p (fun r13 => ?_)
            refine mo_p (fun x14 => ?_)
            refine mo_p (fun b15 => ?_)
            refine mo_h (h0 := (fun v => v.2)) (f_X9_wouldBeFlat_mono _ _ _ _ _) (fun v16 => ?_)
            refine mo_ite ?_ ?_
            · refine mo_p (fun b17 => ?_)
              refine mo_p (fun x18 => ?_)
              exact ih _ _ _ _
            · exact ih _ _ _ _
          · refine mo_p (fun b19 => ?_)
            refine mo_p (fun x20 => ?_)
            refine mo_ite ?_ ?_
            · exact ih _ _ _ _
            · refine mo_p (fun r21 => ?_)
              refine mo_p (fun x22 => ?_)
              refine mo_p (fun b23 => ?_)
              refine mo_h (h0 := (fun v => v.2)) (f_X9_wouldBeFlat_mono _ _ _ _ _) (fun v24 => ?_)
              refine mo_ite ?_ ?_
              · refine mo_p (fun b25 => ?_)
                refine mo_p (fun x26 => ?_)
                exact ih _ _ _ _
              · exact ih _ _ _ _
theorem f_X9_nearestBlock_mono (b : Nat) (s1 : Option Nat) (g : HP) : Mono g (fun v => v.2) (f_X9_nearestBlock b s1 g) := by
  unfold f_X9_nearestBlock
  refine mo_h (h0 := fun v => v.2) (f_X9_nearestBlock_L7_mono _ _ _ _ _ _ _) (fun q27 => ?_)
  exact mo_some rfl
theorem f_X9_wouldBeFlatAlone_mono (b : Nat) (s1 : Option Nat) (s2 : Int32) (g : HP) : Mono g (fun v => v.2) (f_X9_wouldBeFlatAlone b s1 s2 g) := by
  unfold f_X9_wouldBeFlatAlone
  refine mo_p (fun r1 => ?_)
  refine mo_p (fun r2 => ?_)
  refine mo_p (fun b3 => ?_)
  refine mo_h (h0 := id) (al_clear_mono _ _) (fun g4 => ?_)
  refine mo_p (fun r5 => ?_)
  refine mo_p (fun r6 => ?_)
  refine mo_p (fun b7 => ?_)
  refine mo_h (h0 := (fun v => v.2)) (al_add_mono _ _ _) (fun v8 => ?_)
  refine mo_p (fun r9 => ?_)
  refine mo_p (fun b10 => ?_)
  refine mo_p (fun x11 => ?_)
  refine mo_p (fun z => ?_)
  exact mo_some rfl
theorem f_X9_putIntoSomeBlock_mono (b : Nat) (s1 : Option Nat) (s2 : Int32) (g : HP) : Mono g (fun v => v.2) (f_X9_putIntoSomeBlock b s1 s2 g) := by
  unfold f_X9_putIntoSomeBlock
  refine mo_p (fun b1 => ?_)
  refine mo_h (h0 := (fun v => v.2)) (f_X9_nearestBlock_mono _ _ _) (fun v2 => ?_)
  refine mo_ite ?_ ?_
  · refine mo_p (fun r3 => ?_)
    refine mo_p (fun b4 => ?_)
    refine mo_p (fun x5 => ?_)
    refine mo_ite ?_ ?_
    · exact mo_some rfl
    · refine mo_p (fun b6 => ?_)
      refine mo_h (h0 := (fun v => v.2)) (f_X9_wouldBeFlatAlone_mono _ _ _ _) (fun v7 => ?_)
      refine mo_ite ?_ ?_
      · refine mo_p (fun b8 => ?_)
        refine mo_h (h0 := (fun v => v.2)) (f_X9_newBlock_mono _ _ _) (fun v9 => ?_)
        refine mo_p (fun b10 => ?_)
        refine mo_h (h0 := id) (f_X0_addTrip_mono _ _ _) (fun g11 => ?_)
        exact mo_some rfl
      · exact mo_some rfl
  · refine mo_p (fun b12 => ?_)
    refine mo_h (h0 := id) (f_X0_addTrip_mono _ _ _) (fun g13 => ?_)
    exact mo_some rfl
theorem f_X9_build_L26_mono (p26_0 : Nat) (p26_1 : Int32) : ∀ (m26 : Nat) (u26_2 : Int32) (u26_3 : Int32) (w26 : HP), Mono w26 (fun v => v.2) (f_X9_build_L26 p26_0 p26_1 m26 u26_2 u26_3 w26) := by
  intro m26
  induction m26 with
  | zero =>
    intro u26_2 u26_3 w26
    exact mo_none
  | succ m26 ih =>
    intro u26_2 u26_3 w26
    unfold f_X9_build_L26
    refine mo_p (fun r2 => ?_)
    refine mo_p (fun b3 => ?_)
    refine mo_p (fun x4 => ?_)
    refine mo_ite ?_ ?_
    · exact mo_some rfl
    · refine mo_p (fun r5 => ?_)
      refine mo_p (fun b6 => ?_)
      refine mo_p (fun r7 => ?_)
      refine mo_p (fun r8 => ?_)
      refine mo_p (fun r9 => ?_)
      refine mo_ite ?_ ?_
      · refine mo_p (fun b10 => ?_)
        refine mo_h (h0 := (fun v => v.2)) (f_X9_putIntoSomeBlock_mono _ _ _ _) (fun v11 => ?_)
        refine mo_ite ?_ ?_
        · exact ih _ _ _
        · exact ih _ _ _
      · exact ih _ _ _
theorem f_X9_build_mono (b : Nat) (s1 : Int32) (g : HP) : Mono g (fun v => v.2) (f_X9_build b s1 g) := by
  unfold f_X9_build
  refine mo_p (fun x1 => ?_)
  refine mo_ite ?_ ?_
  · refine mo_h (h0 := fun v => v.2) (f_X9_build_L26_mono _ _ _ _ _ _) (fun q12 => ?_)
    exact mo_some rfl
  · exact mo_none
theorem f_X9_trySwap_mono (b : Nat) (s1 : Option Nat) (s2 : Int32) (s3 : Option Nat) (s4 : Int32) (g : HP) : Mono g id (f_X9_trySwap b s1 s2 s3 s4 g) := by
  unfold f_X9_trySwap
  refine mo_p (fun r1 => ?_)
  refine mo_p (fun b2 => ?_)
  refine mo_h (h0 := id) (f_X6_join_mono _ _ _ _ _ _) (fun g3 => ?_)
  refine mo_p (fun r4 => ?_)
  refine mo_p (fun b5 => ?_)
  refine mo_h (h0 := id) (f_X6_join_mono _ _ _ _ _ _) (fun g6 => ?_)
  exact mo_some rfl
theorem f_X9_swap_mono (b : Nat) (s1 : Int32) (s2 : Int32) (s3 : Int32) (s4 : Int32) (g : HP) : Mono g (fun v => v.2) (f_X9_swap b s1 s2 s3 s4 g) := by
  unfold f_X9_swap
  refine mo_p (fun b1 => ?_)
  refine mo_p (fun r2 => ?_)
  refine mo_p (fun b3 => ?_)
  refine mo_p (fun r4 => ?_)
  refine mo_ite ?_ ?_
  · exact mo_none
  · refine mo_ite ?_ ?_
    · exact mo_none
    · refine mo_p (fun r5 => ?_)
      refine mo_p (fun r6 => ?_)
      refine mo_ite ?_ ?_
      · exact mo_none
      · refine mo_p (fun b7 => ?_)
        refine mo_p (fun x8 => ?_)
        refine mo_p (fun x9 => ?_)
        refine mo_ite ?_ ?_
        · refine mo_p (fun b10 => ?_)
          refine mo_p (fun x11 => ?_)
          refine mo_p (fun x12 => ?_)
          refine mo_ite ?_ ?_
          · refine mo_p (fun x13 => ?_)
            refine mo_ite ?_ ?_
            · exact mo_none
            · refine mo_p (fun b14 => ?_)
              refine mo_p (fun x15 => ?_)
              refine mo_p (fun b16 => ?_)
              refine mo_p (fun x17 => ?_)
              refine mo_p (fun b18 => ?_)
              refine mo_h (h0 := id) (f_X9_trySwap_mono _ _ _ _ _ _) (fun g19 => ?_)
              refine mo_p (fun r20 => ?_)
              refine mo_p (fun b21 => ?_)
              refine mo_h (h0 := id) (f_X0_takeOver_mono _ _ _) (fun g22 => ?_)
              refine mo_p (fun r23 => ?_)
              refine mo_p (fun b24 => ?_)
              refine mo_h (h0 := id) (f_X0_takeOver_mono _ _ _) (fun g25 => ?_)
              exact mo_some rfl
          · exact mo_none
        · exact mo_none
theorem f_X9_cut_mono (b : Nat) (s1 : Int32) (g : HP) : Mono g (fun v => v.2) (f_X9_cut b s1 g) := by
  unfold f_X9_cut
  refine mo_p (fun b1 => ?_)
  refine mo_p (fun r2 => ?_)
  refine mo_ite ?_ ?_
  · exact mo_none
  · refine mo_p (fun r3 => ?_)
    refine mo_p (fun r4 => ?_)
    refine mo_p (fun r5 => ?_)
    refine mo_p (fun b6 => ?_)
    refine mo_h (h0 := (fun v => v.2)) (f_X8_planPieces_mono _ _ _ _) (fun v7 => ?_)
    refine mo_ite ?_ ?_
    · exact mo_none
    · refine mo_p (fun r8 => ?_)
      refine mo_p (fun b9 => ?_)
      refine mo_h (h0 := id) (f_X0_cutAt_mono _ _ _ _) (fun g10 => ?_)
      exact mo_some rfl
theorem f_X9_give_mono (b : Nat) (s1 : Int32) (s2 : Int32) (s3 : Int32) (g : HP) : Mono g (fun v => v.2) (f_X9_give b s1 s2 s3 g) := by
  unfold f_X9_give
  refine mo_p (fun b1 => ?_)
  refine mo_p (fun r2 => ?_)
  refine mo_p (fun b3 => ?_)
  refine mo_p (fun r4 => ?_)
  refine mo_ite ?_ ?_
  · exact mo_none
  · refine mo_ite ?_ ?_
    · exact mo_none
    · refine mo_p (fun r5 => ?_)
      refine mo_ite ?_ ?_
      · refine mo_p (fun b6 => ?_)
        refine mo_p (fun x7 => ?_)
        refine mo_ite ?_ ?_
        · exact mo_none
        · refine mo_h mo_pfR (fun g8 => ?_)
          refine mo_p (fun r9 => ?_)
          refine mo_p (fun b10 => ?_)
          refine mo_h (h0 := (fun v => v.2)) (al_add_mono _ _ _) (fun v11 => ?_)
          refine mo_p (fun b12 => ?_)
          refine mo_p (fun x13 => ?_)
          exact mo_some rfl
      · exact mo_none
theorem f_X9_delay_mono (b : Nat) (s1 : Int32) (s2 : Int32) (g : HP) : Mono g (fun v => v.2) (f_X9_delay b s1 s2 g) := by
  unfold f_X9_delay
  refine mo_p (fun b1 => ?_)
  refine mo_p (fun r2 => ?_)
  refine mo_ite ?_ ?_
  · exact mo_none
  · refine mo_p (fun x3 => ?_)
    refine mo_ite ?_ ?_
    · refine mo_p (fun x4 => ?_)
      refine mo_h mo_pfI (fun g5 => ?_)
      exact mo_some rfl
    · exact mo_none
theorem f_X9_breakdown_mono (b : Nat) (s1 : Int32) (s2 : Int32) (g : HP) : Mono g (fun v => v.2) (f_X9_breakdown b s1 s2 g) := by
  unfold f_X9_breakdown
  refine mo_p (fun b1 => ?_)
  refine mo_p (fun r2 => ?_)
  refine mo_ite ?_ ?_
  · exact mo_none
  · refine mo_p (fun x3 => ?_)
    refine mo_ite ?_ ?_
    · refine mo_p (fun x4 => ?_)
      refine mo_h mo_pfI (fun g5 => ?_)
      exact mo_some rfl
    · exact mo_none
theorem f_X9_sick_mono (b : Nat) (s1 : Int32) (s2 : Int32) (g : HP) : Mono g (fun v => v.2) (f_X9_sick b s1 s2 g) := by
  unfold f_X9_sick
  refine mo_p (fun b1 => ?_)
  refine mo_p (fun r2 => ?_)
  refine mo_ite ?_ ?_
  · exact mo_none
  · refine mo_p (fun x3 => ?_)
    refine mo_h mo_pfZ (fun g4 => ?_)
    refine mo_p (fun z => ?_)
    exact mo_some rfl
theorem f_X9_runDay_L2_mono (p2_0 : Nat) : ∀ (m2 : Nat) (u2_1 : Int32) (w2 : HP), Mono w2 (fun v => v) (f_X9_runDay_L2 p2_0 m2 u2_1 w2) := by
  intro m2
  induction m2 with
  | zero =>
    intro u2_1 w2
    exact mo_none
  | succ m2 ih =>
    intro u2_1 w2
    unfold f_X9_runDay_L2
    refine mo_p (fun r1 => ?_)
    refine mo_p (fun b2 => ?_)
    refine mo_p (fun x3 => ?_)
    refine mo_ite ?_ ?_
    · exact mo_some rfl
    · refine mo_p (fun r4 => ?_)
      refine mo_p (fun b5 => ?_)
      refine mo_p (fun r6 => ?_)
      refine mo_p (fun r7 => ?_)
      refine mo_h mo_pfI (fun g8 => ?_)
      exact ih _ _
theorem f_X9_runDay_L36_mono (p36_0 : Nat) : ∀ (m36 : Nat) (u36_1 : Int32) (w36 : HP), Mono w36 (fun v => v) (f_X9_runDay_L36 p36_0 m36 u36_1 w36) := by
  intro m36
  induction m36 with
  | zero =>
    intro u36_1 w36
    exact mo_none
  | succ m36 ih =>
    intro u36_1 w36
    unfold f_X9_runDay_L36
    refine mo_p (fun r10 => ?_)
    refine mo_p (fun b11 => ?_)
    refine mo_p (fun x12 => ?_)
    refine mo_ite ?_ ?_
    · exact mo_some rfl
    · refine mo_p (fun r13 => ?_)
      refine mo_p (fun b14 => ?_)
      refine mo_p (fun r15 => ?_)
      refine mo_p (fun r16 => ?_)
      refine mo_p (fun x17 => ?_)
      refine mo_p (fun b18 => ?_)
      refine mo_h (h0 := (fun v => v.2)) (f_X0_lostIf_mono _ _ _ _ _) (fun v19 => ?_)
      exact ih _ _
theorem f_X9_runDay_mono (b : Nat) (g : HP) : Mono g id (f_X9_runDay b g) := by
  unfold f_X9_runDay
  refine mo_h (h0 := fun v => v) (f_X9_runDay_L2_mono _ _ _ _) (fun q9 => ?_)
  refine mo_h (h0 := fun v => v) (f_X9_runDay_L36_mono _ _ _ _) (fun q20 => ?_)
  exact mo_some rfl
theorem f_X9_ofTrip_mono (b : Nat) (s1 : Int32) (s2 : Int32) (g : HP) : Mono g (fun v => v.2) (f_X9_ofTrip b s1 s2 g) := by
  unfold f_X9_ofTrip
  refine mo_p (fun b1 => ?_)
  refine mo_p (fun r2 => ?_)
  refine mo_ite ?_ ?_
  · exact mo_none
  · refine mo_p (fun x3 => ?_)
    refine mo_ite ?_ ?_
    · refine mo_p (fun b4 => ?_)
      refine mo_h (h0 := id) (f_X9_runDay_mono _ _) (fun g5 => ?_)
      refine mo_ite ?_ ?_
      · refine mo_p (fun r6 => ?_)
        refine mo_p (fun x7 => ?_)
        exact mo_some rfl
      · refine mo_ite ?_ ?_
        · refine mo_p (fun r8 => ?_)
          refine mo_p (fun x9 => ?_)
          exact mo_some rfl
        · refine mo_ite ?_ ?_
          · refine mo_p (fun r10 => ?_)
            refine mo_p (fun x11 => ?_)
            exact mo_some rfl
          · refine mo_ite ?_ ?_
            · refine mo_p (fun x12 => ?_)
              exact mo_some rfl
            · refine mo_ite ?_ ?_
              · refine mo_p (fun b13 => ?_)
                refine mo_p (fun x14 => ?_)
                exact mo_some rfl
              · refine mo_ite ?_ ?_
                · refine mo_p (fun x15 => ?_)
                  exact mo_some rfl
                · refine mo_ite ?_ ?_
                  · refine mo_p (fun b16 => ?_)
                    refine mo_p (fun x17 => ?_)
                    exact mo_some rfl
                  · refine mo_ite ?_ ?_
                    · refine mo_p (fun b18 => ?_)
                      refine mo_p (fun x19 => ?_)
                      exact mo_some rfl
                    · refine mo_ite ?_ ?_
                      · refine mo_p (fun x20 => ?_)
                        exact mo_some rfl
                      · refine mo_ite ?_ ?_
                        · refine mo_p (fun b21 => ?_)
                          refine mo_p (fun x22 => ?_)
                          refine mo_ite ?_ ?_
                          · exact mo_some rfl
                          · refine mo_p (fun b23 => ?_)
                            refine mo_p (fun x24 => ?_)
                            exact mo_some rfl
                        · refine mo_p (fun b25 => ?_)
                          refine mo_p (fun x26 => ?_)
                          refine mo_ite ?_ ?_
                          · exact mo_some rfl
                          · refine mo_p (fun x27 => ?_)
                            exact mo_some rfl
    · exact mo_none
theorem f_X9_ofBlock_mono (b : Nat) (s1 : Int32) (s2 : Int32) (g : HP) : Mono g (fun v => v.2) (f_X9_ofBlock b s1 s2 g) := by
  unfold f_X9_ofBlock
  refine mo_p (fun b1 => ?_)
  refine mo_p (fun r2 => ?_)
  refine mo_ite ?_ ?_
  · exact mo_none
  · refine mo_p (fun x3 => ?_)
    refine mo_ite ?_ ?_
    · refine mo_ite ?_ ?_
      · refine mo_p (fun x4 => ?_)
        exact mo_some rfl
      · refine mo_ite ?_ ?_
        · refine mo_p (fun r5 => ?_)
          refine mo_p (fun b6 => ?_)
          refine mo_p (fun x7 => ?_)
          exact mo_some rfl
        · refine mo_ite ?_ ?_
          · refine mo_p (fun x8 => ?_)
            exact mo_some rfl
          · refine mo_ite ?_ ?_
            · refine mo_p (fun r9 => ?_)
              refine mo_p (fun b10 => ?_)
              refine mo_p (fun x11 => ?_)
              exact mo_some rfl
            · refine mo_ite ?_ ?_
              · refine mo_p (fun r12 => ?_)
                refine mo_p (fun x13 => ?_)
                refine mo_p (fun b14 => ?_)
                refine mo_p (fun x15 => ?_)
                refine mo_ite ?_ ?_
                · exact mo_some rfl
                · exact mo_some rfl
              · refine mo_ite ?_ ?_
                · refine mo_p (fun r16 => ?_)
                  refine mo_p (fun r17 => ?_)
                  refine mo_p (fun x18 => ?_)
                  refine mo_p (fun x19 => ?_)
                  refine mo_p (fun b20 => ?_)
                  refine mo_p (fun x21 => ?_)
                  exact mo_some rfl
                · refine mo_ite ?_ ?_
                  · refine mo_p (fun r22 => ?_)
                    refine mo_p (fun r23 => ?_)
                    refine mo_p (fun b24 => ?_)
                    refine mo_p (fun x25 => ?_)
                    exact mo_some rfl
                  · refine mo_p (fun r26 => ?_)
                    refine mo_p (fun b27 => ?_)
                    refine mo_p (fun x28 => ?_)
                    refine mo_p (fun b29 => ?_)
                    refine mo_h (h0 := (fun v => v.2)) (f_X0_lostNow_mono _ _) (fun v30 => ?_)
                    exact mo_some rfl
    · exact mo_none
theorem f_X9_ofPiece_mono (b : Nat) (s1 : Int32) (s2 : Int32) (s3 : Int32) (g : HP) : Mono g (fun v => v.2) (f_X9_ofPiece b s1 s2 s3 g) := by
  unfold f_X9_ofPiece
  refine mo_p (fun b1 => ?_)
  refine mo_p (fun r2 => ?_)
  refine mo_ite ?_ ?_
  · exact mo_none
  · refine mo_p (fun x3 => ?_)
    refine mo_ite ?_ ?_
    · refine mo_p (fun b4 => ?_)
      refine mo_h (h0 := id) (f_X9_runDay_mono _ _) (fun g5 => ?_)
      refine mo_ite ?_ ?_
      · refine mo_p (fun r6 => ?_)
        refine mo_p (fun x7 => ?_)
        exact mo_some rfl
      · refine mo_ite ?_ ?_
        · refine mo_p (fun r8 => ?_)
          refine mo_p (fun x9 => ?_)
          exact mo_some rfl
        · refine mo_ite ?_ ?_
          · refine mo_p (fun x10 => ?_)
            exact mo_some rfl
          · refine mo_ite ?_ ?_
            · refine mo_p (fun b11 => ?_)
              refine mo_p (fun x12 => ?_)
              exact mo_some rfl
            · refine mo_ite ?_ ?_
              · refine mo_p (fun b13 => ?_)
                refine mo_p (fun x14 => ?_)
                exact mo_some rfl
              · refine mo_p (fun b15 => ?_)
                refine mo_p (fun x16 => ?_)
                exact mo_some rfl
    · exact mo_none
theorem f_X9_ofDriver_mono (b : Nat) (s1 : Int32) (s2 : Int32) (g : HP) : Mono g (fun v => v.2) (f_X9_ofDriver b s1 s2 g) := by
  unfold f_X9_ofDriver
  refine mo_p (fun b1 => ?_)
  refine mo_p (fun r2 => ?_)
  refine mo_ite ?_ ?_
  · exact mo_none
  · refine mo_p (fun x3 => ?_)
    refine mo_ite ?_ ?_
    · refine mo_p (fun b4 => ?_)
      refine mo_h (h0 := id) (f_X9_runDay_mono _ _) (fun g5 => ?_)
      refine mo_ite ?_ ?_
      · refine mo_p (fun r6 => ?_)
        refine mo_p (fun b7 => ?_)
        refine mo_p (fun x8 => ?_)
        exact mo_some rfl
      · refine mo_ite ?_ ?_
        · refine mo_p (fun b9 => ?_)
          refine mo_p (fun x10 => ?_)
          exact mo_some rfl
        · refine mo_ite ?_ ?_
          · refine mo_p (fun x11 => ?_)
            refine mo_ite ?_ ?_
            · exact mo_some rfl
            · exact mo_some rfl
          · refine mo_ite ?_ ?_
            · refine mo_p (fun b12 => ?_)
              refine mo_p (fun x13 => ?_)
              exact mo_some rfl
            · refine mo_p (fun b14 => ?_)
              refine mo_p (fun x15 => ?_)
              exact mo_some rfl
    · exact mo_none
theorem f_X9_many_mono (b : Nat) (s1 : Int32) (g : HP) : Mono g (fun v => v.2) (f_X9_many b s1 g) := by
  unfold f_X9_many
  refine mo_p (fun x1 => ?_)
  refine mo_ite ?_ ?_
  · refine mo_p (fun b2 => ?_)
    refine mo_h (h0 := id) (f_X9_runDay_mono _ _) (fun g3 => ?_)
    refine mo_ite ?_ ?_
    · refine mo_p (fun r4 => ?_)
      refine mo_p (fun b5 => ?_)
      refine mo_p (fun x6 => ?_)
      exact mo_some rfl
    · refine mo_ite ?_ ?_
      · refine mo_p (fun r7 => ?_)
        refine mo_p (fun b8 => ?_)
        refine mo_p (fun x9 => ?_)
        exact mo_some rfl
      · refine mo_ite ?_ ?_
        · refine mo_p (fun r10 => ?_)
          refine mo_p (fun b11 => ?_)
          refine mo_p (fun x12 => ?_)
          exact mo_some rfl
        · refine mo_ite ?_ ?_
          · refine mo_p (fun b13 => ?_)
            refine mo_p (fun x14 => ?_)
            exact mo_some rfl
          · refine mo_ite ?_ ?_
            · refine mo_p (fun b15 => ?_)
              refine mo_p (fun x16 => ?_)
              exact mo_some rfl
            · refine mo_ite ?_ ?_
              · refine mo_p (fun b17 => ?_)
                refine mo_p (fun x18 => ?_)
                exact mo_some rfl
              · refine mo_ite ?_ ?_
                · refine mo_p (fun b19 => ?_)
                  refine mo_p (fun x20 => ?_)
                  exact mo_some rfl
                · refine mo_ite ?_ ?_
                  · refine mo_p (fun b21 => ?_)
                    refine mo_p (fun x22 => ?_)
                    exact mo_some rfl
                  · refine mo_p (fun b23 => ?_)
                    refine mo_p (fun x24 => ?_)
                    exact mo_some rfl
  · exact mo_none
theorem f_X9_lost_mono (b : Nat) (s1 : Int32) (g : HP) : Mono g (fun v => v.2) (f_X9_lost b s1 g) := by
  unfold f_X9_lost
  refine mo_p (fun x1 => ?_)
  refine mo_ite ?_ ?_
  · refine mo_p (fun b2 => ?_)
    refine mo_h (h0 := id) (f_X9_runDay_mono _ _) (fun g3 => ?_)
    refine mo_p (fun b4 => ?_)
    refine mo_p (fun x5 => ?_)
    exact mo_some rfl
  · exact mo_none
theorem f_X9_meanLate_mono (b : Nat) (g : HP) : Mono g (fun v => v.2) (f_X9_meanLate b g) := by
  unfold f_X9_meanLate
  refine mo_p (fun b1 => ?_)
  refine mo_h (h0 := id) (f_X9_runDay_mono _ _) (fun g2 => ?_)
  refine mo_p (fun q14 => ?_)
  refine mo_ite ?_ ?_
  · exact mo_some rfl
  · refine mo_p (fun d15 => ?_)
    exact mo_some rfl
theorem f_X9_leastBlocks_mono (b : Nat) (g : HP) : Mono g (fun v => v.2) (f_X9_leastBlocks b g) := by
  unfold f_X9_leastBlocks
  refine mo_p (fun r1 => ?_)
  refine mo_p (fun b2 => ?_)
  refine mo_p (fun x3 => ?_)
  refine mo_p (fun r4 => ?_)
  refine mo_p (fun r5 => ?_)
  refine mo_p (fun b6 => ?_)
  refine mo_h (h0 := (fun v => v.2)) (f_X2_mostPairs_mono _ _ _) (fun v7 => ?_)
  exact mo_some rfl
theorem f_X9_wouldLose_mono (b : Nat) (s1 : Int32) (s2 : Int32) (g : HP) : Mono g (fun v => v.2) (f_X9_wouldLose b s1 s2 g) := by
  unfold f_X9_wouldLose
  refine mo_p (fun b1 => ?_)
  refine mo_p (fun r2 => ?_)
  refine mo_ite ?_ ?_
  · exact mo_none
  · refine mo_p (fun x3 => ?_)
    refine mo_ite ?_ ?_
    · refine mo_p (fun b4 => ?_)
      refine mo_h (h0 := (fun v => v.2)) (f_X0_lostIf_mono _ _ _ _ _) (fun v5 => ?_)
      refine mo_p (fun b6 => ?_)
      refine mo_h (h0 := (fun v => v.2)) (f_X0_lostNow_mono _ _) (fun v7 => ?_)
      exact mo_some rfl
    · exact mo_none
theorem f_X9_mayDelay_L53_mono (p53_2 : Option Nat) (p53_3 : Nat) (p53_4 : Int32) (p53_5 : Int32) : ∀ (m53 : Nat) (u53_6 : Int32) (w53 : HP), Mono w53 (fun v => v.2) (f_X9_mayDelay_L53 p53_2 p53_3 p53_4 p53_5 m53 u53_6 w53) := by
  intro m53
  induction m53 with
  | zero =>
    intro u53_6 w53
    exact mo_none
  | succ m53 ih =>
    intro u53_6 w53
    unfold f_X9_mayDelay_L53
    refine mo_ite ?_ ?_
    · exact mo_some rfl
    · refine mo_p (fun b7 => ?_)
      refine mo_h (h0 := (fun v => v.2)) (f_X0_lostIf_mono _ _ _ _ _) (fun v8 => ?_)
      refine mo_ite ?_ ?_
      · exact ih _ _
      · exact mo_some rfl
theorem f_X9_mayDelay_mono (b : Nat) (s1 : Int32) (g : HP) : Mono g (fun v => v.2) (f_X9_mayDelay b s1 g) := by
  unfold f_X9_mayDelay
  refine mo_p (fun b1 => ?_)
  refine mo_p (fun r2 => ?_)
  refine mo_ite ?_ ?_
  · exact mo_none
  · refine mo_p (fun r3 => ?_)
    refine mo_ite ?_ ?_
    · exact mo_some rfl
    · refine mo_p (fun x4 => ?_)
      refine mo_p (fun b5 => ?_)
      refine mo_h (h0 := (fun v => v.2)) (f_X0_lostIf_mono _ _ _ _ _) (fun v6 => ?_)
      exact f_X9_mayDelay_L53_mono _ _ _ _ _ _ _
theorem f_X9_emptyOfSwap_mono (b : Nat) (s1 : Option Nat) (s2 : Int32) (s3 : Option Nat) (s4 : Int32) (g : HP) : Mono g (fun v => v.2) (f_X9_emptyOfSwap b s1 s2 s3 s4 g) := by
  unfold f_X9_emptyOfSwap
  refine mo_p (fun r1 => ?_)
  refine mo_p (fun r2 => ?_)
  refine mo_p (fun x3 => ?_)
  refine mo_ite ?_ ?_
  · exact mo_some rfl
  · refine mo_p (fun r4 => ?_)
    refine mo_p (fun r5 => ?_)
    refine mo_p (fun b6 => ?_)
    refine mo_h (h0 := id) (f_X9_trySwap_mono _ _ _ _ _ _) (fun g7 => ?_)
    refine mo_p (fun r8 => ?_)
    refine mo_p (fun x9 => ?_)
    refine mo_p (fun b10 => ?_)
    refine mo_p (fun x11 => ?_)
    refine mo_ite ?_ ?_
    · refine mo_p (fun r12 => ?_)
      refine mo_p (fun x13 => ?_)
      refine mo_p (fun b14 => ?_)
      refine mo_p (fun x15 => ?_)
      refine mo_ite ?_ ?_
      · refine mo_p (fun r16 => ?_)
        refine mo_p (fun r17 => ?_)
        refine mo_p (fun b18 => ?_)
        refine mo_p (fun x19 => ?_)
        refine mo_p (fun r20 => ?_)
        refine mo_p (fun r21 => ?_)
        refine mo_p (fun b22 => ?_)
        refine mo_p (fun x23 => ?_)
        exact mo_some rfl
      · exact mo_some rfl
    · exact mo_some rfl
theorem f_X9_bestSwap_L72_mono (p72_0 : Nat) (p72_3 : Option Nat) (p72_4 : Option Nat) (p72_7 : Int32) : ∀ (m72 : Nat) (u72_5 : Int32) (u72_6 : Int32) (u72_8 : Int32) (w72 : HP), Mono w72 (fun v => v.2.2) (f_X9_bestSwap_L72 p72_0 p72_3 p72_4 p72_7 m72 u72_5 u72_6 u72_8 w72) := by
  intro m72
  induction m72 with
  | zero =>
    intro u72_5 u72_6 u72_8 w72
    exact mo_none
  | succ m72 ih =>
    intro u72_5 u72_6 u72_8 w72
    unfold f_X9_bestSwap_L72
    refine mo_p (fun r8 => ?_)
    refine mo_p (fun b9 => ?_)
    refine mo_p (fun x10 => ?_)
    refine mo_ite ?_ ?_
    · exact mo_some rfl
    · refine mo_p (fun b11 => ?_)
      refine mo_h (h0 := (fun v => v.2)) (f_X9_emptyOfSwap_mono _ _ _ _ _ _) (fun v12 => ?_)
      refine mo_ite ?_ ?_
      · exact ih _ _ _ _
      · refine mo_ite ?_ ?_
        · exact ih _ _ _ _
        · refine mo_ite ?_ ?_
          · exact ih _ _ _ _
          · exact ih _ _ _ _
theorem f_X9_bestSwap_L57_mono (p57_0 : Nat) (p57_3 : Option Nat) (p57_4 : Option Nat) : ∀ (m57 : Nat) (u57_5 : Int32) (u57_6 : Int32) (u57_7 : Int32) (w57 : HP), Mono w57 (fun v => v.2) (f_X9_bestSwap_L57 p57_0 p57_3 p57_4 m57 u57_5 u57_6 u57_7 w57) := by
  intro m57
  induction m57 with
  | zero =>
    intro u57_5 u57_6 u57_7 w57
    exact mo_none
  | succ m57 ih =>
    intro u57_5 u57_6 u57_7 w57
    unfold f_X9_bestSwap_L57
    refine mo_p (fun r5 => ?_)
    refine mo_p (fun b6 => ?_)
    refine mo_p (fun x7 => ?_)
    refine mo_ite ?_ ?_
    · exact mo_some rfl
    · refine mo_h (h0 := fun v => v.2.2) (f_X9_bestSwap_L72_mono _ _ _ _ _ _ _ _ _) (fun q13 => ?_)
      exact ih _ _ _ _
theorem f_X9_bestSwap_mono (b : Nat) (s1 : Int32) (s2 : Int32) (g : HP) : Mono g (fun v => v.2) (f_X9_bestSwap b s1 s2 g) := by
  unfold f_X9_bestSwap
  refine mo_p (fun b1 => ?_)
  refine mo_p (fun r2 => ?_)
  refine mo_p (fun b3 => ?_)
  refine mo_p (fun r4 => ?_)
  refine mo_ite ?_ ?_
  · exact mo_none
  · refine mo_ite ?_ ?_
    · exact mo_none
    · refine mo_ite ?_ ?_
      · exact mo_none
      · refine mo_h (h0 := fun v => v.2) (f_X9_bestSwap_L57_mono _ _ _ _ _ _ _ _) (fun q14 => ?_)
        exact mo_some rfl
theorem f_X9_mixTrip_L6_mono (p6_0 : Nat) (p6_3 : Int32) : ∀ (m6 : Nat) (u6_4 : Int64) (u6_6 : Int32) (w6 : HP), Mono w6 (fun v => v.2) (f_X9_mixTrip_L6 p6_0 p6_3 m6 u6_4 u6_6 w6) := by
  intro m6
  induction m6 with
  | zero =>
    intro u6_4 u6_6 w6
    exact mo_none
  | succ m6 ih =>
    intro u6_4 u6_6 w6
    unfold f_X9_mixTrip_L6
    refine mo_ite ?_ ?_
    · exact mo_some rfl
    · refine mo_p (fun b1 => ?_)
      refine mo_h (h0 := (fun v => v.2)) (f_X9_ofTrip_mono _ _ _ _) (fun v2 => ?_)
      refine mo_p (fun y3 => ?_)
      exact ih _ _ _
theorem f_X9_mixTrip_mono (b : Nat) (s1 : Int64) (s2 : Int32) (g : HP) : Mono g (fun v => v.2) (f_X9_mixTrip b s1 s2 g) := by
  unfold f_X9_mixTrip
  refine mo_h (h0 := fun v => v.2) (f_X9_mixTrip_L6_mono _ _ _ _ _ _) (fun q4 => ?_)
  refine mo_p (fun b5 => ?_)
  refine mo_h (h0 := (fun v => v.2)) (f_X9_mayDelay_mono _ _ _) (fun v6 => ?_)
  refine mo_p (fun y7 => ?_)
  exact mo_some rfl
theorem f_X9_mixBlock_L6_mono (p6_0 : Nat) (p6_3 : Int32) : ∀ (m6 : Nat) (u6_4 : Int64) (u6_6 : Int32) (w6 : HP), Mono w6 (fun v => v.2) (f_X9_mixBlock_L6 p6_0 p6_3 m6 u6_4 u6_6 w6) := by
  intro m6
  induction m6 with
  | zero =>
    intro u6_4 u6_6 w6
    exact mo_none
  | succ m6 ih =>
    intro u6_4 u6_6 w6
    unfold f_X9_mixBlock_L6
    refine mo_ite ?_ ?_
    · exact mo_some rfl
    · refine mo_p (fun b1 => ?_)
      refine mo_h (h0 := (fun v => v.2)) (f_X9_ofBlock_mono _ _ _ _) (fun v2 => ?_)
      refine mo_p (fun y3 => ?_)
      exact ih _ _ _
theorem f_X9_mixBlock_L54_mono (p54_0 : Nat) (p54_3 : Int32) (p54_6 : Int32) (p54_7 : Int32) : ∀ (m54 : Nat) (u54_4 : Int64) (u54_8 : Int32) (w54 : HP), Mono w54 (fun v => v.2) (f_X9_mixBlock_L54 p54_0 p54_3 p54_6 p54_7 m54 u54_4 u54_8 w54) := by
  intro m54
  induction m54 with
  | zero =>
    intro u54_4 u54_8 w54
    exact mo_none
  | succ m54 ih =>
    intro u54_4 u54_8 w54
    unfold f_X9_mixBlock_L54
    refine mo_ite ?_ ?_
    · exact mo_some rfl
    · refine mo_p (fun b7 => ?_)
      refine mo_h (h0 := (fun v => v.2)) (f_X9_ofPiece_mono _ _ _ _ _) (fun v8 => ?_)
      refine mo_p (fun y9 => ?_)
      exact ih _ _ _
theorem f_X9_mixBlock_L44_mono (p44_0 : Nat) (p44_3 : Int32) (p44_6 : Int32) : ∀ (m44 : Nat) (u44_4 : Int64) (u44_7 : Int32) (w44 : HP), Mono w44 (fun v => v.2) (f_X9_mixBlock_L44 p44_0 p44_3 p44_6 m44 u44_4 u44_7 w44) := by
  intro m44
  induction m44 with
  | zero =>
    intro u44_4 u44_7 w44
    exact mo_none
  | succ m44 ih =>
    intro u44_4 u44_7 w44
    unfold f_X9_mixBlock_L44
    refine mo_ite ?_ ?_
    · exact mo_some rfl
    · refine mo_h (h0 := fun v => v.2) (f_X9_mixBlock_L54_mono _ _ _ _ _ _ _ _) (fun q10 => ?_)
      exact ih _ _ _
theorem f_X9_mixBlock_mono (b : Nat) (s1 : Int64) (s2 : Int32) (g : HP) : Mono g (fun v => v.2) (f_X9_mixBlock b s1 s2 g) := by
  unfold f_X9_mixBlock
  refine mo_h (h0 := fun v => v.2) (f_X9_mixBlock_L6_mono _ _ _ _ _ _) (fun q4 => ?_)
  refine mo_p (fun b5 => ?_)
  refine mo_h (h0 := (fun v => v.2)) (f_X9_ofBlock_mono _ _ _ _) (fun v6 => ?_)
  refine mo_h (h0 := fun v => v.2) (f_X9_mixBlock_L44_mono _ _ _ _ _ _ _) (fun q11 => ?_)
  refine mo_p (fun b12 => ?_)
  refine mo_h (h0 := (fun v => v.2)) (f_X9_wouldLose_mono _ _ _ _) (fun v13 => ?_)
  refine mo_p (fun y14 => ?_)
  exact mo_some rfl
theorem f_X9_mixDriver_L6_mono (p6_0 : Nat) (p6_3 : Int32) : ∀ (m6 : Nat) (u6_4 : Int64) (u6_6 : Int32) (w6 : HP), Mono w6 (fun v => v.2) (f_X9_mixDriver_L6 p6_0 p6_3 m6 u6_4 u6_6 w6) := by
  intro m6
  induction m6 with
  | zero =>
    intro u6_4 u6_6 w6
    exact mo_none
  | succ m6 ih =>
    intro u6_4 u6_6 w6
    unfold f_X9_mixDriver_L6
    refine mo_ite ?_ ?_
    · exact mo_some rfl
    · refine mo_p (fun b1 => ?_)
      refine mo_h (h0 := (fun v => v.2)) (f_X9_ofDriver_mono _ _ _ _) (fun v2 => ?_)
      refine mo_p (fun y3 => ?_)
      exact ih _ _ _
theorem f_X9_mixDriver_mono (b : Nat) (s1 : Int64) (s2 : Int32) (g : HP) : Mono g (fun v => v.2) (f_X9_mixDriver b s1 s2 g) := by
  unfold f_X9_mixDriver
  refine mo_h (h0 := fun v => v.2) (f_X9_mixDriver_L6_mono _ _ _ _ _ _) (fun q4 => ?_)
  exact mo_some rfl
theorem f_X9_digest_L6_mono (p6_0 : Nat) : ∀ (m6 : Nat) (u6_1 : Int64) (u6_3 : Int32) (w6 : HP), Mono w6 (fun v => v.2) (f_X9_digest_L6 p6_0 m6 u6_1 u6_3 w6) := by
  intro m6
  induction m6 with
  | zero =>
    intro u6_1 u6_3 w6
    exact mo_none
  | succ m6 ih =>
    intro u6_1 u6_3 w6
    unfold f_X9_digest_L6
    refine mo_ite ?_ ?_
    · exact mo_some rfl
    · refine mo_p (fun b1 => ?_)
      refine mo_h (h0 := (fun v => v.2)) (f_X9_many_mono _ _ _) (fun v2 => ?_)
      refine mo_p (fun y3 => ?_)
      exact ih _ _ _
theorem f_X9_digest_L30_mono (p30_0 : Nat) : ∀ (m30 : Nat) (u30_1 : Int64) (u30_3 : Int32) (w30 : HP), Mono w30 (fun v => v.2) (f_X9_digest_L30 p30_0 m30 u30_1 u30_3 w30) := by
  intro m30
  induction m30 with
  | zero =>
    intro u30_1 u30_3 w30
    exact mo_none
  | succ m30 ih =>
    intro u30_1 u30_3 w30
    unfold f_X9_digest_L30
    refine mo_ite ?_ ?_
    · exact mo_some rfl
    · refine mo_p (fun b5 => ?_)
      refine mo_h (h0 := (fun v => v.2)) (f_X9_lost_mono _ _ _) (fun v6 => ?_)
      refine mo_p (fun y7 => ?_)
      exact ih _ _ _
theorem f_X9_digest_L54_mono (p54_0 : Nat) : ∀ (m54 : Nat) (u54_1 : Int64) (u54_3 : Int32) (w54 : HP), Mono w54 (fun v => v.2) (f_X9_digest_L54 p54_0 m54 u54_1 u54_3 w54) := by
  intro m54
  induction m54 with
  | zero =>
    intro u54_1 u54_3 w54
    exact mo_none
  | succ m54 ih =>
    intro u54_1 u54_3 w54
    unfold f_X9_digest_L54
    refine mo_p (fun r9 => ?_)
    refine mo_p (fun b10 => ?_)
    refine mo_p (fun x11 => ?_)
    refine mo_ite ?_ ?_
    · exact mo_some rfl
    · refine mo_p (fun b12 => ?_)
      refine mo_h (h0 := (fun v => v.2)) (f_X9_mixTrip_mono _ _ _ _) (fun v13 => ?_)
      exact ih _ _ _
theorem f_X9_digest_L80_mono (p80_0 : Nat) : ∀ (m80 : Nat) (u80_1 : Int64) (u80_3 : Int32) (w80 : HP), Mono w80 (fun v => v.2) (f_X9_digest_L80 p80_0 m80 u80_1 u80_3 w80) := by
  intro m80
  induction m80 with
  | zero =>
    intro u80_1 u80_3 w80
    exact mo_none
  | succ m80 ih =>
    intro u80_1 u80_3 w80
    unfold f_X9_digest_L80
    refine mo_p (fun r15 => ?_)
    refine mo_p (fun b16 => ?_)
    refine mo_p (fun x17 => ?_)
    refine mo_ite ?_ ?_
    · exact mo_some rfl
    · refine mo_p (fun b18 => ?_)
      refine mo_h (h0 := (fun v => v.2)) (f_X9_mixBlock_mono _ _ _ _) (fun v19 => ?_)
      exact ih _ _ _
theorem f_X9_digest_L106_mono (p106_0 : Nat) : ∀ (m106 : Nat) (u106_1 : Int64) (u106_3 : Int32) (w106 : HP), Mono w106 (fun v => v.2) (f_X9_digest_L106 p106_0 m106 u106_1 u106_3 w106) := by
  intro m106
  induction m106 with
  | zero =>
    intro u106_1 u106_3 w106
    exact mo_none
  | succ m106 ih =>
    intro u106_1 u106_3 w106
    unfold f_X9_digest_L106
    refine mo_p (fun r21 => ?_)
    refine mo_p (fun b22 => ?_)
    refine mo_p (fun x23 => ?_)
    refine mo_ite ?_ ?_
    · exact mo_some rfl
    · refine mo_p (fun b24 => ?_)
      refine mo_h (h0 := (fun v => v.2)) (f_X9_mixDriver_mono _ _ _ _) (fun v25 => ?_)
      exact ih _ _ _
theorem f_X9_digest_mono (b : Nat) (g : HP) : Mono g (fun v => v.2) (f_X9_digest b g) := by
  unfold f_X9_digest
  refine mo_h (h0 := fun v => v.2) (f_X9_digest_L6_mono _ _ _ _ _) (fun q4 => ?_)
  refine mo_h (h0 := fun v => v.2) (f_X9_digest_L30_mono _ _ _ _ _) (fun q8 => ?_)
  refine mo_h (h0 := fun v => v.2) (f_X9_digest_L54_mono _ _ _ _ _) (fun q14 => ?_)
  refine mo_h (h0 := fun v => v.2) (f_X9_digest_L80_mono _ _ _ _ _) (fun q20 => ?_)
  refine mo_h (h0 := fun v => v.2) (f_X9_digest_L106_mono _ _ _ _ _) (fun q26 => ?_)
  refine mo_p (fun b27 => ?_)
  refine mo_h (h0 := (fun v => v.2)) (f_X9_leastBlocks_mono _ _) (fun v28 => ?_)
  refine mo_p (fun y29 => ?_)
  refine mo_p (fun r30 => ?_)
  refine mo_p (fun b31 => ?_)
  refine mo_p (fun x32 => ?_)
  refine mo_ite ?_ ?_
  · refine mo_p (fun b33 => ?_)
    refine mo_h (h0 := (fun v => v.2)) (f_X9_bestSwap_mono _ _ _ _) (fun v34 => ?_)
    refine mo_p (fun y35 => ?_)
    exact mo_some rfl
  · exact mo_some rfl
