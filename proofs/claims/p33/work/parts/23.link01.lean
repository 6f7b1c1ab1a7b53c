theorem k_X6_init (l : Launch) (b : Nat) (g : HP) : MM l Pi2 yX6_init cX6_init 1 none 4 100 [vR (some b)] g (wVg (f_X6_init b g)) := by
  refine MM_of PO_Pi2 mf_X6_init (fun a ha => wVg_mono (f_X6_init_mono b g) a ha) (Nat.le_of_ble_eq_true rfl) ?_
  intro Γ fin hfin hl hin C0 Z0
  subst hl
  obtain ⟨v0, hv, rfl⟩ := wVg_some hfin
  have C : CX Γ cX6_init 1 "Blockduty$Row" Pi2 ok2 4 100 := C0
  have Z : RX Γ Pi2 none (none, v0) := Z0
  refine X.conv (fun _ => hv) ?_
  unfold f_X6_init
  show X Γ 0 [(0, vR (some b))] [] g _
  refine z_aload_n C dX6_init_0 rfl 0 rfl ?_
  refine z_objInit C kt78 kwOI kwOC dX6_init_1 (by decide) (Nat.le_of_ble_eq_true rfl) ?_
  refine z_aload_n C dX6_init_4 rfl 0 rfl ?_
  refine z_newAL C dX6_init_5 kt79 ?_
  refine z_dup C dX6_init_8 rfl ?_
  refine z_callI C mf_Jx4a65c_init_da8c8 kt37 rfl kt80 (k_al_init (gL Γ) (nx g) (newG g 31 3 [] []) (gK Γ)) rfl ⟨Nat.le_of_ble_eq_true rfl, Nat.le_of_ble_eq_true rfl⟩ (rest := [vR (some (nx g)), vR (some b)]) rfl (Nat.le_of_ble_eq_true rfl) dX6_init_9 (bdVg) (contVg fun g1 => ?_)
  refine z_pfR C cf7 0 (by decide) rfl rfl (isRefTy_o _) (Or.inr ⟨rfl, hin, rfl⟩) dX6_init_12 kt81 (fun _ h => h) bd (fun g2 => ?_)
  exact z_vret C Z rfl dX6_init_15 (fun h => by cases h; rfl)
theorem k_X0_init (l : Launch) (b : Nat) (s1 : Int32) (s2 : Int32) (g : HP) : MM l Pi2 yX0_init cX0_init 3 none 5 120 [vR (some b), vI s1, vI s2] g (wVg (f_X0_init b s1 s2 g)) := by
  refine MM_of PO_Pi2 mf_X0_init (fun a ha => wVg_mono (f_X0_init_mono b s1 s2 g) a ha) (Nat.le_of_ble_eq_true rfl) ?_
  intro Γ fin hfin hl hin C0 Z0
  subst hl
  obtain ⟨v0, hv, rfl⟩ := wVg_some hfin
  have C : CX Γ cX0_init 3 "Blockduty$Block" Pi2 ok2 5 120 := C0
  have Z : RX Γ Pi2 none (none, v0) := Z0
  refine X.conv (fun _ => hv) ?_
  unfold f_X0_init
  show X Γ 0 [(0, vR (some b)), (1, vI s1), (2, vI s2)] [] g _
  refine z_aload_n C dX0_init_0 rfl 0 rfl ?_
  refine z_objInit C kt525 kwOI kwOC dX0_init_1 (by decide) (Nat.le_of_ble_eq_true rfl) ?_
  refine z_aload_n C dX0_init_4 rfl 0 rfl ?_
  refine z_iconst C dX0_init_5 (v := (-1)) (by decide) ?_
  refine z_pfI C cf1 2 (by decide) rfl rfl rfl (Or.inl rfl) dX0_init_6 kt535 (fun _ h => h) bd (fun g1 => ?_)
  refine z_aload_n C dX0_init_9 rfl 0 rfl ?_
  refine z_new C cf7 rfl dX0_init_10 kt526 kt74 kt6 def7 ?_
  refine z_dup C dX0_init_13 rfl ?_
  refine z_callIN (host := "Blockduty") C mf_X6_init kt76 rfl (List.mem_of_getElem? (i := 3) rfl) (k_X6_init (gL Γ) (nx g1) (newG g1 8 1 [] []) (gK Γ)) rfl ⟨Nat.le_of_ble_eq_true rfl, Nat.le_of_ble_eq_true rfl⟩ (rest := [vR (some (nx g1)), vR (some b)]) rfl (Nat.le_of_ble_eq_true rfl) dX0_init_14 (bdVg) (contVg fun g2 => ?_)
  refine z_pfR C cf1 3 (by decide) rfl rfl (isRefTy_o _) (Or.inr ⟨rfl, hin, rfl⟩) dX0_init_17 kt537 (fun _ h => h) bd (fun g3 => ?_)
  refine z_aload_n C dX0_init_20 rfl 0 rfl ?_
  refine z_newAL C dX0_init_21 kt528 ?_
  refine z_dup C dX0_init_24 rfl ?_
  refine z_callI C mf_Jx4a65c_init_da8c8 kt37 rfl kt529 (k_al_init (gL Γ) (nx g3) (newG g3 31 3 [] []) (gK Γ)) rfl ⟨Nat.le_of_ble_eq_true rfl, Nat.le_of_ble_eq_true rfl⟩ (rest := [vR (some (nx g3)), vR (some b)]) rfl (Nat.le_of_ble_eq_true rfl) dX0_init_25 (bdVg) (contVg fun g4 => ?_)
  refine z_pfR C cf1 4 (by decide) rfl rfl (isRefTy_o _) (Or.inr ⟨rfl, hin, rfl⟩) dX0_init_28 kt539 (fun _ h => h) bd (fun g5 => ?_)
  refine z_aload_n C dX0_init_31 rfl 0 rfl ?_
  refine z_iload_n C dX0_init_32 rfl 1 rfl ?_
  refine z_pfI C cf1 0 (by decide) rfl rfl rfl (Or.inr ⟨rfl, hin, rfl⟩) dX0_init_33 kt530 (fun _ h => h) bd (fun g6 => ?_)
  refine z_aload_n C dX0_init_36 rfl 0 rfl ?_
  refine z_iload_n C dX0_init_37 rfl 2 rfl ?_
  refine z_pfI C cf1 1 (by decide) rfl rfl rfl (Or.inr ⟨rfl, hin, rfl⟩) dX0_init_38 kt533 (fun _ h => h) bd (fun g7 => ?_)
  exact z_vret C Z rfl dX0_init_41 (fun h => by cases h; rfl)
theorem k_X0_pieceNumbered (l : Launch) (b : Nat) (s1 : Int32) (g : HP) : MM l Pi2 yX0_pieceNumbered cX0_pieceNumbered 2 (some (.object "Blockduty$Piece")) 3 64 [vR (some b), vI s1] g (wR g (f_X0_pieceNumbered b s1 g)) := by
  refine MM_of PO_Pi2 mf_X0_pieceNumbered (fun a ha => wR_same a ha) (Nat.le_of_ble_eq_true rfl) ?_
  intro Γ fin hfin hl hin C0 Z0
  subst hl
  obtain ⟨v0, hv, rfl⟩ := wR_some hfin
  have C : CX Γ cX0_pieceNumbered 2 "Blockduty$Block" Pi2 ok2 3 64 := C0
  have Z : RX Γ Pi2 (some (.object "Blockduty$Piece")) (some (vR v0), g) := Z0
  refine X.conv (fun _ => hv) ?_
  unfold f_X0_pieceNumbered
  show X Γ 0 [(0, vR (some b)), (1, vI s1)] [] g _
  refine z_iload_n C dX0_pieceNumbered_0 rfl 1 rfl ?_
  refine z_if_lt C dX0_pieceNumbered_1 (tgt := 29) rfl it jf ?_ ?_
  · refine z_null C dX0_pieceNumbered_29 ?_
    exact z_aret C Z rfl (Or.inl ⟨_, rfl⟩) dX0_pieceNumbered_30 (fun h => by cases h; rfl)
  · refine z_iload_n C dX0_pieceNumbered_4 rfl 1 rfl ?_
    refine z_aload_n C dX0_pieceNumbered_5 rfl 0 rfl ?_
    refine z_gfR C cf1 4 (by decide) rfl rfl dX0_pieceNumbered_6 kt539 (fun _ h => h) bd (fun r1 => ?_)
    refine z_rcv bd (fun b2 hbb2 htb2 => ?_)
    subst hbb2
    refine z_callV C cf0 mf_Jx4a65c_size_8abf5 kt261 kt262 kt580 (k_al_size (gL Γ) b2 g (gK Γ)) htb2 rfl ⟨Nat.le_of_ble_eq_true rfl, Nat.le_of_ble_eq_true rfl⟩ (rest := [vI s1]) rfl (Nat.le_of_ble_eq_true rfl) dX0_pieceNumbered_9 (bdI) (contI fun x3 => ?_)
    refine z_icmp_ge C dX0_pieceNumbered_12 (tgt := 29) rfl it jf ?_ ?_
    · refine z_null C dX0_pieceNumbered_29 ?_
      exact z_aret C Z rfl (Or.inl ⟨_, rfl⟩) dX0_pieceNumbered_30 (fun h => by cases h; rfl)
    · refine z_aload_n C dX0_pieceNumbered_15 rfl 0 rfl ?_
      refine z_gfR C cf1 4 (by decide) rfl rfl dX0_pieceNumbered_16 kt539 (fun _ h => h) bd (fun r4 => ?_)
      refine z_iload_n C dX0_pieceNumbered_19 rfl 1 rfl ?_
      refine z_rcv bd (fun b5 hbb5 htb5 => ?_)
      subst hbb5
      refine z_callV C cf0 mf_Jx4a65c_get_915e3 kt265 kt266 kt581 (k_al_get (gL Γ) b5 s1 g (gK Γ)) htb5 rfl ⟨Nat.le_of_ble_eq_true rfl, Nat.le_of_ble_eq_true rfl⟩ (rest := []) rfl (Nat.le_of_ble_eq_true rfl) dX0_pieceNumbered_20 (bdR) (contR fun r6 => ?_)
      refine z_cst C cf5 dX0_pieceNumbered_23 kt582 bd (fun r7 => ?_)
      refine z_goto C dX0_pieceNumbered_26 (tgt := 30) rfl ?_
      exact z_aret C Z rfl (Or.inl ⟨_, rfl⟩) dX0_pieceNumbered_30 (fun h => by cases h; rfl)
theorem k_X1_drop_L2 {Γ : GG} {v0 : HP} (C : CX Γ cX1_drop 3 "Blockduty$Driver" Pi2 ok2 3 106) (p2_0 : Nat) (p2_1 : Option Nat) (w2 : HP) (Z : RX Γ Pi2 none (none, v0)) : ∀ (m2 : Nat) (u2_2 : Int32), X Γ 2 [(0, vR (some p2_0)), (1, vR p2_1), (2, vI u2_2)] [] w2 (f_X1_drop_L2 p2_0 p2_1 w2 m2 u2_2 = some v0) := by
  intro m2
  induction m2 with
  | zero =>
    intro u2_2
    exact X.no no0
  | succ m2 ih =>
    intro u2_2
    unfold f_X1_drop_L2
    refine z_iload_n C dX1_drop_2 rfl 2 rfl ?_
    refine z_aload_n C dX1_drop_3 rfl 0 rfl ?_
    refine z_gfR C cf2 2 (by decide) rfl rfl dX1_drop_4 kt501 (fun _ h => h) bd (fun r1 => ?_)
    refine z_rcv bd (fun b2 hbb2 htb2 => ?_)
    subst hbb2
    refine z_callV C cf0 mf_Jx4a65c_size_8abf5 kt261 kt262 kt591 (k_al_size (gL Γ) b2 w2 (gK Γ)) htb2 rfl ⟨Nat.le_of_ble_eq_true rfl, Nat.le_of_ble_eq_true rfl⟩ (rest := [vI u2_2]) rfl (Nat.le_of_ble_eq_true rfl) dX1_drop_7 (bdI) (contI fun x3 => ?_)
    refine z_icmp_ge C dX1_drop_10 (tgt := 41) rfl it jf ?_ ?_
    · exact z_vret C Z rfl dX1_drop_41 (fun h => by cases h; rfl)
    · refine z_aload_n C dX1_drop_13 rfl 0 rfl ?_
      refine z_gfR C cf2 2 (by decide) rfl rfl dX1_drop_14 kt501 (fun _ h => h) bd (fun r4 => ?_)
      refine z_iload_n C dX1_drop_17 rfl 2 rfl ?_
      refine z_rcv bd (fun b5 hbb5 htb5 => ?_)
      subst hbb5
      refine z_callV C cf0 mf_Jx4a65c_get_915e3 kt265 kt266 kt592 (k_al_get (gL Γ) b5 u2_2 w2 (gK Γ)) htb5 rfl ⟨Nat.le_of_ble_eq_true rfl, Nat.le_of_ble_eq_true rfl⟩ (rest := []) rfl (Nat.le_of_ble_eq_true rfl) dX1_drop_18 (bdR) (contR fun r6 => ?_)
      refine z_aload_n C dX1_drop_21 rfl 1 rfl ?_
      refine z_acmp_ne C dX1_drop_22 (tgt := 35) rfl it jf ?_ ?_
      · refine z_aload_n C dX1_drop_25 rfl 0 rfl ?_
        refine z_gfR C cf2 2 (by decide) rfl rfl dX1_drop_26 kt501 (fun _ h => h) bd (fun r7 => ?_)
        refine z_iload_n C dX1_drop_29 rfl 2 rfl ?_
        refine z_rcv bd (fun b8 hbb8 htb8 => ?_)
        subst hbb8
        refine z_callV C cf0 mf_Jx4a65c_remove_915e3 kt594 kt595 kt593 (k_al_remove (gL Γ) b8 u2_2 w2 (gK Γ)) htb8 rfl ⟨Nat.le_of_ble_eq_true rfl, Nat.le_of_ble_eq_true rfl⟩ (rest := []) rfl (Nat.le_of_ble_eq_true rfl) dX1_drop_30 (bdRg) (contRg fun v9 => ?_)
        refine z_pop C dX1_drop_33 rfl ?_
        exact z_vret C Z rfl dX1_drop_34 (fun h => by cases h; rfl)
      · refine z_iinc (L' := [(2, vI (u2_2 + 1)), (0, vR (some p2_0)), (1, vR p2_1)]) C dX1_drop_35 2 rfl (v := u2_2 + 1) rfl (by decide) rfl ?_
        refine z_goto C dX1_drop_38 (tgt := 2) rfl ?_
        refine z_lsub [1, 2, 0] rfl ?_
        exact ih (u2_2 + 1)
theorem k_X1_drop (l : Launch) (b : Nat) (s1 : Option Nat) (g : HP) : MM l Pi2 yX1_drop cX1_drop 3 none 3 106 [vR (some b), vR s1] g (wVg (f_X1_drop b s1 g)) := by
  refine MM_of PO_Pi2 mf_X1_drop (fun a ha => wVg_mono (f_X1_drop_mono b s1 g) a ha) (Nat.le_of_ble_eq_true rfl) ?_
  intro Γ fin hfin hl hin C0 Z0
  subst hl
  obtain ⟨v0, hv, rfl⟩ := wVg_some hfin
  have C : CX Γ cX1_drop 3 "Blockduty$Driver" Pi2 ok2 3 106 := C0
  have Z : RX Γ Pi2 none (none, v0) := Z0
  refine X.conv (fun _ => hv) ?_
  unfold f_X1_drop
  show X Γ 0 [(0, vR (some b)), (1, vR s1)] [] g _
  refine z_iconst C dX1_drop_0 (v := 0) (by decide) ?_
  refine z_istore_n (L' := [(2, vI 0), (0, vR (some b)), (1, vR s1)]) C dX1_drop_1 rfl (by decide) rfl ?_
  refine z_lsub [1, 2, 0] rfl ?_
  exact k_X1_drop_L2 C b s1 g Z FU 0
theorem k_X4_release (l : Launch) (b : Nat) (g : HP) : MM l Pi2 yX4_release cX4_release 1 none 4 128 [vR (some b)] g (wVg (f_X4_release b g)) := by
  refine MM_of PO_Pi2 mf_X4_release (fun a ha => wVg_mono (f_X4_release_mono b g) a ha) (Nat.le_of_ble_eq_true rfl) ?_
  intro Γ fin hfin hl hin C0 Z0
  subst hl
  obtain ⟨v0, hv, rfl⟩ := wVg_some hfin
  have C : CX Γ cX4_release 1 "Blockduty$Piece" Pi2 ok2 4 128 := C0
  have Z : RX Γ Pi2 none (none, v0) := Z0
  refine X.conv (fun _ => hv) ?_
  unfold f_X4_release
  show X Γ 0 [(0, vR (some b))] [] g _
  refine z_aload_n C dX4_release_0 rfl 0 rfl ?_
  refine z_gfR C cf5 5 (by decide) rfl rfl dX4_release_1 kt1010 (fun _ h => h) bd (fun r1 => ?_)
  refine z_ifnull C dX4_release_4 (tgt := 20) rfl it jf ?_ ?_
  · exact z_vret C Z rfl dX4_release_20 (fun h => by cases h; rfl)
  · refine z_aload_n C dX4_release_7 rfl 0 rfl ?_
    refine z_gfR C cf5 5 (by decide) rfl rfl dX4_release_8 kt1010 (fun _ h => h) bd (fun r2 => ?_)
    refine z_aload_n C dX4_release_11 rfl 0 rfl ?_
    refine z_rcv bd (fun b3 hbb3 htb3 => ?_)
    subst hbb3
    refine z_callV C cf2 mf_X1_drop kt588 kt589 kt587 (k_X1_drop (gL Γ) b3 (some b) g (gK Γ)) htb3 rfl ⟨Nat.le_of_ble_eq_true rfl, Nat.le_of_ble_eq_true rfl⟩ (rest := []) rfl (Nat.le_of_ble_eq_true rfl) dX4_release_12 (bdVg) (contVg fun g4 => ?_)
    refine z_aload_n C dX4_release_15 rfl 0 rfl ?_
    refine z_null C dX4_release_16 ?_
    refine z_pfR C cf5 5 (by decide) rfl rfl (isRefTy_o _) (Or.inl rfl) dX4_release_17 kt1010 (fun _ h => h) bd (fun g5 => ?_)
    exact z_vret C Z rfl dX4_release_20 (fun h => by cases h; rfl)
theorem k_X6_count (l : Launch) (b : Nat) (g : HP) : MM l Pi2 yX6_count cX6_count 1 (some .int) 1 20 [vR (some b)] g (wI g (f_X6_count b g)) := by
  refine MM_of PO_Pi2 mf_X6_count (fun a ha => wI_same a ha) (Nat.le_of_ble_eq_true rfl) ?_
  intro Γ fin hfin hl hin C0 Z0
  subst hl
  obtain ⟨v0, hv, rfl⟩ := wI_some hfin
  have C : CX Γ cX6_count 1 "Blockduty$Row" Pi2 ok2 1 20 := C0
  have Z : RX Γ Pi2 (some .int) (some (vI v0), g) := Z0
  refine X.conv (fun _ => hv) ?_
  unfold f_X6_count
  show X Γ 0 [(0, vR (some b))] [] g _
  refine z_aload_n C dX6_count_0 rfl 0 rfl ?_
  refine z_gfR C cf7 0 (by decide) rfl rfl dX6_count_1 kt81 (fun _ h => h) bd (fun r1 => ?_)
  refine z_rcv bd (fun b2 hbb2 htb2 => ?_)
  subst hbb2
  refine z_callV C cf0 mf_Jx4a65c_size_8abf5 kt261 kt262 kt569 (k_al_size (gL Γ) b2 g (gK Γ)) htb2 rfl ⟨Nat.le_of_ble_eq_true rfl, Nat.le_of_ble_eq_true rfl⟩ (rest := []) rfl (Nat.le_of_ble_eq_true rfl) dX6_count_4 (bdI) (contI fun x3 => ?_)
  exact z_iret C Z rfl dX6_count_7 (fun h => by cases h; rfl)
theorem k_X0_forgetPieces_L2 {Γ : GG} {β : Type} {fin0 : β} {F0 : HP → Option β} (C : CX Γ cX0_forgetPieces 2 "Blockduty$Block" Pi2 ok2 5 148) (p2_0 : Nat) (hexit : ∀ q2 : HP, X Γ 33 [(0, vR (some p2_0))] [] q2 (F0 q2 = some fin0)) : ∀ (m2 : Nat) (u2_1 : Int32) (w2 : HP), X Γ 2 [(0, vR (some p2_0)), (1, vI u2_1)] [] w2 ((f_X0_forgetPieces_L2 p2_0 m2 u2_1 w2).bind F0 = some fin0) := by
  intro m2
  induction m2 with
  | zero =>
    intro u2_1 w2
    exact X.no no1
  | succ m2 ih =>
    intro u2_1 w2
    unfold f_X0_forgetPieces_L2
    refine z_iload_n C dX0_forgetPieces_2 rfl 1 rfl ?_
    refine z_aload_n C dX0_forgetPieces_3 rfl 0 rfl ?_
    refine X.conv bb ?_
    refine z_gfR C cf1 4 (by decide) rfl rfl dX0_forgetPieces_4 kt539 (fun _ h => h) bd (fun r1 => ?_)
    refine X.conv bb ?_
    refine z_rcv bd (fun b2 hbb2 htb2 => ?_)
    subst hbb2
    refine X.conv bb ?_
    refine z_callV C cf0 mf_Jx4a65c_size_8abf5 kt261 kt262 kt580 (k_al_size (gL Γ) b2 w2 (gK Γ)) htb2 rfl ⟨Nat.le_of_ble_eq_true rfl, Nat.le_of_ble_eq_true rfl⟩ (rest := [vI u2_1]) rfl (Nat.le_of_ble_eq_true rfl) dX0_forgetPieces_7 (bdI) (contI fun x3 => ?_)
    refine X.conv bi ?_
    refine z_icmp_ge C dX0_forgetPieces_10 (tgt := 33) rfl it jf ?_ ?_
    · refine z_lsub [0] rfl ?_
      exact hexit w2
    · refine z_aload_n C dX0_forgetPieces_13 rfl 0 rfl ?_
      refine X.conv bb ?_
      refine z_gfR C cf1 4 (by decide) rfl rfl dX0_forgetPieces_14 kt539 (fun _ h => h) bd (fun r4 => ?_)
      refine z_iload_n C dX0_forgetPieces_17 rfl 1 rfl ?_
      refine X.conv bb ?_
      refine z_rcv bd (fun b5 hbb5 htb5 => ?_)
      subst hbb5
      refine X.conv bb ?_
      refine z_callV C cf0 mf_Jx4a65c_get_915e3 kt265 kt266 kt581 (k_al_get (gL Γ) b5 u2_1 w2 (gK Γ)) htb5 rfl ⟨Nat.le_of_ble_eq_true rfl, Nat.le_of_ble_eq_true rfl⟩ (rest := []) rfl (Nat.le_of_ble_eq_true rfl) dX0_forgetPieces_18 (bdR) (contR fun r6 => ?_)
      refine X.conv bb ?_
      refine z_cst C cf5 dX0_forgetPieces_21 kt582 bd (fun r7 => ?_)
      refine X.conv bb ?_
      refine z_rcv bd (fun b8 hbb8 htb8 => ?_)
      subst hbb8
      refine X.conv bb ?_
      refine z_callV C cf5 mf_X4_release kt584 kt585 kt583 (k_X4_release (gL Γ) b8 w2 (gK Γ)) htb8 rfl ⟨Nat.le_of_ble_eq_true rfl, Nat.le_of_ble_eq_true rfl⟩ (rest := []) rfl (Nat.le_of_ble_eq_true rfl) dX0_forgetPieces_24 (bdVg) (contVg fun g9 => ?_)
      refine z_iinc (L' := [(1, vI (u2_1 + 1)), (0, vR (some p2_0))]) C dX0_forgetPieces_27 1 rfl (v := u2_1 + 1) rfl (by decide) rfl ?_
      refine z_goto C dX0_forgetPieces_30 (tgt := 2) rfl ?_
      refine z_lsub [1, 0] rfl ?_
      exact ih (u2_1 + 1) g9
theorem k_X0_forgetPieces_L42 {Γ : GG} {β : Type} {fin0 : β} {F0 : HP → Option β} (C : CX Γ cX0_forgetPieces 2 "Blockduty$Block" Pi2 ok2 5 148) (p42_0 : Nat) (hexit : ∀ q42 : HP, X Γ 77 [] [] q42 (F0 q42 = some fin0)) : ∀ (m42 : Nat) (u42_1 : Int32) (w42 : HP), X Γ 42 [(0, vR (some p42_0)), (1, vI u42_1)] [] w42 ((f_X0_forgetPieces_L42 p42_0 m42 u42_1 w42).bind F0 = some fin0) := by
  intro m42
  induction m42 with
  | zero =>
    intro u42_1 w42
    exact X.no no1
  | succ m42 ih =>
    intro u42_1 w42
    unfold f_X0_forgetPieces_L42
    refine z_iload_n C dX0_forgetPieces_42 rfl 1 rfl ?_
    refine z_aload_n C dX0_forgetPieces_43 rfl 0 rfl ?_
    refine X.conv bb ?_
    refine z_gfR C cf1 3 (by decide) rfl rfl dX0_forgetPieces_44 kt537 (fun _ h => h) bd (fun r14 => ?_)
    refine X.conv bb ?_
    refine z_rcv bd (fun b15 hbb15 htb15 => ?_)
    subst hbb15
    refine X.conv bb ?_
    refine z_callV C cf7 mf_X6_count kt606 kt607 kt605 (k_X6_count (gL Γ) b15 w42 (gK Γ)) htb15 rfl ⟨Nat.le_of_ble_eq_true rfl, Nat.le_of_ble_eq_true rfl⟩ (rest := [vI u42_1]) rfl (Nat.le_of_ble_eq_true rfl) dX0_forgetPieces_47 (bdI) (contI fun x16 => ?_)
    refine X.conv bi ?_
    refine z_icmp_ge C dX0_forgetPieces_50 (tgt := 77) rfl it jf ?_ ?_
    · refine z_lsub [] rfl ?_
      exact hexit w42
    · refine z_aload_n C dX0_forgetPieces_53 rfl 0 rfl ?_
      refine X.conv bb ?_
      refine z_gfR C cf1 3 (by decide) rfl rfl dX0_forgetPieces_54 kt537 (fun _ h => h) bd (fun r17 => ?_)
      refine X.conv bb ?_
      refine z_gfR C cf7 0 (by decide) rfl rfl dX0_forgetPieces_57 kt82 (fun _ h => h) bd (fun r18 => ?_)
      refine z_iload_n C dX0_forgetPieces_60 rfl 1 rfl ?_
      refine X.conv bb ?_
      refine z_rcv bd (fun b19 hbb19 htb19 => ?_)
      subst hbb19
      refine X.conv bb ?_
      refine z_callV C cf0 mf_Jx4a65c_get_915e3 kt265 kt266 kt581 (k_al_get (gL Γ) b19 u42_1 w42 (gK Γ)) htb19 rfl ⟨Nat.le_of_ble_eq_true rfl, Nat.le_of_ble_eq_true rfl⟩ (rest := []) rfl (Nat.le_of_ble_eq_true rfl) dX0_forgetPieces_61 (bdR) (contR fun r20 => ?_)
      refine X.conv bb ?_
      refine z_cst C cf8 dX0_forgetPieces_64 kt609 bd (fun r21 => ?_)
      refine z_null C dX0_forgetPieces_67 ?_
      refine X.conv bb ?_
      refine z_pfR C cf8 8 (by decide) rfl rfl (isRefTy_o _) (Or.inl rfl) dX0_forgetPieces_68 kt435 (fun _ h => h) bd (fun g22 => ?_)
      refine z_iinc (L' := [(1, vI (u42_1 + 1)), (0, vR (some p42_0))]) C dX0_forgetPieces_71 1 rfl (v := u42_1 + 1) rfl (by decide) rfl ?_
      refine z_goto C dX0_forgetPieces_74 (tgt := 42) rfl ?_
      refine z_lsub [1, 0] rfl ?_
      exact ih (u42_1 + 1) g22
theorem k_X0_forgetPieces (l : Launch) (b : Nat) (g : HP) : MM l Pi2 yX0_forgetPieces cX0_forgetPieces 2 none 5 148 [vR (some b)] g (wVg (f_X0_forgetPieces b g)) := by
  refine MM_of PO_Pi2 mf_X0_forgetPieces (fun a ha => wVg_mono (f_X0_forgetPieces_mono b g) a ha) (Nat.le_of_ble_eq_true rfl) ?_
  intro Γ fin hfin hl hin C0 Z0
  subst hl
  obtain ⟨v0, hv, rfl⟩ := wVg_some hfin
  have C : CX Γ cX0_forgetPieces 2 "Blockduty$Block" Pi2 ok2 5 148 := C0
  have Z : RX Γ Pi2 none (none, v0) := Z0
  refine X.conv (fun _ => hv) ?_
  unfold f_X0_forgetPieces
  show X Γ 0 [(0, vR (some b))] [] g _
  refine z_iconst C dX0_forgetPieces_0 (v := 0) (by decide) ?_
  refine z_istore_n (L' := [(1, vI 0), (0, vR (some b))]) C dX0_forgetPieces_1 rfl (by decide) rfl ?_
  refine z_lsub [1, 0] rfl ?_
  refine k_X0_forgetPieces_L2 C b (fun q10 => ?_) FU 0 g
  refine z_aload_n C dX0_forgetPieces_33 rfl 0 rfl ?_
  refine z_gfR C cf1 4 (by decide) rfl rfl dX0_forgetPieces_34 kt539 (fun _ h => h) bd (fun r11 => ?_)
  refine z_rcv bd (fun b12 hbb12 htb12 => ?_)
  subst hbb12
  refine z_callV C cf0 mf_Jx4a65c_clear_da8c8 kt602 kt603 kt601 (k_al_clear (gL Γ) b12 q10 (gK Γ)) htb12 rfl ⟨Nat.le_of_ble_eq_true rfl, Nat.le_of_ble_eq_true rfl⟩ (rest := []) rfl (Nat.le_of_ble_eq_true rfl) dX0_forgetPieces_37 (bdVg) (contVg fun g13 => ?_)
  refine z_iconst C dX0_forgetPieces_40 (v := 0) (by decide) ?_
  refine z_istore_n (L' := [(1, vI 0), (0, vR (some b))]) C dX0_forgetPieces_41 rfl (by decide) rfl ?_
  refine z_lsub [1, 0] rfl ?_
  refine k_X0_forgetPieces_L42 C b (fun q23 => ?_) FU 0 g13
  exact z_vret C Z rfl dX0_forgetPieces_77 (fun h => by cases h; rfl)
theorem k_X0_addTrip (l : Launch) (b : Nat) (s1 : Option Nat) (g : HP) : MM l Pi2 yX0_addTrip cX0_addTrip 2 none 7 191 [vR (some b), vR s1] g (wVg (f_X0_addTrip b s1 g)) := by
  refine MM_of PO_Pi2 mf_X0_addTrip (fun a ha => wVg_mono (f_X0_addTrip_mono b s1 g) a ha) (Nat.le_of_ble_eq_true rfl) ?_
  intro Γ fin hfin hl hin C0 Z0
  subst hl
  obtain ⟨v0, hv, rfl⟩ := wVg_some hfin
  have C : CX Γ cX0_addTrip 2 "Blockduty$Block" Pi2 ok2 7 191 := C0
  have Z : RX Γ Pi2 none (none, v0) := Z0
  refine X.conv (fun _ => hv) ?_
  unfold f_X0_addTrip
  show X Γ 0 [(0, vR (some b)), (1, vR s1)] [] g _
  refine z_aload_n C dX0_addTrip_0 rfl 0 rfl ?_
  refine z_rcv bd (fun b1 hbb1 htb1 => ?_)
  have heb1 := Option.some.inj hbb1
  subst heb1
  refine z_callV C cf1 mf_X0_forgetPieces kt578 (gtbl_priv (j := 10) rfl rfl) kt576 (k_X0_forgetPieces (gL Γ) b g (gK Γ)) htb1 rfl ⟨Nat.le_of_ble_eq_true rfl, Nat.le_of_ble_eq_true rfl⟩ (rest := []) rfl (Nat.le_of_ble_eq_true rfl) dX0_addTrip_1 (bdVg) (contVg fun g2 => ?_)
  refine z_aload_n C dX0_addTrip_4 rfl 0 rfl ?_
  refine z_gfR C cf1 3 (by decide) rfl rfl dX0_addTrip_5 kt537 (fun _ h => h) bd (fun r3 => ?_)
  refine z_gfR C cf7 0 (by decide) rfl rfl dX0_addTrip_8 kt82 (fun _ h => h) bd (fun r4 => ?_)
  refine z_aload_n C dX0_addTrip_11 rfl 1 rfl ?_
  refine z_rcv bd (fun b5 hbb5 htb5 => ?_)
  subst hbb5
  refine z_callV C cf0 mf_Jx4a65c_add_9ea2d kt129 kt130 kt920 (k_al_add (gL Γ) b5 s1 g2 (gK Γ)) htb5 rfl ⟨Nat.le_of_ble_eq_true rfl, Nat.le_of_ble_eq_true rfl⟩ (rest := []) rfl (Nat.le_of_ble_eq_true rfl) dX0_addTrip_12 (bdIg) (contIg fun v6 => ?_)
  refine z_pop C dX0_addTrip_15 rfl ?_
  refine z_aload_n C dX0_addTrip_16 rfl 1 rfl ?_
  refine z_aload_n C dX0_addTrip_17 rfl 0 rfl ?_
  refine z_pfR C cf8 7 (by decide) rfl rfl (isRefTy_o _) (Or.inl rfl) dX0_addTrip_18 kt431 (fun _ h => h) bd (fun g7 => ?_)
  exact z_vret C Z rfl dX0_addTrip_21 (fun h => by cases h; rfl)
theorem k_X6_get (l : Launch) (b : Nat) (s1 : Int32) (g : HP) : MM l Pi2 yX6_get cX6_get 2 (some (.object "Blockduty$Trip")) 3 64 [vR (some b), vI s1] g (wR g (f_X6_get b s1 g)) := by
  refine MM_of PO_Pi2 mf_X6_get (fun a ha => wR_same a ha) (Nat.le_of_ble_eq_true rfl) ?_
  intro Γ fin hfin hl hin C0 Z0
  subst hl
  obtain ⟨v0, hv, rfl⟩ := wR_some hfin
  have C : CX Γ cX6_get 2 "Blockduty$Row" Pi2 ok2 3 64 := C0
  have Z : RX Γ Pi2 (some (.object "Blockduty$Trip")) (some (vR v0), g) := Z0
  refine X.conv (fun _ => hv) ?_
  unfold f_X6_get
  show X Γ 0 [(0, vR (some b)), (1, vI s1)] [] g _
  refine z_iload_n C dX6_get_0 rfl 1 rfl ?_
  refine z_if_lt C dX6_get_1 (tgt := 29) rfl it jf ?_ ?_
  · refine z_null C dX6_get_29 ?_
    exact z_aret C Z rfl (Or.inl ⟨_, rfl⟩) dX6_get_30 (fun h => by cases h; rfl)
  · refine z_iload_n C dX6_get_4 rfl 1 rfl ?_
    refine z_aload_n C dX6_get_5 rfl 0 rfl ?_
    refine z_gfR C cf7 0 (by decide) rfl rfl dX6_get_6 kt81 (fun _ h => h) bd (fun r1 => ?_)
    refine z_rcv bd (fun b2 hbb2 htb2 => ?_)
    subst hbb2
    refine z_callV C cf0 mf_Jx4a65c_size_8abf5 kt261 kt262 kt569 (k_al_size (gL Γ) b2 g (gK Γ)) htb2 rfl ⟨Nat.le_of_ble_eq_true rfl, Nat.le_of_ble_eq_true rfl⟩ (rest := [vI s1]) rfl (Nat.le_of_ble_eq_true rfl) dX6_get_9 (bdI) (contI fun x3 => ?_)
    refine z_icmp_ge C dX6_get_12 (tgt := 29) rfl it jf ?_ ?_
    · refine z_null C dX6_get_29 ?_
      exact z_aret C Z rfl (Or.inl ⟨_, rfl⟩) dX6_get_30 (fun h => by cases h; rfl)
    · refine z_aload_n C dX6_get_15 rfl 0 rfl ?_
      refine z_gfR C cf7 0 (by decide) rfl rfl dX6_get_16 kt81 (fun _ h => h) bd (fun r4 => ?_)
      refine z_iload_n C dX6_get_19 rfl 1 rfl ?_
      refine z_rcv bd (fun b5 hbb5 htb5 => ?_)
      subst hbb5
      refine z_callV C cf0 mf_Jx4a65c_get_915e3 kt265 kt266 kt574 (k_al_get (gL Γ) b5 s1 g (gK Γ)) htb5 rfl ⟨Nat.le_of_ble_eq_true rfl, Nat.le_of_ble_eq_true rfl⟩ (rest := []) rfl (Nat.le_of_ble_eq_true rfl) dX6_get_20 (bdR) (contR fun r6 => ?_)
      refine z_cst C cf8 dX6_get_23 kt575 bd (fun r7 => ?_)
      refine z_goto C dX6_get_26 (tgt := 30) rfl ?_
      exact z_aret C Z rfl (Or.inl ⟨_, rfl⟩) dX6_get_30 (fun h => by cases h; rfl)
theorem k_X6_last (l : Launch) (b : Nat) (g : HP) : MM l Pi2 yX6_last cX6_last 1 (some (.object "Blockduty$Trip")) 4 85 [vR (some b)] g (wR g (f_X6_last b g)) := by
  refine MM_of PO_Pi2 mf_X6_last (fun a ha => wR_same a ha) (Nat.le_of_ble_eq_true rfl) ?_
  intro Γ fin hfin hl hin C0 Z0
  subst hl
  obtain ⟨v0, hv, rfl⟩ := wR_some hfin
  have C : CX Γ cX6_last 1 "Blockduty$Row" Pi2 ok2 4 85 := C0
  have Z : RX Γ Pi2 (some (.object "Blockduty$Trip")) (some (vR v0), g) := Z0
  refine X.conv (fun _ => hv) ?_
  unfold f_X6_last
  show X Γ 0 [(0, vR (some b))] [] g _
  refine z_aload_n C dX6_last_0 rfl 0 rfl ?_
  refine z_aload_n C dX6_last_1 rfl 0 rfl ?_
  refine z_gfR C cf7 0 (by decide) rfl rfl dX6_last_2 kt81 (fun _ h => h) bd (fun r1 => ?_)
  refine z_rcv bd (fun b2 hbb2 htb2 => ?_)
  subst hbb2
  refine z_callV C cf0 mf_Jx4a65c_size_8abf5 kt261 kt262 kt569 (k_al_size (gL Γ) b2 g (gK Γ)) htb2 rfl ⟨Nat.le_of_ble_eq_true rfl, Nat.le_of_ble_eq_true rfl⟩ (rest := [vR (some b)]) rfl (Nat.le_of_ble_eq_true rfl) dX6_last_5 (bdI) (contI fun x3 => ?_)
  refine z_iconst C dX6_last_8 (v := 1) (by decide) ?_
  refine z_isub C dX6_last_9 ?_
  refine z_rcv bd (fun b4 hbb4 htb4 => ?_)
  have heb4 := Option.some.inj hbb4
  subst heb4
  refine z_callV C cf7 mf_X6_get kt571 kt572 kt570 (k_X6_get (gL Γ) b (x3 - 1) g (gK Γ)) htb4 rfl ⟨Nat.le_of_ble_eq_true rfl, Nat.le_of_ble_eq_true rfl⟩ (rest := []) rfl (Nat.le_of_ble_eq_true rfl) dX6_last_10 (bdR) (contR fun r5 => ?_)
  exact z_aret C Z rfl (Or.inl ⟨_, rfl⟩) dX6_last_13 (fun h => by cases h; rfl)
theorem k_X0_removeLastTrip (l : Launch) (b : Nat) (g : HP) : MM l Pi2 yX0_removeLastTrip cX0_removeLastTrip 2 (some (.object "Blockduty$Trip")) 6 169 [vR (some b)] g (wRg (f_X0_removeLastTrip b g)) := by
  refine MM_of PO_Pi2 mf_X0_removeLastTrip (fun a ha => wRg_mono (f_X0_removeLastTrip_mono b g) a ha) (Nat.le_of_ble_eq_true rfl) ?_
  intro Γ fin hfin hl hin C0 Z0
  subst hl
  obtain ⟨v0, hv, rfl⟩ := wRg_some hfin
  have C : CX Γ cX0_removeLastTrip 2 "Blockduty$Block" Pi2 ok2 6 169 := C0
  have Z : RX Γ Pi2 (some (.object "Blockduty$Trip")) (some (vR v0.1), v0.2) := Z0
  refine X.conv (fun _ => hv) ?_
  unfold f_X0_removeLastTrip
  show X Γ 0 [(0, vR (some b))] [] g _
  refine z_aload_n C dX0_removeLastTrip_0 rfl 0 rfl ?_
  refine z_gfR C cf1 3 (by decide) rfl rfl dX0_removeLastTrip_1 kt537 (fun _ h => h) bd (fun r1 => ?_)
  refine z_rcv bd (fun b2 hbb2 htb2 => ?_)
  subst hbb2
  refine z_callV C cf7 mf_X6_last kt566 kt567 kt565 (k_X6_last (gL Γ) b2 g (gK Γ)) htb2 rfl ⟨Nat.le_of_ble_eq_true rfl, Nat.le_of_ble_eq_true rfl⟩ (rest := []) rfl (Nat.le_of_ble_eq_true rfl) dX0_removeLastTrip_4 (bdR) (contR fun r3 => ?_)
  refine z_astore_n (L' := [(1, vR r3), (0, vR (some b))]) C dX0_removeLastTrip_7 rfl (by decide) rfl ?_
  refine z_aload_n C dX0_removeLastTrip_8 rfl 0 rfl ?_
  refine z_ifnonnull C dX0_removeLastTrip_9 (tgt := 14) rfl it jf ?_ ?_
  · refine z_null C dX0_removeLastTrip_12 ?_
    exact z_aret C Z rfl (Or.inl ⟨_, rfl⟩) dX0_removeLastTrip_13 (fun h => by cases h; rfl)
  · refine z_aload_n C dX0_removeLastTrip_14 rfl 1 rfl ?_
    refine z_rcv bd (fun b4 hbb4 htb4 => ?_)
    have heb4 := Option.some.inj hbb4
    subst heb4
    refine z_callV C cf1 mf_X0_forgetPieces kt578 (gtbl_priv (j := 10) rfl rfl) kt576 (k_X0_forgetPieces (gL Γ) b g (gK Γ)) htb4 rfl ⟨Nat.le_of_ble_eq_true rfl, Nat.le_of_ble_eq_true rfl⟩ (rest := []) rfl (Nat.le_of_ble_eq_true rfl) dX0_removeLastTrip_15 (bdVg) (contVg fun g5 => ?_)
    refine z_aload_n C dX0_removeLastTrip_18 rfl 1 rfl ?_
    refine z_gfR C cf1 3 (by decide) rfl rfl dX0_removeLastTrip_19 kt537 (fun _ h => h) bd (fun r6 => ?_)
    refine z_gfR C cf7 0 (by decide) rfl rfl dX0_removeLastTrip_22 kt82 (fun _ h => h) bd (fun r7 => ?_)
    refine z_aload_n C dX0_removeLastTrip_25 rfl 1 rfl ?_
    refine z_gfR C cf1 3 (by decide) rfl rfl dX0_removeLastTrip_26 kt537 (fun _ h => h) bd (fun r8 => ?_)
    refine z_rcv bd (fun b9 hbb9 htb9 => ?_)
    subst hbb9
    refine z_callV C cf7 mf_X6_count kt606 kt607 kt605 (k_X6_count (gL Γ) b9 g5 (gK Γ)) htb9 rfl ⟨Nat.le_of_ble_eq_true rfl, Nat.le_of_ble_eq_true rfl⟩ (rest := [vR r7]) rfl (Nat.le_of_ble_eq_true rfl) dX0_removeLastTrip_29 (bdI) (contI fun x10 => ?_)
    refine z_iconst C dX0_removeLastTrip_32 (v := 1) (by decide) ?_
    refine z_isub C dX0_removeLastTrip_33 ?_
    refine z_rcv bd (fun b11 hbb11 htb11 => ?_)
    subst hbb11
    refine z_callV C cf0 mf_Jx4a65c_remove_915e3 kt594 kt595 kt610 (k_al_remove (gL Γ) b11 (x10 - 1) g5 (gK Γ)) htb11 rfl ⟨Nat.le_of_ble_eq_true rfl, Nat.le_of_ble_eq_true rfl⟩ (rest := []) rfl (Nat.le_of_ble_eq_true rfl) dX0_removeLastTrip_34 (bdRg) (contRg fun v12 => ?_)
    refine z_pop C dX0_removeLastTrip_37 rfl ?_
    refine z_aload_n C dX0_removeLastTrip_38 rfl 0 rfl ?_
    refine z_null C dX0_removeLastTrip_39 ?_
    refine z_pfR C cf8 7 (by decide) rfl rfl (isRefTy_o _) (Or.inl rfl) dX0_removeLastTrip_40 kt431 (fun _ h => h) bd (fun g13 => ?_)
    refine z_aload_n C dX0_removeLastTrip_43 rfl 0 rfl ?_
    exact z_aret C Z rfl (Or.inl ⟨_, rfl⟩) dX0_removeLastTrip_44 (fun h => by cases h; rfl)
theorem k_X6_addPart_L7 {Γ : GG} {β : Type} {fin0 : β} {F0 : HP → Option β} (C : CX Γ cX6_addPart 5 "Blockduty$Row" Pi2 ok2 7 191) (p7_0 : Nat) (p7_1 : Option Nat) (p7_3 : Int32) (hexit : ∀ q7 : HP, X Γ 51 [] [] q7 (F0 q7 = some fin0)) : ∀ (m7 : Nat) (u7_4 : Int32) (w7 : HP), X Γ 7 [(0, vR (some p7_0)), (1, vR p7_1), (3, vI p7_3), (4, vI u7_4)] [] w7 ((f_X6_addPart_L7 p7_0 p7_1 p7_3 m7 u7_4 w7).bind F0 = some fin0) := by
  intro m7
  induction m7 with
  | zero =>
    intro u7_4 w7
    exact X.no no1
  | succ m7 ih =>
    intro u7_4 w7
    unfold f_X6_addPart_L7
    refine z_iload C dX6_addPart_7 3 rfl ?_
    refine z_iload_n C dX6_addPart_9 rfl 2 rfl ?_
    refine X.conv bi ?_
    refine z_icmp_ge C dX6_addPart_10 (tgt := 51) rfl it jf ?_ ?_
    · refine z_lsub [] rfl ?_
      exact hexit w7
    · refine z_iload C dX6_addPart_13 3 rfl ?_
      refine z_aload_n C dX6_addPart_15 rfl 1 rfl ?_
      refine X.conv bb ?_
      refine z_gfR C cf7 0 (by decide) rfl rfl dX6_addPart_16 kt81 (fun _ h => h) bd (fun r1 => ?_)
      refine X.conv bb ?_
      refine z_rcv bd (fun b2 hbb2 htb2 => ?_)
      subst hbb2
      refine X.conv bb ?_
      refine z_callV C cf0 mf_Jx4a65c_size_8abf5 kt261 kt262 kt569 (k_al_size (gL Γ) b2 w7 (gK Γ)) htb2 rfl ⟨Nat.le_of_ble_eq_true rfl, Nat.le_of_ble_eq_true rfl⟩ (rest := [vI u7_4]) rfl (Nat.le_of_ble_eq_true rfl) dX6_addPart_19 (bdI) (contI fun x3 => ?_)
      refine X.conv bi ?_
      refine z_icmp_ge C dX6_addPart_22 (tgt := 51) rfl it jf ?_ ?_
      · refine z_lsub [] rfl ?_
        exact hexit w7
      · refine z_aload_n C dX6_addPart_25 rfl 0 rfl ?_
        refine X.conv bb ?_
        refine z_gfR C cf7 0 (by decide) rfl rfl dX6_addPart_26 kt81 (fun _ h => h) bd (fun r4 => ?_)
        refine z_aload_n C dX6_addPart_29 rfl 1 rfl ?_
        refine X.conv bb ?_
        refine z_gfR C cf7 0 (by decide) rfl rfl dX6_addPart_30 kt81 (fun _ h => h) bd (fun r5 => ?_)
        refine z_iload C dX6_addPart_33 3 rfl ?_
        refine X.conv bb ?_
        refine z_rcv bd (fun b6 hbb6 htb6 => ?_)
        subst hbb6
        refine X.conv bb ?_
        refine z_callV C cf0 mf_Jx4a65c_get_915e3 kt265 kt266 kt574 (k_al_get (gL Γ) b6 u7_4 w7 (gK Γ)) htb6 rfl ⟨Nat.le_of_ble_eq_true rfl, Nat.le_of_ble_eq_true rfl⟩ (rest := [vR r4]) rfl (Nat.le_of_ble_eq_true rfl) dX6_addPart_35 (bdR) (contR fun r7 => ?_)
        refine X.conv bb ?_
        refine z_cst C cf8 dX6_addPart_38 kt575 bd (fun r8 => ?_)
        refine X.conv bb ?_
        refine z_rcv bd (fun b9 hbb9 htb9 => ?_)
        subst hbb9
        refine X.conv bb ?_
        refine z_callV C cf0 mf_Jx4a65c_add_9ea2d kt129 kt130 kt881 (k_al_add (gL Γ) b9 r8 w7 (gK Γ)) htb9 rfl ⟨Nat.le_of_ble_eq_true rfl, Nat.le_of_ble_eq_true rfl⟩ (rest := []) rfl (Nat.le_of_ble_eq_true rfl) dX6_addPart_41 (bdIg) (contIg fun v10 => ?_)
        refine z_pop C dX6_addPart_44 rfl ?_
        refine z_iinc (L' := [(4, vI (u7_4 + 1)), (0, vR (some p7_0)), (1, vR p7_1), (3, vI p7_3)]) C dX6_addPart_45 3 rfl (v := u7_4 + 1) rfl (by decide) rfl ?_
        refine z_goto C dX6_addPart_48 (tgt := 7) rfl ?_
        refine z_lsub [1, 2, 3, 0] rfl ?_
        exact ih (u7_4 + 1) v10.2
theorem k_X6_addPart (l : Launch) (b : Nat) (s1 : Option Nat) (s2 : Int32) (s3 : Int32) (g : HP) : MM l Pi2 yX6_addPart cX6_addPart 5 none 7 191 [vR (some b), vR s1, vI s2, vI s3] g (wVg (f_X6_addPart b s1 s2 s3 g)) := by
  refine MM_of PO_Pi2 mf_X6_addPart (fun a ha => wVg_mono (f_X6_addPart_mono b s1 s2 s3 g) a ha) (Nat.le_of_ble_eq_true rfl) ?_
  intro Γ fin hfin hl hin C0 Z0
  subst hl
  obtain ⟨v0, hv, rfl⟩ := wVg_some hfin
  have C : CX Γ cX6_addPart 5 "Blockduty$Row" Pi2 ok2 7 191 := C0
  have Z : RX Γ Pi2 none (none, v0) := Z0
  refine X.conv (fun _ => hv) ?_
  unfold f_X6_addPart
  show X Γ 0 [(0, vR (some b)), (1, vR s1), (2, vI s2), (3, vI s3)] [] g _
  refine z_iload_n C dX6_addPart_0 rfl 2 rfl ?_
  refine z_iconst C dX6_addPart_1 (v := 0) (by decide) ?_
  refine z_mmax C kt880 kw_mmax_s kw_math kw_mmax_c dX6_addPart_2 (by decide) (Nat.le_of_ble_eq_true rfl) ?_
  refine z_istore (L' := [(4, vI (if s2 < 0 then 0 else s2)), (0, vR (some b)), (1, vR s1), (2, vI s2), (3, vI s3)]) C dX6_addPart_5 (by decide) rfl ?_
  refine z_lsub [1, 2, 4, 0] rfl ?_
  refine k_X6_addPart_L7 C b s1 s3 (fun q11 => ?_) FU (if s2 < 0 then 0 else s2) g
  exact z_vret C Z rfl dX6_addPart_51 (fun h => by cases h; rfl)
theorem k_X6_copy (l : Launch) (b : Nat) (s1 : Option Nat) (g : HP) : MM l Pi2 yX6_copy cX6_copy 2 none 8 215 [vR (some b), vR s1] g (wVg (f_X6_copy b s1 g)) := by
  refine MM_of PO_Pi2 mf_X6_copy (fun a ha => wVg_mono (f_X6_copy_mono b s1 g) a ha) (Nat.le_of_ble_eq_true rfl) ?_
  intro Γ fin hfin hl hin C0 Z0
  subst hl
  obtain ⟨v0, hv, rfl⟩ := wVg_some hfin
  have C : CX Γ cX6_copy 2 "Blockduty$Row" Pi2 ok2 8 215 := C0
  have Z : RX Γ Pi2 none (none, v0) := Z0
  refine X.conv (fun _ => hv) ?_
  unfold f_X6_copy
  show X Γ 0 [(0, vR (some b)), (1, vR s1)] [] g _
  refine z_aload_n C dX6_copy_0 rfl 0 rfl ?_
  refine z_gfR C cf7 0 (by decide) rfl rfl dX6_copy_1 kt81 (fun _ h => h) bd (fun r1 => ?_)
  refine z_rcv bd (fun b2 hbb2 htb2 => ?_)
  subst hbb2
  refine z_callV C cf0 mf_Jx4a65c_clear_da8c8 kt602 kt603 kt875 (k_al_clear (gL Γ) b2 g (gK Γ)) htb2 rfl ⟨Nat.le_of_ble_eq_true rfl, Nat.le_of_ble_eq_true rfl⟩ (rest := []) rfl (Nat.le_of_ble_eq_true rfl) dX6_copy_4 (bdVg) (contVg fun g3 => ?_)
  refine z_aload_n C dX6_copy_7 rfl 0 rfl ?_
  refine z_aload_n C dX6_copy_8 rfl 1 rfl ?_
  refine z_iconst C dX6_copy_9 (v := 0) (by decide) ?_
  refine z_aload_n C dX6_copy_10 rfl 1 rfl ?_
  refine z_rcv bd (fun b4 hbb4 htb4 => ?_)
  subst hbb4
  refine z_callV C cf7 mf_X6_count kt606 kt607 kt882 (k_X6_count (gL Γ) b4 g3 (gK Γ)) htb4 rfl ⟨Nat.le_of_ble_eq_true rfl, Nat.le_of_ble_eq_true rfl⟩ (rest := [vI 0, vR (some b4), vR (some b)]) rfl (Nat.le_of_ble_eq_true rfl) dX6_copy_11 (bdI) (contI fun x5 => ?_)
  refine z_rcv bd (fun b6 hbb6 htb6 => ?_)
  have heb6 := Option.some.inj hbb6
  subst heb6
  refine z_callV C cf7 mf_X6_addPart kt878 (gtbl_priv (j := 27) rfl rfl) kt876 (k_X6_addPart (gL Γ) b (some b4) 0 x5 g3 (gK Γ)) htb6 rfl ⟨Nat.le_of_ble_eq_true rfl, Nat.le_of_ble_eq_true rfl⟩ (rest := []) rfl (Nat.le_of_ble_eq_true rfl) dX6_copy_14 (bdVg) (contVg fun g7 => ?_)
  exact z_vret C Z rfl dX6_copy_17 (fun h => by cases h; rfl)
theorem k_X0_takeOver_L14 {Γ : GG} {β : Type} {fin0 : β} {F0 : HP → Option β} (C : CX Γ cX0_takeOver 3 "Blockduty$Block" Pi2 ok2 9 236) (p14_0 : Nat) (hexit : ∀ q14 : HP, X Γ 49 [] [] q14 (F0 q14 = some fin0)) : ∀ (m14 : Nat) (u14_2 : Int32) (w14 : HP), X Γ 14 [(0, vR (some p14_0)), (2, vI u14_2)] [] w14 ((f_X0_takeOver_L14 p14_0 m14 u14_2 w14).bind F0 = some fin0) := by
  intro m14
  induction m14 with
  | zero =>
    intro u14_2 w14
    exact X.no no1
  | succ m14 ih =>
    intro u14_2 w14
    unfold f_X0_takeOver_L14
    refine z_iload_n C dX0_takeOver_14 rfl 1 rfl ?_
    refine z_aload_n C dX0_takeOver_15 rfl 0 rfl ?_
    refine X.conv bb ?_
    refine z_gfR C cf1 3 (by decide) rfl rfl dX0_takeOver_16 kt537 (fun _ h => h) bd (fun r6 => ?_)
    refine X.conv bb ?_
    refine z_rcv bd (fun b7 hbb7 htb7 => ?_)
    subst hbb7
    refine X.conv bb ?_
    refine z_callV C cf7 mf_X6_count kt606 kt607 kt605 (k_X6_count (gL Γ) b7 w14 (gK Γ)) htb7 rfl ⟨Nat.le_of_ble_eq_true rfl, Nat.le_of_ble_eq_true rfl⟩ (rest := [vI u14_2]) rfl (Nat.le_of_ble_eq_true rfl) dX0_takeOver_19 (bdI) (contI fun x8 => ?_)
    refine X.conv bi ?_
    refine z_icmp_ge C dX0_takeOver_22 (tgt := 49) rfl it jf ?_ ?_
    · refine z_lsub [] rfl ?_
      exact hexit w14
    · refine z_aload_n C dX0_takeOver_25 rfl 0 rfl ?_
      refine X.conv bb ?_
      refine z_gfR C cf1 3 (by decide) rfl rfl dX0_takeOver_26 kt537 (fun _ h => h) bd (fun r9 => ?_)
      refine X.conv bb ?_
      refine z_gfR C cf7 0 (by decide) rfl rfl dX0_takeOver_29 kt82 (fun _ h => h) bd (fun r10 => ?_)
      refine z_iload_n C dX0_takeOver_32 rfl 1 rfl ?_
      refine X.conv bb ?_
      refine z_rcv bd (fun b11 hbb11 htb11 => ?_)
      subst hbb11
      refine X.conv bb ?_
      refine z_callV C cf0 mf_Jx4a65c_get_915e3 kt265 kt266 kt581 (k_al_get (gL Γ) b11 u14_2 w14 (gK Γ)) htb11 rfl ⟨Nat.le_of_ble_eq_true rfl, Nat.le_of_ble_eq_true rfl⟩ (rest := []) rfl (Nat.le_of_ble_eq_true rfl) dX0_takeOver_33 (bdR) (contR fun r12 => ?_)
      refine X.conv bb ?_
      refine z_cst C cf8 dX0_takeOver_36 kt609 bd (fun r13 => ?_)
      refine z_aload_n C dX0_takeOver_39 rfl 0 rfl ?_
      refine X.conv bb ?_
      refine z_pfR C cf8 7 (by decide) rfl rfl (isRefTy_o _) (Or.inl rfl) dX0_takeOver_40 kt431 (fun _ h => h) bd (fun g14 => ?_)
      refine z_iinc (L' := [(2, vI (u14_2 + 1)), (0, vR (some p14_0))]) C dX0_takeOver_43 1 rfl (v := u14_2 + 1) rfl (by decide) rfl ?_
      refine z_goto C dX0_takeOver_46 (tgt := 14) rfl ?_
      refine z_lsub [1, 0] rfl ?_
      exact ih (u14_2 + 1) g14
theorem k_X0_takeOver (l : Launch) (b : Nat) (s1 : Option Nat) (g : HP) : MM l Pi2 yX0_takeOver cX0_takeOver 3 none 9 236 [vR (some b), vR s1] g (wVg (f_X0_takeOver b s1 g)) := by
  refine MM_of PO_Pi2 mf_X0_takeOver (fun a ha => wVg_mono (f_X0_takeOver_mono b s1 g) a ha) (Nat.le_of_ble_eq_true rfl) ?_
  intro Γ fin hfin hl hin C0 Z0
  subst hl
  obtain ⟨v0, hv, rfl⟩ := wVg_some hfin
  have C : CX Γ cX0_takeOver 3 "Blockduty$Block" Pi2 ok2 9 236 := C0
  have Z : RX Γ Pi2 none (none, v0) := Z0
  refine X.conv (fun _ => hv) ?_
  unfold f_X0_takeOver
  show X Γ 0 [(0, vR (some b)), (1, vR s1)] [] g _
  refine z_aload_n C dX0_takeOver_0 rfl 0 rfl ?_
  refine z_rcv bd (fun b1 hbb1 htb1 => ?_)
  have heb1 := Option.some.inj hbb1
  subst heb1
  refine z_callV C cf1 mf_X0_forgetPieces kt578 (gtbl_priv (j := 10) rfl rfl) kt576 (k_X0_forgetPieces (gL Γ) b g (gK Γ)) htb1 rfl ⟨Nat.le_of_ble_eq_true rfl, Nat.le_of_ble_eq_true rfl⟩ (rest := []) rfl (Nat.le_of_ble_eq_true rfl) dX0_takeOver_1 (bdVg) (contVg fun g2 => ?_)
  refine z_aload_n C dX0_takeOver_4 rfl 0 rfl ?_
  refine z_gfR C cf1 3 (by decide) rfl rfl dX0_takeOver_5 kt537 (fun _ h => h) bd (fun r3 => ?_)
  refine z_aload_n C dX0_takeOver_8 rfl 1 rfl ?_
  refine z_rcv bd (fun b4 hbb4 htb4 => ?_)
  subst hbb4
  refine z_callV C cf7 mf_X6_copy kt913 kt914 kt960 (k_X6_copy (gL Γ) b4 s1 g2 (gK Γ)) htb4 rfl ⟨Nat.le_of_ble_eq_true rfl, Nat.le_of_ble_eq_true rfl⟩ (rest := []) rfl (Nat.le_of_ble_eq_true rfl) dX0_takeOver_9 (bdVg) (contVg fun g5 => ?_)
  refine z_iconst C dX0_takeOver_12 (v := 0) (by decide) ?_
  refine z_istore_n (L' := [(2, vI 0), (0, vR (some b)), (1, vR s1)]) C dX0_takeOver_13 rfl (by decide) rfl ?_
  refine z_lsub [1, 0] rfl ?_
  refine k_X0_takeOver_L14 C b (fun q15 => ?_) FU 0 g5
  exact z_vret C Z rfl dX0_takeOver_49 (fun h => by cases h; rfl)
theorem k_X4_init (l : Launch) (b : Nat) (s1 : Int32) (s2 : Option Nat) (s3 : Option Nat) (s4 : Option Nat) (s5 : Int32) (g : HP) : MM l Pi2 yX4_init cX4_init 6 none 1 40 [vR (some b), vI s1, vR s2, vR s3, vR s4, vI s5] g (wVg (f_X4_init b s1 s2 s3 s4 s5 g)) := by
  refine MM_of PO_Pi2 mf_X4_init (fun a ha => wVg_mono (f_X4_init_mono b s1 s2 s3 s4 s5 g) a ha) (Nat.le_of_ble_eq_true rfl) ?_
  intro Γ fin hfin hl hin C0 Z0
  subst hl
  obtain ⟨v0, hv, rfl⟩ := wVg_some hfin
  have C : CX Γ cX4_init 6 "Blockduty$Piece" Pi2 ok2 1 40 := C0
  have Z : RX Γ Pi2 none (none, v0) := Z0
  refine X.conv (fun _ => hv) ?_
  unfold f_X4_init
  show X Γ 0 [(0, vR (some b)), (1, vI s1), (2, vR s2), (3, vR s3), (4, vR s4), (5, vI s5)] [] g _
  refine z_aload_n C dX4_init_0 rfl 0 rfl ?_
  refine z_objInit C kt1000 kwOI kwOC dX4_init_1 (by decide) (Nat.le_of_ble_eq_true rfl) ?_
  refine z_aload_n C dX4_init_4 rfl 0 rfl ?_
  refine z_iload_n C dX4_init_5 rfl 1 rfl ?_
  refine z_pfI C cf5 0 (by decide) rfl rfl rfl (Or.inr ⟨rfl, hin, rfl⟩) dX4_init_6 kt1001 (fun _ h => h) bd (fun g1 => ?_)
  refine z_aload_n C dX4_init_9 rfl 0 rfl ?_
  refine z_aload_n C dX4_init_10 rfl 2 rfl ?_
  refine z_pfR C cf5 1 (by decide) rfl rfl (isRefTy_o _) (Or.inr ⟨rfl, hin, rfl⟩) dX4_init_11 kt1003 (fun _ h => h) bd (fun g2 => ?_)
  refine z_aload_n C dX4_init_14 rfl 0 rfl ?_
  refine z_aload_n C dX4_init_15 rfl 3 rfl ?_
  refine z_pfR C cf5 2 (by decide) rfl rfl (isRefTy_o _) (Or.inr ⟨rfl, hin, rfl⟩) dX4_init_16 kt1004 (fun _ h => h) bd (fun g3 => ?_)
  refine z_aload_n C dX4_init_19 rfl 0 rfl ?_
  refine z_aload C dX4_init_20 4 rfl ?_
  refine z_pfR C cf5 3 (by decide) rfl rfl (isRefTy_o _) (Or.inr ⟨rfl, hin, rfl⟩) dX4_init_22 kt1006 (fun _ h => h) bd (fun g4 => ?_)
  refine z_aload_n C dX4_init_25 rfl 0 rfl ?_
  refine z_iload C dX4_init_26 5 rfl ?_
  refine z_pfI C cf5 4 (by decide) rfl rfl rfl (Or.inr ⟨rfl, hin, rfl⟩) dX4_init_28 kt1008 (fun _ h => h) bd (fun g5 => ?_)
  exact z_vret C Z rfl dX4_init_31 (fun h => by cases h; rfl)
theorem k_X0_addPiece_L70 {Γ : GG} {β : Type} {fin0 : β} {F0 : HP → Option β} (C : CX Γ cX0_addPiece 7 "Blockduty$Block" Pi2 ok2 7 191) (p70_0 : Nat) (p70_2 : Int32) (p70_5 : Option Nat) (hexit : ∀ q70 : HP, X Γ 102 [] [] q70 (F0 q70 = some fin0)) : ∀ (m70 : Nat) (u70_6 : Int32) (w70 : HP), X Γ 70 [(0, vR (some p70_0)), (2, vI p70_2), (5, vR p70_5), (6, vI u70_6)] [] w70 ((f_X0_addPiece_L70 p70_0 p70_2 p70_5 m70 u70_6 w70).bind F0 = some fin0) := by
  intro m70
  induction m70 with
  | zero =>
    intro u70_6 w70
    exact X.no no1
  | succ m70 ih =>
    intro u70_6 w70
    unfold f_X0_addPiece_L70
    refine z_iload C dX0_addPiece_70 3 rfl ?_
    refine z_iload_n C dX0_addPiece_72 rfl 1 rfl ?_
    refine X.conv bi ?_
    refine z_icmp_gt C dX0_addPiece_73 (tgt := 102) rfl it jf ?_ ?_
    · refine z_lsub [] rfl ?_
      exact hexit w70
    · refine z_aload_n C dX0_addPiece_76 rfl 0 rfl ?_
      refine X.conv bb ?_
      refine z_gfR C cf1 3 (by decide) rfl rfl dX0_addPiece_77 kt537 (fun _ h => h) bd (fun r15 => ?_)
      refine X.conv bb ?_
      refine z_gfR C cf7 0 (by decide) rfl rfl dX0_addPiece_80 kt82 (fun _ h => h) bd (fun r16 => ?_)
      refine z_iload C dX0_addPiece_83 3 rfl ?_
      refine X.conv bb ?_
      refine z_rcv bd (fun b17 hbb17 htb17 => ?_)
      subst hbb17
      refine X.conv bb ?_
      refine z_callV C cf0 mf_Jx4a65c_get_915e3 kt265 kt266 kt581 (k_al_get (gL Γ) b17 u70_6 w70 (gK Γ)) htb17 rfl ⟨Nat.le_of_ble_eq_true rfl, Nat.le_of_ble_eq_true rfl⟩ (rest := []) rfl (Nat.le_of_ble_eq_true rfl) dX0_addPiece_85 (bdR) (contR fun r18 => ?_)
      refine X.conv bb ?_
      refine z_cst C cf8 dX0_addPiece_88 kt609 bd (fun r19 => ?_)
      refine z_aload C dX0_addPiece_91 2 rfl ?_
      refine X.conv bb ?_
      refine z_pfR C cf8 8 (by decide) rfl rfl (isRefTy_o _) (Or.inl rfl) dX0_addPiece_93 kt435 (fun _ h => h) bd (fun g20 => ?_)
      refine z_iinc (L' := [(6, vI (u70_6 + 1)), (0, vR (some p70_0)), (2, vI p70_2), (5, vR p70_5)]) C dX0_addPiece_96 3 rfl (v := u70_6 + 1) rfl (by decide) rfl ?_
      refine z_goto C dX0_addPiece_99 (tgt := 70) rfl ?_
      refine z_lsub [1, 2, 3, 0] rfl ?_
      exact ih (u70_6 + 1) g20
theorem k_X0_addPiece (l : Launch) (b : Nat) (s1 : Int32) (s2 : Int32) (g : HP) : MM l Pi2 yX0_addPiece cX0_addPiece 7 none 7 191 [vR (some b), vI s1, vI s2] g (wVg (f_X0_addPiece b s1 s2 g)) := by
  refine MM_of PO_Pi2 mf_X0_addPiece (fun a ha => wVg_mono (f_X0_addPiece_mono b s1 s2 g) a ha) (Nat.le_of_ble_eq_true rfl) ?_
  intro Γ fin hfin hl hin C0 Z0
  subst hl
  obtain ⟨v0, hv, rfl⟩ := wVg_some hfin
  have C : CX Γ cX0_addPiece 7 "Blockduty$Block" Pi2 ok2 7 191 := C0
  have Z : RX Γ Pi2 none (none, v0) := Z0
  refine X.conv (fun _ => hv) ?_
  unfold f_X0_addPiece
  show X Γ 0 [(0, vR (some b)), (1, vI s1), (2, vI s2)] [] g _
  refine z_aload_n C dX0_addPiece_0 rfl 0 rfl ?_
  refine z_gfR C cf1 3 (by decide) rfl rfl dX0_addPiece_1 kt537 (fun _ h => h) bd (fun r1 => ?_)
  refine z_iload_n C dX0_addPiece_4 rfl 1 rfl ?_
  refine z_rcv bd (fun b2 hbb2 htb2 => ?_)
  subst hbb2
  refine z_callV C cf7 mf_X6_get kt571 kt572 kt995 (k_X6_get (gL Γ) b2 s1 g (gK Γ)) htb2 rfl ⟨Nat.le_of_ble_eq_true rfl, Nat.le_of_ble_eq_true rfl⟩ (rest := []) rfl (Nat.le_of_ble_eq_true rfl) dX0_addPiece_5 (bdR) (contR fun r3 => ?_)
  refine z_astore_n (L' := [(3, vR r3), (0, vR (some b)), (1, vI s1), (2, vI s2)]) C dX0_addPiece_8 rfl (by decide) rfl ?_
  refine z_aload_n C dX0_addPiece_9 rfl 1 rfl ?_
  refine z_gfR C cf1 3 (by decide) rfl rfl dX0_addPiece_10 kt537 (fun _ h => h) bd (fun r4 => ?_)
  refine z_iload_n C dX0_addPiece_13 rfl 3 rfl ?_
  refine z_rcv bd (fun b5 hbb5 htb5 => ?_)
  subst hbb5
  refine z_callV C cf7 mf_X6_get kt571 kt572 kt995 (k_X6_get (gL Γ) b5 s2 g (gK Γ)) htb5 rfl ⟨Nat.le_of_ble_eq_true rfl, Nat.le_of_ble_eq_true rfl⟩ (rest := []) rfl (Nat.le_of_ble_eq_true rfl) dX0_addPiece_14 (bdR) (contR fun r6 => ?_)
  refine z_astore (L' := [(4, vR r6), (3, vR r3), (0, vR (some b)), (1, vI s1), (2, vI s2)]) C dX0_addPiece_17 (by decide) rfl ?_
  refine z_aload_n C dX0_addPiece_19 rfl 1 rfl ?_
  refine z_ifnull C dX0_addPiece_20 (tgt := 28) rfl it jf ?_ ?_
  · exact z_vret C Z rfl dX0_addPiece_28 (fun h => by cases h; rfl)
  · refine z_aload C dX0_addPiece_23 0 rfl ?_
    refine z_ifnonnull C dX0_addPiece_25 (tgt := 29) rfl it jf ?_ ?_
    · exact z_vret C Z rfl dX0_addPiece_28 (fun h => by cases h; rfl)
    · refine z_new C cf5 rfl dX0_addPiece_29 kt582 kt996 kt25 def5 ?_
      refine z_dup C dX0_addPiece_32 rfl ?_
      refine z_aload_n C dX0_addPiece_33 rfl 2 rfl ?_
      refine z_gfR C cf1 4 (by decide) rfl rfl dX0_addPiece_34 kt539 (fun _ h => h) bd (fun r7 => ?_)
      refine z_rcv bd (fun b8 hbb8 htb8 => ?_)
      subst hbb8
      refine z_callV C cf0 mf_Jx4a65c_size_8abf5 kt261 kt262 kt580 (k_al_size (gL Γ) b8 (newG g 6 6 [] []) (gK Γ)) htb8 rfl ⟨Nat.le_of_ble_eq_true rfl, Nat.le_of_ble_eq_true rfl⟩ (rest := [vR (some (nx g)), vR (some (nx g))]) rfl (Nat.le_of_ble_eq_true rfl) dX0_addPiece_37 (bdI) (contI fun x9 => ?_)
      refine z_aload_n C dX0_addPiece_40 rfl 2 rfl ?_
      refine z_gfR C cf1 3 (by decide) rfl rfl dX0_addPiece_41 kt537 (fun _ h => h) bd (fun r10 => ?_)
      refine z_aload_n C dX0_addPiece_44 rfl 1 rfl ?_
      refine z_aload C dX0_addPiece_45 0 rfl ?_
      refine z_iload_n C dX0_addPiece_47 rfl 4 rfl ?_
      refine z_iload_n C dX0_addPiece_48 rfl 3 rfl ?_
      refine z_isub C dX0_addPiece_49 ?_
      refine z_iconst C dX0_addPiece_50 (v := 1) (by decide) ?_
      refine z_iadd C dX0_addPiece_51 ?_
      refine z_callI C mf_X4_init kt998 rfl kt997 (k_X4_init (gL Γ) (nx g) x9 r10 r3 r6 ((s2 - s1) + 1) (newG g 6 6 [] []) (gK Γ)) rfl ⟨Nat.le_of_ble_eq_true rfl, Nat.le_of_ble_eq_true rfl⟩ (rest := [vR (some (nx g))]) rfl (Nat.le_of_ble_eq_true rfl) dX0_addPiece_52 (bdVg) (contVg fun g11 => ?_)
      refine z_astore (L' := [(5, vR (some (nx g))), (4, vR r6), (3, vR r3), (0, vR (some b)), (1, vI s1), (2, vI s2)]) C dX0_addPiece_55 (by decide) rfl ?_
      refine z_aload_n C dX0_addPiece_57 rfl 3 rfl ?_
      refine z_gfR C cf1 4 (by decide) rfl rfl dX0_addPiece_58 kt539 (fun _ h => h) bd (fun r12 => ?_)
      refine z_aload C dX0_addPiece_61 0 rfl ?_
      refine z_rcv bd (fun b13 hbb13 htb13 => ?_)
      subst hbb13
      refine z_callV C cf0 mf_Jx4a65c_add_9ea2d kt129 kt130 kt920 (k_al_add (gL Γ) b13 (some (nx g)) g11 (gK Γ)) htb13 rfl ⟨Nat.le_of_ble_eq_true rfl, Nat.le_of_ble_eq_true rfl⟩ (rest := []) rfl (Nat.le_of_ble_eq_true rfl) dX0_addPiece_63 (bdIg) (contIg fun v14 => ?_)
      refine z_pop C dX0_addPiece_66 rfl ?_
      refine z_iload_n C dX0_addPiece_67 rfl 4 rfl ?_
      refine z_istore (L' := [(6, vI s1), (5, vR (some (nx g))), (4, vR r6), (3, vR r3), (0, vR (some b)), (1, vI s1), (2, vI s2)]) C dX0_addPiece_68 (by decide) rfl ?_
      refine z_lsub [4, 6, 1, 0] rfl ?_
      refine k_X0_addPiece_L70 C b s2 (some (nx g)) (fun q21 => ?_) FU s1 v14.2
      exact z_vret C Z rfl dX0_addPiece_102 (fun h => by cases h; rfl)
theorem k_X0_cutAt_L9 {Γ : GG} {β : Type} {fin0 : β} {F0 : HP → Option β} (C : CX Γ cX0_cutAt 5 "Blockduty$Block" Pi2 ok2 8 217) (p9_0 : Nat) (p9_1 : Option Nat) (p9_2 : Int32) (hexit : ∀ q9 : HP, X Γ 44 [] [] q9 (F0 q9 = some fin0)) : ∀ (m9 : Nat) (u9_3 : Int32) (u9_4 : Int32) (w9 : HP), X Γ 9 [(0, vR (some p9_0)), (1, vR p9_1), (2, vI p9_2), (3, vI u9_3), (4, vI u9_4)] [] w9 ((f_X0_cutAt_L9 p9_0 p9_1 p9_2 m9 u9_3 u9_4 w9).bind F0 = some fin0) := by
  intro m9
  induction m9 with
  | zero =>
    intro u9_3 u9_4 w9
    exact X.no no1
  | succ m9 ih =>
    intro u9_3 u9_4 w9
    unfold f_X0_cutAt_L9
    refine z_iload C dX0_cutAt_9 4 rfl ?_
    refine z_iload_n C dX0_cutAt_11 rfl 2 rfl ?_
    refine X.conv bi ?_
    refine z_icmp_ge C dX0_cutAt_12 (tgt := 44) rfl it jf ?_ ?_
    · refine z_lsub [] rfl ?_
      exact hexit w9
    · refine z_iload C dX0_cutAt_15 4 rfl ?_
      refine z_aload_n C dX0_cutAt_17 rfl 1 rfl ?_
      refine X.conv bb ?_
      refine z_lnI C dX0_cutAt_18 bd (fun x3 => ?_)
      refine X.conv bi ?_
      refine z_icmp_ge C dX0_cutAt_19 (tgt := 44) rfl it jf ?_ ?_
      · refine z_lsub [] rfl ?_
        exact hexit w9
      · refine z_aload_n C dX0_cutAt_22 rfl 0 rfl ?_
        refine z_iload_n C dX0_cutAt_23 rfl 3 rfl ?_
        refine z_aload_n C dX0_cutAt_24 rfl 1 rfl ?_
        refine z_iload C dX0_cutAt_25 4 rfl ?_
        refine X.conv bb ?_
        refine z_ldI C dX0_cutAt_27 bd (fun x4 => ?_)
        refine X.conv bb ?_
        refine z_rcv bd (fun b5 hbb5 htb5 => ?_)
        have heb5 := Option.some.inj hbb5
        subst heb5
        refine X.conv bb ?_
        refine z_callV C cf1 mf_X0_addPiece kt993 (gtbl_priv (j := 33) rfl rfl) kt991 (k_X0_addPiece (gL Γ) p9_0 u9_3 x4 w9 (gK Γ)) htb5 rfl ⟨Nat.le_of_ble_eq_true rfl, Nat.le_of_ble_eq_true rfl⟩ (rest := []) rfl (Nat.le_of_ble_eq_true rfl) dX0_cutAt_28 (bdVg) (contVg fun g6 => ?_)
        refine z_aload_n C dX0_cutAt_31 rfl 1 rfl ?_
        refine z_iload C dX0_cutAt_32 4 rfl ?_
        refine X.conv bb ?_
        refine z_ldI C dX0_cutAt_34 bd (fun x7 => ?_)
        refine z_iconst C dX0_cutAt_35 (v := 1) (by decide) ?_
        refine z_iadd C dX0_cutAt_36 ?_
        refine z_istore_n (L' := [(3, vI (x7 + 1)), (0, vR (some p9_0)), (1, vR p9_1), (2, vI p9_2), (4, vI u9_4)]) C dX0_cutAt_37 rfl (by decide) rfl ?_
        refine z_iinc (L' := [(4, vI (u9_4 + 1)), (3, vI (x7 + 1)), (0, vR (some p9_0)), (1, vR p9_1), (2, vI p9_2)]) C dX0_cutAt_38 4 rfl (v := u9_4 + 1) rfl (by decide) rfl ?_
        refine z_goto C dX0_cutAt_41 (tgt := 9) rfl ?_
        refine z_lsub [2, 3, 4, 1, 0] rfl ?_
        exact ih (x7 + 1) (u9_4 + 1) g6
theorem k_X0_cutAt (l : Launch) (b : Nat) (s1 : Option Nat) (s2 : Int32) (g : HP) : MM l Pi2 yX0_cutAt cX0_cutAt 5 none 8 217 [vR (some b), vR s1, vI s2] g (wVg (f_X0_cutAt b s1 s2 g)) := by
  refine MM_of PO_Pi2 mf_X0_cutAt (fun a ha => wVg_mono (f_X0_cutAt_mono b s1 s2 g) a ha) (Nat.le_of_ble_eq_true rfl) ?_
  intro Γ fin hfin hl hin C0 Z0
  subst hl
  obtain ⟨v0, hv, rfl⟩ := wVg_some hfin
  have C : CX Γ cX0_cutAt 5 "Blockduty$Block" Pi2 ok2 8 217 := C0
  have Z : RX Γ Pi2 none (none, v0) := Z0
  refine X.conv (fun _ => hv) ?_
  unfold f_X0_cutAt
  show X Γ 0 [(0, vR (some b)), (1, vR s1), (2, vI s2)] [] g _
  refine z_aload_n C dX0_cutAt_0 rfl 0 rfl ?_
  refine z_rcv bd (fun b1 hbb1 htb1 => ?_)
  have heb1 := Option.some.inj hbb1
  subst heb1
  refine z_callV C cf1 mf_X0_forgetPieces kt578 (gtbl_priv (j := 10) rfl rfl) kt576 (k_X0_forgetPieces (gL Γ) b g (gK Γ)) htb1 rfl ⟨Nat.le_of_ble_eq_true rfl, Nat.le_of_ble_eq_true rfl⟩ (rest := []) rfl (Nat.le_of_ble_eq_true rfl) dX0_cutAt_1 (bdVg) (contVg fun g2 => ?_)
  refine z_iconst C dX0_cutAt_4 (v := 0) (by decide) ?_
  refine z_istore_n (L' := [(3, vI 0), (0, vR (some b)), (1, vR s1), (2, vI s2)]) C dX0_cutAt_5 rfl (by decide) rfl ?_
  refine z_iconst C dX0_cutAt_6 (v := 0) (by decide) ?_
  refine z_istore (L' := [(4, vI 0), (3, vI 0), (0, vR (some b)), (1, vR s1), (2, vI s2)]) C dX0_cutAt_7 (by decide) rfl ?_
  refine z_lsub [2, 3, 4, 1, 0] rfl ?_
  refine k_X0_cutAt_L9 C b s1 s2 (fun q8 => ?_) FU 0 0 g2
  exact z_vret C Z rfl dX0_cutAt_44 (fun h => by cases h; rfl)
theorem k_X7_late (l : Launch) (b : Nat) (g : HP) : MM l Pi2 yX7_late cX7_late 1 (some .int) 0 0 [vR (some b)] g (wI g (f_X7_late b g)) := by
  refine MM_of PO_Pi2 mf_X7_late (fun a ha => wI_same a ha) (Nat.le_of_ble_eq_true rfl) ?_
  intro Γ fin hfin hl hin C0 Z0
  subst hl
  obtain ⟨v0, hv, rfl⟩ := wI_some hfin
  have C : CX Γ cX7_late 1 "Blockduty$Trip" Pi2 ok2 0 0 := C0
  have Z : RX Γ Pi2 (some .int) (some (vI v0), g) := Z0
  refine X.conv (fun _ => hv) ?_
  unfold f_X7_late
  show X Γ 0 [(0, vR (some b))] [] g _
  refine z_aload_n C dX7_late_0 rfl 0 rfl ?_
  refine z_gfI C cf8 10 (by decide) rfl rfl dX7_late_1 kt440 (fun _ h => h) bd (fun x1 => ?_)
  refine z_aload_n C dX7_late_4 rfl 0 rfl ?_
  refine z_gfI C cf8 4 (by decide) rfl rfl dX7_late_5 kt419 (fun _ h => h) bd (fun x2 => ?_)
  refine z_isub C dX7_late_8 ?_
  exact z_iret C Z rfl dX7_late_9 (fun h => by cases h; rfl)
theorem k_X7_causeIf (l : Launch) (b : Nat) (s1 : Int32) (g : HP) : MM l Pi2 yX7_causeIf cX7_causeIf 3 (some .int) 1 20 [vR (some b), vI s1] g (wI g (f_X7_causeIf b s1 g)) := by
  refine MM_of PO_Pi2 mf_X7_causeIf (fun a ha => wI_same a ha) (Nat.le_of_ble_eq_true rfl) ?_
  intro Γ fin hfin hl hin C0 Z0
  subst hl
  obtain ⟨v0, hv, rfl⟩ := wI_some hfin
  have C : CX Γ cX7_causeIf 3 "Blockduty$Trip" Pi2 ok2 1 20 := C0
  have Z : RX Γ Pi2 (some .int) (some (vI v0), g) := Z0
  refine X.conv (fun _ => hv) ?_
  unfold f_X7_causeIf
  show X Γ 0 [(0, vR (some b)), (1, vI s1)] [] g _
  refine z_aload_n C dX7_causeIf_0 rfl 0 rfl ?_
  refine z_gfR C cf8 1 (by decide) rfl rfl dX7_causeIf_1 kt410 (fun _ h => h) bd (fun r1 => ?_)
  refine z_gfI C cf4 2 (by decide) rfl rfl dX7_causeIf_4 kt201 (fun _ h => h) bd (fun x2 => ?_)
  refine z_if_eq C dX7_causeIf_7 (tgt := 12) rfl it jf ?_ ?_
  · refine z_iload_n C dX7_causeIf_12 rfl 1 rfl ?_
    refine z_iconst C dX7_causeIf_13 (v := (-1)) (by decide) ?_
    refine z_icmp_eq C dX7_causeIf_14 (tgt := 27) rfl it jf ?_ ?_
    · refine z_aload_n C dX7_causeIf_27 rfl 0 rfl ?_
      refine z_gfR C cf8 8 (by decide) rfl rfl dX7_causeIf_28 kt436 (fun _ h => h) bd (fun r3 => ?_)
      refine X.join (τ := (Option Nat)) 45 (fun q6 => [(0, vR (some b))]) (fun q6 => [vR q6]) (fun q6 => g) (fun q6 => ?_) (fun hj45 => ?_)
      · refine z_astore_n (L' := [(2, vR q6), (0, vR (some b))]) C dX7_causeIf_45 rfl (by decide) rfl ?_
        refine z_aload_n C dX7_causeIf_46 rfl 0 rfl ?_
        refine z_ifnonnull C dX7_causeIf_47 (tgt := 52) rfl it jf ?_ ?_
        · refine z_iconst C dX7_causeIf_50 (v := 4) (by decide) ?_
          exact z_iret C Z rfl dX7_causeIf_51 (fun h => by cases h; rfl)
        · refine z_aload_n C dX7_causeIf_52 rfl 0 rfl ?_
          refine z_gfI C cf2 1 (by decide) rfl rfl dX7_causeIf_53 kt499 (fun _ h => h) bd (fun x7 => ?_)
          refine z_if_eq C dX7_causeIf_56 (tgt := 61) rfl it jf ?_ ?_
          · refine z_aload_n C dX7_causeIf_61 rfl 1 rfl ?_
            refine z_rcv bd (fun b8 hbb8 htb8 => ?_)
            have heb8 := Option.some.inj hbb8
            subst heb8
            refine z_callV C cf8 mf_X7_late kt658 kt659 kt657 (k_X7_late (gL Γ) b g (gK Γ)) htb8 rfl ⟨Nat.le_of_ble_eq_true rfl, Nat.le_of_ble_eq_true rfl⟩ (rest := []) rfl (Nat.le_of_ble_eq_true rfl) dX7_causeIf_62 (bdI) (contI fun x9 => ?_)
            refine z_bipush C dX7_causeIf_65 (v := 30) (by decide) ?_
            refine z_icmp_le C dX7_causeIf_67 (tgt := 75) rfl it jf ?_ ?_
            · refine z_iconst C dX7_causeIf_75 (v := 0) (by decide) ?_
              exact z_iret C Z rfl dX7_causeIf_76 (fun h => by cases h; rfl)
            · refine z_bipush C dX7_causeIf_70 (v := 6) (by decide) ?_
              refine z_goto C dX7_causeIf_72 (tgt := 76) rfl ?_
              exact z_iret C Z rfl dX7_causeIf_76 (fun h => by cases h; rfl)
          · refine z_iconst C dX7_causeIf_59 (v := 5) (by decide) ?_
            exact z_iret C Z rfl dX7_causeIf_60 (fun h => by cases h; rfl)
      · refine X.conv bi ?_
        refine z_ifnonnull C dX7_causeIf_31 (tgt := 38) rfl it jf ?_ ?_
        · refine z_null C dX7_causeIf_34 ?_
          refine z_goto C dX7_causeIf_35 (tgt := 45) rfl ?_
          refine z_lsub [0] rfl ?_
          exact hj45 none
        · refine z_aload_n C dX7_causeIf_38 rfl 0 rfl ?_
          refine X.conv bb ?_
          refine z_gfR C cf8 8 (by decide) rfl rfl dX7_causeIf_39 kt436 (fun _ h => h) bd (fun r4 => ?_)
          refine X.conv bb ?_
          refine z_gfR C cf5 5 (by decide) rfl rfl dX7_causeIf_42 kt1011 (fun _ h => h) bd (fun r5 => ?_)
          refine z_lsub [0] rfl ?_
          exact hj45 r5
    · refine z_aload_n C dX7_causeIf_17 rfl 0 rfl ?_
      refine z_gfI C cf8 10 (by decide) rfl rfl dX7_causeIf_18 kt440 (fun _ h => h) bd (fun x10 => ?_)
      refine z_iload_n C dX7_causeIf_21 rfl 1 rfl ?_
      refine z_icmp_lt C dX7_causeIf_22 (tgt := 27) rfl it jf ?_ ?_
      · refine z_aload_n C dX7_causeIf_27 rfl 0 rfl ?_
        refine z_gfR C cf8 8 (by decide) rfl rfl dX7_causeIf_28 kt436 (fun _ h => h) bd (fun r11 => ?_)
        refine X.join (τ := (Option Nat)) 45 (fun q14 => [(0, vR (some b))]) (fun q14 => [vR q14]) (fun q14 => g) (fun q14 => ?_) (fun hj45 => ?_)
        · refine z_astore_n (L' := [(2, vR q14), (0, vR (some b))]) C dX7_causeIf_45 rfl (by decide) rfl ?_
          refine z_aload_n C dX7_causeIf_46 rfl 0 rfl ?_
          refine z_ifnonnull C dX7_causeIf_47 (tgt := 52) rfl it jf ?_ ?_
          · refine z_iconst C dX7_causeIf_50 (v := 4) (by decide) ?_
            exact z_iret C Z rfl dX7_causeIf_51 (fun h => by cases h; rfl)
          · refine z_aload_n C dX7_causeIf_52 rfl 0 rfl ?_
            refine z_gfI C cf2 1 (by decide) rfl rfl dX7_causeIf_53 kt499 (fun _ h => h) bd (fun x15 => ?_)
            refine z_if_eq C dX7_causeIf_56 (tgt := 61) rfl it jf ?_ ?_
            · refine z_aload_n C dX7_causeIf_61 rfl 1 rfl ?_
              refine z_rcv bd (fun b16 hbb16 htb16 => ?_)
              have heb16 := Option.some.inj hbb16
              subst heb16
              refine z_callV C cf8 mf_X7_late kt658 kt659 kt657 (k_X7_late (gL Γ) b g (gK Γ)) htb16 rfl ⟨Nat.le_of_ble_eq_true rfl, Nat.le_of_ble_eq_true rfl⟩ (rest := []) rfl (Nat.le_of_ble_eq_true rfl) dX7_causeIf_62 (bdI) (contI fun x17 => ?_)
              refine z_bipush C dX7_causeIf_65 (v := 30) (by decide) ?_
              refine z_icmp_le C dX7_causeIf_67 (tgt := 75) rfl it jf ?_ ?_
              · refine z_iconst C dX7_causeIf_75 (v := 0) (by decide) ?_
                exact z_iret C Z rfl dX7_causeIf_76 (fun h => by cases h; rfl)
              · refine z_bipush C dX7_causeIf_70 (v := 6) (by decide) ?_
                refine z_goto C dX7_causeIf_72 (tgt := 76) rfl ?_
                exact z_iret C Z rfl dX7_causeIf_76 (fun h => by cases h; rfl)
            · refine z_iconst C dX7_causeIf_59 (v := 5) (by decide) ?_
              exact z_iret C Z rfl dX7_causeIf_60 (fun h => by cases h; rfl)
        · refine X.conv bi ?_
          refine z_ifnonnull C dX7_causeIf_31 (tgt := 38) rfl it jf ?_ ?_
          · refine z_null C dX7_causeIf_34 ?_
            refine z_goto C dX7_causeIf_35 (tgt := 45) rfl ?_
            refine z_lsub [0] rfl ?_
            exact hj45 none
          · refine z_aload_n C dX7_causeIf_38 rfl 0 rfl ?_
            refine X.conv bb ?_
            refine z_gfR C cf8 8 (by decide) rfl rfl dX7_causeIf_39 kt436 (fun _ h => h) bd (fun r12 => ?_)
            refine X.conv bb ?_
            refine z_gfR C cf5 5 (by decide) rfl rfl dX7_causeIf_42 kt1011 (fun _ h => h) bd (fun r13 => ?_)
            refine z_lsub [0] rfl ?_
            exact hj45 r13
      · refine z_iconst C dX7_causeIf_25 (v := 3) (by decide) ?_
        exact z_iret C Z rfl dX7_causeIf_26 (fun h => by cases h; rfl)
  · refine z_iconst C dX7_causeIf_10 (v := 2) (by decide) ?_
    exact z_iret C Z rfl dX7_causeIf_11 (fun h => by cases h; rfl)
theorem k_X7_runs (l : Launch) (b : Nat) (g : HP) : MM l Pi2 yX7_runs cX7_runs 1 (some .boolean) 0 0 [vR (some b)] g (wI g (f_X7_runs b g)) := by
  refine MM_of PO_Pi2 mf_X7_runs (fun a ha => wI_same a ha) (Nat.le_of_ble_eq_true rfl) ?_
  intro Γ fin hfin hl hin C0 Z0
  subst hl
  obtain ⟨v0, hv, rfl⟩ := wI_some hfin
  have C : CX Γ cX7_runs 1 "Blockduty$Trip" Pi2 ok2 0 0 := C0
  have Z : RX Γ Pi2 (some .boolean) (some (vI v0), g) := Z0
  refine X.conv (fun _ => hv) ?_
  unfold f_X7_runs
  show X Γ 0 [(0, vR (some b))] [] g _
  refine z_aload_n C dX7_runs_0 rfl 0 rfl ?_
  refine z_gfI C cf8 9 (by decide) rfl rfl dX7_runs_1 kt437 (fun _ h => h) bd (fun x1 => ?_)
  refine z_if_ne C dX7_runs_4 (tgt := 11) rfl it jf ?_ ?_
  · refine z_iconst C dX7_runs_7 (v := 1) (by decide) ?_
    refine z_goto C dX7_runs_8 (tgt := 12) rfl ?_
    exact z_zret C Z rfl dX7_runs_12 (fun _ => Or.inr rfl) (fun h => by cases h; rfl)
  · refine z_iconst C dX7_runs_11 (v := 0) (by decide) ?_
    exact z_zret C Z rfl dX7_runs_12 (fun _ => Or.inl rfl) (fun h => by cases h; rfl)
theorem k_X5_emptyTo (l : Launch) (b : Nat) (s1 : Option Nat) (g : HP) : MM l Pi2 yX5_emptyTo cX5_emptyTo 2 (some .int) 0 0 [vR (some b), vR s1] g (wI g (f_X5_emptyTo b s1 g)) := by
  refine MM_of PO_Pi2 mf_X5_emptyTo (fun a ha => wI_same a ha) (Nat.le_of_ble_eq_true rfl) ?_
  intro Γ fin hfin hl hin C0 Z0
  subst hl
  obtain ⟨v0, hv, rfl⟩ := wI_some hfin
  have C : CX Γ cX5_emptyTo 2 "Blockduty$Place" Pi2 ok2 0 0 := C0
  have Z : RX Γ Pi2 (some .int) (some (vI v0), g) := Z0
  refine X.conv (fun _ => hv) ?_
  unfold f_X5_emptyTo
  show X Γ 0 [(0, vR (some b)), (1, vR s1)] [] g _
  refine z_aload_n C dX5_emptyTo_0 rfl 0 rfl ?_
  refine z_gfI C cf6 1 (by decide) rfl rfl dX5_emptyTo_1 kt112 (fun _ h => h) bd (fun x1 => ?_)
  refine z_aload_n C dX5_emptyTo_4 rfl 1 rfl ?_
  refine z_gfI C cf6 1 (by decide) rfl rfl dX5_emptyTo_5 kt112 (fun _ h => h) bd (fun x2 => ?_)
  refine z_icmp_ge C dX5_emptyTo_8 (tgt := 23) rfl it jf ?_ ?_
  · refine z_aload_n C dX5_emptyTo_23 rfl 0 rfl ?_
    refine z_gfI C cf6 1 (by decide) rfl rfl dX5_emptyTo_24 kt112 (fun _ h => h) bd (fun x3 => ?_)
    refine z_aload_n C dX5_emptyTo_27 rfl 1 rfl ?_
    refine z_gfI C cf6 1 (by decide) rfl rfl dX5_emptyTo_28 kt112 (fun _ h => h) bd (fun x4 => ?_)
    refine z_isub C dX5_emptyTo_31 ?_
    exact z_iret C Z rfl dX5_emptyTo_32 (fun h => by cases h; rfl)
  · refine z_aload_n C dX5_emptyTo_11 rfl 1 rfl ?_
    refine z_gfI C cf6 1 (by decide) rfl rfl dX5_emptyTo_12 kt112 (fun _ h => h) bd (fun x5 => ?_)
    refine z_aload_n C dX5_emptyTo_15 rfl 0 rfl ?_
    refine z_gfI C cf6 1 (by decide) rfl rfl dX5_emptyTo_16 kt112 (fun _ h => h) bd (fun x6 => ?_)
    refine z_isub C dX5_emptyTo_19 ?_
    refine z_goto C dX5_emptyTo_20 (tgt := 32) rfl ?_
    exact z_iret C Z rfl dX5_emptyTo_32 (fun h => by cases h; rfl)
theorem k_X7_emptyTo (l : Launch) (b : Nat) (s1 : Option Nat) (g : HP) : MM l Pi2 yX7_emptyTo cX7_emptyTo 2 (some .int) 1 21 [vR (some b), vR s1] g (wI g (f_X7_emptyTo b s1 g)) := by
  refine MM_of PO_Pi2 mf_X7_emptyTo (fun a ha => wI_same a ha) (Nat.le_of_ble_eq_true rfl) ?_
  intro Γ fin hfin hl hin C0 Z0
  subst hl
  obtain ⟨v0, hv, rfl⟩ := wI_some hfin
  have C : CX Γ cX7_emptyTo 2 "Blockduty$Trip" Pi2 ok2 1 21 := C0
  have Z : RX Γ Pi2 (some .int) (some (vI v0), g) := Z0
  refine X.conv (fun _ => hv) ?_
  unfold f_X7_emptyTo
  show X Γ 0 [(0, vR (some b)), (1, vR s1)] [] g _
  refine z_aload_n C dX7_emptyTo_0 rfl 0 rfl ?_
  refine z_gfR C cf8 3 (by decide) rfl rfl dX7_emptyTo_1 kt415 (fun _ h => h) bd (fun r1 => ?_)
  refine z_aload_n C dX7_emptyTo_4 rfl 1 rfl ?_
  refine z_gfR C cf8 2 (by decide) rfl rfl dX7_emptyTo_5 kt412 (fun _ h => h) bd (fun r2 => ?_)
  refine z_rcv bd (fun b3 hbb3 htb3 => ?_)
  subst hbb3
  refine z_callV C cf6 mf_X5_emptyTo kt649 kt650 kt648 (k_X5_emptyTo (gL Γ) b3 r2 g (gK Γ)) htb3 rfl ⟨Nat.le_of_ble_eq_true rfl, Nat.le_of_ble_eq_true rfl⟩ (rest := []) rfl (Nat.le_of_ble_eq_true rfl) dX7_emptyTo_8 (bdI) (contI fun x4 => ?_)
  exact z_iret C Z rfl dX7_emptyTo_11 (fun h => by cases h; rfl)
