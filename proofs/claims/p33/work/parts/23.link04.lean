theorem k_X9_placeNumbered (l : Launch) (b : Nat) (s1 : Int32) (g : HP) : MM l Pi2 yX9_placeNumbered cX9_placeNumbered 2 (some (.object "Blockduty$Place")) 3 64 [vR (some b), vI s1] g (wR g (f_X9_placeNumbered b s1 g)) := by
  refine MM_of PO_Pi2 mf_X9_placeNumbered (fun a ha => wR_same a ha) (Nat.le_of_ble_eq_true rfl) ?_
  intro Γ fin hfin hl hin C0 Z0
  subst hl
  obtain ⟨v0, hv, rfl⟩ := wR_some hfin
  have C : CX Γ cX9_placeNumbered 2 "Blockduty" Pi2 ok2 3 64 := C0
  have Z : RX Γ Pi2 (some (.object "Blockduty$Place")) (some (vR v0), g) := Z0
  refine X.conv (fun _ => hv) ?_
  unfold f_X9_placeNumbered
  show X Γ 0 [(0, vR (some b)), (1, vI s1)] [] g _
  refine z_iload_n C dX9_placeNumbered_0 rfl 1 rfl ?_
  refine z_if_lt C dX9_placeNumbered_1 (tgt := 29) rfl it jf ?_ ?_
  · refine z_null C dX9_placeNumbered_29 ?_
    exact z_aret C Z rfl (Or.inl ⟨_, rfl⟩) dX9_placeNumbered_30 (fun h => by cases h; rfl)
  · refine z_iload_n C dX9_placeNumbered_4 rfl 1 rfl ?_
    refine z_aload_n C dX9_placeNumbered_5 rfl 0 rfl ?_
    refine z_gfR C cf10 0 (by decide) rfl rfl dX9_placeNumbered_6 kt209 (fun _ h => h) bd (fun r1 => ?_)
    refine z_rcv bd (fun b2 hbb2 htb2 => ?_)
    subst hbb2
    refine z_callV C cf0 mf_Jx4a65c_size_8abf5 kt261 kt262 kt260 (k_al_size (gL Γ) b2 g (gK Γ)) htb2 rfl ⟨Nat.le_of_ble_eq_true rfl, Nat.le_of_ble_eq_true rfl⟩ (rest := [vI s1]) rfl (Nat.le_of_ble_eq_true rfl) dX9_placeNumbered_9 (bdI) (contI fun x3 => ?_)
    refine z_icmp_ge C dX9_placeNumbered_12 (tgt := 29) rfl it jf ?_ ?_
    · refine z_null C dX9_placeNumbered_29 ?_
      exact z_aret C Z rfl (Or.inl ⟨_, rfl⟩) dX9_placeNumbered_30 (fun h => by cases h; rfl)
    · refine z_aload_n C dX9_placeNumbered_15 rfl 0 rfl ?_
      refine z_gfR C cf10 0 (by decide) rfl rfl dX9_placeNumbered_16 kt209 (fun _ h => h) bd (fun r4 => ?_)
      refine z_iload_n C dX9_placeNumbered_19 rfl 1 rfl ?_
      refine z_rcv bd (fun b5 hbb5 htb5 => ?_)
      subst hbb5
      refine z_callV C cf0 mf_Jx4a65c_get_915e3 kt265 kt266 kt264 (k_al_get (gL Γ) b5 s1 g (gK Γ)) htb5 rfl ⟨Nat.le_of_ble_eq_true rfl, Nat.le_of_ble_eq_true rfl⟩ (rest := []) rfl (Nat.le_of_ble_eq_true rfl) dX9_placeNumbered_20 (bdR) (contR fun r6 => ?_)
      refine z_cst C cf6 dX9_placeNumbered_23 kt104 bd (fun r7 => ?_)
      refine z_goto C dX9_placeNumbered_26 (tgt := 30) rfl ?_
      exact z_aret C Z rfl (Or.inl ⟨_, rfl⟩) dX9_placeNumbered_30 (fun h => by cases h; rfl)
theorem k_X9_isOutside (l : Launch) (s1 : Int32) (s2 : Int32) (s3 : Int32) (g : HP) : MM l Pi2 yX9_isOutside cX9_isOutside 3 (some .boolean) 0 0 [vI s1, vI s2, vI s3] g (wI g (f_X9_isOutside s1 s2 s3 g)) := by
  refine MM_of PO_Pi2 mf_X9_isOutside (fun a ha => wI_same a ha) (Nat.le_of_ble_eq_true rfl) ?_
  intro Γ fin hfin hl hin C0 Z0
  subst hl
  obtain ⟨v0, hv, rfl⟩ := wI_some hfin
  have C : CX Γ cX9_isOutside 3 "Blockduty" Pi2 ok2 0 0 := C0
  have Z : RX Γ Pi2 (some .boolean) (some (vI v0), g) := Z0
  refine X.conv (fun _ => hv) ?_
  unfold f_X9_isOutside
  show X Γ 0 [(0, vI s1), (1, vI s2), (2, vI s3)] [] g _
  refine z_iload_n C dX9_isOutside_0 rfl 0 rfl ?_
  refine z_iload_n C dX9_isOutside_1 rfl 1 rfl ?_
  refine z_icmp_lt C dX9_isOutside_2 (tgt := 10) rfl it jf ?_ ?_
  · refine z_iconst C dX9_isOutside_10 (v := 1) (by decide) ?_
    refine z_goto C dX9_isOutside_11 (tgt := 15) rfl ?_
    exact z_zret C Z rfl dX9_isOutside_15 (fun _ => Or.inr rfl) (fun h => by cases h; rfl)
  · refine z_iload_n C dX9_isOutside_5 rfl 0 rfl ?_
    refine z_iload_n C dX9_isOutside_6 rfl 2 rfl ?_
    refine z_icmp_le C dX9_isOutside_7 (tgt := 14) rfl it jf ?_ ?_
    · refine z_iconst C dX9_isOutside_14 (v := 0) (by decide) ?_
      exact z_zret C Z rfl dX9_isOutside_15 (fun _ => Or.inl rfl) (fun h => by cases h; rfl)
    · refine z_iconst C dX9_isOutside_10 (v := 1) (by decide) ?_
      refine z_goto C dX9_isOutside_11 (tgt := 15) rfl ?_
      exact z_zret C Z rfl dX9_isOutside_15 (fun _ => Or.inr rfl) (fun h => by cases h; rfl)
theorem k_X9_place (l : Launch) (b : Nat) (s1 : Int32) (s2 : Int32) (s3 : Int32) (s4 : Int32) (g : HP) : MM l Pi2 yX9_place cX9_place 7 (some .int) 4 85 [vR (some b), vI s1, vI s2, vI s3, vI s4] g (wIg (f_X9_place b s1 s2 s3 s4 g)) := by
  refine MM_of PO_Pi2 mf_X9_place (fun a ha => wIg_mono (f_X9_place_mono b s1 s2 s3 s4 g) a ha) (Nat.le_of_ble_eq_true rfl) ?_
  intro Γ fin hfin hl hin C0 Z0
  subst hl
  obtain ⟨v0, hv, rfl⟩ := wIg_some hfin
  have C : CX Γ cX9_place 7 "Blockduty" Pi2 ok2 4 85 := C0
  have Z : RX Γ Pi2 (some .int) (some (vI v0.1), v0.2) := Z0
  refine X.conv (fun _ => hv) ?_
  unfold f_X9_place
  show X Γ 0 [(0, vR (some b)), (1, vI s1), (2, vI s2), (3, vI s3), (4, vI s4)] [] g _
  refine z_aload_n C dX9_place_0 rfl 0 rfl ?_
  refine z_iload_n C dX9_place_1 rfl 1 rfl ?_
  refine z_rcv bd (fun b1 hbb1 htb1 => ?_)
  have heb1 := Option.some.inj hbb1
  subst heb1
  refine z_callV C cf10 mf_X9_placeNumbered kt258 (gtbl_priv (j := 3) rfl rfl) kt256 (k_X9_placeNumbered (gL Γ) b s1 g (gK Γ)) htb1 rfl ⟨Nat.le_of_ble_eq_true rfl, Nat.le_of_ble_eq_true rfl⟩ (rest := []) rfl (Nat.le_of_ble_eq_true rfl) dX9_place_2 (bdR) (contR fun r2 => ?_)
  refine z_astore (L' := [(5, vR r2), (0, vR (some b)), (1, vI s1), (2, vI s2), (3, vI s3), (4, vI s4)]) C dX9_place_5 (by decide) rfl ?_
  refine z_aload C dX9_place_7 0 rfl ?_
  refine z_ifnonnull C dX9_place_9 (tgt := 22) rfl it jf ?_ ?_
  · exact X.no no0
  · refine z_iload_n C dX9_place_22 rfl 3 rfl ?_
    refine z_iconst C dX9_place_23 (v := 0) (by decide) ?_
    refine z_bipush C dX9_place_24 (v := 60) (by decide) ?_
    refine z_callS C rfl mf_X9_isOutside kt347 kt346 (k_X9_isOutside (gL Γ) s2 0 60 g (gK Γ)) rfl ⟨Nat.le_of_ble_eq_true rfl, Nat.le_of_ble_eq_true rfl⟩ (rest := []) rfl (Nat.le_of_ble_eq_true rfl) dX9_place_26 (bdI) (contI fun x3 => ?_)
    refine z_if_ne C dX9_place_29 (tgt := 41) rfl it jf ?_ ?_
    · refine z_iload_n C dX9_place_32 rfl 4 rfl ?_
      refine z_iconst C dX9_place_33 (v := 0) (by decide) ?_
      refine z_iconst C dX9_place_34 (v := 5) (by decide) ?_
      refine z_callS C rfl mf_X9_isOutside kt347 kt346 (k_X9_isOutside (gL Γ) s3 0 5 g (gK Γ)) rfl ⟨Nat.le_of_ble_eq_true rfl, Nat.le_of_ble_eq_true rfl⟩ (rest := []) rfl (Nat.le_of_ble_eq_true rfl) dX9_place_35 (bdI) (contI fun x4 => ?_)
      refine z_if_eq C dX9_place_38 (tgt := 51) rfl it jf ?_ ?_
      · refine z_aload_n C dX9_place_51 rfl 1 rfl ?_
        refine z_gfR C cf10 2 (by decide) rfl rfl dX9_place_52 kt211 (fun _ h => h) bd (fun r5 => ?_)
        refine z_rcv bd (fun b6 hbb6 htb6 => ?_)
        subst hbb6
        refine z_callV C cf0 mf_Jx4a65c_isEmpty_aae02 kt366 kt367 kt365 (k_al_isEmpty (gL Γ) b6 g (gK Γ)) htb6 rfl ⟨Nat.le_of_ble_eq_true rfl, Nat.le_of_ble_eq_true rfl⟩ (rest := []) rfl (Nat.le_of_ble_eq_true rfl) dX9_place_55 (bdI) (contI fun x7 => ?_)
        refine z_if_ne C dX9_place_58 (tgt := 71) rfl it jf ?_ ?_
        · exact X.no no0
        · refine z_aload C dX9_place_71 0 rfl ?_
          refine z_gfI C cf6 1 (by decide) rfl rfl dX9_place_73 kt113 (fun _ h => h) bd (fun x8 => ?_)
          refine z_istore (L' := [(6, vI x8), (5, vR r2), (0, vR (some b)), (1, vI s1), (2, vI s2), (3, vI s3), (4, vI s4)]) C dX9_place_76 (by decide) rfl ?_
          refine z_aload C dX9_place_78 1 rfl ?_
          refine z_iload_n C dX9_place_80 rfl 4 rfl ?_
          refine z_pfI C cf6 1 (by decide) rfl rfl rfl (Or.inl rfl) dX9_place_81 kt113 (fun _ h => h) bd (fun g9 => ?_)
          refine z_aload C dX9_place_84 1 rfl ?_
          refine z_iload_n C dX9_place_86 rfl 5 rfl ?_
          refine z_pfI C cf6 2 (by decide) rfl rfl rfl (Or.inl rfl) dX9_place_87 kt114 (fun _ h => h) bd (fun g10 => ?_)
          refine z_aload C dX9_place_90 1 rfl ?_
          refine z_iload C dX9_place_92 6 rfl ?_
          refine z_if_ne C dX9_place_94 (tgt := 106) rfl it jf ?_ ?_
          · refine z_aload C dX9_place_97 1 rfl ?_
            refine z_aload_n C dX9_place_99 rfl 2 rfl ?_
            refine z_gfR C cf10 6 (by decide) rfl rfl dX9_place_100 kt215 (fun _ h => h) bd (fun r11 => ?_)
            refine z_acmp_ne C dX9_place_103 (tgt := 110) rfl it jf ?_ ?_
            · refine z_iconst C dX9_place_106 (v := 1) (by decide) ?_
              refine z_goto C dX9_place_107 (tgt := 111) rfl ?_
              refine z_pfZ C cf6 3 (by decide) rfl rfl rfl (Or.inl rfl) dX9_place_111 kt117 (fun _ h => h) bd (fun g12 => ?_)
              refine z_iload C dX9_place_114 0 rfl ?_
              exact z_iret C Z rfl dX9_place_116 (fun h => by cases h; rfl)
            · refine z_iconst C dX9_place_110 (v := 0) (by decide) ?_
              refine z_pfZ C cf6 3 (by decide) rfl rfl rfl (Or.inl rfl) dX9_place_111 kt117 (fun _ h => h) bd (fun g13 => ?_)
              refine z_iload C dX9_place_114 0 rfl ?_
              exact z_iret C Z rfl dX9_place_116 (fun h => by cases h; rfl)
          · refine z_iconst C dX9_place_106 (v := 1) (by decide) ?_
            refine z_goto C dX9_place_107 (tgt := 111) rfl ?_
            refine z_pfZ C cf6 3 (by decide) rfl rfl rfl (Or.inl rfl) dX9_place_111 kt117 (fun _ h => h) bd (fun g14 => ?_)
            refine z_iload C dX9_place_114 0 rfl ?_
            exact z_iret C Z rfl dX9_place_116 (fun h => by cases h; rfl)
      · exact X.no no0
    · exact X.no no0
theorem k_X9_lineNumbered (l : Launch) (b : Nat) (s1 : Int32) (g : HP) : MM l Pi2 yX9_lineNumbered cX9_lineNumbered 2 (some (.object "Blockduty$Line")) 3 64 [vR (some b), vI s1] g (wR g (f_X9_lineNumbered b s1 g)) := by
  refine MM_of PO_Pi2 mf_X9_lineNumbered (fun a ha => wR_same a ha) (Nat.le_of_ble_eq_true rfl) ?_
  intro Γ fin hfin hl hin C0 Z0
  subst hl
  obtain ⟨v0, hv, rfl⟩ := wR_some hfin
  have C : CX Γ cX9_lineNumbered 2 "Blockduty" Pi2 ok2 3 64 := C0
  have Z : RX Γ Pi2 (some (.object "Blockduty$Line")) (some (vR v0), g) := Z0
  refine X.conv (fun _ => hv) ?_
  unfold f_X9_lineNumbered
  show X Γ 0 [(0, vR (some b)), (1, vI s1)] [] g _
  refine z_iload_n C dX9_lineNumbered_0 rfl 1 rfl ?_
  refine z_if_lt C dX9_lineNumbered_1 (tgt := 29) rfl it jf ?_ ?_
  · refine z_null C dX9_lineNumbered_29 ?_
    exact z_aret C Z rfl (Or.inl ⟨_, rfl⟩) dX9_lineNumbered_30 (fun h => by cases h; rfl)
  · refine z_iload_n C dX9_lineNumbered_4 rfl 1 rfl ?_
    refine z_aload_n C dX9_lineNumbered_5 rfl 0 rfl ?_
    refine z_gfR C cf10 1 (by decide) rfl rfl dX9_lineNumbered_6 kt210 (fun _ h => h) bd (fun r1 => ?_)
    refine z_rcv bd (fun b2 hbb2 htb2 => ?_)
    subst hbb2
    refine z_callV C cf0 mf_Jx4a65c_size_8abf5 kt261 kt262 kt260 (k_al_size (gL Γ) b2 g (gK Γ)) htb2 rfl ⟨Nat.le_of_ble_eq_true rfl, Nat.le_of_ble_eq_true rfl⟩ (rest := [vI s1]) rfl (Nat.le_of_ble_eq_true rfl) dX9_lineNumbered_9 (bdI) (contI fun x3 => ?_)
    refine z_icmp_ge C dX9_lineNumbered_12 (tgt := 29) rfl it jf ?_ ?_
    · refine z_null C dX9_lineNumbered_29 ?_
      exact z_aret C Z rfl (Or.inl ⟨_, rfl⟩) dX9_lineNumbered_30 (fun h => by cases h; rfl)
    · refine z_aload_n C dX9_lineNumbered_15 rfl 0 rfl ?_
      refine z_gfR C cf10 1 (by decide) rfl rfl dX9_lineNumbered_16 kt210 (fun _ h => h) bd (fun r4 => ?_)
      refine z_iload_n C dX9_lineNumbered_19 rfl 1 rfl ?_
      refine z_rcv bd (fun b5 hbb5 htb5 => ?_)
      subst hbb5
      refine z_callV C cf0 mf_Jx4a65c_get_915e3 kt265 kt266 kt264 (k_al_get (gL Γ) b5 s1 g (gK Γ)) htb5 rfl ⟨Nat.le_of_ble_eq_true rfl, Nat.le_of_ble_eq_true rfl⟩ (rest := []) rfl (Nat.le_of_ble_eq_true rfl) dX9_lineNumbered_20 (bdR) (contR fun r6 => ?_)
      refine z_cst C cf4 dX9_lineNumbered_23 kt189 bd (fun r7 => ?_)
      refine z_goto C dX9_lineNumbered_26 (tgt := 30) rfl ?_
      exact z_aret C Z rfl (Or.inl ⟨_, rfl⟩) dX9_lineNumbered_30 (fun h => by cases h; rfl)
theorem k_X9_line (l : Launch) (b : Nat) (s1 : Int32) (s2 : Int32) (s3 : Int32) (g : HP) : MM l Pi2 yX9_line cX9_line 6 (some .int) 4 85 [vR (some b), vI s1, vI s2, vI s3] g (wIg (f_X9_line b s1 s2 s3 g)) := by
  refine MM_of PO_Pi2 mf_X9_line (fun a ha => wIg_mono (f_X9_line_mono b s1 s2 s3 g) a ha) (Nat.le_of_ble_eq_true rfl) ?_
  intro Γ fin hfin hl hin C0 Z0
  subst hl
  obtain ⟨v0, hv, rfl⟩ := wIg_some hfin
  have C : CX Γ cX9_line 6 "Blockduty" Pi2 ok2 4 85 := C0
  have Z : RX Γ Pi2 (some .int) (some (vI v0.1), v0.2) := Z0
  refine X.conv (fun _ => hv) ?_
  unfold f_X9_line
  show X Γ 0 [(0, vR (some b)), (1, vI s1), (2, vI s2), (3, vI s3)] [] g _
  refine z_aload_n C dX9_line_0 rfl 0 rfl ?_
  refine z_iload_n C dX9_line_1 rfl 1 rfl ?_
  refine z_rcv bd (fun b1 hbb1 htb1 => ?_)
  have heb1 := Option.some.inj hbb1
  subst heb1
  refine z_callV C cf10 mf_X9_lineNumbered kt391 (gtbl_priv (j := 5) rfl rfl) kt389 (k_X9_lineNumbered (gL Γ) b s1 g (gK Γ)) htb1 rfl ⟨Nat.le_of_ble_eq_true rfl, Nat.le_of_ble_eq_true rfl⟩ (rest := []) rfl (Nat.le_of_ble_eq_true rfl) dX9_line_2 (bdR) (contR fun r2 => ?_)
  refine z_astore (L' := [(4, vR r2), (0, vR (some b)), (1, vI s1), (2, vI s2), (3, vI s3)]) C dX9_line_5 (by decide) rfl ?_
  refine z_aload C dX9_line_7 0 rfl ?_
  refine z_ifnonnull C dX9_line_9 (tgt := 22) rfl it jf ?_ ?_
  · exact X.no no0
  · refine z_iload_n C dX9_line_22 rfl 3 rfl ?_
    refine z_iconst C dX9_line_23 (v := 0) (by decide) ?_
    refine z_bipush C dX9_line_24 (v := 99) (by decide) ?_
    refine z_callS C rfl mf_X9_isOutside kt347 kt346 (k_X9_isOutside (gL Γ) s2 0 99 g (gK Γ)) rfl ⟨Nat.le_of_ble_eq_true rfl, Nat.le_of_ble_eq_true rfl⟩ (rest := []) rfl (Nat.le_of_ble_eq_true rfl) dX9_line_26 (bdI) (contI fun x3 => ?_)
    refine z_if_eq C dX9_line_29 (tgt := 42) rfl it jf ?_ ?_
    · refine z_aload C dX9_line_42 0 rfl ?_
      refine z_gfI C cf4 1 (by decide) rfl rfl dX9_line_44 kt198 (fun _ h => h) bd (fun x4 => ?_)
      refine z_istore (L' := [(5, vI x4), (4, vR r2), (0, vR (some b)), (1, vI s1), (2, vI s2), (3, vI s3)]) C dX9_line_47 (by decide) rfl ?_
      refine z_aload C dX9_line_49 1 rfl ?_
      refine z_iload_n C dX9_line_51 rfl 4 rfl ?_
      refine z_pfI C cf4 1 (by decide) rfl rfl rfl (Or.inl rfl) dX9_line_52 kt198 (fun _ h => h) bd (fun g5 => ?_)
      refine z_aload C dX9_line_55 1 rfl ?_
      refine z_iload_n C dX9_line_57 rfl 5 rfl ?_
      refine z_pfZ C cf4 2 (by decide) rfl rfl rfl (Or.inl rfl) dX9_line_58 kt200 (fun _ h => h) bd (fun g6 => ?_)
      refine z_iload C dX9_line_61 0 rfl ?_
      exact z_iret C Z rfl dX9_line_63 (fun h => by cases h; rfl)
    · exact X.no no0
theorem k_X9_addByStart_L2 {Γ : GG} {β : Type} {fin0 : β} {F0 : Int32 → Option β} (C : CX Γ cX9_addByStart 3 "Blockduty" Pi2 ok2 6 171) (p2_0 : Nat) (p2_1 : Option Nat) (w2 : HP) (hexit : ∀ q2 : Int32, X Γ 40 [(0, vR (some p2_0)), (1, vR p2_1), (2, vI q2)] [] w2 (F0 q2 = some fin0)) : ∀ (m2 : Nat) (u2_2 : Int32), X Γ 2 [(0, vR (some p2_0)), (1, vR p2_1), (2, vI u2_2)] [] w2 ((f_X9_addByStart_L2 p2_0 p2_1 w2 m2 u2_2).bind F0 = some fin0) := by
  intro m2
  induction m2 with
  | zero =>
    intro u2_2
    exact X.no no1
  | succ m2 ih =>
    intro u2_2
    unfold f_X9_addByStart_L2
    refine z_iload_n C dX9_addByStart_2 rfl 2 rfl ?_
    refine z_aload_n C dX9_addByStart_3 rfl 0 rfl ?_
    refine X.conv bb ?_
    refine z_gfR C cf10 3 (by decide) rfl rfl dX9_addByStart_4 kt212 (fun _ h => h) bd (fun r1 => ?_)
    refine X.conv bb ?_
    refine z_rcv bd (fun b2 hbb2 htb2 => ?_)
    subst hbb2
    refine X.conv bb ?_
    refine z_callV C cf0 mf_Jx4a65c_size_8abf5 kt261 kt262 kt260 (k_al_size (gL Γ) b2 w2 (gK Γ)) htb2 rfl ⟨Nat.le_of_ble_eq_true rfl, Nat.le_of_ble_eq_true rfl⟩ (rest := [vI u2_2]) rfl (Nat.le_of_ble_eq_true rfl) dX9_addByStart_7 (bdI) (contI fun x3 => ?_)
    refine X.conv bi ?_
    refine z_icmp_ge C dX9_addByStart_10 (tgt := 40) rfl it jf ?_ ?_
    · refine z_lsub [0, 1, 2] rfl ?_
      exact hexit u2_2
    · refine z_aload_n C dX9_addByStart_13 rfl 0 rfl ?_
      refine X.conv bb ?_
      refine z_gfR C cf10 3 (by decide) rfl rfl dX9_addByStart_14 kt212 (fun _ h => h) bd (fun r4 => ?_)
      refine z_iload_n C dX9_addByStart_17 rfl 2 rfl ?_
      refine X.conv bb ?_
      refine z_rcv bd (fun b5 hbb5 htb5 => ?_)
      subst hbb5
      refine X.conv bb ?_
      refine z_callV C cf0 mf_Jx4a65c_get_915e3 kt265 kt266 kt264 (k_al_get (gL Γ) b5 u2_2 w2 (gK Γ)) htb5 rfl ⟨Nat.le_of_ble_eq_true rfl, Nat.le_of_ble_eq_true rfl⟩ (rest := []) rfl (Nat.le_of_ble_eq_true rfl) dX9_addByStart_18 (bdR) (contR fun r6 => ?_)
      refine X.conv bb ?_
      refine z_cst C cf8 dX9_addByStart_21 kt402 bd (fun r7 => ?_)
      refine X.conv bb ?_
      refine z_gfI C cf8 4 (by decide) rfl rfl dX9_addByStart_24 kt424 (fun _ h => h) bd (fun x8 => ?_)
      refine z_aload_n C dX9_addByStart_27 rfl 1 rfl ?_
      refine X.conv bb ?_
      refine z_gfI C cf8 4 (by decide) rfl rfl dX9_addByStart_28 kt424 (fun _ h => h) bd (fun x9 => ?_)
      refine X.conv bi ?_
      refine z_icmp_gt C dX9_addByStart_31 (tgt := 40) rfl it jf ?_ ?_
      · refine z_lsub [0, 1, 2] rfl ?_
        exact hexit u2_2
      · refine z_iinc (L' := [(2, vI (u2_2 + 1)), (0, vR (some p2_0)), (1, vR p2_1)]) C dX9_addByStart_34 2 rfl (v := u2_2 + 1) rfl (by decide) rfl ?_
        refine z_goto C dX9_addByStart_37 (tgt := 2) rfl ?_
        refine z_lsub [1, 2, 0] rfl ?_
        exact ih (u2_2 + 1)
theorem k_X9_addByStart (l : Launch) (b : Nat) (s1 : Option Nat) (g : HP) : MM l Pi2 yX9_addByStart cX9_addByStart 3 none 6 171 [vR (some b), vR s1] g (wVg (f_X9_addByStart b s1 g)) := by
  refine MM_of PO_Pi2 mf_X9_addByStart (fun a ha => wVg_mono (f_X9_addByStart_mono b s1 g) a ha) (Nat.le_of_ble_eq_true rfl) ?_
  intro Γ fin hfin hl hin C0 Z0
  subst hl
  obtain ⟨v0, hv, rfl⟩ := wVg_some hfin
  have C : CX Γ cX9_addByStart 3 "Blockduty" Pi2 ok2 6 171 := C0
  have Z : RX Γ Pi2 none (none, v0) := Z0
  refine X.conv (fun _ => hv) ?_
  unfold f_X9_addByStart
  show X Γ 0 [(0, vR (some b)), (1, vR s1)] [] g _
  refine z_iconst C dX9_addByStart_0 (v := 0) (by decide) ?_
  refine z_istore_n (L' := [(2, vI 0), (0, vR (some b)), (1, vR s1)]) C dX9_addByStart_1 rfl (by decide) rfl ?_
  refine z_lsub [1, 2, 0] rfl ?_
  refine k_X9_addByStart_L2 C b s1 g (fun q10 => ?_) FU 0
  refine z_aload_n C dX9_addByStart_40 rfl 0 rfl ?_
  refine z_gfR C cf10 3 (by decide) rfl rfl dX9_addByStart_41 kt212 (fun _ h => h) bd (fun r11 => ?_)
  refine z_iload_n C dX9_addByStart_44 rfl 2 rfl ?_
  refine z_aload_n C dX9_addByStart_45 rfl 1 rfl ?_
  refine z_rcv bd (fun b12 hbb12 htb12 => ?_)
  subst hbb12
  refine z_callV C cf0 mf_Jx4a65c_add_7a177 kt475 kt476 kt474 (k_al_addAt (gL Γ) b12 q10 s1 g (gK Γ)) htb12 rfl ⟨Nat.le_of_ble_eq_true rfl, Nat.le_of_ble_eq_true rfl⟩ (rest := []) rfl (Nat.le_of_ble_eq_true rfl) dX9_addByStart_46 (bdVg) (contVg fun g13 => ?_)
  exact z_vret C Z rfl dX9_addByStart_49 (fun h => by cases h; rfl)
theorem k_X9_trip (l : Launch) (b : Nat) (s1 : Int32) (s2 : Int32) (s3 : Int32) (s4 : Int32) (s5 : Int32) (g : HP) : MM l Pi2 yX9_trip cX9_trip 11 (some .int) 7 193 [vR (some b), vI s1, vI s2, vI s3, vI s4, vI s5] g (wIg (f_X9_trip b s1 s2 s3 s4 s5 g)) := by
  refine MM_of PO_Pi2 mf_X9_trip (fun a ha => wIg_mono (f_X9_trip_mono b s1 s2 s3 s4 s5 g) a ha) (Nat.le_of_ble_eq_true rfl) ?_
  intro Γ fin hfin hl hin C0 Z0
  subst hl
  obtain ⟨v0, hv, rfl⟩ := wIg_some hfin
  have C : CX Γ cX9_trip 11 "Blockduty" Pi2 ok2 7 193 := C0
  have Z : RX Γ Pi2 (some .int) (some (vI v0.1), v0.2) := Z0
  refine X.conv (fun _ => hv) ?_
  unfold f_X9_trip
  show X Γ 0 [(0, vR (some b)), (1, vI s1), (2, vI s2), (3, vI s3), (4, vI s4), (5, vI s5)] [] g _
  refine z_aload_n C dX9_trip_0 rfl 0 rfl ?_
  refine z_iload_n C dX9_trip_1 rfl 1 rfl ?_
  refine z_rcv bd (fun b1 hbb1 htb1 => ?_)
  have heb1 := Option.some.inj hbb1
  subst heb1
  refine z_callV C cf10 mf_X9_lineNumbered kt391 (gtbl_priv (j := 5) rfl rfl) kt389 (k_X9_lineNumbered (gL Γ) b s1 g (gK Γ)) htb1 rfl ⟨Nat.le_of_ble_eq_true rfl, Nat.le_of_ble_eq_true rfl⟩ (rest := []) rfl (Nat.le_of_ble_eq_true rfl) dX9_trip_2 (bdR) (contR fun r2 => ?_)
  refine z_astore (L' := [(6, vR r2), (0, vR (some b)), (1, vI s1), (2, vI s2), (3, vI s3), (4, vI s4), (5, vI s5)]) C dX9_trip_5 (by decide) rfl ?_
  refine z_aload_n C dX9_trip_7 rfl 1 rfl ?_
  refine z_iload_n C dX9_trip_8 rfl 3 rfl ?_
  refine z_rcv bd (fun b3 hbb3 htb3 => ?_)
  have heb3 := Option.some.inj hbb3
  subst heb3
  refine z_callV C cf10 mf_X9_placeNumbered kt258 (gtbl_priv (j := 3) rfl rfl) kt256 (k_X9_placeNumbered (gL Γ) b s2 g (gK Γ)) htb3 rfl ⟨Nat.le_of_ble_eq_true rfl, Nat.le_of_ble_eq_true rfl⟩ (rest := []) rfl (Nat.le_of_ble_eq_true rfl) dX9_trip_9 (bdR) (contR fun r4 => ?_)
  refine z_astore (L' := [(7, vR r4), (6, vR r2), (0, vR (some b)), (1, vI s1), (2, vI s2), (3, vI s3), (4, vI s4), (5, vI s5)]) C dX9_trip_12 (by decide) rfl ?_
  refine z_aload_n C dX9_trip_14 rfl 2 rfl ?_
  refine z_iload_n C dX9_trip_15 rfl 5 rfl ?_
  refine z_rcv bd (fun b5 hbb5 htb5 => ?_)
  have heb5 := Option.some.inj hbb5
  subst heb5
  refine z_callV C cf10 mf_X9_placeNumbered kt258 (gtbl_priv (j := 3) rfl rfl) kt256 (k_X9_placeNumbered (gL Γ) b s3 g (gK Γ)) htb5 rfl ⟨Nat.le_of_ble_eq_true rfl, Nat.le_of_ble_eq_true rfl⟩ (rest := []) rfl (Nat.le_of_ble_eq_true rfl) dX9_trip_16 (bdR) (contR fun r6 => ?_)
  refine z_astore (L' := [(8, vR r6), (7, vR r4), (6, vR r2), (0, vR (some b)), (1, vI s1), (2, vI s2), (3, vI s3), (4, vI s4), (5, vI s5)]) C dX9_trip_19 (by decide) rfl ?_
  refine z_aload C dX9_trip_21 2 rfl ?_
  refine z_ifnull C dX9_trip_23 (tgt := 36) rfl it jf ?_ ?_
  · exact X.no no0
  · refine z_aload C dX9_trip_26 1 rfl ?_
    refine z_ifnull C dX9_trip_28 (tgt := 36) rfl it jf ?_ ?_
    · exact X.no no0
    · refine z_aload C dX9_trip_31 0 rfl ?_
      refine z_ifnonnull C dX9_trip_33 (tgt := 46) rfl it jf ?_ ?_
      · exact X.no no0
      · refine z_iload C dX9_trip_46 7 rfl ?_
        refine z_iconst C dX9_trip_48 (v := 0) (by decide) ?_
        refine z_sipush C dX9_trip_49 (v := 1439) (by decide) ?_
        refine z_callS C rfl mf_X9_isOutside kt347 kt346 (k_X9_isOutside (gL Γ) s4 0 1439 g (gK Γ)) rfl ⟨Nat.le_of_ble_eq_true rfl, Nat.le_of_ble_eq_true rfl⟩ (rest := []) rfl (Nat.le_of_ble_eq_true rfl) dX9_trip_52 (bdI) (contI fun x7 => ?_)
        refine z_if_ne C dX9_trip_55 (tgt := 69) rfl it jf ?_ ?_
        · refine z_iload C dX9_trip_58 8 rfl ?_
          refine z_iconst C dX9_trip_60 (v := 5) (by decide) ?_
          refine z_bipush C dX9_trip_61 (v := 120) (by decide) ?_
          refine z_callS C rfl mf_X9_isOutside kt347 kt346 (k_X9_isOutside (gL Γ) s5 5 120 g (gK Γ)) rfl ⟨Nat.le_of_ble_eq_true rfl, Nat.le_of_ble_eq_true rfl⟩ (rest := []) rfl (Nat.le_of_ble_eq_true rfl) dX9_trip_63 (bdI) (contI fun x8 => ?_)
          refine z_if_eq C dX9_trip_66 (tgt := 79) rfl it jf ?_ ?_
          · refine z_aload_n C dX9_trip_79 rfl 3 rfl ?_
            refine z_gfR C cf10 2 (by decide) rfl rfl dX9_trip_80 kt211 (fun _ h => h) bd (fun r9 => ?_)
            refine z_rcv bd (fun b10 hbb10 htb10 => ?_)
            subst hbb10
            refine z_callV C cf0 mf_Jx4a65c_size_8abf5 kt261 kt262 kt260 (k_al_size (gL Γ) b10 g (gK Γ)) htb10 rfl ⟨Nat.le_of_ble_eq_true rfl, Nat.le_of_ble_eq_true rfl⟩ (rest := []) rfl (Nat.le_of_ble_eq_true rfl) dX9_trip_83 (bdI) (contI fun x11 => ?_)
            refine z_istore (L' := [(9, vI x11), (8, vR r6), (7, vR r4), (6, vR r2), (0, vR (some b)), (1, vI s1), (2, vI s2), (3, vI s3), (4, vI s4), (5, vI s5)]) C dX9_trip_86 (by decide) rfl ?_
            refine z_iload C dX9_trip_88 0 rfl ?_
            refine z_bipush C dX9_trip_90 (v := 16) (by decide) ?_
            refine z_icmp_lt C dX9_trip_92 (tgt := 105) rfl it jf ?_ ?_
            · refine z_new C cf8 rfl dX9_trip_105 kt402 kt403 kt22 def8 ?_
              refine z_dup C dX9_trip_108 rfl ?_
              refine z_iload C dX9_trip_109 0 rfl ?_
              refine z_aload C dX9_trip_111 3 rfl ?_
              refine z_aload C dX9_trip_113 2 rfl ?_
              refine z_aload C dX9_trip_115 1 rfl ?_
              refine z_iload C dX9_trip_117 8 rfl ?_
              refine z_iload C dX9_trip_119 9 rfl ?_
              refine z_callI C mf_X7_init kt405 rfl kt404 (k_X7_init (gL Γ) (nx g) x11 r2 r4 r6 s4 s5 (newG g 9 12 [] []) (gK Γ)) rfl ⟨Nat.le_of_ble_eq_true rfl, Nat.le_of_ble_eq_true rfl⟩ (rest := [vR (some (nx g))]) rfl (Nat.le_of_ble_eq_true rfl) dX9_trip_121 (bdVg) (contVg fun g12 => ?_)
              refine z_astore (L' := [(10, vR (some (nx g))), (9, vI x11), (8, vR r6), (7, vR r4), (6, vR r2), (0, vR (some b)), (1, vI s1), (2, vI s2), (3, vI s3), (4, vI s4), (5, vI s5)]) C dX9_trip_124 (by decide) rfl ?_
              refine z_aload_n C dX9_trip_126 rfl 5 rfl ?_
              refine z_gfR C cf10 2 (by decide) rfl rfl dX9_trip_127 kt211 (fun _ h => h) bd (fun r13 => ?_)
              refine z_aload C dX9_trip_130 0 rfl ?_
              refine z_rcv bd (fun b14 hbb14 htb14 => ?_)
              subst hbb14
              refine z_callV C cf0 mf_Jx4a65c_add_9ea2d kt129 kt130 kt128 (k_al_add (gL Γ) b14 (some (nx g)) g12 (gK Γ)) htb14 rfl ⟨Nat.le_of_ble_eq_true rfl, Nat.le_of_ble_eq_true rfl⟩ (rest := []) rfl (Nat.le_of_ble_eq_true rfl) dX9_trip_132 (bdIg) (contIg fun v15 => ?_)
              refine z_pop C dX9_trip_135 rfl ?_
              refine z_aload_n C dX9_trip_136 rfl 5 rfl ?_
              refine z_aload C dX9_trip_137 0 rfl ?_
              refine z_rcv bd (fun b16 hbb16 htb16 => ?_)
              have heb16 := Option.some.inj hbb16
              subst heb16
              refine z_callV C cf10 mf_X9_addByStart kt472 (gtbl_priv (j := 6) rfl rfl) kt470 (k_X9_addByStart (gL Γ) b (some (nx g)) v15.2 (gK Γ)) htb16 rfl ⟨Nat.le_of_ble_eq_true rfl, Nat.le_of_ble_eq_true rfl⟩ (rest := []) rfl (Nat.le_of_ble_eq_true rfl) dX9_trip_139 (bdVg) (contVg fun g17 => ?_)
              refine z_iload C dX9_trip_142 1 rfl ?_
              exact z_iret C Z rfl dX9_trip_144 (fun h => by cases h; rfl)
            · exact X.no no0
          · exact X.no no0
        · exact X.no no0
theorem k_X9_driver (l : Launch) (b : Nat) (g : HP) : MM l Pi2 yX9_driver cX9_driver 2 (some .int) 7 191 [vR (some b)] g (wIg (f_X9_driver b g)) := by
  refine MM_of PO_Pi2 mf_X9_driver (fun a ha => wIg_mono (f_X9_driver_mono b g) a ha) (Nat.le_of_ble_eq_true rfl) ?_
  intro Γ fin hfin hl hin C0 Z0
  subst hl
  obtain ⟨v0, hv, rfl⟩ := wIg_some hfin
  have C : CX Γ cX9_driver 2 "Blockduty" Pi2 ok2 7 191 := C0
  have Z : RX Γ Pi2 (some .int) (some (vI v0.1), v0.2) := Z0
  refine X.conv (fun _ => hv) ?_
  unfold f_X9_driver
  show X Γ 0 [(0, vR (some b))] [] g _
  refine z_aload_n C dX9_driver_0 rfl 0 rfl ?_
  refine z_gfR C cf10 5 (by decide) rfl rfl dX9_driver_1 kt214 (fun _ h => h) bd (fun r1 => ?_)
  refine z_rcv bd (fun b2 hbb2 htb2 => ?_)
  subst hbb2
  refine z_callV C cf0 mf_Jx4a65c_size_8abf5 kt261 kt262 kt260 (k_al_size (gL Γ) b2 g (gK Γ)) htb2 rfl ⟨Nat.le_of_ble_eq_true rfl, Nat.le_of_ble_eq_true rfl⟩ (rest := []) rfl (Nat.le_of_ble_eq_true rfl) dX9_driver_4 (bdI) (contI fun x3 => ?_)
  refine z_istore_n (L' := [(1, vI x3), (0, vR (some b))]) C dX9_driver_7 rfl (by decide) rfl ?_
  refine z_iload_n C dX9_driver_8 rfl 0 rfl ?_
  refine z_bipush C dX9_driver_9 (v := 6) (by decide) ?_
  refine z_icmp_lt C dX9_driver_11 (tgt := 24) rfl it jf ?_ ?_
  · refine z_aload_n C dX9_driver_24 rfl 1 rfl ?_
    refine z_gfR C cf10 5 (by decide) rfl rfl dX9_driver_25 kt214 (fun _ h => h) bd (fun r4 => ?_)
    refine z_new C cf2 rfl dX9_driver_28 kt488 kt489 kt23 def2 ?_
    refine z_dup C dX9_driver_31 rfl ?_
    refine z_iload_n C dX9_driver_32 rfl 0 rfl ?_
    refine z_callI C mf_X1_init kt491 rfl kt490 (k_X1_init (gL Γ) (nx g) x3 (newG g 3 3 [] []) (gK Γ)) rfl ⟨Nat.le_of_ble_eq_true rfl, Nat.le_of_ble_eq_true rfl⟩ (rest := [vR (some (nx g)), vR r4]) rfl (Nat.le_of_ble_eq_true rfl) dX9_driver_33 (bdVg) (contVg fun g5 => ?_)
    refine z_rcv bd (fun b6 hbb6 htb6 => ?_)
    subst hbb6
    refine z_callV C cf0 mf_Jx4a65c_add_9ea2d kt129 kt130 kt128 (k_al_add (gL Γ) b6 (some (nx g)) g5 (gK Γ)) htb6 rfl ⟨Nat.le_of_ble_eq_true rfl, Nat.le_of_ble_eq_true rfl⟩ (rest := []) rfl (Nat.le_of_ble_eq_true rfl) dX9_driver_36 (bdIg) (contIg fun v7 => ?_)
    refine z_pop C dX9_driver_39 rfl ?_
    refine z_iload_n C dX9_driver_40 rfl 0 rfl ?_
    exact z_iret C Z rfl dX9_driver_41 (fun h => by cases h; rfl)
  · exact X.no no0
theorem k_X9_newBlock (l : Launch) (b : Nat) (s1 : Int32) (g : HP) : MM l Pi2 yX9_newBlock cX9_newBlock 3 (some (.object "Blockduty$Block")) 7 191 [vR (some b), vI s1] g (wRg (f_X9_newBlock b s1 g)) := by
  refine MM_of PO_Pi2 mf_X9_newBlock (fun a ha => wRg_mono (f_X9_newBlock_mono b s1 g) a ha) (Nat.le_of_ble_eq_true rfl) ?_
  intro Γ fin hfin hl hin C0 Z0
  subst hl
  obtain ⟨v0, hv, rfl⟩ := wRg_some hfin
  have C : CX Γ cX9_newBlock 3 "Blockduty" Pi2 ok2 7 191 := C0
  have Z : RX Γ Pi2 (some (.object "Blockduty$Block")) (some (vR v0.1), v0.2) := Z0
  refine X.conv (fun _ => hv) ?_
  unfold f_X9_newBlock
  show X Γ 0 [(0, vR (some b)), (1, vI s1)] [] g _
  refine z_new C cf1 rfl dX9_newBlock_0 kt520 kt521 kt24 def1 ?_
  refine z_dup C dX9_newBlock_3 rfl ?_
  refine z_aload_n C dX9_newBlock_4 rfl 0 rfl ?_
  refine z_gfR C cf10 4 (by decide) rfl rfl dX9_newBlock_5 kt213 (fun _ h => h) bd (fun r1 => ?_)
  refine z_rcv bd (fun b2 hbb2 htb2 => ?_)
  subst hbb2
  refine z_callV C cf0 mf_Jx4a65c_size_8abf5 kt261 kt262 kt260 (k_al_size (gL Γ) b2 (newG g 2 5 [] []) (gK Γ)) htb2 rfl ⟨Nat.le_of_ble_eq_true rfl, Nat.le_of_ble_eq_true rfl⟩ (rest := [vR (some (nx g)), vR (some (nx g))]) rfl (Nat.le_of_ble_eq_true rfl) dX9_newBlock_8 (bdI) (contI fun x3 => ?_)
  refine z_iload_n C dX9_newBlock_11 rfl 1 rfl ?_
  refine z_callI C mf_X0_init kt523 rfl kt522 (k_X0_init (gL Γ) (nx g) x3 s1 (newG g 2 5 [] []) (gK Γ)) rfl ⟨Nat.le_of_ble_eq_true rfl, Nat.le_of_ble_eq_true rfl⟩ (rest := [vR (some (nx g))]) rfl (Nat.le_of_ble_eq_true rfl) dX9_newBlock_12 (bdVg) (contVg fun g4 => ?_)
  refine z_astore_n (L' := [(2, vR (some (nx g))), (0, vR (some b)), (1, vI s1)]) C dX9_newBlock_15 rfl (by decide) rfl ?_
  refine z_aload_n C dX9_newBlock_16 rfl 1 rfl ?_
  refine z_gfR C cf10 4 (by decide) rfl rfl dX9_newBlock_17 kt213 (fun _ h => h) bd (fun r5 => ?_)
  refine z_aload_n C dX9_newBlock_20 rfl 0 rfl ?_
  refine z_rcv bd (fun b6 hbb6 htb6 => ?_)
  subst hbb6
  refine z_callV C cf0 mf_Jx4a65c_add_9ea2d kt129 kt130 kt128 (k_al_add (gL Γ) b6 (some (nx g)) g4 (gK Γ)) htb6 rfl ⟨Nat.le_of_ble_eq_true rfl, Nat.le_of_ble_eq_true rfl⟩ (rest := []) rfl (Nat.le_of_ble_eq_true rfl) dX9_newBlock_21 (bdIg) (contIg fun v7 => ?_)
  refine z_pop C dX9_newBlock_24 rfl ?_
  refine z_aload_n C dX9_newBlock_25 rfl 0 rfl ?_
  exact z_aret C Z rfl (Or.inl ⟨_, rfl⟩) dX9_newBlock_26 (fun h => by cases h; rfl)
theorem k_X9_block (l : Launch) (b : Nat) (s1 : Int32) (g : HP) : MM l Pi2 yX9_block cX9_block 2 (some .int) 8 213 [vR (some b), vI s1] g (wIg (f_X9_block b s1 g)) := by
  refine MM_of PO_Pi2 mf_X9_block (fun a ha => wIg_mono (f_X9_block_mono b s1 g) a ha) (Nat.le_of_ble_eq_true rfl) ?_
  intro Γ fin hfin hl hin C0 Z0
  subst hl
  obtain ⟨v0, hv, rfl⟩ := wIg_some hfin
  have C : CX Γ cX9_block 2 "Blockduty" Pi2 ok2 8 213 := C0
  have Z : RX Γ Pi2 (some .int) (some (vI v0.1), v0.2) := Z0
  refine X.conv (fun _ => hv) ?_
  unfold f_X9_block
  show X Γ 0 [(0, vR (some b)), (1, vI s1)] [] g _
  refine z_iload_n C dX9_block_0 rfl 1 rfl ?_
  refine z_bipush C dX9_block_1 (v := 50) (by decide) ?_
  refine z_sipush C dX9_block_3 (v := 999) (by decide) ?_
  refine z_callS C rfl mf_X9_isOutside kt347 kt346 (k_X9_isOutside (gL Γ) s1 50 999 g (gK Γ)) rfl ⟨Nat.le_of_ble_eq_true rfl, Nat.le_of_ble_eq_true rfl⟩ (rest := []) rfl (Nat.le_of_ble_eq_true rfl) dX9_block_6 (bdI) (contI fun x1 => ?_)
  refine z_if_eq C dX9_block_9 (tgt := 22) rfl it jf ?_ ?_
  · refine z_aload_n C dX9_block_22 rfl 0 rfl ?_
    refine z_gfR C cf10 4 (by decide) rfl rfl dX9_block_23 kt213 (fun _ h => h) bd (fun r2 => ?_)
    refine z_rcv bd (fun b3 hbb3 htb3 => ?_)
    subst hbb3
    refine z_callV C cf0 mf_Jx4a65c_size_8abf5 kt261 kt262 kt260 (k_al_size (gL Γ) b3 g (gK Γ)) htb3 rfl ⟨Nat.le_of_ble_eq_true rfl, Nat.le_of_ble_eq_true rfl⟩ (rest := []) rfl (Nat.le_of_ble_eq_true rfl) dX9_block_26 (bdI) (contI fun x4 => ?_)
    refine z_bipush C dX9_block_29 (v := 8) (by decide) ?_
    refine z_icmp_lt C dX9_block_31 (tgt := 44) rfl it jf ?_ ?_
    · refine z_aload_n C dX9_block_44 rfl 0 rfl ?_
      refine z_iload_n C dX9_block_45 rfl 1 rfl ?_
      refine z_rcv bd (fun b5 hbb5 htb5 => ?_)
      have heb5 := Option.some.inj hbb5
      subst heb5
      refine z_callV C cf10 mf_X9_newBlock kt518 (gtbl_priv (j := 8) rfl rfl) kt516 (k_X9_newBlock (gL Γ) b s1 g (gK Γ)) htb5 rfl ⟨Nat.le_of_ble_eq_true rfl, Nat.le_of_ble_eq_true rfl⟩ (rest := []) rfl (Nat.le_of_ble_eq_true rfl) dX9_block_46 (bdRg) (contRg fun v6 => ?_)
      refine z_gfI C cf1 0 (by decide) rfl rfl dX9_block_49 kt532 (fun _ h => h) bd (fun x7 => ?_)
      exact z_iret C Z rfl dX9_block_52 (fun h => by cases h; rfl)
    · exact X.no no0
  · exact X.no no0
theorem k_X9_tripNumbered (l : Launch) (b : Nat) (s1 : Int32) (g : HP) : MM l Pi2 yX9_tripNumbered cX9_tripNumbered 2 (some (.object "Blockduty$Trip")) 3 64 [vR (some b), vI s1] g (wR g (f_X9_tripNumbered b s1 g)) := by
  refine MM_of PO_Pi2 mf_X9_tripNumbered (fun a ha => wR_same a ha) (Nat.le_of_ble_eq_true rfl) ?_
  intro Γ fin hfin hl hin C0 Z0
  subst hl
  obtain ⟨v0, hv, rfl⟩ := wR_some hfin
  have C : CX Γ cX9_tripNumbered 2 "Blockduty" Pi2 ok2 3 64 := C0
  have Z : RX Γ Pi2 (some (.object "Blockduty$Trip")) (some (vR v0), g) := Z0
  refine X.conv (fun _ => hv) ?_
  unfold f_X9_tripNumbered
  show X Γ 0 [(0, vR (some b)), (1, vI s1)] [] g _
  refine z_iload_n C dX9_tripNumbered_0 rfl 1 rfl ?_
  refine z_if_lt C dX9_tripNumbered_1 (tgt := 29) rfl it jf ?_ ?_
  · refine z_null C dX9_tripNumbered_29 ?_
    exact z_aret C Z rfl (Or.inl ⟨_, rfl⟩) dX9_tripNumbered_30 (fun h => by cases h; rfl)
  · refine z_iload_n C dX9_tripNumbered_4 rfl 1 rfl ?_
    refine z_aload_n C dX9_tripNumbered_5 rfl 0 rfl ?_
    refine z_gfR C cf10 2 (by decide) rfl rfl dX9_tripNumbered_6 kt211 (fun _ h => h) bd (fun r1 => ?_)
    refine z_rcv bd (fun b2 hbb2 htb2 => ?_)
    subst hbb2
    refine z_callV C cf0 mf_Jx4a65c_size_8abf5 kt261 kt262 kt260 (k_al_size (gL Γ) b2 g (gK Γ)) htb2 rfl ⟨Nat.le_of_ble_eq_true rfl, Nat.le_of_ble_eq_true rfl⟩ (rest := [vI s1]) rfl (Nat.le_of_ble_eq_true rfl) dX9_tripNumbered_9 (bdI) (contI fun x3 => ?_)
    refine z_icmp_ge C dX9_tripNumbered_12 (tgt := 29) rfl it jf ?_ ?_
    · refine z_null C dX9_tripNumbered_29 ?_
      exact z_aret C Z rfl (Or.inl ⟨_, rfl⟩) dX9_tripNumbered_30 (fun h => by cases h; rfl)
    · refine z_aload_n C dX9_tripNumbered_15 rfl 0 rfl ?_
      refine z_gfR C cf10 2 (by decide) rfl rfl dX9_tripNumbered_16 kt211 (fun _ h => h) bd (fun r4 => ?_)
      refine z_iload_n C dX9_tripNumbered_19 rfl 1 rfl ?_
      refine z_rcv bd (fun b5 hbb5 htb5 => ?_)
      subst hbb5
      refine z_callV C cf0 mf_Jx4a65c_get_915e3 kt265 kt266 kt264 (k_al_get (gL Γ) b5 s1 g (gK Γ)) htb5 rfl ⟨Nat.le_of_ble_eq_true rfl, Nat.le_of_ble_eq_true rfl⟩ (rest := []) rfl (Nat.le_of_ble_eq_true rfl) dX9_tripNumbered_20 (bdR) (contR fun r6 => ?_)
      refine z_cst C cf8 dX9_tripNumbered_23 kt402 bd (fun r7 => ?_)
      refine z_goto C dX9_tripNumbered_26 (tgt := 30) rfl ?_
      exact z_aret C Z rfl (Or.inl ⟨_, rfl⟩) dX9_tripNumbered_30 (fun h => by cases h; rfl)
theorem k_X9_blockNumbered (l : Launch) (b : Nat) (s1 : Int32) (g : HP) : MM l Pi2 yX9_blockNumbered cX9_blockNumbered 2 (some (.object "Blockduty$Block")) 3 64 [vR (some b), vI s1] g (wR g (f_X9_blockNumbered b s1 g)) := by
  refine MM_of PO_Pi2 mf_X9_blockNumbered (fun a ha => wR_same a ha) (Nat.le_of_ble_eq_true rfl) ?_
  intro Γ fin hfin hl hin C0 Z0
  subst hl
  obtain ⟨v0, hv, rfl⟩ := wR_some hfin
  have C : CX Γ cX9_blockNumbered 2 "Blockduty" Pi2 ok2 3 64 := C0
  have Z : RX Γ Pi2 (some (.object "Blockduty$Block")) (some (vR v0), g) := Z0
  refine X.conv (fun _ => hv) ?_
  unfold f_X9_blockNumbered
  show X Γ 0 [(0, vR (some b)), (1, vI s1)] [] g _
  refine z_iload_n C dX9_blockNumbered_0 rfl 1 rfl ?_
  refine z_if_lt C dX9_blockNumbered_1 (tgt := 29) rfl it jf ?_ ?_
  · refine z_null C dX9_blockNumbered_29 ?_
    exact z_aret C Z rfl (Or.inl ⟨_, rfl⟩) dX9_blockNumbered_30 (fun h => by cases h; rfl)
  · refine z_iload_n C dX9_blockNumbered_4 rfl 1 rfl ?_
    refine z_aload_n C dX9_blockNumbered_5 rfl 0 rfl ?_
    refine z_gfR C cf10 4 (by decide) rfl rfl dX9_blockNumbered_6 kt213 (fun _ h => h) bd (fun r1 => ?_)
    refine z_rcv bd (fun b2 hbb2 htb2 => ?_)
    subst hbb2
    refine z_callV C cf0 mf_Jx4a65c_size_8abf5 kt261 kt262 kt260 (k_al_size (gL Γ) b2 g (gK Γ)) htb2 rfl ⟨Nat.le_of_ble_eq_true rfl, Nat.le_of_ble_eq_true rfl⟩ (rest := [vI s1]) rfl (Nat.le_of_ble_eq_true rfl) dX9_blockNumbered_9 (bdI) (contI fun x3 => ?_)
    refine z_icmp_ge C dX9_blockNumbered_12 (tgt := 29) rfl it jf ?_ ?_
    · refine z_null C dX9_blockNumbered_29 ?_
      exact z_aret C Z rfl (Or.inl ⟨_, rfl⟩) dX9_blockNumbered_30 (fun h => by cases h; rfl)
    · refine z_aload_n C dX9_blockNumbered_15 rfl 0 rfl ?_
      refine z_gfR C cf10 4 (by decide) rfl rfl dX9_blockNumbered_16 kt213 (fun _ h => h) bd (fun r4 => ?_)
      refine z_iload_n C dX9_blockNumbered_19 rfl 1 rfl ?_
      refine z_rcv bd (fun b5 hbb5 htb5 => ?_)
      subst hbb5
      refine z_callV C cf0 mf_Jx4a65c_get_915e3 kt265 kt266 kt264 (k_al_get (gL Γ) b5 s1 g (gK Γ)) htb5 rfl ⟨Nat.le_of_ble_eq_true rfl, Nat.le_of_ble_eq_true rfl⟩ (rest := []) rfl (Nat.le_of_ble_eq_true rfl) dX9_blockNumbered_20 (bdR) (contR fun r6 => ?_)
      refine z_cst C cf1 dX9_blockNumbered_23 kt520 bd (fun r7 => ?_)
      refine z_goto C dX9_blockNumbered_26 (tgt := 30) rfl ?_
      exact z_aret C Z rfl (Or.inl ⟨_, rfl⟩) dX9_blockNumbered_30 (fun h => by cases h; rfl)
theorem k_X9_append (l : Launch) (b : Nat) (s1 : Int32) (s2 : Int32) (g : HP) : MM l Pi2 yX9_append cX9_append 6 (some .int) 8 212 [vR (some b), vI s1, vI s2] g (wIg (f_X9_append b s1 s2 g)) := by
  refine MM_of PO_Pi2 mf_X9_append (fun a ha => wIg_mono (f_X9_append_mono b s1 s2 g) a ha) (Nat.le_of_ble_eq_true rfl) ?_
  intro Γ fin hfin hl hin C0 Z0
  subst hl
  obtain ⟨v0, hv, rfl⟩ := wIg_some hfin
  have C : CX Γ cX9_append 6 "Blockduty" Pi2 ok2 8 212 := C0
  have Z : RX Γ Pi2 (some .int) (some (vI v0.1), v0.2) := Z0
  refine X.conv (fun _ => hv) ?_
  unfold f_X9_append
  show X Γ 0 [(0, vR (some b)), (1, vI s1), (2, vI s2)] [] g _
  refine z_aload_n C dX9_append_0 rfl 0 rfl ?_
  refine z_iload_n C dX9_append_1 rfl 1 rfl ?_
  refine z_rcv bd (fun b1 hbb1 htb1 => ?_)
  have heb1 := Option.some.inj hbb1
  subst heb1
  refine z_callV C cf10 mf_X9_blockNumbered kt558 (gtbl_priv (j := 9) rfl rfl) kt556 (k_X9_blockNumbered (gL Γ) b s1 g (gK Γ)) htb1 rfl ⟨Nat.le_of_ble_eq_true rfl, Nat.le_of_ble_eq_true rfl⟩ (rest := []) rfl (Nat.le_of_ble_eq_true rfl) dX9_append_2 (bdR) (contR fun r2 => ?_)
  refine z_astore_n (L' := [(3, vR r2), (0, vR (some b)), (1, vI s1), (2, vI s2)]) C dX9_append_5 rfl (by decide) rfl ?_
  refine z_aload_n C dX9_append_6 rfl 1 rfl ?_
  refine z_iload_n C dX9_append_7 rfl 3 rfl ?_
  refine z_rcv bd (fun b3 hbb3 htb3 => ?_)
  have heb3 := Option.some.inj hbb3
  subst heb3
  refine z_callV C cf10 mf_X9_tripNumbered kt618 (gtbl_priv (j := 12) rfl rfl) kt616 (k_X9_tripNumbered (gL Γ) b s2 g (gK Γ)) htb3 rfl ⟨Nat.le_of_ble_eq_true rfl, Nat.le_of_ble_eq_true rfl⟩ (rest := []) rfl (Nat.le_of_ble_eq_true rfl) dX9_append_8 (bdR) (contR fun r4 => ?_)
  refine z_astore (L' := [(4, vR r4), (3, vR r2), (0, vR (some b)), (1, vI s1), (2, vI s2)]) C dX9_append_11 (by decide) rfl ?_
  refine z_aload_n C dX9_append_13 rfl 1 rfl ?_
  refine z_ifnull C dX9_append_14 (tgt := 22) rfl it jf ?_ ?_
  · exact X.no no0
  · refine z_aload C dX9_append_17 0 rfl ?_
    refine z_ifnonnull C dX9_append_19 (tgt := 32) rfl it jf ?_ ?_
    · exact X.no no0
    · refine z_aload_n C dX9_append_32 rfl 1 rfl ?_
      refine z_gfR C cf1 3 (by decide) rfl rfl dX9_append_33 kt538 (fun _ h => h) bd (fun r5 => ?_)
      refine z_rcv bd (fun b6 hbb6 htb6 => ?_)
      subst hbb6
      refine z_callV C cf7 mf_X6_last kt566 kt567 kt906 (k_X6_last (gL Γ) b6 g (gK Γ)) htb6 rfl ⟨Nat.le_of_ble_eq_true rfl, Nat.le_of_ble_eq_true rfl⟩ (rest := []) rfl (Nat.le_of_ble_eq_true rfl) dX9_append_36 (bdR) (contR fun r7 => ?_)
      refine z_astore (L' := [(5, vR r7), (4, vR r4), (3, vR r2), (0, vR (some b)), (1, vI s1), (2, vI s2)]) C dX9_append_39 (by decide) rfl ?_
      refine z_aload C dX9_append_41 1 rfl ?_
      refine z_gfR C cf8 7 (by decide) rfl rfl dX9_append_43 kt433 (fun _ h => h) bd (fun r8 => ?_)
      refine z_ifnonnull C dX9_append_46 (tgt := 64) rfl it jf ?_ ?_
      · refine z_aload C dX9_append_49 0 rfl ?_
        refine X.join (τ := (Option Nat)) 74 (fun q11 => [(3, vR r2), (4, vR q11)]) (fun q11 => []) (fun q11 => g) (fun q11 => ?_) (fun hj74 => ?_)
        · refine z_aload_n C dX9_append_74 rfl 0 rfl ?_
          refine z_aload C dX9_append_75 1 rfl ?_
          refine z_rcv bd (fun b12 hbb12 htb12 => ?_)
          subst hbb12
          refine z_callV C cf1 mf_X0_addTrip kt917 kt918 kt916 (k_X0_addTrip (gL Γ) b12 q11 g (gK Γ)) htb12 rfl ⟨Nat.le_of_ble_eq_true rfl, Nat.le_of_ble_eq_true rfl⟩ (rest := []) rfl (Nat.le_of_ble_eq_true rfl) dX9_append_77 (bdVg) (contVg fun g13 => ?_)
          refine z_aload_n C dX9_append_80 rfl 0 rfl ?_
          refine z_gfR C cf1 3 (by decide) rfl rfl dX9_append_81 kt538 (fun _ h => h) bd (fun r14 => ?_)
          refine z_rcv bd (fun b15 hbb15 htb15 => ?_)
          subst hbb15
          refine z_callV C cf7 mf_X6_count kt606 kt607 kt683 (k_X6_count (gL Γ) b15 g13 (gK Γ)) htb15 rfl ⟨Nat.le_of_ble_eq_true rfl, Nat.le_of_ble_eq_true rfl⟩ (rest := []) rfl (Nat.le_of_ble_eq_true rfl) dX9_append_84 (bdI) (contI fun x16 => ?_)
          exact z_iret C Z rfl dX9_append_87 (fun h => by cases h; rfl)
        · refine X.conv bi ?_
          refine z_ifnull C dX9_append_51 (tgt := 74) rfl it jf ?_ ?_
          · refine z_lsub [2, 1] rfl ?_
            exact hj74 r4
          · refine z_aload C dX9_append_54 1 rfl ?_
            refine z_aload C dX9_append_56 0 rfl ?_
            refine X.conv bb ?_
            refine z_rcv bd (fun b9 hbb9 htb9 => ?_)
            subst hbb9
            refine X.conv bb ?_
            refine z_callV C cf8 mf_X7_canFollow kt786 kt787 kt866 (k_X7_canFollow (gL Γ) b9 r7 g (gK Γ)) htb9 rfl ⟨Nat.le_of_ble_eq_true rfl, Nat.le_of_ble_eq_true rfl⟩ (rest := []) rfl (Nat.le_of_ble_eq_true rfl) dX9_append_58 (bdI) (contI fun x10 => ?_)
            refine X.conv bi ?_
            refine z_if_ne C dX9_append_61 (tgt := 74) rfl it jf ?_ ?_
            · exact X.no no1
            · refine z_lsub [2, 1] rfl ?_
              exact hj74 (some b9)
      · exact X.no no0
theorem k_X9_takeOff (l : Launch) (b : Nat) (s1 : Int32) (g : HP) : MM l Pi2 yX9_takeOff cX9_takeOff 4 (some .int) 7 190 [vR (some b), vI s1] g (wIg (f_X9_takeOff b s1 g)) := by
  refine MM_of PO_Pi2 mf_X9_takeOff (fun a ha => wIg_mono (f_X9_takeOff_mono b s1 g) a ha) (Nat.le_of_ble_eq_true rfl) ?_
  intro Γ fin hfin hl hin C0 Z0
  subst hl
  obtain ⟨v0, hv, rfl⟩ := wIg_some hfin
  have C : CX Γ cX9_takeOff 4 "Blockduty" Pi2 ok2 7 190 := C0
  have Z : RX Γ Pi2 (some .int) (some (vI v0.1), v0.2) := Z0
  refine X.conv (fun _ => hv) ?_
  unfold f_X9_takeOff
  show X Γ 0 [(0, vR (some b)), (1, vI s1)] [] g _
  refine z_aload_n C dX9_takeOff_0 rfl 0 rfl ?_
  refine z_iload_n C dX9_takeOff_1 rfl 1 rfl ?_
  refine z_rcv bd (fun b1 hbb1 htb1 => ?_)
  have heb1 := Option.some.inj hbb1
  subst heb1
  refine z_callV C cf10 mf_X9_blockNumbered kt558 (gtbl_priv (j := 9) rfl rfl) kt556 (k_X9_blockNumbered (gL Γ) b s1 g (gK Γ)) htb1 rfl ⟨Nat.le_of_ble_eq_true rfl, Nat.le_of_ble_eq_true rfl⟩ (rest := []) rfl (Nat.le_of_ble_eq_true rfl) dX9_takeOff_2 (bdR) (contR fun r2 => ?_)
  refine z_astore_n (L' := [(2, vR r2), (0, vR (some b)), (1, vI s1)]) C dX9_takeOff_5 rfl (by decide) rfl ?_
  refine z_aload_n C dX9_takeOff_6 rfl 0 rfl ?_
  refine z_ifnonnull C dX9_takeOff_7 (tgt := 20) rfl it jf ?_ ?_
  · exact X.no no0
  · refine z_aload_n C dX9_takeOff_20 rfl 0 rfl ?_
    refine z_rcv bd (fun b3 hbb3 htb3 => ?_)
    subst hbb3
    refine z_callV C cf1 mf_X0_removeLastTrip kt562 kt563 kt561 (k_X0_removeLastTrip (gL Γ) b3 g (gK Γ)) htb3 rfl ⟨Nat.le_of_ble_eq_true rfl, Nat.le_of_ble_eq_true rfl⟩ (rest := []) rfl (Nat.le_of_ble_eq_true rfl) dX9_takeOff_21 (bdRg) (contRg fun v4 => ?_)
    refine z_astore_n (L' := [(3, vR v4.1), (2, vR (some b3)), (0, vR (some b)), (1, vI s1)]) C dX9_takeOff_24 rfl (by decide) rfl ?_
    refine z_aload_n C dX9_takeOff_25 rfl 0 rfl ?_
    refine z_ifnonnull C dX9_takeOff_26 (tgt := 39) rfl it jf ?_ ?_
    · exact X.no no0
    · refine z_aload_n C dX9_takeOff_39 rfl 0 rfl ?_
      refine z_gfI C cf8 0 (by decide) rfl rfl dX9_takeOff_40 kt409 (fun _ h => h) bd (fun x5 => ?_)
      exact z_iret C Z rfl dX9_takeOff_43 (fun h => by cases h; rfl)
theorem k_X9_isFlat (l : Launch) (b : Nat) (s1 : Option Nat) (s2 : Int32) (g : HP) : MM l Pi2 yX9_isFlat cX9_isFlat 3 (some .boolean) 4 95 [vR (some b), vR s1, vI s2] g (wI g (f_X9_isFlat b s1 s2 g)) := by
  refine MM_of PO_Pi2 mf_X9_isFlat (fun a ha => wI_same a ha) (Nat.le_of_ble_eq_true rfl) ?_
  intro Γ fin hfin hl hin C0 Z0
  subst hl
  obtain ⟨v0, hv, rfl⟩ := wI_some hfin
  have C : CX Γ cX9_isFlat 3 "Blockduty" Pi2 ok2 4 95 := C0
  have Z : RX Γ Pi2 (some .boolean) (some (vI v0), g) := Z0
  refine X.conv (fun _ => hv) ?_
  unfold f_X9_isFlat
  show X Γ 0 [(0, vR (some b)), (1, vR s1), (2, vI s2)] [] g _
  refine z_aload_n C dX9_isFlat_0 rfl 1 rfl ?_
  refine z_aload_n C dX9_isFlat_1 rfl 0 rfl ?_
  refine z_gfR C cf10 6 (by decide) rfl rfl dX9_isFlat_2 kt215 (fun _ h => h) bd (fun r1 => ?_)
  refine z_iload_n C dX9_isFlat_5 rfl 2 rfl ?_
  refine z_aload_n C dX9_isFlat_6 rfl 0 rfl ?_
  refine z_gfI C cf10 8 (by decide) rfl rfl dX9_isFlat_7 kt217 (fun _ h => h) bd (fun x2 => ?_)
  refine z_rcv bd (fun b3 hbb3 htb3 => ?_)
  subst hbb3
  refine z_callV C cf7 mf_X6_leastCharge kt689 kt690 kt688 (k_X6_leastCharge (gL Γ) b3 r1 s2 x2 g (gK Γ)) htb3 rfl ⟨Nat.le_of_ble_eq_true rfl, Nat.le_of_ble_eq_true rfl⟩ (rest := []) rfl (Nat.le_of_ble_eq_true rfl) dX9_isFlat_10 (bdI) (contI fun x4 => ?_)
  refine z_if_ge C dX9_isFlat_13 (tgt := 20) rfl it jf ?_ ?_
  · refine z_iconst C dX9_isFlat_20 (v := 0) (by decide) ?_
    exact z_zret C Z rfl dX9_isFlat_21 (fun _ => Or.inl rfl) (fun h => by cases h; rfl)
  · refine z_iconst C dX9_isFlat_16 (v := 1) (by decide) ?_
    refine z_goto C dX9_isFlat_17 (tgt := 21) rfl ?_
    exact z_zret C Z rfl dX9_isFlat_21 (fun _ => Or.inr rfl) (fun h => by cases h; rfl)
theorem k_X9_wouldBeFlat (l : Launch) (b : Nat) (s1 : Option Nat) (s2 : Option Nat) (s3 : Int32) (g : HP) : MM l Pi2 yX9_wouldBeFlat cX9_wouldBeFlat 4 (some .boolean) 9 236 [vR (some b), vR s1, vR s2, vI s3] g (wIg (f_X9_wouldBeFlat b s1 s2 s3 g)) := by
  refine MM_of PO_Pi2 mf_X9_wouldBeFlat (fun a ha => wIg_mono (f_X9_wouldBeFlat_mono b s1 s2 s3 g) a ha) (Nat.le_of_ble_eq_true rfl) ?_
  intro Γ fin hfin hl hin C0 Z0
  subst hl
  obtain ⟨v0, hv, rfl⟩ := wIg_some hfin
  have C : CX Γ cX9_wouldBeFlat 4 "Blockduty" Pi2 ok2 9 236 := C0
  have Z : RX Γ Pi2 (some .boolean) (some (vI v0.1), v0.2) := Z0
  refine X.conv (fun _ => hv) ?_
  unfold f_X9_wouldBeFlat
  show X Γ 0 [(0, vR (some b)), (1, vR s1), (2, vR s2), (3, vI s3)] [] g _
  refine z_aload_n C dX9_wouldBeFlat_0 rfl 0 rfl ?_
  refine z_gfR C cf10 10 (by decide) rfl rfl dX9_wouldBeFlat_1 kt219 (fun _ h => h) bd (fun r1 => ?_)
  refine z_aload_n C dX9_wouldBeFlat_4 rfl 1 rfl ?_
  refine z_rcv bd (fun b2 hbb2 htb2 => ?_)
  subst hbb2
  refine z_callV C cf7 mf_X6_copy kt913 kt914 kt912 (k_X6_copy (gL Γ) b2 s1 g (gK Γ)) htb2 rfl ⟨Nat.le_of_ble_eq_true rfl, Nat.le_of_ble_eq_true rfl⟩ (rest := []) rfl (Nat.le_of_ble_eq_true rfl) dX9_wouldBeFlat_5 (bdVg) (contVg fun g3 => ?_)
  refine z_aload_n C dX9_wouldBeFlat_8 rfl 0 rfl ?_
  refine z_gfR C cf10 10 (by decide) rfl rfl dX9_wouldBeFlat_9 kt219 (fun _ h => h) bd (fun r4 => ?_)
  refine z_gfR C cf7 0 (by decide) rfl rfl dX9_wouldBeFlat_12 kt85 (fun _ h => h) bd (fun r5 => ?_)
  refine z_aload_n C dX9_wouldBeFlat_15 rfl 2 rfl ?_
  refine z_rcv bd (fun b6 hbb6 htb6 => ?_)
  subst hbb6
  refine z_callV C cf0 mf_Jx4a65c_add_9ea2d kt129 kt130 kt128 (k_al_add (gL Γ) b6 s2 g3 (gK Γ)) htb6 rfl ⟨Nat.le_of_ble_eq_true rfl, Nat.le_of_ble_eq_true rfl⟩ (rest := []) rfl (Nat.le_of_ble_eq_true rfl) dX9_wouldBeFlat_16 (bdIg) (contIg fun v7 => ?_)
  refine z_pop C dX9_wouldBeFlat_19 rfl ?_
  refine z_aload_n C dX9_wouldBeFlat_20 rfl 0 rfl ?_
  refine z_aload_n C dX9_wouldBeFlat_21 rfl 0 rfl ?_
  refine z_gfR C cf10 10 (by decide) rfl rfl dX9_wouldBeFlat_22 kt219 (fun _ h => h) bd (fun r8 => ?_)
  refine z_iload_n C dX9_wouldBeFlat_25 rfl 3 rfl ?_
  refine z_rcv bd (fun b9 hbb9 htb9 => ?_)
  have heb9 := Option.some.inj hbb9
  subst heb9
  refine z_callV C cf10 mf_X9_isFlat kt686 (gtbl_priv (j := 15) rfl rfl) kt684 (k_X9_isFlat (gL Γ) b r8 s3 v7.2 (gK Γ)) htb9 rfl ⟨Nat.le_of_ble_eq_true rfl, Nat.le_of_ble_eq_true rfl⟩ (rest := []) rfl (Nat.le_of_ble_eq_true rfl) dX9_wouldBeFlat_26 (bdI) (contI fun x10 => ?_)
  exact z_zret C Z rfl dX9_wouldBeFlat_29 (fun h => (retZ_bd h).1) (fun h => (retZ_bd h).2)
theorem k_X9_nearestBlock_L7 {Γ : GG} {β : Type} {fin0 : β} {F0 : ((Option Nat) × HP) → Option β} (C : CX Γ cX9_nearestBlock 7 "Blockduty" Pi2 ok2 10 259) (p7_0 : Nat) (p7_1 : Option Nat) (hexit : ∀ q7 : ((Option Nat) × HP), X Γ 105 [(2, vR q7.1)] [] q7.2 (F0 q7 = some fin0)) : ∀ (m7 : Nat) (u7_2 : Option Nat) (u7_3 : Int32) (u7_4 : Int32) (w7 : HP), X Γ 7 [(0, vR (some p7_0)), (1, vR p7_1), (2, vR u7_2), (3, vI u7_3), (4, vI u7_4)] [] w7 ((f_X9_nearestBlock_L7 p7_0 p7_1 m7 u7_2 u7_3 u7_4 w7).bind F0 = some fin0) := by
  intro m7
  induction m7 with
  | zero =>
    intro u7_2 u7_3 u7_4 w7
    exact X.no no1
  | succ m7 ih =>
    intro u7_2 u7_3 u7_4 w7
    unfold f_X9_nearestBlock_L7
    refine z_iload C dX9_nearestBlock_7 4 rfl ?_
    refine z_aload_n C dX9_nearestBlock_9 rfl 0 rfl ?_
    refine X.conv bb ?_
    refine z_gfR C cf10 4 (by decide) rfl rfl dX9_nearestBlock_10 kt213 (fun _ h => h) bd (fun r1 => ?_)
    refine X.conv bb ?_
    refine z_rcv bd (fun b2 hbb2 htb2 => ?_)
    subst hbb2
    refine X.conv bb ?_
    refine z_callV C cf0 mf_Jx4a65c_size_8abf5 kt261 kt262 kt260 (k_al_size (gL Γ) b2 w7 (gK Γ)) htb2 rfl ⟨Nat.le_of_ble_eq_true rfl, Nat.le_of_ble_eq_true rfl⟩ (rest := [vI u7_4]) rfl (Nat.le_of_ble_eq_true rfl) dX9_nearestBlock_13 (bdI) (contI fun x3 => ?_)
    refine X.conv bi ?_
    refine z_icmp_ge C dX9_nearestBlock_16 (tgt := 105) rfl it jf ?_ ?_
    · refine z_lsub [2] rfl ?_
      exact hexit (u7_2, w7)
    · refine z_aload_n C dX9_nearestBlock_19 rfl 0 rfl ?_
      refine X.conv bb ?_
      refine z_gfR C cf10 4 (by decide) rfl rfl dX9_nearestBlock_20 kt213 (fun _ h => h) bd (fun r4 => ?_)
      refine z_iload C dX9_nearestBlock_23 4 rfl ?_
      refine X.conv bb ?_
      refine z_rcv bd (fun b5 hbb5 htb5 => ?_)
      subst hbb5
      refine X.conv bb ?_
      refine z_callV C cf0 mf_Jx4a65c_get_915e3 kt265 kt266 kt264 (k_al_get (gL Γ) b5 u7_4 w7 (gK Γ)) htb5 rfl ⟨Nat.le_of_ble_eq_true rfl, Nat.le_of_ble_eq_true rfl⟩ (rest := []) rfl (Nat.le_of_ble_eq_true rfl) dX9_nearestBlock_25 (bdR) (contR fun r6 => ?_)
      refine X.conv bb ?_
      refine z_cst C cf1 dX9_nearestBlock_28 kt520 bd (fun r7 => ?_)
      refine z_astore (L' := [(5, vR r7), (0, vR (some p7_0)), (1, vR p7_1), (2, vR u7_2), (3, vI u7_3), (4, vI u7_4)]) C dX9_nearestBlock_31 (by decide) rfl ?_
      refine z_aload C dX9_nearestBlock_33 0 rfl ?_
      refine X.conv bb ?_
      refine z_gfR C cf1 3 (by decide) rfl rfl dX9_nearestBlock_35 kt538 (fun _ h => h) bd (fun r8 => ?_)
      refine X.conv bb ?_
      refine z_rcv bd (fun b9 hbb9 htb9 => ?_)
      subst hbb9
      refine X.conv bb ?_
      refine z_callV C cf7 mf_X6_last kt566 kt567 kt906 (k_X6_last (gL Γ) b9 w7 (gK Γ)) htb9 rfl ⟨Nat.le_of_ble_eq_true rfl, Nat.le_of_ble_eq_true rfl⟩ (rest := []) rfl (Nat.le_of_ble_eq_true rfl) dX9_nearestBlock_38 (bdR) (contR fun r10 => ?_)
      refine z_astore (L' := [(6, vR r10), (5, vR r7), (0, vR (some p7_0)), (1, vR p7_1), (2, vR u7_2), (3, vI u7_3), (4, vI u7_4)]) C dX9_nearestBlock_41 (by decide) rfl ?_
      refine z_aload C dX9_nearestBlock_43 0 rfl ?_
      refine X.conv bi ?_
      refine z_ifnull C dX9_nearestBlock_45 (tgt := 99) rfl it jf ?_ ?_
      · refine z_iinc (L' := [(4, vI (u7_4 + 1)), (6, vR r10), (5, vR r7), (0, vR (some p7_0)), (1, vR p7_1), (2, vR u7_2), (3, vI u7_3)]) C dX9_nearestBlock_99 6 rfl (v := u7_4 + 1) rfl (by decide) rfl ?_
        refine z_goto C dX9_nearestBlock_102 (tgt := 7) rfl ?_
        refine z_lsub [3, 4, 5, 6, 0] rfl ?_
        exact ih u7_2 u7_3 (u7_4 + 1) w7
      · refine z_aload_n C dX9_nearestBlock_48 rfl 3 rfl ?_
        refine z_aload C dX9_nearestBlock_49 0 rfl ?_
        refine X.conv bb ?_
        refine z_rcv bd (fun b11 hbb11 htb11 => ?_)
        subst hbb11
        refine X.conv bb ?_
        refine z_callV C cf8 mf_X7_canFollow kt786 kt787 kt866 (k_X7_canFollow (gL Γ) b11 r10 w7 (gK Γ)) htb11 rfl ⟨Nat.le_of_ble_eq_true rfl, Nat.le_of_ble_eq_true rfl⟩ (rest := []) rfl (Nat.le_of_ble_eq_true rfl) dX9_nearestBlock_51 (bdI) (contI fun x12 => ?_)
        refine X.conv bi ?_
        refine z_if_eq C dX9_nearestBlock_54 (tgt := 99) rfl it jf ?_ ?_
        · refine z_iinc (L' := [(4, vI (u7_4 + 1)), (6, vR r10), (5, vR r7), (0, vR (some p7_0)), (1, vR (some b11)), (2, vR u7_2), (3, vI u7_3)]) C dX9_nearestBlock_99 6 rfl (v := u7_4 + 1) rfl (by decide) rfl ?_
          refine z_goto C dX9_nearestBlock_102 (tgt := 7) rfl ?_
          refine z_lsub [3, 4, 5, 6, 0] rfl ?_
          exact ih u7_2 u7_3 (u7_4 + 1) w7
        · refine z_aload_n C dX9_nearestBlock_57 rfl 4 rfl ?_
          refine X.conv bi ?_
          refine z_ifnull C dX9_nearestBlock_58 (tgt := 71) rfl it jf ?_ ?_
          · refine z_aload_n C dX9_nearestBlock_71 rfl 2 rfl ?_
            refine z_aload C dX9_nearestBlock_72 1 rfl ?_
            refine X.conv bb ?_
            refine z_gfR C cf1 3 (by decide) rfl rfl dX9_nearestBlock_74 kt538 (fun _ h => h) bd (fun r13 => ?_)
            refine z_aload_n C dX9_nearestBlock_77 rfl 3 rfl ?_
            refine z_aload C dX9_nearestBlock_78 1 rfl ?_
            refine X.conv bb ?_
            refine z_gfI C cf1 1 (by decide) rfl rfl dX9_nearestBlock_80 kt534 (fun _ h => h) bd (fun x14 => ?_)
            refine X.conv bb ?_
            refine z_rcv bd (fun b15 hbb15 htb15 => ?_)
            have heb15 := Option.some.inj hbb15
            subst heb15
            refine X.conv bb ?_
            refine z_callV C cf10 mf_X9_wouldBeFlat kt910 (gtbl_priv (j := 30) rfl rfl) kt908 (k_X9_wouldBeFlat (gL Γ) p7_0 r13 (some b11) x14 w7 (gK Γ)) htb15 rfl ⟨Nat.le_of_ble_eq_true rfl, Nat.le_of_ble_eq_true rfl⟩ (rest := []) rfl (Nat.le_of_ble_eq_true rfl) dX9_nearestBlock_83 (bdIg) (contIg fun v16 => ?_)
            refine X.conv bi ?_
            refine z_if_ne C dX9_nearestBlock_86 (tgt := 99) rfl it jf ?_ ?_
            · refine z_aload C dX9_nearestBlock_89 1 rfl ?_
              refine z_astore_n (L' := [(2, vR r7), (6, vR r10), (5, vR r7), (0, vR (some p7_0)), (1, vR (some b11)), (3, vI u7_3), (4, vI u7_4)]) C dX9_nearestBlock_91 rfl (by decide) rfl ?_
              refine z_aload C dX9_nearestBlock_92 1 rfl ?_
              refine z_aload_n C dX9_nearestBlock_94 rfl 4 rfl ?_
              refine X.conv bb ?_
              refine z_rcv bd (fun b17 hbb17 htb17 => ?_)
              subst hbb17
              refine X.conv bb ?_
              refine z_callV C cf8 mf_X7_emptyTo kt645 kt646 kt907 (k_X7_emptyTo (gL Γ) b17 (some b11) v16.2 (gK Γ)) htb17 rfl ⟨Nat.le_of_ble_eq_true rfl, Nat.le_of_ble_eq_true rfl⟩ (rest := []) rfl (Nat.le_of_ble_eq_true rfl) dX9_nearestBlock_95 (bdI) (contI fun x18 => ?_)
              refine z_istore_n (L' := [(3, vI x18), (2, vR r7), (6, vR (some b17)), (5, vR r7), (0, vR (some p7_0)), (1, vR (some b11)), (4, vI u7_4)]) C dX9_nearestBlock_98 rfl (by decide) rfl ?_
              refine z_iinc (L' := [(4, vI (u7_4 + 1)), (3, vI x18), (2, vR r7), (6, vR (some b17)), (5, vR r7), (0, vR (some p7_0)), (1, vR (some b11))]) C dX9_nearestBlock_99 6 rfl (v := u7_4 + 1) rfl (by decide) rfl ?_
              refine z_goto C dX9_nearestBlock_102 (tgt := 7) rfl ?_
              refine z_lsub [5, 6, 2, 1, 0] rfl ?_
              exact ih r7 x18 (u7_4 + 1) v16.2
            · refine z_iinc (L' := [(4, vI (u7_4 + 1)), (6, vR r10), (5, vR r7), (0, vR (some p7_0)), (1, vR (some b11)), (2, vR u7_2), (3, vI u7_3)]) C dX9_nearestBlock_99 6 rfl (v := u7_4 + 1) rfl (by decide) rfl ?_
              refine z_goto C dX9_nearestBlock_102 (tgt := 7) rfl ?_
              refine z_lsub [3, 4, 5, 6, 0] rfl ?_
              exact ih u7_2 u7_3 (u7_4 + 1) v16.2
          · refine z_aload C dX9_nearestBlock_61 0 rfl ?_
            refine z_aload_n C dX9_nearestBlock_63 rfl 3 rfl ?_
            refine X.conv bb ?_
            refine z_rcv bd (fun b19 hbb19 htb19 => ?_)
            subst hbb19
            refine X.conv bb ?_
            refine z_callV C cf8 mf_X7_emptyTo kt645 kt646 kt907 (k_X7_emptyTo (gL Γ) b19 (some b11) w7 (gK Γ)) htb19 rfl ⟨Nat.le_of_ble_eq_true rfl, Nat.le_of_ble_eq_true rfl⟩ (rest := []) rfl (Nat.le_of_ble_eq_true rfl) dX9_nearestBlock_64 (bdI) (contI fun x20 => ?_)
            refine z_iload_n C dX9_nearestBlock_67 rfl 5 rfl ?_
            refine X.conv bi ?_
            refine z_icmp_ge C dX9_nearestBlock_68 (tgt := 99) rfl it jf ?_ ?_
            · refine z_iinc (L' := [(4, vI (u7_4 + 1)), (6, vR (some b19)), (5, vR r7), (0, vR (some p7_0)), (1, vR (some b11)), (2, vR u7_2), (3, vI u7_3)]) C dX9_nearestBlock_99 6 rfl (v := u7_4 + 1) rfl (by decide) rfl ?_
              refine z_goto C dX9_nearestBlock_102 (tgt := 7) rfl ?_
              refine z_lsub [3, 4, 5, 6, 0] rfl ?_
              exact ih u7_2 u7_3 (u7_4 + 1) w7
            · refine z_aload_n C dX9_nearestBlock_71 rfl 2 rfl ?_
              refine z_aload C dX9_nearestBlock_72 1 rfl ?_
              refine X.conv bb ?_
              refine z_gfR C cf1 3 (by decide) rfl rfl dX9_nearestBlock_74 kt538 (fun _ h => h) bd (fun r21 => ?_)
              refine z_aload_n C dX9_nearestBlock_77 rfl 3 rfl ?_
              refine z_aload C dX9_nearestBlock_78 1 rfl ?_
              refine X.conv bb ?_
              refine z_gfI C cf1 1 (by decide) rfl rfl dX9_nearestBlock_80 kt534 (fun _ h => h) bd (fun x22 => ?_)
              refine X.conv bb ?_
              refine z_rcv bd (fun b23 hbb23 htb23 => ?_)
              have heb23 := Option.some.inj hbb23
              subst heb23
              refine X.conv bb ?_
              refine z_callV C cf10 mf_X9_wouldBeFlat kt910 (gtbl_priv (j := 30) rfl rfl) kt908 (k_X9_wouldBeFlat (gL Γ) p7_0 r21 (some b11) x22 w7 (gK Γ)) htb23 rfl ⟨Nat.le_of_ble_eq_true rfl, Nat.le_of_ble_eq_true rfl⟩ (rest := []) rfl (Nat.le_of_ble_eq_true rfl) dX9_nearestBlock_83 (bdIg) (contIg fun v24 => ?_)
              refine X.conv bi ?_
              refine z_if_ne C dX9_nearestBlock_86 (tgt := 99) rfl it jf ?_ ?_
              · refine z_aload C dX9_nearestBlock_89 1 rfl ?_
                refine z_astore_n (L' := [(2, vR r7), (6, vR (some b19)), (5, vR r7), (0, vR (some p7_0)), (1, vR (some b11)), (3, vI u7_3), (4, vI u7_4)]) C dX9_nearestBlock_91 rfl (by decide) rfl ?_
                refine z_aload C dX9_nearestBlock_92 1 rfl ?_
                refine z_aload_n C dX9_nearestBlock_94 rfl 4 rfl ?_
                refine X.conv bb ?_
                refine z_rcv bd (fun b25 hbb25 htb25 => ?_)
                have heb25 := Option.some.inj hbb25
                subst heb25
                refine X.conv bb ?_
                refine z_callV C cf8 mf_X7_emptyTo kt645 kt646 kt907 (k_X7_emptyTo (gL Γ) b19 (some b11) v24.2 (gK Γ)) htb25 rfl ⟨Nat.le_of_ble_eq_true rfl, Nat.le_of_ble_eq_true rfl⟩ (rest := []) rfl (Nat.le_of_ble_eq_true rfl) dX9_nearestBlock_95 (bdI) (contI fun x26 => ?_)
                refine z_istore_n (L' := [(3, vI x26), (2, vR r7), (6, vR (some b19)), (5, vR r7), (0, vR (some p7_0)), (1, vR (some b11)), (4, vI u7_4)]) C dX9_nearestBlock_98 rfl (by decide) rfl ?_
                refine z_iinc (L' := [(4, vI (u7_4 + 1)), (3, vI x26), (2, vR r7), (6, vR (some b19)), (5, vR r7), (0, vR (some p7_0)), (1, vR (some b11))]) C dX9_nearestBlock_99 6 rfl (v := u7_4 + 1) rfl (by decide) rfl ?_
                refine z_goto C dX9_nearestBlock_102 (tgt := 7) rfl ?_
                refine z_lsub [5, 6, 2, 1, 0] rfl ?_
                exact ih r7 x26 (u7_4 + 1) v24.2
              · refine z_iinc (L' := [(4, vI (u7_4 + 1)), (6, vR (some b19)), (5, vR r7), (0, vR (some p7_0)), (1, vR (some b11)), (2, vR u7_2), (3, vI u7_3)]) C dX9_nearestBlock_99 6 rfl (v := u7_4 + 1) rfl (by decide) rfl ?_
                refine z_goto C dX9_nearestBlock_102 (tgt := 7) rfl ?_
                refine z_lsub [3, 4, 5, 6, 0] rfl ?_
                exact ih u7_2 u7_3 (u7_4 + 1) v24.2
theorem k_X9_nearestBlock (l : Launch) (b : Nat) (s1 : Option Nat) (g : HP) : MM l Pi2 yX9_nearestBlock cX9_nearestBlock 7 (some (.object "Blockduty$Block")) 10 259 [vR (some b), vR s1] g (wRg (f_X9_nearestBlock b s1 g)) := by
  refine MM_of PO_Pi2 mf_X9_nearestBlock (fun a ha => wRg_mono (f_X9_nearestBlock_mono b s1 g) a ha) (Nat.le_of_ble_eq_true rfl) ?_
  intro Γ fin hfin hl hin C0 Z0
  subst hl
  obtain ⟨v0, hv, rfl⟩ := wRg_some hfin
  have C : CX Γ cX9_nearestBlock 7 "Blockduty" Pi2 ok2 10 259 := C0
  have Z : RX Γ Pi2 (some (.object "Blockduty$Block")) (some (vR v0.1), v0.2) := Z0
  refine X.conv (fun _ => hv) ?_
  unfold f_X9_nearestBlock
  show X Γ 0 [(0, vR (some b)), (1, vR s1)] [] g _
  refine z_null C dX9_nearestBlock_0 ?_
  refine z_astore_n (L' := [(2, vR none), (0, vR (some b)), (1, vR s1)]) C dX9_nearestBlock_1 rfl (by decide) rfl ?_
  refine z_iconst C dX9_nearestBlock_2 (v := 0) (by decide) ?_
  refine z_istore_n (L' := [(3, vI 0), (2, vR none), (0, vR (some b)), (1, vR s1)]) C dX9_nearestBlock_3 rfl (by decide) rfl ?_
  refine z_iconst C dX9_nearestBlock_4 (v := 0) (by decide) ?_
  refine z_istore (L' := [(4, vI 0), (3, vI 0), (2, vR none), (0, vR (some b)), (1, vR s1)]) C dX9_nearestBlock_5 (by decide) rfl ?_
  refine z_lsub [3, 4, 2, 1, 0] rfl ?_
  refine k_X9_nearestBlock_L7 C b s1 (fun q27 => ?_) FU none 0 0 g
  refine z_aload_n C dX9_nearestBlock_105 rfl 0 rfl ?_
  exact z_aret C Z rfl (Or.inl ⟨_, rfl⟩) dX9_nearestBlock_106 (fun h => by cases h; rfl)
theorem k_X9_wouldBeFlatAlone (l : Launch) (b : Nat) (s1 : Option Nat) (s2 : Int32) (g : HP) : MM l Pi2 yX9_wouldBeFlatAlone cX9_wouldBeFlatAlone 3 (some .boolean) 7 191 [vR (some b), vR s1, vI s2] g (wIg (f_X9_wouldBeFlatAlone b s1 s2 g)) := by
  refine MM_of PO_Pi2 mf_X9_wouldBeFlatAlone (fun a ha => wIg_mono (f_X9_wouldBeFlatAlone_mono b s1 s2 g) a ha) (Nat.le_of_ble_eq_true rfl) ?_
  intro Γ fin hfin hl hin C0 Z0
  subst hl
  obtain ⟨v0, hv, rfl⟩ := wIg_some hfin
  have C : CX Γ cX9_wouldBeFlatAlone 3 "Blockduty" Pi2 ok2 7 191 := C0
  have Z : RX Γ Pi2 (some .boolean) (some (vI v0.1), v0.2) := Z0
  refine X.conv (fun _ => hv) ?_
  unfold f_X9_wouldBeFlatAlone
  show X Γ 0 [(0, vR (some b)), (1, vR s1), (2, vI s2)] [] g _
  refine z_aload_n C dX9_wouldBeFlatAlone_0 rfl 0 rfl ?_
  refine z_gfR C cf10 10 (by decide) rfl rfl dX9_wouldBeFlatAlone_1 kt219 (fun _ h => h) bd (fun r1 => ?_)
  refine z_gfR C cf7 0 (by decide) rfl rfl dX9_wouldBeFlatAlone_4 kt85 (fun _ h => h) bd (fun r2 => ?_)
  refine z_rcv bd (fun b3 hbb3 htb3 => ?_)
  subst hbb3
  refine z_callV C cf0 mf_Jx4a65c_clear_da8c8 kt602 kt603 kt925 (k_al_clear (gL Γ) b3 g (gK Γ)) htb3 rfl ⟨Nat.le_of_ble_eq_true rfl, Nat.le_of_ble_eq_true rfl⟩ (rest := []) rfl (Nat.le_of_ble_eq_true rfl) dX9_wouldBeFlatAlone_7 (bdVg) (contVg fun g4 => ?_)
  refine z_aload_n C dX9_wouldBeFlatAlone_10 rfl 0 rfl ?_
  refine z_gfR C cf10 10 (by decide) rfl rfl dX9_wouldBeFlatAlone_11 kt219 (fun _ h => h) bd (fun r5 => ?_)
  refine z_gfR C cf7 0 (by decide) rfl rfl dX9_wouldBeFlatAlone_14 kt85 (fun _ h => h) bd (fun r6 => ?_)
  refine z_aload_n C dX9_wouldBeFlatAlone_17 rfl 1 rfl ?_
  refine z_rcv bd (fun b7 hbb7 htb7 => ?_)
  subst hbb7
  refine z_callV C cf0 mf_Jx4a65c_add_9ea2d kt129 kt130 kt128 (k_al_add (gL Γ) b7 s1 g4 (gK Γ)) htb7 rfl ⟨Nat.le_of_ble_eq_true rfl, Nat.le_of_ble_eq_true rfl⟩ (rest := []) rfl (Nat.le_of_ble_eq_true rfl) dX9_wouldBeFlatAlone_18 (bdIg) (contIg fun v8 => ?_)
  refine z_pop C dX9_wouldBeFlatAlone_21 rfl ?_
  refine z_aload_n C dX9_wouldBeFlatAlone_22 rfl 0 rfl ?_
  refine z_aload_n C dX9_wouldBeFlatAlone_23 rfl 0 rfl ?_
  refine z_gfR C cf10 10 (by decide) rfl rfl dX9_wouldBeFlatAlone_24 kt219 (fun _ h => h) bd (fun r9 => ?_)
  refine z_iload_n C dX9_wouldBeFlatAlone_27 rfl 2 rfl ?_
  refine z_rcv bd (fun b10 hbb10 htb10 => ?_)
  have heb10 := Option.some.inj hbb10
  subst heb10
  refine z_callV C cf10 mf_X9_isFlat kt686 (gtbl_priv (j := 15) rfl rfl) kt684 (k_X9_isFlat (gL Γ) b r9 s2 v8.2 (gK Γ)) htb10 rfl ⟨Nat.le_of_ble_eq_true rfl, Nat.le_of_ble_eq_true rfl⟩ (rest := []) rfl (Nat.le_of_ble_eq_true rfl) dX9_wouldBeFlatAlone_28 (bdI) (contI fun x11 => ?_)
  exact z_zret C Z rfl dX9_wouldBeFlatAlone_31 (fun h => (retZ_bd h).1) (fun h => (retZ_bd h).2)
theorem k_X9_putIntoSomeBlock (l : Launch) (b : Nat) (s1 : Option Nat) (s2 : Int32) (g : HP) : MM l Pi2 yX9_putIntoSomeBlock cX9_putIntoSomeBlock 4 (some .boolean) 11 285 [vR (some b), vR s1, vI s2] g (wIg (f_X9_putIntoSomeBlock b s1 s2 g)) := by
  refine MM_of PO_Pi2 mf_X9_putIntoSomeBlock (fun a ha => wIg_mono (f_X9_putIntoSomeBlock_mono b s1 s2 g) a ha) (Nat.le_of_ble_eq_true rfl) ?_
  intro Γ fin hfin hl hin C0 Z0
  subst hl
  obtain ⟨v0, hv, rfl⟩ := wIg_some hfin
  have C : CX Γ cX9_putIntoSomeBlock 4 "Blockduty" Pi2 ok2 11 285 := C0
  have Z : RX Γ Pi2 (some .boolean) (some (vI v0.1), v0.2) := Z0
  refine X.conv (fun _ => hv) ?_
  unfold f_X9_putIntoSomeBlock
  show X Γ 0 [(0, vR (some b)), (1, vR s1), (2, vI s2)] [] g _
  refine z_aload_n C dX9_putIntoSomeBlock_0 rfl 0 rfl ?_
  refine z_aload_n C dX9_putIntoSomeBlock_1 rfl 1 rfl ?_
  refine z_rcv bd (fun b1 hbb1 htb1 => ?_)
  have heb1 := Option.some.inj hbb1
  subst heb1
  refine z_callV C cf10 mf_X9_nearestBlock kt904 (gtbl_priv (j := 29) rfl rfl) kt902 (k_X9_nearestBlock (gL Γ) b s1 g (gK Γ)) htb1 rfl ⟨Nat.le_of_ble_eq_true rfl, Nat.le_of_ble_eq_true rfl⟩ (rest := []) rfl (Nat.le_of_ble_eq_true rfl) dX9_putIntoSomeBlock_2 (bdRg) (contRg fun v2 => ?_)
  refine z_astore_n (L' := [(3, vR v2.1), (0, vR (some b)), (1, vR s1), (2, vI s2)]) C dX9_putIntoSomeBlock_5 rfl (by decide) rfl ?_
  refine z_aload_n C dX9_putIntoSomeBlock_6 rfl 0 rfl ?_
  refine z_ifnull C dX9_putIntoSomeBlock_7 (tgt := 17) rfl it jf ?_ ?_
  · refine z_aload_n C dX9_putIntoSomeBlock_17 rfl 1 rfl ?_
    refine z_gfR C cf10 4 (by decide) rfl rfl dX9_putIntoSomeBlock_18 kt213 (fun _ h => h) bd (fun r3 => ?_)
    refine z_rcv bd (fun b4 hbb4 htb4 => ?_)
    subst hbb4
    refine z_callV C cf0 mf_Jx4a65c_size_8abf5 kt261 kt262 kt260 (k_al_size (gL Γ) b4 v2.2 (gK Γ)) htb4 rfl ⟨Nat.le_of_ble_eq_true rfl, Nat.le_of_ble_eq_true rfl⟩ (rest := []) rfl (Nat.le_of_ble_eq_true rfl) dX9_putIntoSomeBlock_21 (bdI) (contI fun x5 => ?_)
    refine z_bipush C dX9_putIntoSomeBlock_24 (v := 8) (by decide) ?_
    refine z_icmp_ge C dX9_putIntoSomeBlock_26 (tgt := 38) rfl it jf ?_ ?_
    · refine z_iconst C dX9_putIntoSomeBlock_38 (v := 0) (by decide) ?_
      exact z_zret C Z rfl dX9_putIntoSomeBlock_39 (fun _ => Or.inl rfl) (fun h => by cases h; rfl)
    · refine z_aload_n C dX9_putIntoSomeBlock_29 rfl 1 rfl ?_
      refine z_aload_n C dX9_putIntoSomeBlock_30 rfl 2 rfl ?_
      refine z_iload_n C dX9_putIntoSomeBlock_31 rfl 3 rfl ?_
      refine z_rcv bd (fun b6 hbb6 htb6 => ?_)
      have heb6 := Option.some.inj hbb6
      subst heb6
      refine z_callV C cf10 mf_X9_wouldBeFlatAlone kt923 (gtbl_priv (j := 31) rfl rfl) kt921 (k_X9_wouldBeFlatAlone (gL Γ) b s1 s2 v2.2 (gK Γ)) htb6 rfl ⟨Nat.le_of_ble_eq_true rfl, Nat.le_of_ble_eq_true rfl⟩ (rest := []) rfl (Nat.le_of_ble_eq_true rfl) dX9_putIntoSomeBlock_32 (bdIg) (contIg fun v7 => ?_)
      refine z_if_eq C dX9_putIntoSomeBlock_35 (tgt := 40) rfl it jf ?_ ?_
      · refine z_aload_n C dX9_putIntoSomeBlock_40 rfl 1 rfl ?_
        refine z_iload_n C dX9_putIntoSomeBlock_41 rfl 3 rfl ?_
        refine z_rcv bd (fun b8 hbb8 htb8 => ?_)
        have heb8 := Option.some.inj hbb8
        subst heb8
        refine z_callV C cf10 mf_X9_newBlock kt518 (gtbl_priv (j := 8) rfl rfl) kt516 (k_X9_newBlock (gL Γ) b s2 v7.2 (gK Γ)) htb8 rfl ⟨Nat.le_of_ble_eq_true rfl, Nat.le_of_ble_eq_true rfl⟩ (rest := []) rfl (Nat.le_of_ble_eq_true rfl) dX9_putIntoSomeBlock_42 (bdRg) (contRg fun v9 => ?_)
        refine z_aload_n C dX9_putIntoSomeBlock_45 rfl 2 rfl ?_
        refine z_rcv bd (fun b10 hbb10 htb10 => ?_)
        rw [hbb10]
        refine z_callV C cf1 mf_X0_addTrip kt917 kt918 kt916 (k_X0_addTrip (gL Γ) b10 s1 v9.2 (gK Γ)) htb10 rfl ⟨Nat.le_of_ble_eq_true rfl, Nat.le_of_ble_eq_true rfl⟩ (rest := []) rfl (Nat.le_of_ble_eq_true rfl) dX9_putIntoSomeBlock_46 (bdVg) (contVg fun g11 => ?_)
        refine z_iconst C dX9_putIntoSomeBlock_49 (v := 1) (by decide) ?_
        exact z_zret C Z rfl dX9_putIntoSomeBlock_50 (fun _ => Or.inr rfl) (fun h => by cases h; rfl)
      · refine z_iconst C dX9_putIntoSomeBlock_38 (v := 0) (by decide) ?_
        exact z_zret C Z rfl dX9_putIntoSomeBlock_39 (fun _ => Or.inl rfl) (fun h => by cases h; rfl)
  · refine z_aload_n C dX9_putIntoSomeBlock_10 rfl 0 rfl ?_
    refine z_aload_n C dX9_putIntoSomeBlock_11 rfl 2 rfl ?_
    refine z_rcv bd (fun b12 hbb12 htb12 => ?_)
    rw [hbb12]
    refine z_callV C cf1 mf_X0_addTrip kt917 kt918 kt916 (k_X0_addTrip (gL Γ) b12 s1 v2.2 (gK Γ)) htb12 rfl ⟨Nat.le_of_ble_eq_true rfl, Nat.le_of_ble_eq_true rfl⟩ (rest := []) rfl (Nat.le_of_ble_eq_true rfl) dX9_putIntoSomeBlock_12 (bdVg) (contVg fun g13 => ?_)
    refine z_iconst C dX9_putIntoSomeBlock_15 (v := 1) (by decide) ?_
    exact z_zret C Z rfl dX9_putIntoSomeBlock_16 (fun _ => Or.inr rfl) (fun h => by cases h; rfl)
