theorem k_L_below (l : Launch) (s1 : Int32) (s2 : Int32) (g : HP) : MM l Pi2 yL_below cL_below 2 (some .int) 0 0 [vI s1, vI s2] g (wI g (f_L_below s1 s2 g)) := by
  refine MM_of PO_Pi2 mf_L_below (fun a ha => wI_same a ha) (Nat.le_of_ble_eq_true rfl) ?_
  intro Γ fin hfin hl hin C0 Z0
  subst hl
  obtain ⟨v0, hv, rfl⟩ := wI_some hfin
  have C : CX Γ cL_below 2 "BlockdutyLaw" Pi2 ok2 0 0 := C0
  have Z : RX Γ Pi2 (some .int) (some (vI v0), g) := Z0
  refine X.conv (fun _ => hv) ?_
  unfold f_L_below
  show X Γ 0 [(0, vI s1), (1, vI s2)] [] g _
  refine z_iload_n C dL_below_0 rfl 0 rfl ?_
  refine z_ldc C dL_below_1 kt886 ?_
  refine z_iand C dL_below_3 ?_
  refine z_iload_n C dL_below_4 rfl 1 rfl ?_
  refine X.ne0 (fun hne => ?_)
  refine z_irem C dL_below_5 hne ?_
  exact z_iret C Z rfl dL_below_6 (fun h => by cases h; rfl)
theorem k_L_cell (l : Launch) (s1 : Option Nat) (s2 : Int32) (g : HP) : MM l Pi2 yL_cell cL_cell 2 (some .int) 0 0 [vR s1, vI s2] g (wI g (f_L_cell s1 s2 g)) := by
  refine MM_of PO_Pi2 mf_L_cell (fun a ha => wI_same a ha) (Nat.le_of_ble_eq_true rfl) ?_
  intro Γ fin hfin hl hin C0 Z0
  subst hl
  obtain ⟨v0, hv, rfl⟩ := wI_some hfin
  have C : CX Γ cL_cell 2 "BlockdutyLaw" Pi2 ok2 0 0 := C0
  have Z : RX Γ Pi2 (some .int) (some (vI v0), g) := Z0
  refine X.conv (fun _ => hv) ?_
  unfold f_L_cell
  show X Γ 0 [(0, vR s1), (1, vI s2)] [] g _
  refine z_iload_n C dL_cell_0 rfl 1 rfl ?_
  refine z_aload_n C dL_cell_1 rfl 0 rfl ?_
  refine z_lnI C dL_cell_2 bd (fun x1 => ?_)
  refine z_icmp_ge C dL_cell_3 (tgt := 12) rfl it jf ?_ ?_
  · refine z_ldc C dL_cell_12 kt890 ?_
    refine z_iload_n C dL_cell_14 rfl 1 rfl ?_
    refine z_iconst C dL_cell_15 (v := 3) (by decide) ?_
    refine z_iadd C dL_cell_16 ?_
    refine z_imul C dL_cell_17 ?_
    exact z_iret C Z rfl dL_cell_18 (fun h => by cases h; rfl)
  · refine z_aload_n C dL_cell_6 rfl 0 rfl ?_
    refine z_iload_n C dL_cell_7 rfl 1 rfl ?_
    refine z_ldI C dL_cell_8 bd (fun x2 => ?_)
    refine z_goto C dL_cell_9 (tgt := 18) rfl ?_
    exact z_iret C Z rfl dL_cell_18 (fun h => by cases h; rfl)
theorem k_L_follows (l : Launch) (s1 : Option Nat) (s2 : Option Nat) (s3 : Int32) (s4 : Int32) (g : HP) : MM l Pi2 yL_follows cL_follows 4 (some .boolean) 6 138 [vR s1, vR s2, vI s3, vI s4] g (wIg (f_L_follows s1 s2 s3 s4 g)) := by
  refine MM_of PO_Pi2 mf_L_follows (fun a ha => wIg_mono (f_L_follows_mono s1 s2 s3 s4 g) a ha) (Nat.le_of_ble_eq_true rfl) ?_
  intro Γ fin hfin hl hin C0 Z0
  subst hl
  obtain ⟨v0, hv, rfl⟩ := wIg_some hfin
  have C : CX Γ cL_follows 4 "BlockdutyLaw" Pi2 ok2 6 138 := C0
  have Z : RX Γ Pi2 (some .boolean) (some (vI v0.1), v0.2) := Z0
  refine X.conv (fun _ => hv) ?_
  unfold f_L_follows
  show X Γ 0 [(0, vR s1), (1, vR s2), (2, vI s3), (3, vI s4)] [] g _
  refine z_aload_n C dL_follows_0 rfl 0 rfl ?_
  refine z_iload_n C dL_follows_1 rfl 3 rfl ?_
  refine z_iconst C dL_follows_2 (v := 4) (by decide) ?_
  refine z_rcv bd (fun b1 hbb1 htb1 => ?_)
  subst hbb1
  refine z_callV C cf10 mf_X9_ofTrip kt632 kt633 kt631 (k_X9_ofTrip (gL Γ) b1 s4 4 g (gK Γ)) htb1 rfl ⟨Nat.le_of_ble_eq_true rfl, Nat.le_of_ble_eq_true rfl⟩ (rest := []) rfl (Nat.le_of_ble_eq_true rfl) dL_follows_3 (bdIg) (contIg fun v2 => ?_)
  refine z_aload_n C dL_follows_6 rfl 1 rfl ?_
  refine z_aload_n C dL_follows_7 rfl 0 rfl ?_
  refine z_iload_n C dL_follows_8 rfl 3 rfl ?_
  refine z_iconst C dL_follows_9 (v := 2) (by decide) ?_
  refine z_rcv bd (fun b3 hbb3 htb3 => ?_)
  have heb3 := Option.some.inj hbb3
  subst heb3
  refine z_callV C cf10 mf_X9_ofTrip kt632 kt633 kt631 (k_X9_ofTrip (gL Γ) b1 s4 2 v2.2 (gK Γ)) htb3 rfl ⟨Nat.le_of_ble_eq_true rfl, Nat.le_of_ble_eq_true rfl⟩ (rest := [vR s2, vI v2.1]) rfl (Nat.le_of_ble_eq_true rfl) dL_follows_10 (bdIg) (contIg fun v4 => ?_)
  refine z_ldI C dL_follows_13 bd (fun x5 => ?_)
  refine z_aload_n C dL_follows_14 rfl 1 rfl ?_
  refine z_aload_n C dL_follows_15 rfl 0 rfl ?_
  refine z_iload_n C dL_follows_16 rfl 2 rfl ?_
  refine z_iconst C dL_follows_17 (v := 1) (by decide) ?_
  refine z_rcv bd (fun b6 hbb6 htb6 => ?_)
  have heb6 := Option.some.inj hbb6
  subst heb6
  refine z_callV C cf10 mf_X9_ofTrip kt632 kt633 kt631 (k_X9_ofTrip (gL Γ) b1 s3 1 v4.2 (gK Γ)) htb6 rfl ⟨Nat.le_of_ble_eq_true rfl, Nat.le_of_ble_eq_true rfl⟩ (rest := [vR s2, vI x5, vI v2.1]) rfl (Nat.le_of_ble_eq_true rfl) dL_follows_18 (bdIg) (contIg fun v7 => ?_)
  refine z_ldI C dL_follows_21 bd (fun x8 => ?_)
  refine z_isub C dL_follows_22 ?_
  refine z_mabs C kt938 kw_mabs_s kw_math kw_mabs_c dL_follows_23 (by decide) (Nat.le_of_ble_eq_true rfl) ?_
  refine z_iadd C dL_follows_26 ?_
  refine z_iconst C dL_follows_27 (v := 4) (by decide) ?_
  refine z_iadd C dL_follows_28 ?_
  refine z_aload_n C dL_follows_29 rfl 0 rfl ?_
  refine z_iload_n C dL_follows_30 rfl 2 rfl ?_
  refine z_iconst C dL_follows_31 (v := 3) (by decide) ?_
  refine z_rcv bd (fun b9 hbb9 htb9 => ?_)
  have heb9 := Option.some.inj hbb9
  subst heb9
  refine z_callV C cf10 mf_X9_ofTrip kt632 kt633 kt631 (k_X9_ofTrip (gL Γ) b1 s3 3 v7.2 (gK Γ)) htb9 rfl ⟨Nat.le_of_ble_eq_true rfl, Nat.le_of_ble_eq_true rfl⟩ (rest := [vI ((v2.1 + (if 0 ≤ x5 - x8 then (x5 - x8) else 0 - (x5 - x8))) + 4)]) rfl (Nat.le_of_ble_eq_true rfl) dL_follows_32 (bdIg) (contIg fun v10 => ?_)
  refine z_icmp_gt C dL_follows_35 (tgt := 42) rfl it jf ?_ ?_
  · refine z_iconst C dL_follows_42 (v := 0) (by decide) ?_
    exact z_zret C Z rfl dL_follows_43 (fun _ => Or.inl rfl) (fun h => by cases h; rfl)
  · refine z_iconst C dL_follows_38 (v := 1) (by decide) ?_
    refine z_goto C dL_follows_39 (tgt := 43) rfl ?_
    exact z_zret C Z rfl dL_follows_43 (fun _ => Or.inr rfl) (fun h => by cases h; rfl)
theorem k_L_isBuilt (l : Launch) (s1 : Option Nat) (s2 : Int32) (g : HP) : MM l Pi2 yL_isBuilt cL_isBuilt 5 (some .boolean) 13 332 [vR s1, vI s2] g (wIg (f_L_isBuilt s1 s2 g)) := by
  refine MM_of PO_Pi2 mf_L_isBuilt (fun a ha => wIg_mono (f_L_isBuilt_mono s1 s2 g) a ha) (Nat.le_of_ble_eq_true rfl) ?_
  intro Γ fin hfin hl hin C0 Z0
  subst hl
  obtain ⟨v0, hv, rfl⟩ := wIg_some hfin
  have C : CX Γ cL_isBuilt 5 "BlockdutyLaw" Pi2 ok2 13 332 := C0
  have Z : RX Γ Pi2 (some .boolean) (some (vI v0.1), v0.2) := Z0
  refine X.conv (fun _ => hv) ?_
  unfold f_L_isBuilt
  show X Γ 0 [(0, vR s1), (1, vI s2)] [] g _
  refine z_aload_n C dL_isBuilt_0 rfl 0 rfl ?_
  refine z_iconst C dL_isBuilt_1 (v := 3) (by decide) ?_
  refine z_rcv bd (fun b1 hbb1 htb1 => ?_)
  subst hbb1
  refine z_callV C cf10 mf_X9_many kt737 kt738 kt736 (k_X9_many (gL Γ) b1 3 g (gK Γ)) htb1 rfl ⟨Nat.le_of_ble_eq_true rfl, Nat.le_of_ble_eq_true rfl⟩ (rest := []) rfl (Nat.le_of_ble_eq_true rfl) dL_isBuilt_2 (bdIg) (contIg fun v2 => ?_)
  refine z_istore_n (L' := [(2, vI v2.1), (0, vR (some b1)), (1, vI s2)]) C dL_isBuilt_5 rfl (by decide) rfl ?_
  refine z_aload_n C dL_isBuilt_6 rfl 1 rfl ?_
  refine z_iconst C dL_isBuilt_7 (v := 1) (by decide) ?_
  refine z_rcv bd (fun b3 hbb3 htb3 => ?_)
  have heb3 := Option.some.inj hbb3
  subst heb3
  refine z_callV C cf10 mf_X9_many kt737 kt738 kt736 (k_X9_many (gL Γ) b1 1 v2.2 (gK Γ)) htb3 rfl ⟨Nat.le_of_ble_eq_true rfl, Nat.le_of_ble_eq_true rfl⟩ (rest := []) rfl (Nat.le_of_ble_eq_true rfl) dL_isBuilt_8 (bdIg) (contIg fun v4 => ?_)
  refine z_istore_n (L' := [(3, vI v4.1), (2, vI v2.1), (0, vR (some b1)), (1, vI s2)]) C dL_isBuilt_11 rfl (by decide) rfl ?_
  refine z_aload_n C dL_isBuilt_12 rfl 2 rfl ?_
  refine z_iload_n C dL_isBuilt_13 rfl 3 rfl ?_
  refine z_rcv bd (fun b5 hbb5 htb5 => ?_)
  have heb5 := Option.some.inj hbb5
  subst heb5
  refine z_callV C cf10 mf_X9_build kt895 kt896 kt894 (k_X9_build (gL Γ) b1 s2 v4.2 (gK Γ)) htb5 rfl ⟨Nat.le_of_ble_eq_true rfl, Nat.le_of_ble_eq_true rfl⟩ (rest := []) rfl (Nat.le_of_ble_eq_true rfl) dL_isBuilt_14 (bdIg) (contIg fun v6 => ?_)
  refine z_istore (L' := [(4, vI v6.1), (3, vI v4.1), (2, vI v2.1), (0, vR (some b1)), (1, vI s2)]) C dL_isBuilt_17 (by decide) rfl ?_
  refine z_aload_n C dL_isBuilt_19 rfl 3 rfl ?_
  refine z_iconst C dL_isBuilt_20 (v := 3) (by decide) ?_
  refine z_rcv bd (fun b7 hbb7 htb7 => ?_)
  have heb7 := Option.some.inj hbb7
  subst heb7
  refine z_callV C cf10 mf_X9_many kt737 kt738 kt736 (k_X9_many (gL Γ) b1 3 v6.2 (gK Γ)) htb7 rfl ⟨Nat.le_of_ble_eq_true rfl, Nat.le_of_ble_eq_true rfl⟩ (rest := []) rfl (Nat.le_of_ble_eq_true rfl) dL_isBuilt_21 (bdIg) (contIg fun v8 => ?_)
  refine z_iload_n C dL_isBuilt_24 rfl 2 rfl ?_
  refine z_iload C dL_isBuilt_25 0 rfl ?_
  refine z_isub C dL_isBuilt_27 ?_
  refine z_icmp_ne C dL_isBuilt_28 (tgt := 64) rfl it jf ?_ ?_
  · refine z_aload_n C dL_isBuilt_31 rfl 3 rfl ?_
    refine z_iconst C dL_isBuilt_32 (v := 1) (by decide) ?_
    refine z_rcv bd (fun b9 hbb9 htb9 => ?_)
    have heb9 := Option.some.inj hbb9
    subst heb9
    refine z_callV C cf10 mf_X9_many kt737 kt738 kt736 (k_X9_many (gL Γ) b1 1 v8.2 (gK Γ)) htb9 rfl ⟨Nat.le_of_ble_eq_true rfl, Nat.le_of_ble_eq_true rfl⟩ (rest := []) rfl (Nat.le_of_ble_eq_true rfl) dL_isBuilt_33 (bdIg) (contIg fun v10 => ?_)
    refine z_iload_n C dL_isBuilt_36 rfl 1 rfl ?_
    refine z_icmp_lt C dL_isBuilt_37 (tgt := 64) rfl it jf ?_ ?_
    · exact X.no no0
    · refine z_aload_n C dL_isBuilt_40 rfl 3 rfl ?_
      refine z_iconst C dL_isBuilt_41 (v := 1) (by decide) ?_
      refine z_rcv bd (fun b11 hbb11 htb11 => ?_)
      have heb11 := Option.some.inj hbb11
      subst heb11
      refine z_callV C cf10 mf_X9_many kt737 kt738 kt736 (k_X9_many (gL Γ) b1 1 v10.2 (gK Γ)) htb11 rfl ⟨Nat.le_of_ble_eq_true rfl, Nat.le_of_ble_eq_true rfl⟩ (rest := []) rfl (Nat.le_of_ble_eq_true rfl) dL_isBuilt_42 (bdIg) (contIg fun v12 => ?_)
      refine z_iload_n C dL_isBuilt_45 rfl 1 rfl ?_
      refine z_iload C dL_isBuilt_46 0 rfl ?_
      refine z_iadd C dL_isBuilt_48 ?_
      refine z_icmp_gt C dL_isBuilt_49 (tgt := 64) rfl it jf ?_ ?_
      · exact X.no no0
      · refine z_aload_n C dL_isBuilt_52 rfl 3 rfl ?_
        refine z_iload_n C dL_isBuilt_53 rfl 4 rfl ?_
        refine z_rcv bd (fun b13 hbb13 htb13 => ?_)
        have heb13 := Option.some.inj hbb13
        subst heb13
        refine z_callV C cf10 mf_X9_build kt895 kt896 kt894 (k_X9_build (gL Γ) b1 s2 v12.2 (gK Γ)) htb13 rfl ⟨Nat.le_of_ble_eq_true rfl, Nat.le_of_ble_eq_true rfl⟩ (rest := []) rfl (Nat.le_of_ble_eq_true rfl) dL_isBuilt_54 (bdIg) (contIg fun v14 => ?_)
        refine z_if_ne C dL_isBuilt_57 (tgt := 64) rfl it jf ?_ ?_
        · refine z_iconst C dL_isBuilt_60 (v := 1) (by decide) ?_
          refine z_goto C dL_isBuilt_61 (tgt := 65) rfl ?_
          exact z_zret C Z rfl dL_isBuilt_65 (fun _ => Or.inr rfl) (fun h => by cases h; rfl)
        · exact X.no no0
  · exact X.no no0
theorem k_L_isBroken (l : Launch) (s1 : Option Nat) (s2 : Int32) (s3 : Int32) (g : HP) : MM l Pi2 yL_isBroken cL_isBroken 6 (some .boolean) 8 174 [vR s1, vI s2, vI s3] g (wIg (f_L_isBroken s1 s2 s3 g)) := by
  refine MM_of PO_Pi2 mf_L_isBroken (fun a ha => wIg_mono (f_L_isBroken_mono s1 s2 s3 g) a ha) (Nat.le_of_ble_eq_true rfl) ?_
  intro Γ fin hfin hl hin C0 Z0
  subst hl
  obtain ⟨v0, hv, rfl⟩ := wIg_some hfin
  have C : CX Γ cL_isBroken 6 "BlockdutyLaw" Pi2 ok2 8 174 := C0
  have Z : RX Γ Pi2 (some .boolean) (some (vI v0.1), v0.2) := Z0
  refine X.conv (fun _ => hv) ?_
  unfold f_L_isBroken
  show X Γ 0 [(0, vR s1), (1, vI s2), (2, vI s3)] [] g _
  refine z_aload_n C dL_isBroken_0 rfl 0 rfl ?_
  refine z_iconst C dL_isBroken_1 (v := 4) (by decide) ?_
  refine z_rcv bd (fun b1 hbb1 htb1 => ?_)
  subst hbb1
  refine z_callV C cf10 mf_X9_many kt737 kt738 kt736 (k_X9_many (gL Γ) b1 4 g (gK Γ)) htb1 rfl ⟨Nat.le_of_ble_eq_true rfl, Nat.le_of_ble_eq_true rfl⟩ (rest := []) rfl (Nat.le_of_ble_eq_true rfl) dL_isBroken_2 (bdIg) (contIg fun v2 => ?_)
  refine z_istore_n (L' := [(3, vI v2.1), (0, vR (some b1)), (1, vI s2), (2, vI s3)]) C dL_isBroken_5 rfl (by decide) rfl ?_
  refine z_aload_n C dL_isBroken_6 rfl 1 rfl ?_
  refine z_iload_n C dL_isBroken_7 rfl 2 rfl ?_
  refine z_iload_n C dL_isBroken_8 rfl 3 rfl ?_
  refine z_rcv bd (fun b3 hbb3 htb3 => ?_)
  have heb3 := Option.some.inj hbb3
  subst heb3
  refine z_callV C cf10 mf_X9_wouldLose kt840 kt841 kt1048 (k_X9_wouldLose (gL Γ) b1 s2 s3 v2.2 (gK Γ)) htb3 rfl ⟨Nat.le_of_ble_eq_true rfl, Nat.le_of_ble_eq_true rfl⟩ (rest := []) rfl (Nat.le_of_ble_eq_true rfl) dL_isBroken_9 (bdIg) (contIg fun v4 => ?_)
  refine z_istore (L' := [(4, vI v4.1), (3, vI v2.1), (0, vR (some b1)), (1, vI s2), (2, vI s3)]) C dL_isBroken_12 (by decide) rfl ?_
  refine z_aload_n C dL_isBroken_14 rfl 2 rfl ?_
  refine z_iload_n C dL_isBroken_15 rfl 3 rfl ?_
  refine z_iload_n C dL_isBroken_16 rfl 4 rfl ?_
  refine z_rcv bd (fun b5 hbb5 htb5 => ?_)
  have heb5 := Option.some.inj hbb5
  subst heb5
  refine z_callV C cf10 mf_X9_breakdown kt1050 kt1051 kt1049 (k_X9_breakdown (gL Γ) b1 s2 s3 v4.2 (gK Γ)) htb5 rfl ⟨Nat.le_of_ble_eq_true rfl, Nat.le_of_ble_eq_true rfl⟩ (rest := []) rfl (Nat.le_of_ble_eq_true rfl) dL_isBroken_17 (bdIg) (contIg fun v6 => ?_)
  refine z_istore (L' := [(5, vI v6.1), (4, vI v4.1), (3, vI v2.1), (0, vR (some b1)), (1, vI s2), (2, vI s3)]) C dL_isBroken_20 (by decide) rfl ?_
  refine z_aload_n C dL_isBroken_22 rfl 3 rfl ?_
  refine z_iconst C dL_isBroken_23 (v := 4) (by decide) ?_
  refine z_rcv bd (fun b7 hbb7 htb7 => ?_)
  have heb7 := Option.some.inj hbb7
  subst heb7
  refine z_callV C cf10 mf_X9_many kt737 kt738 kt736 (k_X9_many (gL Γ) b1 4 v6.2 (gK Γ)) htb7 rfl ⟨Nat.le_of_ble_eq_true rfl, Nat.le_of_ble_eq_true rfl⟩ (rest := []) rfl (Nat.le_of_ble_eq_true rfl) dL_isBroken_24 (bdIg) (contIg fun v8 => ?_)
  refine z_iload_n C dL_isBroken_27 rfl 2 rfl ?_
  refine z_iload C dL_isBroken_28 1 rfl ?_
  refine z_isub C dL_isBroken_30 ?_
  refine z_icmp_ne C dL_isBroken_31 (tgt := 75) rfl it jf ?_ ?_
  · refine z_aload_n C dL_isBroken_34 rfl 3 rfl ?_
    refine z_iload_n C dL_isBroken_35 rfl 4 rfl ?_
    refine z_iload C dL_isBroken_36 0 rfl ?_
    refine z_rcv bd (fun b9 hbb9 htb9 => ?_)
    have heb9 := Option.some.inj hbb9
    subst heb9
    refine z_callV C cf10 mf_X9_breakdown kt1050 kt1051 kt1049 (k_X9_breakdown (gL Γ) b1 s2 v6.1 v8.2 (gK Γ)) htb9 rfl ⟨Nat.le_of_ble_eq_true rfl, Nat.le_of_ble_eq_true rfl⟩ (rest := []) rfl (Nat.le_of_ble_eq_true rfl) dL_isBroken_38 (bdIg) (contIg fun v10 => ?_)
    refine z_iload_n C dL_isBroken_41 rfl 5 rfl ?_
    refine z_icmp_ne C dL_isBroken_42 (tgt := 75) rfl it jf ?_ ?_
    · refine z_aload_n C dL_isBroken_45 rfl 3 rfl ?_
      refine z_iconst C dL_isBroken_46 (v := 4) (by decide) ?_
      refine z_rcv bd (fun b11 hbb11 htb11 => ?_)
      have heb11 := Option.some.inj hbb11
      subst heb11
      refine z_callV C cf10 mf_X9_many kt737 kt738 kt736 (k_X9_many (gL Γ) b1 4 v10.2 (gK Γ)) htb11 rfl ⟨Nat.le_of_ble_eq_true rfl, Nat.le_of_ble_eq_true rfl⟩ (rest := []) rfl (Nat.le_of_ble_eq_true rfl) dL_isBroken_47 (bdIg) (contIg fun v12 => ?_)
      refine z_iload_n C dL_isBroken_50 rfl 2 rfl ?_
      refine z_icmp_ne C dL_isBroken_51 (tgt := 75) rfl it jf ?_ ?_
      · refine z_iload_n C dL_isBroken_54 rfl 5 rfl ?_
        refine z_iconst C dL_isBroken_55 (v := 3) (by decide) ?_
        refine z_irem C dL_isBroken_56 (by decide) ?_
        refine z_if_gt C dL_isBroken_57 (tgt := 71) rfl it jf ?_ ?_
        · refine z_iconst C dL_isBroken_71 (v := 1) (by decide) ?_
          refine z_goto C dL_isBroken_72 (tgt := 76) rfl ?_
          exact z_zret C Z rfl dL_isBroken_76 (fun _ => Or.inr rfl) (fun h => by cases h; rfl)
        · refine z_aload_n C dL_isBroken_60 rfl 3 rfl ?_
          refine z_iload_n C dL_isBroken_61 rfl 4 rfl ?_
          refine z_iload_n C dL_isBroken_62 rfl 5 rfl ?_
          refine z_rcv bd (fun b13 hbb13 htb13 => ?_)
          have heb13 := Option.some.inj hbb13
          subst heb13
          refine z_callV C cf10 mf_X9_breakdown kt1050 kt1051 kt1049 (k_X9_breakdown (gL Γ) b1 s2 s3 v12.2 (gK Γ)) htb13 rfl ⟨Nat.le_of_ble_eq_true rfl, Nat.le_of_ble_eq_true rfl⟩ (rest := []) rfl (Nat.le_of_ble_eq_true rfl) dL_isBroken_63 (bdIg) (contIg fun v14 => ?_)
          refine z_iload C dL_isBroken_66 0 rfl ?_
          refine z_icmp_ne C dL_isBroken_68 (tgt := 75) rfl it jf ?_ ?_
          · refine z_iconst C dL_isBroken_71 (v := 1) (by decide) ?_
            refine z_goto C dL_isBroken_72 (tgt := 76) rfl ?_
            exact z_zret C Z rfl dL_isBroken_76 (fun _ => Or.inr rfl) (fun h => by cases h; rfl)
          · exact X.no no0
      · exact X.no no0
    · exact X.no no0
  · exact X.no no0
theorem k_L_isSound_L15 {Γ : GG} {β : Type} {fin0 : β} {F0 : (Int32 × Int32 × HP) → Option β} (C : CX Γ cL_isSound 22 "BlockdutyLaw" Pi2 ok2 26 675) (p15_0 : Option Nat) (p15_1 : Option Nat) (p15_2 : Option Nat) (p15_3 : Int32) (p15_4 : Option Nat) (p15_5 : Int32) (p15_7 : Nat) (hexit : ∀ q15 : (Int32 × Int32 × HP), X Γ 259 [(0, vR p15_0), (1, vR p15_1), (2, vR p15_2), (3, vI p15_3), (6, vI q15.1), (7, vR (some p15_7)), (8, vI q15.2.1)] [] q15.2.2 (F0 q15 = some fin0)) : ∀ (m15 : Nat) (u15_6 : Int32) (u15_8 : Int32) (u15_9 : Int32) (w15 : HP), X Γ 15 [(0, vR p15_0), (1, vR p15_1), (2, vR p15_2), (3, vI p15_3), (4, vR p15_4), (5, vI p15_5), (6, vI u15_6), (7, vR (some p15_7)), (8, vI u15_8), (9, vI u15_9)] [] w15 ((f_L_isSound_L15 p15_0 p15_1 p15_2 p15_3 p15_4 p15_5 p15_7 m15 u15_6 u15_8 u15_9 w15).bind F0 = some fin0) := by
  intro m15
  induction m15 with
  | zero =>
    intro u15_6 u15_8 u15_9 w15
    exact X.no no1
  | succ m15 ih =>
    intro u15_6 u15_8 u15_9 w15
    unfold f_L_isSound_L15
    refine z_iload C dL_isSound_15 9 rfl ?_
    refine z_iload_n C dL_isSound_17 rfl 3 rfl ?_
    refine X.conv bi ?_
    refine z_icmp_ge C dL_isSound_18 (tgt := 259) rfl it jf ?_ ?_
    · refine z_lsub [0, 1, 2, 3, 6, 7, 8] rfl ?_
      exact hexit (u15_6, u15_8, w15)
    · refine z_aload_n C dL_isSound_21 rfl 0 rfl ?_
      refine z_iload C dL_isSound_22 9 rfl ?_
      refine z_bipush C dL_isSound_24 (v := 6) (by decide) ?_
      refine X.conv bb ?_
      refine z_rcv bd (fun b2 hbb2 htb2 => ?_)
      subst hbb2
      refine X.conv bb ?_
      refine z_callV C cf10 mf_X9_ofTrip kt632 kt633 kt631 (k_X9_ofTrip (gL Γ) b2 u15_9 6 w15 (gK Γ)) htb2 rfl ⟨Nat.le_of_ble_eq_true rfl, Nat.le_of_ble_eq_true rfl⟩ (rest := []) rfl (Nat.le_of_ble_eq_true rfl) dL_isSound_26 (bdIg) (contIg fun v3 => ?_)
      refine z_istore (L' := [(10, vI v3.1), (0, vR (some b2)), (1, vR p15_1), (2, vR p15_2), (3, vI p15_3), (4, vR p15_4), (5, vI p15_5), (6, vI u15_6), (7, vR (some p15_7)), (8, vI u15_8), (9, vI u15_9)]) C dL_isSound_29 (by decide) rfl ?_
      refine z_aload_n C dL_isSound_31 rfl 1 rfl ?_
      refine z_iload C dL_isSound_32 10 rfl ?_
      refine z_bipush C dL_isSound_34 (v := 8) (by decide) ?_
      refine X.conv bb ?_
      refine z_rcv bd (fun b4 hbb4 htb4 => ?_)
      have heb4 := Option.some.inj hbb4
      subst heb4
      refine X.conv bb ?_
      refine z_callV C cf10 mf_X9_ofTrip kt632 kt633 kt631 (k_X9_ofTrip (gL Γ) b2 u15_9 8 v3.2 (gK Γ)) htb4 rfl ⟨Nat.le_of_ble_eq_true rfl, Nat.le_of_ble_eq_true rfl⟩ (rest := []) rfl (Nat.le_of_ble_eq_true rfl) dL_isSound_36 (bdIg) (contIg fun v5 => ?_)
      refine z_istore (L' := [(11, vI v5.1), (10, vI v3.1), (0, vR (some b2)), (1, vR p15_1), (2, vR p15_2), (3, vI p15_3), (4, vR p15_4), (5, vI p15_5), (6, vI u15_6), (7, vR (some p15_7)), (8, vI u15_8), (9, vI u15_9)]) C dL_isSound_39 (by decide) rfl ?_
      refine z_aload_n C dL_isSound_41 rfl 2 rfl ?_
      refine z_iload C dL_isSound_42 11 rfl ?_
      refine z_bipush C dL_isSound_44 (v := 9) (by decide) ?_
      refine X.conv bb ?_
      refine z_rcv bd (fun b6 hbb6 htb6 => ?_)
      have heb6 := Option.some.inj hbb6
      subst heb6
      refine X.conv bb ?_
      refine z_callV C cf10 mf_X9_ofTrip kt632 kt633 kt631 (k_X9_ofTrip (gL Γ) b2 u15_9 9 v5.2 (gK Γ)) htb6 rfl ⟨Nat.le_of_ble_eq_true rfl, Nat.le_of_ble_eq_true rfl⟩ (rest := []) rfl (Nat.le_of_ble_eq_true rfl) dL_isSound_46 (bdIg) (contIg fun v7 => ?_)
      refine z_istore (L' := [(12, vI v7.1), (11, vI v5.1), (10, vI v3.1), (0, vR (some b2)), (1, vR p15_1), (2, vR p15_2), (3, vI p15_3), (4, vR p15_4), (5, vI p15_5), (6, vI u15_6), (7, vR (some p15_7)), (8, vI u15_8), (9, vI u15_9)]) C dL_isSound_49 (by decide) rfl ?_
      refine z_aload C dL_isSound_51 10 rfl ?_
      refine z_iload C dL_isSound_53 1 rfl ?_
      refine z_dup2 C dL_isSound_55 rfl rfl ?_
      refine X.conv bb ?_
      refine z_ldI C dL_isSound_56 bd (fun x8 => ?_)
      refine z_iconst C dL_isSound_57 (v := 1) (by decide) ?_
      refine z_iadd C dL_isSound_58 ?_
      refine X.conv bb ?_
      refine z_stI C dL_isSound_59 bd (fun g9 => ?_)
      refine z_iload C dL_isSound_60 11 rfl ?_
      refine z_iload C dL_isSound_62 2 rfl ?_
      refine X.conv bb ?_
      refine X.join (τ := Int32) 72 (fun q10 => [(0, vR (some b2)), (1, vR p15_1), (2, vR p15_2), (3, vI p15_3), (4, vR p15_4), (5, vI p15_5), (6, vI u15_6), (7, vR (some p15_7)), (9, vI u15_9), (10, vI v3.1), (11, vI v5.1), (12, vI v7.1)]) (fun q10 => [vI q10, vI u15_8]) (fun q10 => g9) (fun q10 => ?_) (fun hj72 => ?_)
      · refine z_iadd C dL_isSound_72 ?_
        refine z_istore (L' := [(8, vI (u15_8 + q10)), (0, vR (some b2)), (1, vR p15_1), (2, vR p15_2), (3, vI p15_3), (4, vR p15_4), (5, vI p15_5), (6, vI u15_6), (7, vR (some p15_7)), (9, vI u15_9), (10, vI v3.1), (11, vI v5.1), (12, vI v7.1)]) C dL_isSound_73 (by decide) rfl ?_
        refine z_iload C dL_isSound_75 10 rfl ?_
        refine X.conv bb ?_
        refine X.join (τ := Int32) 85 (fun q11 => [(0, vR (some b2)), (1, vR p15_1), (2, vR p15_2), (3, vI p15_3), (4, vR p15_4), (5, vI p15_5), (6, vI u15_6), (7, vR (some p15_7)), (8, vI (u15_8 + q10)), (9, vI u15_9), (10, vI v3.1), (11, vI v5.1), (12, vI v7.1)]) (fun q11 => [vI q11]) (fun q11 => g9) (fun q11 => ?_) (fun hj85 => ?_)
        · refine z_iload C dL_isSound_85 11 rfl ?_
          refine z_iconst C dL_isSound_87 (v := 1) (by decide) ?_
          refine X.conv bb ?_
          refine X.join (τ := Int32) 96 (fun q12 => [(0, vR (some b2)), (1, vR p15_1), (2, vR p15_2), (3, vI p15_3), (4, vR p15_4), (5, vI p15_5), (6, vI u15_6), (7, vR (some p15_7)), (8, vI (u15_8 + q10)), (9, vI u15_9), (10, vI v3.1), (11, vI v5.1), (12, vI v7.1)]) (fun q12 => [vI q12, vI q11]) (fun q12 => g9) (fun q12 => ?_) (fun hj96 => ?_)
          · refine X.conv bi ?_
            refine z_icmp_ne C dL_isSound_96 (tgt := 174) rfl it jf ?_ ?_
            · refine z_iload C dL_isSound_99 11 rfl ?_
              refine X.conv bb ?_
              refine X.join (τ := Int32) 109 (fun q13 => [(0, vR (some b2)), (1, vR p15_1), (2, vR p15_2), (3, vI p15_3), (4, vR p15_4), (5, vI p15_5), (6, vI u15_6), (7, vR (some p15_7)), (8, vI (u15_8 + q10)), (9, vI u15_9), (10, vI v3.1), (11, vI v5.1), (12, vI v7.1)]) (fun q13 => [vI q13]) (fun q13 => g9) (fun q13 => ?_) (fun hj109 => ?_)
              · refine z_iload C dL_isSound_109 12 rfl ?_
                refine X.conv bb ?_
                refine X.join (τ := Int32) 119 (fun q14 => [(0, vR (some b2)), (1, vR p15_1), (2, vR p15_2), (3, vI p15_3), (4, vR p15_4), (5, vI p15_5), (6, vI u15_6), (7, vR (some p15_7)), (8, vI (u15_8 + q10)), (9, vI u15_9), (10, vI v3.1), (11, vI v5.1), (12, vI v7.1)]) (fun q14 => [vI q14, vI q13]) (fun q14 => g9) (fun q14 => ?_) (fun hj119 => ?_)
                · refine X.conv bi ?_
                  refine z_icmp_ne C dL_isSound_119 (tgt := 174) rfl it jf ?_ ?_
                  · refine z_iload C dL_isSound_122 12 rfl ?_
                    refine X.conv bb ?_
                    refine X.join (τ := Int32) 132 (fun q15 => [(0, vR (some b2)), (1, vR p15_1), (2, vR p15_2), (3, vI p15_3), (4, vR p15_4), (5, vI p15_5), (6, vI u15_6), (7, vR (some p15_7)), (8, vI (u15_8 + q10)), (9, vI u15_9), (10, vI v3.1), (11, vI v5.1), (12, vI v7.1)]) (fun q15 => [vI q15]) (fun q15 => g9) (fun q15 => ?_) (fun hj132 => ?_)
                    · refine z_aload_n C dL_isSound_132 rfl 0 rfl ?_
                      refine z_iload C dL_isSound_133 9 rfl ?_
                      refine z_bipush C dL_isSound_135 (v := 10) (by decide) ?_
                      refine X.conv bb ?_
                      refine z_rcv bd (fun b16 hbb16 htb16 => ?_)
                      have heb16 := Option.some.inj hbb16
                      subst heb16
                      refine X.conv bb ?_
                      refine z_callV C cf10 mf_X9_ofTrip kt632 kt633 kt631 (k_X9_ofTrip (gL Γ) b2 u15_9 10 g9 (gK Γ)) htb16 rfl ⟨Nat.le_of_ble_eq_true rfl, Nat.le_of_ble_eq_true rfl⟩ (rest := [vI q15]) rfl (Nat.le_of_ble_eq_true rfl) dL_isSound_137 (bdIg) (contIg fun v17 => ?_)
                      refine X.conv bb ?_
                      refine X.join (τ := Int32) 148 (fun q18 => [(0, vR (some b2)), (1, vR p15_1), (2, vR p15_2), (3, vI p15_3), (4, vR p15_4), (5, vI p15_5), (6, vI u15_6), (7, vR (some p15_7)), (8, vI (u15_8 + q10)), (9, vI u15_9), (10, vI v3.1), (11, vI v5.1), (12, vI v7.1)]) (fun q18 => [vI q18, vI q15]) (fun q18 => v17.2) (fun q18 => ?_) (fun hj148 => ?_)
                      · refine X.conv bi ?_
                        refine z_icmp_ne C dL_isSound_148 (tgt := 174) rfl it jf ?_ ?_
                        · refine z_iload C dL_isSound_151 12 rfl ?_
                          refine z_bipush C dL_isSound_153 (v := 30) (by decide) ?_
                          refine X.conv bi ?_
                          refine z_icmp_gt C dL_isSound_155 (tgt := 174) rfl it jf ?_ ?_
                          · exact X.no no1
                          · refine z_iload C dL_isSound_158 10 rfl ?_
                            refine X.conv bb ?_
                            refine X.join (τ := HP) 176 (fun q21 => [(0, vR (some b2)), (1, vR p15_1), (2, vR p15_2), (3, vI p15_3), (4, vR p15_4), (5, vI p15_5), (6, vI u15_6), (7, vR (some p15_7)), (8, vI (u15_8 + q10)), (9, vI u15_9), (11, vI v5.1), (12, vI v7.1)]) (fun q21 => []) (fun q21 => q21) (fun q21 => ?_) (fun hj176 => ?_)
                            · refine z_iload C dL_isSound_176 6 rfl ?_
                              refine z_iload C dL_isSound_178 10 rfl ?_
                              refine X.conv bb ?_
                              refine X.join (τ := (Int32 × HP)) 214 (fun q25 => [(0, vR (some b2)), (1, vR p15_1), (2, vR p15_2), (3, vI p15_3), (4, vR p15_4), (5, vI p15_5), (7, vR (some p15_7)), (8, vI (u15_8 + q10)), (9, vI u15_9), (11, vI v5.1), (12, vI v7.1)]) (fun q25 => [vI q25.1, vI u15_6]) (fun q25 => q25.2) (fun q25 => ?_) (fun hj214 => ?_)
                              · refine z_iadd C dL_isSound_214 ?_
                                refine z_istore (L' := [(6, vI (u15_6 + q25.1)), (0, vR (some b2)), (1, vR p15_1), (2, vR p15_2), (3, vI p15_3), (4, vR p15_4), (5, vI p15_5), (7, vR (some p15_7)), (8, vI (u15_8 + q10)), (9, vI u15_9), (11, vI v5.1), (12, vI v7.1)]) C dL_isSound_215 (by decide) rfl ?_
                                refine z_iload C dL_isSound_217 10 rfl ?_
                                refine X.conv bi ?_
                                refine z_if_ne C dL_isSound_219 (tgt := 253) rfl it jf ?_ ?_
                                · refine z_aload_n C dL_isSound_222 rfl 1 rfl ?_
                                  refine z_iload C dL_isSound_223 9 rfl ?_
                                  refine z_bipush C dL_isSound_225 (v := 10) (by decide) ?_
                                  refine X.conv bb ?_
                                  refine z_rcv bd (fun b26 hbb26 htb26 => ?_)
                                  have heb26 := Option.some.inj hbb26
                                  subst heb26
                                  refine X.conv bb ?_
                                  refine z_callV C cf10 mf_X9_ofTrip kt632 kt633 kt631 (k_X9_ofTrip (gL Γ) b2 u15_9 10 q25.2 (gK Γ)) htb26 rfl ⟨Nat.le_of_ble_eq_true rfl, Nat.le_of_ble_eq_true rfl⟩ (rest := []) rfl (Nat.le_of_ble_eq_true rfl) dL_isSound_227 (bdIg) (contIg fun v27 => ?_)
                                  refine z_aload_n C dL_isSound_230 rfl 1 rfl ?_
                                  refine z_iload C dL_isSound_231 9 rfl ?_
                                  refine z_iconst C dL_isSound_233 (v := 4) (by decide) ?_
                                  refine X.conv bb ?_
                                  refine z_rcv bd (fun b28 hbb28 htb28 => ?_)
                                  have heb28 := Option.some.inj hbb28
                                  subst heb28
                                  refine X.conv bb ?_
                                  refine z_callV C cf10 mf_X9_ofTrip kt632 kt633 kt631 (k_X9_ofTrip (gL Γ) b2 u15_9 4 v27.2 (gK Γ)) htb28 rfl ⟨Nat.le_of_ble_eq_true rfl, Nat.le_of_ble_eq_true rfl⟩ (rest := [vI v27.1]) rfl (Nat.le_of_ble_eq_true rfl) dL_isSound_234 (bdIg) (contIg fun v29 => ?_)
                                  refine z_iload C dL_isSound_237 11 rfl ?_
                                  refine z_iadd C dL_isSound_239 ?_
                                  refine z_aload_n C dL_isSound_240 rfl 1 rfl ?_
                                  refine z_iload C dL_isSound_241 9 rfl ?_
                                  refine z_iconst C dL_isSound_243 (v := 5) (by decide) ?_
                                  refine X.conv bb ?_
                                  refine z_rcv bd (fun b30 hbb30 htb30 => ?_)
                                  have heb30 := Option.some.inj hbb30
                                  subst heb30
                                  refine X.conv bb ?_
                                  refine z_callV C cf10 mf_X9_ofTrip kt632 kt633 kt631 (k_X9_ofTrip (gL Γ) b2 u15_9 5 v29.2 (gK Γ)) htb30 rfl ⟨Nat.le_of_ble_eq_true rfl, Nat.le_of_ble_eq_true rfl⟩ (rest := [vI (v29.1 + v7.1), vI v27.1]) rfl (Nat.le_of_ble_eq_true rfl) dL_isSound_244 (bdIg) (contIg fun v31 => ?_)
                                  refine z_iadd C dL_isSound_247 ?_
                                  refine X.conv bi ?_
                                  refine z_icmp_eq C dL_isSound_248 (tgt := 253) rfl it jf ?_ ?_
                                  · refine z_iinc (L' := [(9, vI (u15_9 + 1)), (6, vI (u15_6 + q25.1)), (0, vR (some b2)), (1, vR p15_1), (2, vR p15_2), (3, vI p15_3), (4, vR p15_4), (5, vI p15_5), (7, vR (some p15_7)), (8, vI (u15_8 + q10)), (11, vI v5.1), (12, vI v7.1)]) C dL_isSound_253 9 rfl (v := u15_9 + 1) rfl (by decide) rfl ?_
                                    refine z_goto C dL_isSound_256 (tgt := 15) rfl ?_
                                    refine z_lsub [2, 3, 4, 5, 6, 7, 1, 8, 9, 0] rfl ?_
                                    exact ih (u15_6 + q25.1) (u15_8 + q10) (u15_9 + 1) v31.2
                                  · exact X.no no1
                                · refine z_iinc (L' := [(9, vI (u15_9 + 1)), (6, vI (u15_6 + q25.1)), (0, vR (some b2)), (1, vR p15_1), (2, vR p15_2), (3, vI p15_3), (4, vR p15_4), (5, vI p15_5), (7, vR (some p15_7)), (8, vI (u15_8 + q10)), (11, vI v5.1), (12, vI v7.1)]) C dL_isSound_253 9 rfl (v := u15_9 + 1) rfl (by decide) rfl ?_
                                  refine z_goto C dL_isSound_256 (tgt := 15) rfl ?_
                                  refine z_lsub [2, 3, 4, 5, 6, 7, 1, 8, 9, 0] rfl ?_
                                  exact ih (u15_6 + q25.1) (u15_8 + q10) (u15_9 + 1) q25.2
                              · refine X.conv bi ?_
                                refine z_if_ne C dL_isSound_180 (tgt := 201) rfl it jf ?_ ?_
                                · refine z_aload C dL_isSound_183 4 rfl ?_
                                  refine z_aload_n C dL_isSound_185 rfl 0 rfl ?_
                                  refine z_iload C dL_isSound_186 9 rfl ?_
                                  refine z_iconst C dL_isSound_188 (v := 0) (by decide) ?_
                                  refine X.conv bb ?_
                                  refine z_rcv bd (fun b22 hbb22 htb22 => ?_)
                                  have heb22 := Option.some.inj hbb22
                                  subst heb22
                                  refine X.conv bb ?_
                                  refine z_callV C cf10 mf_X9_ofTrip kt632 kt633 kt631 (k_X9_ofTrip (gL Γ) b2 u15_9 0 q21 (gK Γ)) htb22 rfl ⟨Nat.le_of_ble_eq_true rfl, Nat.le_of_ble_eq_true rfl⟩ (rest := [vR p15_4, vI u15_6]) rfl (Nat.le_of_ble_eq_true rfl) dL_isSound_189 (bdIg) (contIg fun v23 => ?_)
                                  refine X.conv bb ?_
                                  refine z_ldI C dL_isSound_192 bd (fun x24 => ?_)
                                  refine z_iload C dL_isSound_193 11 rfl ?_
                                  refine z_iconst C dL_isSound_195 (v := 2) (by decide) ?_
                                  refine z_idiv C dL_isSound_196 (by decide) ?_
                                  refine z_isub C dL_isSound_197 ?_
                                  refine z_goto C dL_isSound_198 (tgt := 214) rfl ?_
                                  refine z_lsub [0, 1, 2, 3, 4, 5, 7, 8, 9, 10, 11] rfl ?_
                                  exact hj214 (x24 - (v7.1 / 2), v23.2)
                                · refine z_iload C dL_isSound_201 10 rfl ?_
                                  refine z_iconst C dL_isSound_203 (v := 2) (by decide) ?_
                                  refine X.conv bi ?_
                                  refine z_icmp_ne C dL_isSound_204 (tgt := 211) rfl it jf ?_ ?_
                                  · refine z_iconst C dL_isSound_207 (v := 0) (by decide) ?_
                                    refine z_goto C dL_isSound_208 (tgt := 214) rfl ?_
                                    refine z_lsub [0, 1, 2, 3, 4, 5, 7, 8, 9, 10, 11] rfl ?_
                                    exact hj214 ((0 : Int32), q21)
                                  · refine z_iload C dL_isSound_211 5 rfl ?_
                                    refine z_ineg C dL_isSound_213 ?_
                                    refine z_lsub [0, 1, 2, 3, 4, 5, 7, 8, 9, 10, 11] rfl ?_
                                    exact hj214 (-p15_5, q21)
                            · refine X.conv bi ?_
                              refine z_if_ge C dL_isSound_160 (tgt := 176) rfl it jf ?_ ?_
                              · refine z_lsub [0, 1, 2, 3, 4, 5, 6, 7, 8, 9, 11, 12] rfl ?_
                                exact hj176 v17.2
                              · refine z_aload_n C dL_isSound_163 rfl 0 rfl ?_
                                refine z_iload C dL_isSound_164 9 rfl ?_
                                refine z_bipush C dL_isSound_166 (v := 7) (by decide) ?_
                                refine X.conv bb ?_
                                refine z_rcv bd (fun b19 hbb19 htb19 => ?_)
                                have heb19 := Option.some.inj hbb19
                                subst heb19
                                refine X.conv bb ?_
                                refine z_callV C cf10 mf_X9_ofTrip kt632 kt633 kt631 (k_X9_ofTrip (gL Γ) b2 u15_9 7 v17.2 (gK Γ)) htb19 rfl ⟨Nat.le_of_ble_eq_true rfl, Nat.le_of_ble_eq_true rfl⟩ (rest := []) rfl (Nat.le_of_ble_eq_true rfl) dL_isSound_168 (bdIg) (contIg fun v20 => ?_)
                                refine X.conv bi ?_
                                refine z_if_lt C dL_isSound_171 (tgt := 176) rfl it jf ?_ ?_
                                · refine z_lsub [0, 1, 2, 3, 4, 5, 6, 7, 8, 9, 11, 12] rfl ?_
                                  exact hj176 v20.2
                                · exact X.no no1
                        · exact X.no no1
                      · refine X.conv bi ?_
                        refine z_if_ge C dL_isSound_140 (tgt := 147) rfl it jf ?_ ?_
                        · refine z_iconst C dL_isSound_147 (v := 0) (by decide) ?_
                          refine z_lsub [0, 1, 2, 3, 4, 5, 6, 7, 8, 9, 10, 11, 12] rfl ?_
                          exact hj148 (0 : Int32)
                        · refine z_iconst C dL_isSound_143 (v := 1) (by decide) ?_
                          refine z_goto C dL_isSound_144 (tgt := 148) rfl ?_
                          refine z_lsub [0, 1, 2, 3, 4, 5, 6, 7, 8, 9, 10, 11, 12] rfl ?_
                          exact hj148 (1 : Int32)
                    · refine X.conv bi ?_
                      refine z_if_ge C dL_isSound_124 (tgt := 131) rfl it jf ?_ ?_
                      · refine z_iconst C dL_isSound_131 (v := 0) (by decide) ?_
                        refine z_lsub [0, 1, 2, 3, 4, 5, 6, 7, 8, 9, 10, 11, 12] rfl ?_
                        exact hj132 (0 : Int32)
                      · refine z_iconst C dL_isSound_127 (v := 1) (by decide) ?_
                        refine z_goto C dL_isSound_128 (tgt := 132) rfl ?_
                        refine z_lsub [0, 1, 2, 3, 4, 5, 6, 7, 8, 9, 10, 11, 12] rfl ?_
                        exact hj132 (1 : Int32)
                  · exact X.no no1
                · refine X.conv bi ?_
                  refine z_if_ge C dL_isSound_111 (tgt := 118) rfl it jf ?_ ?_
                  · refine z_iconst C dL_isSound_118 (v := 0) (by decide) ?_
                    refine z_lsub [0, 1, 2, 3, 4, 5, 6, 7, 8, 9, 10, 11, 12] rfl ?_
                    exact hj119 (0 : Int32)
                  · refine z_iconst C dL_isSound_114 (v := 1) (by decide) ?_
                    refine z_goto C dL_isSound_115 (tgt := 119) rfl ?_
                    refine z_lsub [0, 1, 2, 3, 4, 5, 6, 7, 8, 9, 10, 11, 12] rfl ?_
                    exact hj119 (1 : Int32)
              · refine X.conv bi ?_
                refine z_if_le C dL_isSound_101 (tgt := 108) rfl it jf ?_ ?_
                · refine z_iconst C dL_isSound_108 (v := 0) (by decide) ?_
                  refine z_lsub [0, 1, 2, 3, 4, 5, 6, 7, 8, 9, 10, 11, 12] rfl ?_
                  exact hj109 (0 : Int32)
                · refine z_iconst C dL_isSound_104 (v := 1) (by decide) ?_
                  refine z_goto C dL_isSound_105 (tgt := 109) rfl ?_
                  refine z_lsub [0, 1, 2, 3, 4, 5, 6, 7, 8, 9, 10, 11, 12] rfl ?_
                  exact hj109 (1 : Int32)
            · exact X.no no1
          · refine X.conv bi ?_
            refine z_icmp_ne C dL_isSound_88 (tgt := 95) rfl it jf ?_ ?_
            · refine z_iconst C dL_isSound_91 (v := 1) (by decide) ?_
              refine z_goto C dL_isSound_92 (tgt := 96) rfl ?_
              refine z_lsub [0, 1, 2, 3, 4, 5, 6, 7, 8, 9, 10, 11, 12] rfl ?_
              exact hj96 (1 : Int32)
            · refine z_iconst C dL_isSound_95 (v := 0) (by decide) ?_
              refine z_lsub [0, 1, 2, 3, 4, 5, 6, 7, 8, 9, 10, 11, 12] rfl ?_
              exact hj96 (0 : Int32)
        · refine X.conv bi ?_
          refine z_if_ge C dL_isSound_77 (tgt := 84) rfl it jf ?_ ?_
          · refine z_iconst C dL_isSound_84 (v := 0) (by decide) ?_
            refine z_lsub [1, 2, 3, 4, 5, 6, 7, 8, 0, 9, 10, 11, 12] rfl ?_
            exact hj85 (0 : Int32)
          · refine z_iconst C dL_isSound_80 (v := 1) (by decide) ?_
            refine z_goto C dL_isSound_81 (tgt := 85) rfl ?_
            refine z_lsub [1, 2, 3, 4, 5, 6, 7, 8, 0, 9, 10, 11, 12] rfl ?_
            exact hj85 (1 : Int32)
      · refine X.conv bi ?_
        refine z_if_ge C dL_isSound_64 (tgt := 71) rfl it jf ?_ ?_
        · refine z_iconst C dL_isSound_71 (v := 0) (by decide) ?_
          refine z_lsub [3, 4, 5, 6, 7, 8, 9, 10, 12, 2, 1, 0] rfl ?_
          exact hj72 (0 : Int32)
        · refine z_iconst C dL_isSound_67 (v := 1) (by decide) ?_
          refine z_goto C dL_isSound_68 (tgt := 72) rfl ?_
          refine z_lsub [3, 4, 5, 6, 7, 8, 9, 10, 12, 2, 1, 0] rfl ?_
          exact hj72 (1 : Int32)
theorem k_L_isSound_L262 {Γ : GG} {β : Type} {fin0 : β} {F0 : HP → Option β} (C : CX Γ cL_isSound 22 "BlockdutyLaw" Pi2 ok2 26 675) (p262_0 : Option Nat) (p262_1 : Option Nat) (p262_2 : Option Nat) (p262_3 : Int32) (p262_6 : Int32) (p262_7 : Nat) (p262_8 : Int32) (hexit : ∀ q262 : HP, X Γ 291 [(0, vR p262_0), (1, vR p262_1), (2, vR p262_2), (3, vI p262_3), (6, vI p262_6), (7, vR (some p262_7)), (8, vI p262_8)] [] q262 (F0 q262 = some fin0)) : ∀ (m262 : Nat) (u262_9 : Int32) (w262 : HP), X Γ 262 [(0, vR p262_0), (1, vR p262_1), (2, vR p262_2), (3, vI p262_3), (6, vI p262_6), (7, vR (some p262_7)), (8, vI p262_8), (9, vI u262_9)] [] w262 ((f_L_isSound_L262 p262_0 p262_1 p262_2 p262_3 p262_6 p262_7 p262_8 m262 u262_9 w262).bind F0 = some fin0) := by
  intro m262
  induction m262 with
  | zero =>
    intro u262_9 w262
    exact X.no no1
  | succ m262 ih =>
    intro u262_9 w262
    unfold f_L_isSound_L262
    refine z_iload C dL_isSound_262 7 rfl ?_
    refine z_bipush C dL_isSound_264 (v := 7) (by decide) ?_
    refine X.conv bi ?_
    refine z_icmp_ge C dL_isSound_266 (tgt := 291) rfl it jf ?_ ?_
    · refine z_lsub [0, 1, 2, 3, 4, 5, 6] rfl ?_
      exact hexit w262
    · refine z_aload_n C dL_isSound_269 rfl 0 rfl ?_
      refine z_iload C dL_isSound_270 7 rfl ?_
      refine X.conv bb ?_
      refine z_rcv bd (fun b33 hbb33 htb33 => ?_)
      subst hbb33
      refine X.conv bb ?_
      refine z_callV C cf10 mf_X9_lost kt805 kt806 kt1056 (k_X9_lost (gL Γ) b33 u262_9 w262 (gK Γ)) htb33 rfl ⟨Nat.le_of_ble_eq_true rfl, Nat.le_of_ble_eq_true rfl⟩ (rest := []) rfl (Nat.le_of_ble_eq_true rfl) dL_isSound_272 (bdIg) (contIg fun v34 => ?_)
      refine z_aload C dL_isSound_275 5 rfl ?_
      refine z_iload C dL_isSound_277 7 rfl ?_
      refine X.conv bb ?_
      refine z_ldI C dL_isSound_279 bd (fun x35 => ?_)
      refine X.conv bi ?_
      refine z_icmp_eq C dL_isSound_280 (tgt := 285) rfl it jf ?_ ?_
      · refine z_iinc (L' := [(9, vI (u262_9 + 1)), (0, vR (some b33)), (1, vR p262_1), (2, vR p262_2), (3, vI p262_3), (6, vI p262_6), (7, vR (some p262_7)), (8, vI p262_8)]) C dL_isSound_285 7 rfl (v := u262_9 + 1) rfl (by decide) rfl ?_
        refine z_goto C dL_isSound_288 (tgt := 262) rfl ?_
        refine z_lsub [1, 2, 3, 4, 5, 6, 7, 0] rfl ?_
        exact ih (u262_9 + 1) v34.2
      · exact X.no no1
theorem k_L_isSound_L398 {Γ : GG} {β : Type} {fin0 : β} {F0 : HP → Option β} (C : CX Γ cL_isSound 22 "BlockdutyLaw" Pi2 ok2 26 675) (p398_0 : Nat) (p398_1 : Option Nat) (p398_2 : Option Nat) (p398_3 : Int32) (p398_8 : Int32) (p398_9 : Int32) (p398_10 : Int32) (p398_11 : Nat) (p398_12 : Nat) (p398_13 : Nat) (p398_14 : Int32) (p398_15 : Int32) (p398_16 : Int32) (hexit : ∀ q398 : HP, X Γ 463 [(0, vR (some p398_0)), (1, vR p398_1), (2, vR p398_2), (3, vI p398_3), (8, vI p398_8), (9, vI p398_9), (10, vI p398_10), (11, vR (some p398_11)), (12, vR (some p398_12)), (13, vR (some p398_13)), (14, vI p398_14), (15, vI p398_15), (16, vI p398_16)] [] q398 (F0 q398 = some fin0)) : ∀ (m398 : Nat) (u398_17 : Int32) (w398 : HP), X Γ 398 [(0, vR (some p398_0)), (1, vR p398_1), (2, vR p398_2), (3, vI p398_3), (8, vI p398_8), (9, vI p398_9), (10, vI p398_10), (11, vR (some p398_11)), (12, vR (some p398_12)), (13, vR (some p398_13)), (14, vI p398_14), (15, vI p398_15), (16, vI p398_16), (17, vI u398_17)] [] w398 ((f_L_isSound_L398 p398_0 p398_1 p398_2 p398_3 p398_8 p398_9 p398_10 p398_11 p398_12 p398_13 p398_14 p398_15 p398_16 m398 u398_17 w398).bind F0 = some fin0) := by
  intro m398
  induction m398 with
  | zero =>
    intro u398_17 w398
    exact X.no no1
  | succ m398 ih =>
    intro u398_17 w398
    unfold f_L_isSound_L398
    refine z_iload C dL_isSound_398 13 rfl ?_
    refine z_iload C dL_isSound_400 12 rfl ?_
    refine X.conv bi ?_
    refine z_icmp_ge C dL_isSound_402 (tgt := 463) rfl it jf ?_ ?_
    · refine z_lsub [0, 1, 2, 3, 4, 5, 6, 7, 8, 9, 10, 11, 12] rfl ?_
      exact hexit w398
    · refine z_aload_n C dL_isSound_405 rfl 0 rfl ?_
      refine z_aload_n C dL_isSound_406 rfl 0 rfl ?_
      refine z_iload C dL_isSound_407 11 rfl ?_
      refine z_iload C dL_isSound_409 13 rfl ?_
      refine X.conv bb ?_
      refine z_rcv bd (fun b52 hbb52 htb52 => ?_)
      have heb52 := Option.some.inj hbb52
      subst heb52
      refine X.conv bb ?_
      refine z_callV C cf10 mf_X9_at kt931 kt932 kt930 (k_X9_at (gL Γ) p398_0 p398_15 u398_17 w398 (gK Γ)) htb52 rfl ⟨Nat.le_of_ble_eq_true rfl, Nat.le_of_ble_eq_true rfl⟩ (rest := [vR (some p398_0)]) rfl (Nat.le_of_ble_eq_true rfl) dL_isSound_411 (bdI) (contI fun x53 => ?_)
      refine z_bipush C dL_isSound_414 (v := 6) (by decide) ?_
      refine X.conv bb ?_
      refine z_rcv bd (fun b54 hbb54 htb54 => ?_)
      have heb54 := Option.some.inj hbb54
      subst heb54
      refine X.conv bb ?_
      refine z_callV C cf10 mf_X9_ofTrip kt632 kt633 kt631 (k_X9_ofTrip (gL Γ) p398_0 x53 6 w398 (gK Γ)) htb54 rfl ⟨Nat.le_of_ble_eq_true rfl, Nat.le_of_ble_eq_true rfl⟩ (rest := []) rfl (Nat.le_of_ble_eq_true rfl) dL_isSound_416 (bdIg) (contIg fun v55 => ?_)
      refine z_iload C dL_isSound_419 11 rfl ?_
      refine X.conv bi ?_
      refine z_icmp_ne C dL_isSound_421 (tgt := 455) rfl it jf ?_ ?_
      · refine z_iload C dL_isSound_424 13 rfl ?_
        refine X.conv bi ?_
        refine z_if_le C dL_isSound_426 (tgt := 457) rfl it jf ?_ ?_
        · refine z_iinc (L' := [(17, vI (u398_17 + 1)), (0, vR (some p398_0)), (1, vR p398_1), (2, vR p398_2), (3, vI p398_3), (8, vI p398_8), (9, vI p398_9), (10, vI p398_10), (11, vR (some p398_11)), (12, vR (some p398_12)), (13, vR (some p398_13)), (14, vI p398_14), (15, vI p398_15), (16, vI p398_16)]) C dL_isSound_457 13 rfl (v := u398_17 + 1) rfl (by decide) rfl ?_
          refine z_goto C dL_isSound_460 (tgt := 398) rfl ?_
          refine z_lsub [1, 2, 3, 4, 5, 6, 7, 8, 9, 10, 11, 12, 13, 0] rfl ?_
          exact ih (u398_17 + 1) v55.2
        · refine z_aload_n C dL_isSound_429 rfl 0 rfl ?_
          refine z_aload_n C dL_isSound_430 rfl 1 rfl ?_
          refine z_aload_n C dL_isSound_431 rfl 0 rfl ?_
          refine z_iload C dL_isSound_432 11 rfl ?_
          refine z_iload C dL_isSound_434 13 rfl ?_
          refine X.conv bb ?_
          refine z_rcv bd (fun b56 hbb56 htb56 => ?_)
          have heb56 := Option.some.inj hbb56
          subst heb56
          refine X.conv bb ?_
          refine z_callV C cf10 mf_X9_at kt931 kt932 kt930 (k_X9_at (gL Γ) p398_0 p398_15 u398_17 v55.2 (gK Γ)) htb56 rfl ⟨Nat.le_of_ble_eq_true rfl, Nat.le_of_ble_eq_true rfl⟩ (rest := [vR p398_1, vR (some p398_0)]) rfl (Nat.le_of_ble_eq_true rfl) dL_isSound_436 (bdI) (contI fun x57 => ?_)
          refine z_aload_n C dL_isSound_439 rfl 0 rfl ?_
          refine z_iload C dL_isSound_440 11 rfl ?_
          refine z_iload C dL_isSound_442 13 rfl ?_
          refine z_iconst C dL_isSound_444 (v := 1) (by decide) ?_
          refine z_isub C dL_isSound_445 ?_
          refine X.conv bb ?_
          refine z_rcv bd (fun b58 hbb58 htb58 => ?_)
          have heb58 := Option.some.inj hbb58
          subst heb58
          refine X.conv bb ?_
          refine z_callV C cf10 mf_X9_at kt931 kt932 kt930 (k_X9_at (gL Γ) p398_0 p398_15 (u398_17 - 1) v55.2 (gK Γ)) htb58 rfl ⟨Nat.le_of_ble_eq_true rfl, Nat.le_of_ble_eq_true rfl⟩ (rest := [vI x57, vR p398_1, vR (some p398_0)]) rfl (Nat.le_of_ble_eq_true rfl) dL_isSound_446 (bdI) (contI fun x59 => ?_)
          refine X.conv bb ?_
          refine z_callS C rfl mf_L_follows kt936 kt935 (k_L_follows (gL Γ) (some p398_0) p398_1 x57 x59 v55.2 (gK Γ)) rfl ⟨Nat.le_of_ble_eq_true rfl, Nat.le_of_ble_eq_true rfl⟩ (rest := []) rfl (Nat.le_of_ble_eq_true rfl) dL_isSound_449 (bdIg) (contIg fun v60 => ?_)
          refine X.conv bi ?_
          refine z_if_ne C dL_isSound_452 (tgt := 457) rfl it jf ?_ ?_
          · exact X.no no1
          · refine z_iinc (L' := [(17, vI (u398_17 + 1)), (0, vR (some p398_0)), (1, vR p398_1), (2, vR p398_2), (3, vI p398_3), (8, vI p398_8), (9, vI p398_9), (10, vI p398_10), (11, vR (some p398_11)), (12, vR (some p398_12)), (13, vR (some p398_13)), (14, vI p398_14), (15, vI p398_15), (16, vI p398_16)]) C dL_isSound_457 13 rfl (v := u398_17 + 1) rfl (by decide) rfl ?_
            refine z_goto C dL_isSound_460 (tgt := 398) rfl ?_
            refine z_lsub [1, 2, 3, 4, 5, 6, 7, 8, 9, 10, 11, 12, 13, 0] rfl ?_
            exact ih (u398_17 + 1) v60.2
      · exact X.no no1
theorem k_L_isSound_L740 {Γ : GG} {β : Type} {fin0 : β} {F0 : Unit → Option β} (C : CX Γ cL_isSound 22 "BlockdutyLaw" Pi2 ok2 26 675) (p740_0 : Nat) (p740_1 : Option Nat) (p740_2 : Option Nat) (p740_3 : Int32) (p740_8 : Int32) (p740_9 : Int32) (p740_10 : Int32) (p740_11 : Nat) (p740_12 : Nat) (p740_13 : Nat) (p740_14 : Int32) (p740_15 : Int32) (p740_16 : Int32) (p740_17 : Int32) (p740_18 : Int32) (p740_20 : Int32) (w740 : HP) (hexit : ∀ q740 : Unit, X Γ 807 [(0, vR (some p740_0)), (1, vR p740_1), (2, vR p740_2), (3, vI p740_3), (8, vI p740_8), (9, vI p740_9), (10, vI p740_10), (11, vR (some p740_11)), (12, vR (some p740_12)), (13, vR (some p740_13)), (14, vI p740_14), (15, vI p740_15), (16, vI p740_16), (17, vI p740_17), (18, vI p740_18), (20, vI p740_20)] [] w740 (F0 q740 = some fin0)) : ∀ (m740 : Nat) (u740_21 : Int32), X Γ 740 [(0, vR (some p740_0)), (1, vR p740_1), (2, vR p740_2), (3, vI p740_3), (8, vI p740_8), (9, vI p740_9), (10, vI p740_10), (11, vR (some p740_11)), (12, vR (some p740_12)), (13, vR (some p740_13)), (14, vI p740_14), (15, vI p740_15), (16, vI p740_16), (17, vI p740_17), (18, vI p740_18), (20, vI p740_20), (21, vI u740_21)] [] w740 ((f_L_isSound_L740 p740_0 p740_1 p740_2 p740_3 p740_8 p740_9 p740_10 p740_11 p740_12 p740_13 p740_14 p740_15 p740_16 p740_17 p740_18 p740_20 w740 m740 u740_21).bind F0 = some fin0) := by
  intro m740
  induction m740 with
  | zero =>
    intro u740_21
    exact X.no no1
  | succ m740 ih =>
    intro u740_21
    unfold f_L_isSound_L740
    refine z_iload C dL_isSound_740 16 rfl ?_
    refine z_iload C dL_isSound_742 10 rfl ?_
    refine X.conv bi ?_
    refine z_icmp_ge C dL_isSound_744 (tgt := 807) rfl it jf ?_ ?_
    · refine z_lsub [0, 1, 2, 3, 4, 5, 6, 7, 8, 9, 10, 11, 12, 13, 14, 15] rfl ?_
      exact hexit ()
    · refine z_aload C dL_isSound_747 9 rfl ?_
      refine z_iload C dL_isSound_749 16 rfl ?_
      refine X.conv bb ?_
      refine z_ldB C rfl dL_isSound_751 bd (fun r113 => ?_)
      refine z_iconst C dL_isSound_752 (v := 0) (by decide) ?_
      refine X.conv bb ?_
      refine z_ldI C dL_isSound_753 bd (fun x114 => ?_)
      refine z_iload C dL_isSound_754 15 rfl ?_
      refine X.conv bi ?_
      refine z_icmp_ne C dL_isSound_756 (tgt := 801) rfl it jf ?_ ?_
      · refine z_aload C dL_isSound_759 9 rfl ?_
        refine z_iload C dL_isSound_761 16 rfl ?_
        refine X.conv bb ?_
        refine z_ldB C rfl dL_isSound_763 bd (fun r115 => ?_)
        refine z_iconst C dL_isSound_764 (v := 1) (by decide) ?_
        refine X.conv bb ?_
        refine z_ldI C dL_isSound_765 bd (fun x116 => ?_)
        refine z_aload C dL_isSound_766 9 rfl ?_
        refine z_iload C dL_isSound_768 10 rfl ?_
        refine X.conv bb ?_
        refine z_ldB C rfl dL_isSound_770 bd (fun r117 => ?_)
        refine z_iconst C dL_isSound_771 (v := 2) (by decide) ?_
        refine X.conv bb ?_
        refine z_ldI C dL_isSound_772 bd (fun x118 => ?_)
        refine z_bipush C dL_isSound_773 (v := 10) (by decide) ?_
        refine z_iadd C dL_isSound_775 ?_
        refine X.conv bi ?_
        refine z_icmp_gt C dL_isSound_776 (tgt := 801) rfl it jf ?_ ?_
        · refine z_iinc (L' := [(21, vI (u740_21 + 1)), (0, vR (some p740_0)), (1, vR p740_1), (2, vR p740_2), (3, vI p740_3), (8, vI p740_8), (9, vI p740_9), (10, vI p740_10), (11, vR (some p740_11)), (12, vR (some p740_12)), (13, vR (some p740_13)), (14, vI p740_14), (15, vI p740_15), (16, vI p740_16), (17, vI p740_17), (18, vI p740_18), (20, vI p740_20)]) C dL_isSound_801 16 rfl (v := u740_21 + 1) rfl (by decide) rfl ?_
          refine z_goto C dL_isSound_804 (tgt := 740) rfl ?_
          refine z_lsub [1, 2, 3, 4, 5, 6, 7, 8, 9, 10, 11, 12, 13, 14, 15, 16, 0] rfl ?_
          exact ih (u740_21 + 1)
        · refine z_aload C dL_isSound_779 9 rfl ?_
          refine z_iload C dL_isSound_781 16 rfl ?_
          refine X.conv bb ?_
          refine z_ldB C rfl dL_isSound_783 bd (fun r119 => ?_)
          refine z_iconst C dL_isSound_784 (v := 2) (by decide) ?_
          refine X.conv bb ?_
          refine z_ldI C dL_isSound_785 bd (fun x120 => ?_)
          refine z_aload C dL_isSound_786 9 rfl ?_
          refine z_iload C dL_isSound_788 10 rfl ?_
          refine X.conv bb ?_
          refine z_ldB C rfl dL_isSound_790 bd (fun r121 => ?_)
          refine z_iconst C dL_isSound_791 (v := 1) (by decide) ?_
          refine X.conv bb ?_
          refine z_ldI C dL_isSound_792 bd (fun x122 => ?_)
          refine z_bipush C dL_isSound_793 (v := 10) (by decide) ?_
          refine z_isub C dL_isSound_795 ?_
          refine X.conv bi ?_
          refine z_icmp_lt C dL_isSound_796 (tgt := 801) rfl it jf ?_ ?_
          · refine z_iinc (L' := [(21, vI (u740_21 + 1)), (0, vR (some p740_0)), (1, vR p740_1), (2, vR p740_2), (3, vI p740_3), (8, vI p740_8), (9, vI p740_9), (10, vI p740_10), (11, vR (some p740_11)), (12, vR (some p740_12)), (13, vR (some p740_13)), (14, vI p740_14), (15, vI p740_15), (16, vI p740_16), (17, vI p740_17), (18, vI p740_18), (20, vI p740_20)]) C dL_isSound_801 16 rfl (v := u740_21 + 1) rfl (by decide) rfl ?_
            refine z_goto C dL_isSound_804 (tgt := 740) rfl ?_
            refine z_lsub [1, 2, 3, 4, 5, 6, 7, 8, 9, 10, 11, 12, 13, 14, 15, 16, 0] rfl ?_
            exact ih (u740_21 + 1)
          · exact X.no no1
      · refine z_iinc (L' := [(21, vI (u740_21 + 1)), (0, vR (some p740_0)), (1, vR p740_1), (2, vR p740_2), (3, vI p740_3), (8, vI p740_8), (9, vI p740_9), (10, vI p740_10), (11, vR (some p740_11)), (12, vR (some p740_12)), (13, vR (some p740_13)), (14, vI p740_14), (15, vI p740_15), (16, vI p740_16), (17, vI p740_17), (18, vI p740_18), (20, vI p740_20)]) C dL_isSound_801 16 rfl (v := u740_21 + 1) rfl (by decide) rfl ?_
        refine z_goto C dL_isSound_804 (tgt := 740) rfl ?_
        refine z_lsub [1, 2, 3, 4, 5, 6, 7, 8, 9, 10, 11, 12, 13, 14, 15, 16, 0] rfl ?_
        exact ih (u740_21 + 1)
theorem k_L_isSound_L534 {Γ : GG} {β : Type} {fin0 : β} {F0 : (Int32 × Int32 × HP) → Option β} (C : CX Γ cL_isSound 22 "BlockdutyLaw" Pi2 ok2 26 675) (p534_0 : Nat) (p534_1 : Option Nat) (p534_2 : Option Nat) (p534_3 : Int32) (p534_8 : Int32) (p534_9 : Int32) (p534_10 : Int32) (p534_11 : Nat) (p534_12 : Nat) (p534_13 : Nat) (p534_15 : Int32) (p534_16 : Int32) (hexit : ∀ q534 : (Int32 × Int32 × HP), X Γ 842 [(0, vR (some p534_0)), (1, vR p534_1), (2, vR p534_2), (3, vI p534_3), (8, vI p534_8), (9, vI p534_9), (10, vI p534_10), (11, vR (some p534_11)), (12, vR (some p534_12)), (13, vR (some p534_13)), (14, vI q534.1), (15, vI p534_15), (16, vI p534_16), (17, vI q534.2.1)] [] q534.2.2 (F0 q534 = some fin0)) : ∀ (m534 : Nat) (u534_14 : Int32) (u534_17 : Int32) (u534_18 : Int32) (w534 : HP), X Γ 534 [(0, vR (some p534_0)), (1, vR p534_1), (2, vR p534_2), (3, vI p534_3), (8, vI p534_8), (9, vI p534_9), (10, vI p534_10), (11, vR (some p534_11)), (12, vR (some p534_12)), (13, vR (some p534_13)), (14, vI u534_14), (15, vI p534_15), (16, vI p534_16), (17, vI u534_17), (18, vI u534_18)] [] w534 ((f_L_isSound_L534 p534_0 p534_1 p534_2 p534_3 p534_8 p534_9 p534_10 p534_11 p534_12 p534_13 p534_15 p534_16 m534 u534_14 u534_17 u534_18 w534).bind F0 = some fin0) := by
  intro m534
  induction m534 with
  | zero =>
    intro u534_14 u534_17 u534_18 w534
    exact X.no no1
  | succ m534 ih =>
    intro u534_14 u534_17 u534_18 w534
    unfold f_L_isSound_L534
    refine z_iload C dL_isSound_534 14 rfl ?_
    refine z_aload_n C dL_isSound_536 rfl 0 rfl ?_
    refine z_iload C dL_isSound_537 11 rfl ?_
    refine z_iconst C dL_isSound_539 (v := 3) (by decide) ?_
    refine X.conv bb ?_
    refine z_rcv bd (fun b74 hbb74 htb74 => ?_)
    have heb74 := Option.some.inj hbb74
    subst heb74
    refine X.conv bb ?_
    refine z_callV C cf10 mf_X9_ofBlock kt680 kt681 kt679 (k_X9_ofBlock (gL Γ) p534_0 p534_15 3 w534 (gK Γ)) htb74 rfl ⟨Nat.le_of_ble_eq_true rfl, Nat.le_of_ble_eq_true rfl⟩ (rest := [vI u534_18]) rfl (Nat.le_of_ble_eq_true rfl) dL_isSound_540 (bdIg) (contIg fun v75 => ?_)
    refine X.conv bi ?_
    refine z_icmp_ge C dL_isSound_543 (tgt := 842) rfl it jf ?_ ?_
    · refine z_lsub [0, 1, 2, 3, 4, 5, 6, 7, 8, 9, 10, 11, 12, 13] rfl ?_
      exact hexit (u534_14, u534_17, v75.2)
    · refine z_aload_n C dL_isSound_546 rfl 0 rfl ?_
      refine z_iload C dL_isSound_547 11 rfl ?_
      refine z_iload C dL_isSound_549 14 rfl ?_
      refine z_iconst C dL_isSound_551 (v := 0) (by decide) ?_
      refine X.conv bb ?_
      refine z_rcv bd (fun b76 hbb76 htb76 => ?_)
      have heb76 := Option.some.inj hbb76
      subst heb76
      refine X.conv bb ?_
      refine z_callV C cf10 mf_X9_ofPiece kt821 kt822 kt1026 (k_X9_ofPiece (gL Γ) p534_0 p534_15 u534_18 0 v75.2 (gK Γ)) htb76 rfl ⟨Nat.le_of_ble_eq_true rfl, Nat.le_of_ble_eq_true rfl⟩ (rest := []) rfl (Nat.le_of_ble_eq_true rfl) dL_isSound_552 (bdIg) (contIg fun v77 => ?_)
      refine z_aload_n C dL_isSound_555 rfl 0 rfl ?_
      refine z_iload C dL_isSound_556 11 rfl ?_
      refine z_iload C dL_isSound_558 13 rfl ?_
      refine X.conv bb ?_
      refine z_rcv bd (fun b78 hbb78 htb78 => ?_)
      have heb78 := Option.some.inj hbb78
      subst heb78
      refine X.conv bb ?_
      refine z_callV C cf10 mf_X9_at kt931 kt932 kt930 (k_X9_at (gL Γ) p534_0 p534_15 u534_17 v77.2 (gK Γ)) htb78 rfl ⟨Nat.le_of_ble_eq_true rfl, Nat.le_of_ble_eq_true rfl⟩ (rest := [vI v77.1]) rfl (Nat.le_of_ble_eq_true rfl) dL_isSound_560 (bdI) (contI fun x79 => ?_)
      refine X.conv bi ?_
      refine z_icmp_eq C dL_isSound_563 (tgt := 568) rfl it jf ?_ ?_
      · refine z_iload C dL_isSound_568 13 rfl ?_
        refine z_aload_n C dL_isSound_570 rfl 0 rfl ?_
        refine z_iload C dL_isSound_571 11 rfl ?_
        refine z_iload C dL_isSound_573 14 rfl ?_
        refine z_iconst C dL_isSound_575 (v := 2) (by decide) ?_
        refine X.conv bb ?_
        refine z_rcv bd (fun b80 hbb80 htb80 => ?_)
        have heb80 := Option.some.inj hbb80
        subst heb80
        refine X.conv bb ?_
        refine z_callV C cf10 mf_X9_ofPiece kt821 kt822 kt1026 (k_X9_ofPiece (gL Γ) p534_0 p534_15 u534_18 2 v77.2 (gK Γ)) htb80 rfl ⟨Nat.le_of_ble_eq_true rfl, Nat.le_of_ble_eq_true rfl⟩ (rest := [vI u534_17]) rfl (Nat.le_of_ble_eq_true rfl) dL_isSound_576 (bdIg) (contIg fun v81 => ?_)
        refine z_iadd C dL_isSound_579 ?_
        refine z_istore (L' := [(17, vI (u534_17 + v81.1)), (0, vR (some p534_0)), (1, vR p534_1), (2, vR p534_2), (3, vI p534_3), (8, vI p534_8), (9, vI p534_9), (10, vI p534_10), (11, vR (some p534_11)), (12, vR (some p534_12)), (13, vR (some p534_13)), (14, vI u534_14), (15, vI p534_15), (16, vI p534_16), (18, vI u534_18)]) C dL_isSound_580 (by decide) rfl ?_
        refine z_aload_n C dL_isSound_582 rfl 1 rfl ?_
        refine z_iload C dL_isSound_583 12 rfl ?_
        refine z_iload C dL_isSound_585 14 rfl ?_
        refine z_iconst C dL_isSound_587 (v := 1) (by decide) ?_
        refine X.conv bb ?_
        refine z_rcv bd (fun b82 hbb82 htb82 => ?_)
        have heb82 := Option.some.inj hbb82
        subst heb82
        refine X.conv bb ?_
        refine z_callV C cf10 mf_X9_ofPiece kt821 kt822 kt1026 (k_X9_ofPiece (gL Γ) p534_0 p534_15 u534_18 1 v81.2 (gK Γ)) htb82 rfl ⟨Nat.le_of_ble_eq_true rfl, Nat.le_of_ble_eq_true rfl⟩ (rest := []) rfl (Nat.le_of_ble_eq_true rfl) dL_isSound_588 (bdIg) (contIg fun v83 => ?_)
        refine z_istore (L' := [(19, vI v83.1), (17, vI (u534_17 + v81.1)), (0, vR (some p534_0)), (1, vR p534_1), (2, vR p534_2), (3, vI p534_3), (8, vI p534_8), (9, vI p534_9), (10, vI p534_10), (11, vR (some p534_11)), (12, vR (some p534_12)), (13, vR (some p534_13)), (14, vI u534_14), (15, vI p534_15), (16, vI p534_16), (18, vI u534_18)]) C dL_isSound_591 (by decide) rfl ?_
        refine z_iload C dL_isSound_593 0 rfl ?_
        refine z_aload_n C dL_isSound_595 rfl 2 rfl ?_
        refine z_iload C dL_isSound_596 13 rfl ?_
        refine z_iload C dL_isSound_598 1 rfl ?_
        refine z_iconst C dL_isSound_600 (v := 1) (by decide) ?_
        refine z_isub C dL_isSound_601 ?_
        refine X.conv bb ?_
        refine z_rcv bd (fun b84 hbb84 htb84 => ?_)
        have heb84 := Option.some.inj hbb84
        subst heb84
        refine X.conv bb ?_
        refine z_callV C cf10 mf_X9_at kt931 kt932 kt930 (k_X9_at (gL Γ) p534_0 p534_15 ((u534_17 + v81.1) - 1) v83.2 (gK Γ)) htb84 rfl ⟨Nat.le_of_ble_eq_true rfl, Nat.le_of_ble_eq_true rfl⟩ (rest := [vI v83.1]) rfl (Nat.le_of_ble_eq_true rfl) dL_isSound_602 (bdI) (contI fun x85 => ?_)
        refine X.conv bi ?_
        refine z_icmp_ne C dL_isSound_605 (tgt := 676) rfl it jf ?_ ?_
        · refine z_iload C dL_isSound_608 1 rfl ?_
          refine z_iload C dL_isSound_610 14 rfl ?_
          refine X.conv bb ?_
          refine X.join (τ := HP) 627 (fun q89 => [(0, vR (some p534_0)), (1, vR p534_1), (2, vR p534_2), (3, vI p534_3), (8, vI p534_8), (9, vI p534_9), (10, vI p534_10), (11, vR (some p534_11)), (12, vR (some p534_12)), (13, vR (some p534_13)), (14, vI u534_14), (15, vI p534_15), (16, vI p534_16), (17, vI (u534_17 + v81.1)), (18, vI u534_18), (19, vI v83.1)]) (fun q89 => []) (fun q89 => q89) (fun q89 => ?_) (fun hj627 => ?_)
          · refine z_aload_n C dL_isSound_627 rfl 0 rfl ?_
            refine z_iload C dL_isSound_628 11 rfl ?_
            refine z_iload C dL_isSound_630 14 rfl ?_
            refine z_iconst C dL_isSound_632 (v := 3) (by decide) ?_
            refine X.conv bb ?_
            refine z_rcv bd (fun b90 hbb90 htb90 => ?_)
            have heb90 := Option.some.inj hbb90
            subst heb90
            refine X.conv bb ?_
            refine z_callV C cf10 mf_X9_ofPiece kt821 kt822 kt1026 (k_X9_ofPiece (gL Γ) p534_0 p534_15 u534_18 3 q89 (gK Γ)) htb90 rfl ⟨Nat.le_of_ble_eq_true rfl, Nat.le_of_ble_eq_true rfl⟩ (rest := []) rfl (Nat.le_of_ble_eq_true rfl) dL_isSound_633 (bdIg) (contIg fun v91 => ?_)
            refine z_aload_n C dL_isSound_636 rfl 0 rfl ?_
            refine z_iload C dL_isSound_637 15 rfl ?_
            refine z_iconst C dL_isSound_639 (v := 4) (by decide) ?_
            refine X.conv bb ?_
            refine z_rcv bd (fun b92 hbb92 htb92 => ?_)
            have heb92 := Option.some.inj hbb92
            subst heb92
            refine X.conv bb ?_
            refine z_callV C cf10 mf_X9_ofTrip kt632 kt633 kt631 (k_X9_ofTrip (gL Γ) p534_0 v83.1 4 v91.2 (gK Γ)) htb92 rfl ⟨Nat.le_of_ble_eq_true rfl, Nat.le_of_ble_eq_true rfl⟩ (rest := [vI v91.1]) rfl (Nat.le_of_ble_eq_true rfl) dL_isSound_640 (bdIg) (contIg fun v93 => ?_)
            refine z_aload_n C dL_isSound_643 rfl 0 rfl ?_
            refine z_aload_n C dL_isSound_644 rfl 0 rfl ?_
            refine z_iload C dL_isSound_645 11 rfl ?_
            refine z_iload C dL_isSound_647 14 rfl ?_
            refine z_iconst C dL_isSound_649 (v := 0) (by decide) ?_
            refine X.conv bb ?_
            refine z_rcv bd (fun b94 hbb94 htb94 => ?_)
            have heb94 := Option.some.inj hbb94
            subst heb94
            refine X.conv bb ?_
            refine z_callV C cf10 mf_X9_ofPiece kt821 kt822 kt1026 (k_X9_ofPiece (gL Γ) p534_0 p534_15 u534_18 0 v93.2 (gK Γ)) htb94 rfl ⟨Nat.le_of_ble_eq_true rfl, Nat.le_of_ble_eq_true rfl⟩ (rest := [vR (some p534_0), vI v93.1, vI v91.1]) rfl (Nat.le_of_ble_eq_true rfl) dL_isSound_650 (bdIg) (contIg fun v95 => ?_)
            refine z_iconst C dL_isSound_653 (v := 3) (by decide) ?_
            refine X.conv bb ?_
            refine z_rcv bd (fun b96 hbb96 htb96 => ?_)
            have heb96 := Option.some.inj hbb96
            subst heb96
            refine X.conv bb ?_
            refine z_callV C cf10 mf_X9_ofTrip kt632 kt633 kt631 (k_X9_ofTrip (gL Γ) p534_0 v95.1 3 v95.2 (gK Γ)) htb96 rfl ⟨Nat.le_of_ble_eq_true rfl, Nat.le_of_ble_eq_true rfl⟩ (rest := [vI v93.1, vI v91.1]) rfl (Nat.le_of_ble_eq_true rfl) dL_isSound_654 (bdIg) (contIg fun v97 => ?_)
            refine z_isub C dL_isSound_657 ?_
            refine X.conv bi ?_
            refine z_icmp_ne C dL_isSound_658 (tgt := 676) rfl it jf ?_ ?_
            · refine z_aload_n C dL_isSound_661 rfl 0 rfl ?_
              refine z_iload C dL_isSound_662 11 rfl ?_
              refine z_iload C dL_isSound_664 14 rfl ?_
              refine z_iconst C dL_isSound_666 (v := 3) (by decide) ?_
              refine X.conv bb ?_
              refine z_rcv bd (fun b98 hbb98 htb98 => ?_)
              have heb98 := Option.some.inj hbb98
              subst heb98
              refine X.conv bb ?_
              refine z_callV C cf10 mf_X9_ofPiece kt821 kt822 kt1026 (k_X9_ofPiece (gL Γ) p534_0 p534_15 u534_18 3 v97.2 (gK Γ)) htb98 rfl ⟨Nat.le_of_ble_eq_true rfl, Nat.le_of_ble_eq_true rfl⟩ (rest := []) rfl (Nat.le_of_ble_eq_true rfl) dL_isSound_667 (bdIg) (contIg fun v99 => ?_)
              refine z_sipush C dL_isSound_670 (v := 600) (by decide) ?_
              refine X.conv bi ?_
              refine z_icmp_le C dL_isSound_673 (tgt := 678) rfl it jf ?_ ?_
              · refine z_aload_n C dL_isSound_678 rfl 0 rfl ?_
                refine z_iload C dL_isSound_679 11 rfl ?_
                refine z_iload C dL_isSound_681 14 rfl ?_
                refine z_iconst C dL_isSound_683 (v := 4) (by decide) ?_
                refine X.conv bb ?_
                refine z_rcv bd (fun b100 hbb100 htb100 => ?_)
                have heb100 := Option.some.inj hbb100
                subst heb100
                refine X.conv bb ?_
                refine z_callV C cf10 mf_X9_ofPiece kt821 kt822 kt1026 (k_X9_ofPiece (gL Γ) p534_0 p534_15 u534_18 4 v99.2 (gK Γ)) htb100 rfl ⟨Nat.le_of_ble_eq_true rfl, Nat.le_of_ble_eq_true rfl⟩ (rest := []) rfl (Nat.le_of_ble_eq_true rfl) dL_isSound_684 (bdIg) (contIg fun v101 => ?_)
                refine z_istore (L' := [(20, vI v101.1), (0, vR (some p534_0)), (1, vR p534_1), (2, vR p534_2), (3, vI p534_3), (8, vI p534_8), (9, vI p534_9), (10, vI p534_10), (11, vR (some p534_11)), (12, vR (some p534_12)), (13, vR (some p534_13)), (14, vI u534_14), (15, vI p534_15), (16, vI p534_16), (17, vI (u534_17 + v81.1)), (18, vI u534_18), (19, vI v83.1)]) C dL_isSound_687 (by decide) rfl ?_
                refine z_iload C dL_isSound_689 0 rfl ?_
                refine X.conv bi ?_
                refine z_if_ge C dL_isSound_691 (tgt := 697) rfl it jf ?_ ?_
                · refine z_aload C dL_isSound_697 10 rfl ?_
                  refine z_iload C dL_isSound_699 11 rfl ?_
                  refine z_iconst C dL_isSound_701 (v := 3) (by decide) ?_
                  refine X.conv bb ?_
                  refine z_nwI (t := 20) C rfl (by decide) dL_isSound_702 arr20 bd (fun a102 => ?_)
                  refine z_dup C dL_isSound_704 rfl ?_
                  refine z_iconst C dL_isSound_705 (v := 0) (by decide) ?_
                  refine z_iload C dL_isSound_706 0 rfl ?_
                  refine X.conv bb ?_
                  refine z_stI C dL_isSound_708 bd (fun g103 => ?_)
                  refine z_dup C dL_isSound_709 rfl ?_
                  refine z_iconst C dL_isSound_710 (v := 1) (by decide) ?_
                  refine z_aload_n C dL_isSound_711 rfl 1 rfl ?_
                  refine z_aload_n C dL_isSound_712 rfl 1 rfl ?_
                  refine z_iload C dL_isSound_713 12 rfl ?_
                  refine z_iload C dL_isSound_715 15 rfl ?_
                  refine z_iconst C dL_isSound_717 (v := 0) (by decide) ?_
                  refine X.conv bb ?_
                  refine z_rcv bd (fun b104 hbb104 htb104 => ?_)
                  have heb104 := Option.some.inj hbb104
                  subst heb104
                  refine X.conv bb ?_
                  refine z_callV C cf10 mf_X9_ofPiece kt821 kt822 kt1026 (k_X9_ofPiece (gL Γ) p534_0 p534_15 u534_18 0 g103 (gK Γ)) htb104 rfl ⟨Nat.le_of_ble_eq_true rfl, Nat.le_of_ble_eq_true rfl⟩ (rest := [vR (some p534_0), vI 1, vR (some a102.1), vR (some a102.1), vI u534_14, vR (some p534_13)]) rfl (Nat.le_of_ble_eq_true rfl) dL_isSound_718 (bdIg) (contIg fun v105 => ?_)
                  refine z_iconst C dL_isSound_721 (v := 3) (by decide) ?_
                  refine X.conv bb ?_
                  refine z_rcv bd (fun b106 hbb106 htb106 => ?_)
                  have heb106 := Option.some.inj hbb106
                  subst heb106
                  refine X.conv bb ?_
                  refine z_callV C cf10 mf_X9_ofTrip kt632 kt633 kt631 (k_X9_ofTrip (gL Γ) p534_0 v105.1 3 v105.2 (gK Γ)) htb106 rfl ⟨Nat.le_of_ble_eq_true rfl, Nat.le_of_ble_eq_true rfl⟩ (rest := [vI 1, vR (some a102.1), vR (some a102.1), vI u534_14, vR (some p534_13)]) rfl (Nat.le_of_ble_eq_true rfl) dL_isSound_722 (bdIg) (contIg fun v107 => ?_)
                  refine X.conv bb ?_
                  refine z_stI C dL_isSound_725 bd (fun g108 => ?_)
                  refine z_dup C dL_isSound_726 rfl ?_
                  refine z_iconst C dL_isSound_727 (v := 2) (by decide) ?_
                  refine z_aload_n C dL_isSound_728 rfl 1 rfl ?_
                  refine z_iload C dL_isSound_729 16 rfl ?_
                  refine z_iconst C dL_isSound_731 (v := 4) (by decide) ?_
                  refine X.conv bb ?_
                  refine z_rcv bd (fun b109 hbb109 htb109 => ?_)
                  have heb109 := Option.some.inj hbb109
                  subst heb109
                  refine X.conv bb ?_
                  refine z_callV C cf10 mf_X9_ofTrip kt632 kt633 kt631 (k_X9_ofTrip (gL Γ) p534_0 v83.1 4 g108 (gK Γ)) htb109 rfl ⟨Nat.le_of_ble_eq_true rfl, Nat.le_of_ble_eq_true rfl⟩ (rest := [vI 2, vR (some a102.1), vR (some a102.1), vI u534_14, vR (some p534_13)]) rfl (Nat.le_of_ble_eq_true rfl) dL_isSound_732 (bdIg) (contIg fun v110 => ?_)
                  refine X.conv bb ?_
                  refine z_stI C dL_isSound_735 bd (fun g111 => ?_)
                  refine X.conv bb ?_
                  refine z_stB C rfl dL_isSound_736 bd (fun g112 => ?_)
                  refine z_iconst C dL_isSound_737 (v := 0) (by decide) ?_
                  refine z_istore (L' := [(21, vI 0), (20, vI v101.1), (0, vR (some p534_0)), (1, vR p534_1), (2, vR p534_2), (3, vI p534_3), (8, vI p534_8), (9, vI p534_9), (10, vI p534_10), (11, vR (some p534_11)), (12, vR (some p534_12)), (13, vR (some p534_13)), (14, vI u534_14), (15, vI p534_15), (16, vI p534_16), (17, vI (u534_17 + v81.1)), (18, vI u534_18), (19, vI v83.1)]) C dL_isSound_738 (by decide) rfl ?_
                  refine z_lsub [2, 3, 4, 5, 6, 7, 8, 9, 10, 11, 12, 13, 14, 15, 16, 1, 0] rfl ?_
                  refine X.conv bb ?_
                  refine k_L_isSound_L740 C p534_0 p534_1 p534_2 p534_3 p534_8 p534_9 p534_10 p534_11 p534_12 p534_13 u534_14 p534_15 p534_16 (u534_17 + v81.1) u534_18 v101.1 g112 (fun q123 => ?_) FU 0
                  refine z_iinc (L' := [(14, vI (u534_14 + 1)), (0, vR (some p534_0)), (1, vR p534_1), (2, vR p534_2), (3, vI p534_3), (8, vI p534_8), (9, vI p534_9), (10, vI p534_10), (11, vR (some p534_11)), (12, vR (some p534_12)), (13, vR (some p534_13)), (15, vI p534_15), (16, vI p534_16), (17, vI (u534_17 + v81.1)), (18, vI u534_18), (20, vI v101.1)]) C dL_isSound_807 10 rfl (v := u534_14 + 1) rfl (by decide) rfl ?_
                  refine z_aload C dL_isSound_810 8 rfl ?_
                  refine z_iload C dL_isSound_812 15 rfl ?_
                  refine z_dup2 C dL_isSound_814 rfl rfl ?_
                  refine X.conv bb ?_
                  refine z_ldI C dL_isSound_815 bd (fun x124 => ?_)
                  refine z_aload_n C dL_isSound_816 rfl 1 rfl ?_
                  refine z_iload C dL_isSound_817 11 rfl ?_
                  refine z_iload C dL_isSound_819 14 rfl ?_
                  refine z_iconst C dL_isSound_821 (v := 3) (by decide) ?_
                  refine X.conv bb ?_
                  refine z_rcv bd (fun b125 hbb125 htb125 => ?_)
                  have heb125 := Option.some.inj hbb125
                  subst heb125
                  refine X.conv bb ?_
                  refine z_callV C cf10 mf_X9_ofPiece kt821 kt822 kt1026 (k_X9_ofPiece (gL Γ) p534_0 p534_15 u534_18 3 g112 (gK Γ)) htb125 rfl ⟨Nat.le_of_ble_eq_true rfl, Nat.le_of_ble_eq_true rfl⟩ (rest := [vI x124, vI v101.1, vR (some p534_11)]) rfl (Nat.le_of_ble_eq_true rfl) dL_isSound_822 (bdIg) (contIg fun v126 => ?_)
                  refine z_iadd C dL_isSound_825 ?_
                  refine X.conv bb ?_
                  refine z_stI C dL_isSound_826 bd (fun g127 => ?_)
                  refine z_aload C dL_isSound_827 9 rfl ?_
                  refine z_iload C dL_isSound_829 15 rfl ?_
                  refine z_dup2 C dL_isSound_831 rfl rfl ?_
                  refine X.conv bb ?_
                  refine z_ldI C dL_isSound_832 bd (fun x128 => ?_)
                  refine z_iconst C dL_isSound_833 (v := 1) (by decide) ?_
                  refine z_iadd C dL_isSound_834 ?_
                  refine X.conv bb ?_
                  refine z_stI C dL_isSound_835 bd (fun g129 => ?_)
                  refine z_iinc (L' := [(18, vI (u534_18 + 1)), (14, vI (u534_14 + 1)), (0, vR (some p534_0)), (1, vR p534_1), (2, vR p534_2), (3, vI p534_3), (8, vI p534_8), (9, vI p534_9), (10, vI p534_10), (11, vR (some p534_11)), (12, vR (some p534_12)), (13, vR (some p534_13)), (15, vI p534_15), (16, vI p534_16), (17, vI (u534_17 + v81.1)), (20, vI v101.1)]) C dL_isSound_836 14 rfl (v := u534_18 + 1) rfl (by decide) rfl ?_
                  refine z_goto C dL_isSound_839 (tgt := 534) rfl ?_
                  refine z_lsub [2, 3, 4, 5, 6, 7, 8, 9, 10, 11, 1, 12, 13, 14, 0] rfl ?_
                  exact ih (u534_14 + 1) (u534_17 + v81.1) (u534_18 + 1) g129
                · refine z_goto C dL_isSound_694 (tgt := 836) rfl ?_
                  refine z_iinc (L' := [(18, vI (u534_18 + 1)), (20, vI v101.1), (0, vR (some p534_0)), (1, vR p534_1), (2, vR p534_2), (3, vI p534_3), (8, vI p534_8), (9, vI p534_9), (10, vI p534_10), (11, vR (some p534_11)), (12, vR (some p534_12)), (13, vR (some p534_13)), (14, vI u534_14), (15, vI p534_15), (16, vI p534_16), (17, vI (u534_17 + v81.1)), (19, vI v83.1)]) C dL_isSound_836 15 rfl (v := u534_18 + 1) rfl (by decide) rfl ?_
                  refine z_goto C dL_isSound_839 (tgt := 534) rfl ?_
                  refine z_lsub [2, 3, 4, 5, 6, 7, 8, 9, 10, 11, 12, 13, 14, 15, 0] rfl ?_
                  exact ih u534_14 (u534_17 + v81.1) (u534_18 + 1) v101.2
              · exact X.no no1
            · exact X.no no1
          · refine X.conv bi ?_
            refine z_icmp_ge C dL_isSound_612 (tgt := 627) rfl it jf ?_ ?_
            · refine z_lsub [2, 3, 4, 5, 6, 7, 8, 9, 10, 11, 12, 13, 14, 1, 15, 0] rfl ?_
              exact hj627 v83.2
            · refine z_aload_n C dL_isSound_615 rfl 4 rfl ?_
              refine z_aload_n C dL_isSound_616 rfl 2 rfl ?_
              refine z_iload C dL_isSound_617 0 rfl ?_
              refine z_iconst C dL_isSound_619 (v := 2) (by decide) ?_
              refine X.conv bb ?_
              refine z_rcv bd (fun b86 hbb86 htb86 => ?_)
              have heb86 := Option.some.inj hbb86
              subst heb86
              refine X.conv bb ?_
              refine z_callV C cf10 mf_X9_ofTrip kt632 kt633 kt631 (k_X9_ofTrip (gL Γ) p534_0 v83.1 2 v83.2 (gK Γ)) htb86 rfl ⟨Nat.le_of_ble_eq_true rfl, Nat.le_of_ble_eq_true rfl⟩ (rest := [vR p534_2]) rfl (Nat.le_of_ble_eq_true rfl) dL_isSound_620 (bdIg) (contIg fun v87 => ?_)
              refine X.conv bb ?_
              refine z_ldZ C dL_isSound_623 bd (fun x88 => ?_)
              refine X.conv bi ?_
              refine z_if_eq C dL_isSound_624 (tgt := 676) rfl it jf ?_ ?_
              · exact X.no no1
              · refine z_lsub [2, 3, 4, 5, 6, 7, 8, 9, 10, 11, 12, 13, 14, 1, 15, 0] rfl ?_
                exact hj627 v87.2
        · exact X.no no1
      · exact X.no no1
theorem k_L_isSound_L354 {Γ : GG} {β : Type} {fin0 : β} {F0 : (Int32 × Int32 × HP) → Option β} (C : CX Γ cL_isSound 22 "BlockdutyLaw" Pi2 ok2 26 675) (p354_0 : Nat) (p354_1 : Option Nat) (p354_2 : Option Nat) (p354_3 : Int32) (p354_8 : Int32) (p354_11 : Nat) (p354_12 : Nat) (p354_13 : Nat) (hexit : ∀ q354 : (Int32 × Int32 × HP), X Γ 867 [(0, vR (some p354_0)), (3, vI p354_3), (8, vI p354_8), (9, vI q354.1), (10, vI q354.2.1), (11, vR (some p354_11)), (12, vR (some p354_12))] [] q354.2.2 (F0 q354 = some fin0)) : ∀ (m354 : Nat) (u354_9 : Int32) (u354_10 : Int32) (u354_14 : Int32) (u354_15 : Int32) (w354 : HP), X Γ 354 [(0, vR (some p354_0)), (1, vR p354_1), (2, vR p354_2), (3, vI p354_3), (8, vI p354_8), (9, vI u354_9), (10, vI u354_10), (11, vR (some p354_11)), (12, vR (some p354_12)), (13, vR (some p354_13)), (14, vI u354_14), (15, vI u354_15)] [] w354 ((f_L_isSound_L354 p354_0 p354_1 p354_2 p354_3 p354_8 p354_11 p354_12 p354_13 m354 u354_9 u354_10 u354_14 u354_15 w354).bind F0 = some fin0) := by
  intro m354
  induction m354 with
  | zero =>
    intro u354_9 u354_10 u354_14 u354_15 w354
    exact X.no no1
  | succ m354 ih =>
    intro u354_9 u354_10 u354_14 u354_15 w354
    unfold f_L_isSound_L354
    refine z_iload C dL_isSound_354 11 rfl ?_
    refine z_aload_n C dL_isSound_356 rfl 0 rfl ?_
    refine z_iconst C dL_isSound_357 (v := 1) (by decide) ?_
    refine X.conv bb ?_
    refine z_rcv bd (fun b47 hbb47 htb47 => ?_)
    have heb47 := Option.some.inj hbb47
    subst heb47
    refine X.conv bb ?_
    refine z_callV C cf10 mf_X9_many kt737 kt738 kt736 (k_X9_many (gL Γ) p354_0 1 w354 (gK Γ)) htb47 rfl ⟨Nat.le_of_ble_eq_true rfl, Nat.le_of_ble_eq_true rfl⟩ (rest := [vI u354_15]) rfl (Nat.le_of_ble_eq_true rfl) dL_isSound_358 (bdIg) (contIg fun v48 => ?_)
    refine X.conv bi ?_
    refine z_icmp_ge C dL_isSound_361 (tgt := 867) rfl it jf ?_ ?_
    · refine z_lsub [0, 3, 4, 5, 6, 7, 8] rfl ?_
      exact hexit (u354_9, u354_10, v48.2)
    · refine z_aload_n C dL_isSound_364 rfl 0 rfl ?_
      refine z_iload C dL_isSound_365 11 rfl ?_
      refine z_iconst C dL_isSound_367 (v := 1) (by decide) ?_
      refine X.conv bb ?_
      refine z_rcv bd (fun b49 hbb49 htb49 => ?_)
      have heb49 := Option.some.inj hbb49
      subst heb49
      refine X.conv bb ?_
      refine z_callV C cf10 mf_X9_ofBlock kt680 kt681 kt679 (k_X9_ofBlock (gL Γ) p354_0 u354_15 1 v48.2 (gK Γ)) htb49 rfl ⟨Nat.le_of_ble_eq_true rfl, Nat.le_of_ble_eq_true rfl⟩ (rest := []) rfl (Nat.le_of_ble_eq_true rfl) dL_isSound_368 (bdIg) (contIg fun v50 => ?_)
      refine z_istore (L' := [(16, vI v50.1), (0, vR (some p354_0)), (1, vR p354_1), (2, vR p354_2), (3, vI p354_3), (8, vI p354_8), (9, vI u354_9), (10, vI u354_10), (11, vR (some p354_11)), (12, vR (some p354_12)), (13, vR (some p354_13)), (14, vI u354_14), (15, vI u354_15)]) C dL_isSound_371 (by decide) rfl ?_
      refine z_iload C dL_isSound_373 6 rfl ?_
      refine z_iload C dL_isSound_375 0 rfl ?_
      refine X.conv bb ?_
      refine X.join (τ := Int32) 385 (fun q51 => [(0, vR (some p354_0)), (1, vR p354_1), (2, vR p354_2), (3, vI p354_3), (8, vI p354_8), (10, vI u354_10), (11, vR (some p354_11)), (12, vR (some p354_12)), (13, vR (some p354_13)), (14, vI u354_14), (15, vI u354_15), (16, vI v50.1)]) (fun q51 => [vI q51, vI u354_9]) (fun q51 => v50.2) (fun q51 => ?_) (fun hj385 => ?_)
      · refine z_iadd C dL_isSound_385 ?_
        refine z_istore (L' := [(9, vI (u354_9 + q51)), (0, vR (some p354_0)), (1, vR p354_1), (2, vR p354_2), (3, vI p354_3), (8, vI p354_8), (10, vI u354_10), (11, vR (some p354_11)), (12, vR (some p354_12)), (13, vR (some p354_13)), (14, vI u354_14), (15, vI u354_15), (16, vI v50.1)]) C dL_isSound_386 (by decide) rfl ?_
        refine z_iload C dL_isSound_388 6 rfl ?_
        refine z_iload C dL_isSound_390 12 rfl ?_
        refine z_iadd C dL_isSound_392 ?_
        refine z_istore (L' := [(10, vI (u354_10 + v50.1)), (9, vI (u354_9 + q51)), (0, vR (some p354_0)), (1, vR p354_1), (2, vR p354_2), (3, vI p354_3), (8, vI p354_8), (11, vR (some p354_11)), (12, vR (some p354_12)), (13, vR (some p354_13)), (14, vI u354_14), (15, vI u354_15), (16, vI v50.1)]) C dL_isSound_393 (by decide) rfl ?_
        refine z_iconst C dL_isSound_395 (v := 0) (by decide) ?_
        refine z_istore (L' := [(17, vI 0), (10, vI (u354_10 + v50.1)), (9, vI (u354_9 + q51)), (0, vR (some p354_0)), (1, vR p354_1), (2, vR p354_2), (3, vI p354_3), (8, vI p354_8), (11, vR (some p354_11)), (12, vR (some p354_12)), (13, vR (some p354_13)), (14, vI u354_14), (15, vI u354_15), (16, vI v50.1)]) C dL_isSound_396 (by decide) rfl ?_
        refine z_lsub [3, 4, 5, 6, 7, 2, 1, 8, 9, 10, 11, 12, 13, 0] rfl ?_
        refine X.conv bb ?_
        refine k_L_isSound_L398 C p354_0 p354_1 p354_2 p354_3 p354_8 (u354_9 + q51) (u354_10 + v50.1) p354_11 p354_12 p354_13 u354_14 u354_15 v50.1 (fun q61 => ?_) FU 0 v50.2
        refine z_aload_n C dL_isSound_463 rfl 0 rfl ?_
        refine z_iload C dL_isSound_464 11 rfl ?_
        refine z_iload C dL_isSound_466 12 rfl ?_
        refine X.conv bb ?_
        refine z_rcv bd (fun b62 hbb62 htb62 => ?_)
        have heb62 := Option.some.inj hbb62
        subst heb62
        refine X.conv bb ?_
        refine z_callV C cf10 mf_X9_at kt931 kt932 kt930 (k_X9_at (gL Γ) p354_0 u354_15 v50.1 q61 (gK Γ)) htb62 rfl ⟨Nat.le_of_ble_eq_true rfl, Nat.le_of_ble_eq_true rfl⟩ (rest := []) rfl (Nat.le_of_ble_eq_true rfl) dL_isSound_468 (bdI) (contI fun x63 => ?_)
        refine z_iconst C dL_isSound_471 (v := (-1)) (by decide) ?_
        refine X.conv bi ?_
        refine z_icmp_ne C dL_isSound_472 (tgt := 526) rfl it jf ?_ ?_
        · refine z_aload_n C dL_isSound_475 rfl 0 rfl ?_
          refine z_iload C dL_isSound_476 11 rfl ?_
          refine z_iconst C dL_isSound_478 (v := 4) (by decide) ?_
          refine X.conv bb ?_
          refine z_rcv bd (fun b64 hbb64 htb64 => ?_)
          have heb64 := Option.some.inj hbb64
          subst heb64
          refine X.conv bb ?_
          refine z_callV C cf10 mf_X9_ofBlock kt680 kt681 kt679 (k_X9_ofBlock (gL Γ) p354_0 u354_15 4 q61 (gK Γ)) htb64 rfl ⟨Nat.le_of_ble_eq_true rfl, Nat.le_of_ble_eq_true rfl⟩ (rest := []) rfl (Nat.le_of_ble_eq_true rfl) dL_isSound_479 (bdIg) (contIg fun v65 => ?_)
          refine z_iconst C dL_isSound_482 (v := 1) (by decide) ?_
          refine X.conv bb ?_
          refine X.join (τ := Int32) 491 (fun q66 => [(0, vR (some p354_0)), (1, vR p354_1), (2, vR p354_2), (3, vI p354_3), (8, vI p354_8), (9, vI (u354_9 + q51)), (10, vI (u354_10 + v50.1)), (11, vR (some p354_11)), (12, vR (some p354_12)), (13, vR (some p354_13)), (14, vI u354_14), (15, vI u354_15), (16, vI v50.1)]) (fun q66 => [vI q66]) (fun q66 => v65.2) (fun q66 => ?_) (fun hj491 => ?_)
          · refine z_aload_n C dL_isSound_491 rfl 0 rfl ?_
            refine z_iload C dL_isSound_492 11 rfl ?_
            refine z_iconst C dL_isSound_494 (v := 5) (by decide) ?_
            refine X.conv bb ?_
            refine z_rcv bd (fun b67 hbb67 htb67 => ?_)
            have heb67 := Option.some.inj hbb67
            subst heb67
            refine X.conv bb ?_
            refine z_callV C cf10 mf_X9_ofBlock kt680 kt681 kt679 (k_X9_ofBlock (gL Γ) p354_0 u354_15 5 v65.2 (gK Γ)) htb67 rfl ⟨Nat.le_of_ble_eq_true rfl, Nat.le_of_ble_eq_true rfl⟩ (rest := [vI q66]) rfl (Nat.le_of_ble_eq_true rfl) dL_isSound_495 (bdIg) (contIg fun v68 => ?_)
            refine X.conv bb ?_
            refine X.join (τ := Int32) 506 (fun q69 => [(0, vR (some p354_0)), (1, vR p354_1), (2, vR p354_2), (3, vI p354_3), (8, vI p354_8), (9, vI (u354_9 + q51)), (10, vI (u354_10 + v50.1)), (11, vR (some p354_11)), (12, vR (some p354_12)), (13, vR (some p354_13)), (14, vI u354_14), (15, vI u354_15), (16, vI v50.1)]) (fun q69 => [vI q69, vI q66]) (fun q69 => v68.2) (fun q69 => ?_) (fun hj506 => ?_)
            · refine X.conv bi ?_
              refine z_icmp_ne C dL_isSound_506 (tgt := 526) rfl it jf ?_ ?_
              · refine z_aload_n C dL_isSound_509 rfl 0 rfl ?_
                refine z_iload C dL_isSound_510 11 rfl ?_
                refine z_iconst C dL_isSound_512 (v := 5) (by decide) ?_
                refine X.conv bb ?_
                refine z_rcv bd (fun b70 hbb70 htb70 => ?_)
                have heb70 := Option.some.inj hbb70
                subst heb70
                refine X.conv bb ?_
                refine z_callV C cf10 mf_X9_ofBlock kt680 kt681 kt679 (k_X9_ofBlock (gL Γ) p354_0 u354_15 5 v68.2 (gK Γ)) htb70 rfl ⟨Nat.le_of_ble_eq_true rfl, Nat.le_of_ble_eq_true rfl⟩ (rest := []) rfl (Nat.le_of_ble_eq_true rfl) dL_isSound_513 (bdIg) (contIg fun v71 => ?_)
                refine z_aload_n C dL_isSound_516 rfl 0 rfl ?_
                refine z_iload C dL_isSound_517 11 rfl ?_
                refine z_iconst C dL_isSound_519 (v := 0) (by decide) ?_
                refine X.conv bb ?_
                refine z_rcv bd (fun b72 hbb72 htb72 => ?_)
                have heb72 := Option.some.inj hbb72
                subst heb72
                refine X.conv bb ?_
                refine z_callV C cf10 mf_X9_ofBlock kt680 kt681 kt679 (k_X9_ofBlock (gL Γ) p354_0 u354_15 0 v71.2 (gK Γ)) htb72 rfl ⟨Nat.le_of_ble_eq_true rfl, Nat.le_of_ble_eq_true rfl⟩ (rest := [vI v71.1]) rfl (Nat.le_of_ble_eq_true rfl) dL_isSound_520 (bdIg) (contIg fun v73 => ?_)
                refine X.conv bi ?_
                refine z_icmp_le C dL_isSound_523 (tgt := 528) rfl it jf ?_ ?_
                · refine z_iconst C dL_isSound_528 (v := 0) (by decide) ?_
                  refine z_istore (L' := [(17, vI 0), (0, vR (some p354_0)), (1, vR p354_1), (2, vR p354_2), (3, vI p354_3), (8, vI p354_8), (9, vI (u354_9 + q51)), (10, vI (u354_10 + v50.1)), (11, vR (some p354_11)), (12, vR (some p354_12)), (13, vR (some p354_13)), (14, vI u354_14), (15, vI u354_15), (16, vI v50.1)]) C dL_isSound_529 (by decide) rfl ?_
                  refine z_iconst C dL_isSound_531 (v := 0) (by decide) ?_
                  refine z_istore (L' := [(18, vI 0), (17, vI 0), (0, vR (some p354_0)), (1, vR p354_1), (2, vR p354_2), (3, vI p354_3), (8, vI p354_8), (9, vI (u354_9 + q51)), (10, vI (u354_10 + v50.1)), (11, vR (some p354_11)), (12, vR (some p354_12)), (13, vR (some p354_13)), (14, vI u354_14), (15, vI u354_15), (16, vI v50.1)]) C dL_isSound_532 (by decide) rfl ?_
                  refine z_lsub [2, 3, 4, 5, 6, 7, 8, 9, 10, 11, 12, 13, 14, 1, 0] rfl ?_
                  refine X.conv bb ?_
                  refine k_L_isSound_L534 C p354_0 p354_1 p354_2 p354_3 p354_8 (u354_9 + q51) (u354_10 + v50.1) p354_11 p354_12 p354_13 u354_15 v50.1 (fun q130 => ?_) FU u354_14 0 0 v73.2
                  refine z_aload_n C dL_isSound_842 rfl 0 rfl ?_
                  refine z_iload C dL_isSound_843 11 rfl ?_
                  refine z_iconst C dL_isSound_845 (v := 3) (by decide) ?_
                  refine X.conv bb ?_
                  refine z_rcv bd (fun b131 hbb131 htb131 => ?_)
                  have heb131 := Option.some.inj hbb131
                  subst heb131
                  refine X.conv bb ?_
                  refine z_callV C cf10 mf_X9_ofBlock kt680 kt681 kt679 (k_X9_ofBlock (gL Γ) p354_0 u354_15 3 q130.2.2 (gK Γ)) htb131 rfl ⟨Nat.le_of_ble_eq_true rfl, Nat.le_of_ble_eq_true rfl⟩ (rest := []) rfl (Nat.le_of_ble_eq_true rfl) dL_isSound_846 (bdIg) (contIg fun v132 => ?_)
                  refine X.conv bi ?_
                  refine z_if_le C dL_isSound_849 (tgt := 861) rfl it jf ?_ ?_
                  · refine z_iinc (L' := [(15, vI (u354_15 + 1)), (0, vR (some p354_0)), (1, vR p354_1), (2, vR p354_2), (3, vI p354_3), (8, vI p354_8), (9, vI (u354_9 + q51)), (10, vI (u354_10 + v50.1)), (11, vR (some p354_11)), (12, vR (some p354_12)), (13, vR (some p354_13)), (14, vI q130.1), (16, vI v50.1), (17, vI q130.2.1)]) C dL_isSound_861 11 rfl (v := u354_15 + 1) rfl (by decide) rfl ?_
                    refine z_goto C dL_isSound_864 (tgt := 354) rfl ?_
                    refine z_lsub [1, 2, 3, 4, 5, 6, 7, 8, 9, 10, 11, 0] rfl ?_
                    exact ih (u354_9 + q51) (u354_10 + v50.1) q130.1 (u354_15 + 1) v132.2
                  · refine z_iload C dL_isSound_852 13 rfl ?_
                    refine z_iload C dL_isSound_854 12 rfl ?_
                    refine X.conv bi ?_
                    refine z_icmp_eq C dL_isSound_856 (tgt := 861) rfl it jf ?_ ?_
                    · refine z_iinc (L' := [(15, vI (u354_15 + 1)), (0, vR (some p354_0)), (1, vR p354_1), (2, vR p354_2), (3, vI p354_3), (8, vI p354_8), (9, vI (u354_9 + q51)), (10, vI (u354_10 + v50.1)), (11, vR (some p354_11)), (12, vR (some p354_12)), (13, vR (some p354_13)), (14, vI q130.1), (16, vI v50.1), (17, vI q130.2.1)]) C dL_isSound_861 11 rfl (v := u354_15 + 1) rfl (by decide) rfl ?_
                      refine z_goto C dL_isSound_864 (tgt := 354) rfl ?_
                      refine z_lsub [1, 2, 3, 4, 5, 6, 7, 8, 9, 10, 11, 0] rfl ?_
                      exact ih (u354_9 + q51) (u354_10 + v50.1) q130.1 (u354_15 + 1) v132.2
                    · exact X.no no1
                · exact X.no no1
              · exact X.no no1
            · refine X.conv bi ?_
              refine z_if_ge C dL_isSound_498 (tgt := 505) rfl it jf ?_ ?_
              · refine z_iconst C dL_isSound_505 (v := 0) (by decide) ?_
                refine z_lsub [0, 1, 2, 3, 4, 5, 6, 7, 8, 9, 10, 11, 12] rfl ?_
                exact hj506 (0 : Int32)
              · refine z_iconst C dL_isSound_501 (v := 1) (by decide) ?_
                refine z_goto C dL_isSound_502 (tgt := 506) rfl ?_
                refine z_lsub [0, 1, 2, 3, 4, 5, 6, 7, 8, 9, 10, 11, 12] rfl ?_
                exact hj506 (1 : Int32)
          · refine X.conv bi ?_
            refine z_icmp_ne C dL_isSound_483 (tgt := 490) rfl it jf ?_ ?_
            · refine z_iconst C dL_isSound_486 (v := 1) (by decide) ?_
              refine z_goto C dL_isSound_487 (tgt := 491) rfl ?_
              refine z_lsub [0, 1, 2, 3, 4, 5, 6, 7, 8, 9, 10, 11, 12] rfl ?_
              exact hj491 (1 : Int32)
            · refine z_iconst C dL_isSound_490 (v := 0) (by decide) ?_
              refine z_lsub [0, 1, 2, 3, 4, 5, 6, 7, 8, 9, 10, 11, 12] rfl ?_
              exact hj491 (0 : Int32)
        · exact X.no no1
      · refine X.conv bi ?_
        refine z_if_le C dL_isSound_377 (tgt := 384) rfl it jf ?_ ?_
        · refine z_iconst C dL_isSound_384 (v := 0) (by decide) ?_
          refine z_lsub [1, 2, 3, 4, 5, 7, 8, 9, 10, 11, 12, 0] rfl ?_
          exact hj385 (0 : Int32)
        · refine z_iconst C dL_isSound_380 (v := 1) (by decide) ?_
          refine z_goto C dL_isSound_381 (tgt := 385) rfl ?_
          refine z_lsub [1, 2, 3, 4, 5, 7, 8, 9, 10, 11, 12, 0] rfl ?_
          exact hj385 (1 : Int32)
theorem k_L_isSound_L873 {Γ : GG} {β : Type} {fin0 : β} {F0 : (Int32 × HP) → Option β} (C : CX Γ cL_isSound 22 "BlockdutyLaw" Pi2 ok2 26 675) (p873_0 : Nat) (p873_3 : Int32) (p873_8 : Int32) (p873_9 : Int32) (p873_10 : Int32) (p873_11 : Nat) (p873_12 : Nat) (hexit : ∀ q873 : (Int32 × HP), X Γ 961 [(0, vR (some p873_0)), (3, vI p873_3), (8, vI p873_8), (9, vI p873_9), (10, vI p873_10), (15, vI q873.1)] [] q873.2 (F0 q873 = some fin0)) : ∀ (m873 : Nat) (u873_15 : Int32) (u873_16 : Int32) (w873 : HP), X Γ 873 [(0, vR (some p873_0)), (3, vI p873_3), (8, vI p873_8), (9, vI p873_9), (10, vI p873_10), (11, vR (some p873_11)), (12, vR (some p873_12)), (15, vI u873_15), (16, vI u873_16)] [] w873 ((f_L_isSound_L873 p873_0 p873_3 p873_8 p873_9 p873_10 p873_11 p873_12 m873 u873_15 u873_16 w873).bind F0 = some fin0) := by
  intro m873
  induction m873 with
  | zero =>
    intro u873_15 u873_16 w873
    exact X.no no1
  | succ m873 ih =>
    intro u873_15 u873_16 w873
    unfold f_L_isSound_L873
    refine z_iload C dL_isSound_873 8 rfl ?_
    refine z_iconst C dL_isSound_875 (v := 4) (by decide) ?_
    refine X.conv bi ?_
    refine z_icmp_ge C dL_isSound_876 (tgt := 961) rfl it jf ?_ ?_
    · refine z_lsub [0, 1, 2, 3, 4, 7] rfl ?_
      exact hexit (u873_15, w873)
    · refine z_aload_n C dL_isSound_879 rfl 0 rfl ?_
      refine z_iload C dL_isSound_880 8 rfl ?_
      refine z_iconst C dL_isSound_882 (v := 0) (by decide) ?_
      refine X.conv bb ?_
      refine z_rcv bd (fun b134 hbb134 htb134 => ?_)
      have heb134 := Option.some.inj hbb134
      subst heb134
      refine X.conv bb ?_
      refine z_callV C cf10 mf_X9_ofDriver kt705 kt706 kt704 (k_X9_ofDriver (gL Γ) p873_0 u873_16 0 w873 (gK Γ)) htb134 rfl ⟨Nat.le_of_ble_eq_true rfl, Nat.le_of_ble_eq_true rfl⟩ (rest := []) rfl (Nat.le_of_ble_eq_true rfl) dL_isSound_883 (bdIg) (contIg fun v135 => ?_)
      refine z_aload C dL_isSound_886 6 rfl ?_
      refine z_iload C dL_isSound_888 8 rfl ?_
      refine X.conv bb ?_
      refine z_ldI C dL_isSound_890 bd (fun x136 => ?_)
      refine X.conv bi ?_
      refine z_icmp_ne C dL_isSound_891 (tgt := 941) rfl it jf ?_ ?_
      · refine z_aload_n C dL_isSound_894 rfl 0 rfl ?_
        refine z_iload C dL_isSound_895 8 rfl ?_
        refine z_iconst C dL_isSound_897 (v := 1) (by decide) ?_
        refine X.conv bb ?_
        refine z_rcv bd (fun b137 hbb137 htb137 => ?_)
        have heb137 := Option.some.inj hbb137
        subst heb137
        refine X.conv bb ?_
        refine z_callV C cf10 mf_X9_ofDriver kt705 kt706 kt704 (k_X9_ofDriver (gL Γ) p873_0 u873_16 1 v135.2 (gK Γ)) htb137 rfl ⟨Nat.le_of_ble_eq_true rfl, Nat.le_of_ble_eq_true rfl⟩ (rest := []) rfl (Nat.le_of_ble_eq_true rfl) dL_isSound_898 (bdIg) (contIg fun v138 => ?_)
        refine z_aload C dL_isSound_901 5 rfl ?_
        refine z_iload C dL_isSound_903 8 rfl ?_
        refine X.conv bb ?_
        refine z_ldI C dL_isSound_905 bd (fun x139 => ?_)
        refine X.conv bi ?_
        refine z_icmp_ne C dL_isSound_906 (tgt := 941) rfl it jf ?_ ?_
        · refine z_aload C dL_isSound_909 5 rfl ?_
          refine z_iload C dL_isSound_911 8 rfl ?_
          refine X.conv bb ?_
          refine z_ldI C dL_isSound_913 bd (fun x140 => ?_)
          refine z_sipush C dL_isSound_914 (v := 600) (by decide) ?_
          refine X.conv bi ?_
          refine z_icmp_gt C dL_isSound_917 (tgt := 941) rfl it jf ?_ ?_
          · exact X.no no1
          · refine z_aload_n C dL_isSound_920 rfl 0 rfl ?_
            refine z_iload C dL_isSound_921 8 rfl ?_
            refine z_iconst C dL_isSound_923 (v := 2) (by decide) ?_
            refine X.conv bb ?_
            refine z_rcv bd (fun b141 hbb141 htb141 => ?_)
            have heb141 := Option.some.inj hbb141
            subst heb141
            refine X.conv bb ?_
            refine z_callV C cf10 mf_X9_ofDriver kt705 kt706 kt704 (k_X9_ofDriver (gL Γ) p873_0 u873_16 2 v138.2 (gK Γ)) htb141 rfl ⟨Nat.le_of_ble_eq_true rfl, Nat.le_of_ble_eq_true rfl⟩ (rest := []) rfl (Nat.le_of_ble_eq_true rfl) dL_isSound_924 (bdIg) (contIg fun v142 => ?_)
            refine z_iconst C dL_isSound_927 (v := 1) (by decide) ?_
            refine X.conv bb ?_
            refine X.join (τ := HP) 943 (fun q145 => [(0, vR (some p873_0)), (3, vI p873_3), (8, vI p873_8), (9, vI p873_9), (10, vI p873_10), (11, vR (some p873_11)), (12, vR (some p873_12)), (15, vI u873_15), (16, vI u873_16)]) (fun q145 => []) (fun q145 => q145) (fun q145 => ?_) (fun hj943 => ?_)
            · refine z_iload C dL_isSound_943 7 rfl ?_
              refine z_aload_n C dL_isSound_945 rfl 0 rfl ?_
              refine z_iload C dL_isSound_946 8 rfl ?_
              refine z_iconst C dL_isSound_948 (v := 4) (by decide) ?_
              refine X.conv bb ?_
              refine z_rcv bd (fun b146 hbb146 htb146 => ?_)
              have heb146 := Option.some.inj hbb146
              subst heb146
              refine X.conv bb ?_
              refine z_callV C cf10 mf_X9_ofDriver kt705 kt706 kt704 (k_X9_ofDriver (gL Γ) p873_0 u873_16 4 q145 (gK Γ)) htb146 rfl ⟨Nat.le_of_ble_eq_true rfl, Nat.le_of_ble_eq_true rfl⟩ (rest := [vI u873_15]) rfl (Nat.le_of_ble_eq_true rfl) dL_isSound_949 (bdIg) (contIg fun v147 => ?_)
              refine z_iadd C dL_isSound_952 ?_
              refine z_istore (L' := [(15, vI (u873_15 + v147.1)), (0, vR (some p873_0)), (3, vI p873_3), (8, vI p873_8), (9, vI p873_9), (10, vI p873_10), (11, vR (some p873_11)), (12, vR (some p873_12)), (16, vI u873_16)]) C dL_isSound_953 (by decide) rfl ?_
              refine z_iinc (L' := [(16, vI (u873_16 + 1)), (15, vI (u873_15 + v147.1)), (0, vR (some p873_0)), (3, vI p873_3), (8, vI p873_8), (9, vI p873_9), (10, vI p873_10), (11, vR (some p873_11)), (12, vR (some p873_12))]) C dL_isSound_955 8 rfl (v := u873_16 + 1) rfl (by decide) rfl ?_
              refine z_goto C dL_isSound_958 (tgt := 873) rfl ?_
              refine z_lsub [2, 3, 4, 5, 6, 7, 8, 1, 0] rfl ?_
              exact ih (u873_15 + v147.1) (u873_16 + 1) v147.2
            · refine X.conv bi ?_
              refine z_icmp_ne C dL_isSound_928 (tgt := 943) rfl it jf ?_ ?_
              · refine z_aload_n C dL_isSound_931 rfl 0 rfl ?_
                refine z_iload C dL_isSound_932 8 rfl ?_
                refine z_iconst C dL_isSound_934 (v := 3) (by decide) ?_
                refine X.conv bb ?_
                refine z_rcv bd (fun b143 hbb143 htb143 => ?_)
                have heb143 := Option.some.inj hbb143
                subst heb143
                refine X.conv bb ?_
                refine z_callV C cf10 mf_X9_ofDriver kt705 kt706 kt704 (k_X9_ofDriver (gL Γ) p873_0 u873_16 3 v142.2 (gK Γ)) htb143 rfl ⟨Nat.le_of_ble_eq_true rfl, Nat.le_of_ble_eq_true rfl⟩ (rest := []) rfl (Nat.le_of_ble_eq_true rfl) dL_isSound_935 (bdIg) (contIg fun v144 => ?_)
                refine X.conv bi ?_
                refine z_if_le C dL_isSound_938 (tgt := 943) rfl it jf ?_ ?_
                · refine z_lsub [0, 1, 2, 3, 4, 5, 6, 7, 8] rfl ?_
                  exact hj943 v144.2
                · exact X.no no1
              · refine z_lsub [0, 1, 2, 3, 4, 5, 6, 7, 8] rfl ?_
                exact hj943 v142.2
        · exact X.no no1
      · exact X.no no1
theorem k_L_isSound (l : Launch) (s1 : Option Nat) (s2 : Option Nat) (s3 : Option Nat) (s4 : Int32) (s5 : Option Nat) (s6 : Int32) (g : HP) : MM l Pi2 yL_isSound cL_isSound 22 (some .boolean) 26 675 [vR s1, vR s2, vR s3, vI s4, vR s5, vI s6] g (wIg (f_L_isSound s1 s2 s3 s4 s5 s6 g)) := by
  refine MM_of PO_Pi2 mf_L_isSound (fun a ha => wIg_mono (f_L_isSound_mono s1 s2 s3 s4 s5 s6 g) a ha) (Nat.le_of_ble_eq_true rfl) ?_
  intro Γ fin hfin hl hin C0 Z0
  subst hl
  obtain ⟨v0, hv, rfl⟩ := wIg_some hfin
  have C : CX Γ cL_isSound 22 "BlockdutyLaw" Pi2 ok2 26 675 := C0
  have Z : RX Γ Pi2 (some .boolean) (some (vI v0.1), v0.2) := Z0
  refine X.conv (fun _ => hv) ?_
  unfold f_L_isSound
  show X Γ 0 [(0, vR s1), (1, vR s2), (2, vR s3), (3, vI s4), (4, vR s5), (5, vI s6)] [] g _
  refine z_iconst C dL_isSound_0 (v := 0) (by decide) ?_
  refine z_istore (L' := [(6, vI 0), (0, vR s1), (1, vR s2), (2, vR s3), (3, vI s4), (4, vR s5), (5, vI s6)]) C dL_isSound_1 (by decide) rfl ?_
  refine z_bipush C dL_isSound_3 (v := 7) (by decide) ?_
  refine z_nwI (t := 20) C rfl (by decide) dL_isSound_5 arr20 bd (fun a1 => ?_)
  refine z_astore (L' := [(7, vR (some a1.1)), (6, vI 0), (0, vR s1), (1, vR s2), (2, vR s3), (3, vI s4), (4, vR s5), (5, vI s6)]) C dL_isSound_7 (by decide) rfl ?_
  refine z_iconst C dL_isSound_9 (v := 0) (by decide) ?_
  refine z_istore (L' := [(8, vI 0), (7, vR (some a1.1)), (6, vI 0), (0, vR s1), (1, vR s2), (2, vR s3), (3, vI s4), (4, vR s5), (5, vI s6)]) C dL_isSound_10 (by decide) rfl ?_
  refine z_iconst C dL_isSound_12 (v := 0) (by decide) ?_
  refine z_istore (L' := [(9, vI 0), (8, vI 0), (7, vR (some a1.1)), (6, vI 0), (0, vR s1), (1, vR s2), (2, vR s3), (3, vI s4), (4, vR s5), (5, vI s6)]) C dL_isSound_13 (by decide) rfl ?_
  refine z_lsub [4, 5, 6, 7, 8, 9, 3, 2, 1, 0] rfl ?_
  refine k_L_isSound_L15 C s1 s2 s3 s4 s5 s6 a1.1 (fun q32 => ?_) FU 0 0 0 a1.2
  refine z_iconst C dL_isSound_259 (v := 1) (by decide) ?_
  refine z_istore (L' := [(9, vI 1), (0, vR s1), (1, vR s2), (2, vR s3), (3, vI s4), (6, vI q32.1), (7, vR (some a1.1)), (8, vI q32.2.1)]) C dL_isSound_260 (by decide) rfl ?_
  refine z_lsub [1, 2, 3, 4, 5, 6, 7, 0] rfl ?_
  refine k_L_isSound_L262 C s1 s2 s3 s4 q32.1 a1.1 q32.2.1 (fun q36 => ?_) FU 1 q32.2.2
  refine z_aload_n C dL_isSound_291 rfl 0 rfl ?_
  refine z_iconst C dL_isSound_292 (v := 4) (by decide) ?_
  refine z_rcv bd (fun b37 hbb37 htb37 => ?_)
  subst hbb37
  refine z_callV C cf10 mf_X9_many kt737 kt738 kt736 (k_X9_many (gL Γ) b37 4 q36 (gK Γ)) htb37 rfl ⟨Nat.le_of_ble_eq_true rfl, Nat.le_of_ble_eq_true rfl⟩ (rest := []) rfl (Nat.le_of_ble_eq_true rfl) dL_isSound_293 (bdIg) (contIg fun v38 => ?_)
  refine z_aload C dL_isSound_296 5 rfl ?_
  refine z_iconst C dL_isSound_298 (v := 0) (by decide) ?_
  refine z_ldI C dL_isSound_299 bd (fun x39 => ?_)
  refine z_icmp_ne C dL_isSound_300 (tgt := 323) rfl it jf ?_ ?_
  · refine z_aload_n C dL_isSound_303 rfl 0 rfl ?_
    refine z_iconst C dL_isSound_304 (v := 5) (by decide) ?_
    refine z_rcv bd (fun b40 hbb40 htb40 => ?_)
    have heb40 := Option.some.inj hbb40
    subst heb40
    refine z_callV C cf10 mf_X9_many kt737 kt738 kt736 (k_X9_many (gL Γ) b37 5 v38.2 (gK Γ)) htb40 rfl ⟨Nat.le_of_ble_eq_true rfl, Nat.le_of_ble_eq_true rfl⟩ (rest := []) rfl (Nat.le_of_ble_eq_true rfl) dL_isSound_305 (bdIg) (contIg fun v41 => ?_)
    refine z_iload C dL_isSound_308 4 rfl ?_
    refine z_icmp_ne C dL_isSound_310 (tgt := 323) rfl it jf ?_ ?_
    · refine z_aload_n C dL_isSound_313 rfl 0 rfl ?_
      refine z_iconst C dL_isSound_314 (v := 3) (by decide) ?_
      refine z_rcv bd (fun b42 hbb42 htb42 => ?_)
      have heb42 := Option.some.inj hbb42
      subst heb42
      refine z_callV C cf10 mf_X9_many kt737 kt738 kt736 (k_X9_many (gL Γ) b37 3 v41.2 (gK Γ)) htb42 rfl ⟨Nat.le_of_ble_eq_true rfl, Nat.le_of_ble_eq_true rfl⟩ (rest := []) rfl (Nat.le_of_ble_eq_true rfl) dL_isSound_315 (bdIg) (contIg fun v43 => ?_)
      refine z_iload C dL_isSound_318 6 rfl ?_
      refine z_icmp_eq C dL_isSound_320 (tgt := 325) rfl it jf ?_ ?_
      · refine z_iconst C dL_isSound_325 (v := 0) (by decide) ?_
        refine z_istore (L' := [(9, vI 0), (0, vR (some b37)), (1, vR s2), (2, vR s3), (3, vI s4), (6, vI q32.1), (7, vR (some a1.1)), (8, vI q32.2.1)]) C dL_isSound_326 (by decide) rfl ?_
        refine z_iconst C dL_isSound_328 (v := 0) (by decide) ?_
        refine z_istore (L' := [(10, vI 0), (9, vI 0), (0, vR (some b37)), (1, vR s2), (2, vR s3), (3, vI s4), (6, vI q32.1), (7, vR (some a1.1)), (8, vI q32.2.1)]) C dL_isSound_329 (by decide) rfl ?_
        refine z_iconst C dL_isSound_331 (v := 4) (by decide) ?_
        refine z_nwI (t := 20) C rfl (by decide) dL_isSound_332 arr20 bd (fun a44 => ?_)
        refine z_astore (L' := [(11, vR (some a44.1)), (10, vI 0), (9, vI 0), (0, vR (some b37)), (1, vR s2), (2, vR s3), (3, vI s4), (6, vI q32.1), (7, vR (some a1.1)), (8, vI q32.2.1)]) C dL_isSound_334 (by decide) rfl ?_
        refine z_iconst C dL_isSound_336 (v := 4) (by decide) ?_
        refine z_nwI (t := 20) C rfl (by decide) dL_isSound_337 arr20 bd (fun a45 => ?_)
        refine z_astore (L' := [(12, vR (some a45.1)), (11, vR (some a44.1)), (10, vI 0), (9, vI 0), (0, vR (some b37)), (1, vR s2), (2, vR s3), (3, vI s4), (6, vI q32.1), (7, vR (some a1.1)), (8, vI q32.2.1)]) C dL_isSound_339 (by decide) rfl ?_
        refine z_bipush C dL_isSound_341 (v := 16) (by decide) ?_
        refine z_nwB C rfl dL_isSound_343 kt1057 bd (fun a46 => ?_)
        refine z_astore (L' := [(13, vR (some a46.1)), (12, vR (some a45.1)), (11, vR (some a44.1)), (10, vI 0), (9, vI 0), (0, vR (some b37)), (1, vR s2), (2, vR s3), (3, vI s4), (6, vI q32.1), (7, vR (some a1.1)), (8, vI q32.2.1)]) C dL_isSound_346 (by decide) rfl ?_
        refine z_iconst C dL_isSound_348 (v := 0) (by decide) ?_
        refine z_istore (L' := [(14, vI 0), (13, vR (some a46.1)), (12, vR (some a45.1)), (11, vR (some a44.1)), (10, vI 0), (9, vI 0), (0, vR (some b37)), (1, vR s2), (2, vR s3), (3, vI s4), (6, vI q32.1), (7, vR (some a1.1)), (8, vI q32.2.1)]) C dL_isSound_349 (by decide) rfl ?_
        refine z_iconst C dL_isSound_351 (v := 0) (by decide) ?_
        refine z_istore (L' := [(15, vI 0), (14, vI 0), (13, vR (some a46.1)), (12, vR (some a45.1)), (11, vR (some a44.1)), (10, vI 0), (9, vI 0), (0, vR (some b37)), (1, vR s2), (2, vR s3), (3, vI s4), (6, vI q32.1), (7, vR (some a1.1)), (8, vI q32.2.1)]) C dL_isSound_352 (by decide) rfl ?_
        refine z_lsub [7, 8, 9, 10, 13, 6, 5, 4, 3, 2, 1, 0] rfl ?_
        refine k_L_isSound_L354 C b37 s2 s3 s4 q32.2.1 a44.1 a45.1 a46.1 (fun q133 => ?_) FU 0 0 0 0 a46.2
        refine z_iconst C dL_isSound_867 (v := 0) (by decide) ?_
        refine z_istore (L' := [(15, vI 0), (0, vR (some b37)), (3, vI s4), (8, vI q32.2.1), (9, vI q133.1), (10, vI q133.2.1), (11, vR (some a44.1)), (12, vR (some a45.1))]) C dL_isSound_868 (by decide) rfl ?_
        refine z_iconst C dL_isSound_870 (v := 0) (by decide) ?_
        refine z_istore (L' := [(16, vI 0), (15, vI 0), (0, vR (some b37)), (3, vI s4), (8, vI q32.2.1), (9, vI q133.1), (10, vI q133.2.1), (11, vR (some a44.1)), (12, vR (some a45.1))]) C dL_isSound_871 (by decide) rfl ?_
        refine z_lsub [2, 3, 4, 5, 6, 7, 8, 1, 0] rfl ?_
        refine k_L_isSound_L873 C b37 s4 q32.2.1 q133.1 q133.2.1 a44.1 a45.1 (fun q148 => ?_) FU 0 0 q133.2.2
        refine z_iload C dL_isSound_961 4 rfl ?_
        refine z_iload C dL_isSound_963 2 rfl ?_
        refine z_iadd C dL_isSound_965 ?_
        refine z_iload_n C dL_isSound_966 rfl 1 rfl ?_
        refine z_icmp_ne C dL_isSound_967 (tgt := 999) rfl it jf ?_ ?_
        · refine z_iload C dL_isSound_970 5 rfl ?_
          refine z_aload_n C dL_isSound_972 rfl 0 rfl ?_
          refine z_bipush C dL_isSound_973 (v := 6) (by decide) ?_
          refine z_rcv bd (fun b149 hbb149 htb149 => ?_)
          have heb149 := Option.some.inj hbb149
          subst heb149
          refine z_callV C cf10 mf_X9_many kt737 kt738 kt736 (k_X9_many (gL Γ) b37 6 q148.2 (gK Γ)) htb149 rfl ⟨Nat.le_of_ble_eq_true rfl, Nat.le_of_ble_eq_true rfl⟩ (rest := [vI q148.1]) rfl (Nat.le_of_ble_eq_true rfl) dL_isSound_975 (bdIg) (contIg fun v150 => ?_)
          refine z_icmp_ne C dL_isSound_978 (tgt := 999) rfl it jf ?_ ?_
          · refine z_iload C dL_isSound_981 2 rfl ?_
            refine z_if_gt C dL_isSound_983 (tgt := 995) rfl it jf ?_ ?_
            · refine z_iconst C dL_isSound_995 (v := 1) (by decide) ?_
              refine z_goto C dL_isSound_996 (tgt := 1000) rfl ?_
              exact z_zret C Z rfl dL_isSound_1000 (fun _ => Or.inr rfl) (fun h => by cases h; rfl)
            · refine z_iload C dL_isSound_986 3 rfl ?_
              refine z_aload_n C dL_isSound_988 rfl 0 rfl ?_
              refine z_rcv bd (fun b151 hbb151 htb151 => ?_)
              have heb151 := Option.some.inj hbb151
              subst heb151
              refine z_callV C cf10 mf_X9_leastBlocks kt771 kt772 kt770 (k_X9_leastBlocks (gL Γ) b37 v150.2 (gK Γ)) htb151 rfl ⟨Nat.le_of_ble_eq_true rfl, Nat.le_of_ble_eq_true rfl⟩ (rest := [vI q133.1]) rfl (Nat.le_of_ble_eq_true rfl) dL_isSound_989 (bdIg) (contIg fun v152 => ?_)
              refine z_icmp_lt C dL_isSound_992 (tgt := 999) rfl it jf ?_ ?_
              · exact X.no no0
              · refine z_iconst C dL_isSound_995 (v := 1) (by decide) ?_
                refine z_goto C dL_isSound_996 (tgt := 1000) rfl ?_
                exact z_zret C Z rfl dL_isSound_1000 (fun _ => Or.inr rfl) (fun h => by cases h; rfl)
          · exact X.no no0
        · exact X.no no0
      · exact X.no no0
    · exact X.no no0
  · exact X.no no0
