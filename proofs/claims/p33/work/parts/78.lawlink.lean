theorem k_L_isAppended (l : Launch) (hst : l.stackTraces = false) (s1 : Option Nat) (s2 : Option Nat) (s3 : Int32) (s4 : Int32) (g : HP) : MMW l Pi2 yL_isAppended cL_isAppended 7 (some .boolean) [(48, 93, 94, 124)] 9 237 [vR s1, vR s2, vI s3, vI s4] g (wIg (f_L_isAppended s1 s2 s3 s4 g)) := by
  refine MMW_of PO_Pi2 mfw_L_isAppended (fun a ha => wIg_mono (f_L_isAppended_mono s1 s2 s3 s4 g) a ha) (Nat.le_of_ble_eq_true rfl) ?_
  intro Γ fin hfin hl hin C0 Z0 htab
  subst hl
  obtain ⟨v0, hv, rfl⟩ := wIg_some hfin
  have C : CX Γ cL_isAppended 7 "BlockdutyLaw" Pi2 ok2 9 237 := C0
  have Z : RX Γ Pi2 (some .boolean) (some (vI v0.1), v0.2) := Z0
  refine X.conv (fun _ => hv) ?_
  unfold f_L_isAppended
  show X Γ 0 [(0, vR s1), (1, vR s2), (2, vI s3), (3, vI s4)] [] g _
  refine z_aload_n C dL_isAppended_0 rfl 0 rfl ?_
  refine z_iload_n C dL_isAppended_1 rfl 2 rfl ?_
  refine z_iconst C dL_isAppended_2 (v := 1) (by decide) ?_
  refine z_rcv bd (fun b1 hbb1 htb1 => ?_)
  subst hbb1
  refine z_callV C cf10 mf_X9_ofBlock kt680 kt681 kt679 (k_X9_ofBlock (gL Γ) b1 s3 1 g (gK Γ)) htb1 rfl ⟨Nat.le_of_ble_eq_true rfl, Nat.le_of_ble_eq_true rfl⟩ (rest := []) rfl (Nat.le_of_ble_eq_true rfl) dL_isAppended_3 (bdIg) (contIg fun v2 => ?_)
  refine z_istore (L' := [(4, vI v2.1), (0, vR (some b1)), (1, vR s2), (2, vI s3), (3, vI s4)]) C dL_isAppended_6 (by decide) rfl ?_
  refine z_aload_n C dL_isAppended_8 rfl 1 rfl ?_
  refine z_iload_n C dL_isAppended_9 rfl 4 rfl ?_
  refine z_bipush C dL_isAppended_10 (v := 6) (by decide) ?_
  refine z_rcv bd (fun b3 hbb3 htb3 => ?_)
  have heb3 := Option.some.inj hbb3
  subst heb3
  refine z_callV C cf10 mf_X9_ofTrip kt632 kt633 kt631 (k_X9_ofTrip (gL Γ) b1 s4 6 v2.2 (gK Γ)) htb3 rfl ⟨Nat.le_of_ble_eq_true rfl, Nat.le_of_ble_eq_true rfl⟩ (rest := []) rfl (Nat.le_of_ble_eq_true rfl) dL_isAppended_12 (bdIg) (contIg fun v4 => ?_)
  refine X.join (τ := (Int32 × HP)) 46 (fun q8 => [(0, vR (some b1)), (2, vI s3), (3, vI s4), (4, vI v2.1)]) (fun q8 => [vI q8.1]) (fun q8 => q8.2) (fun q8 => ?_) (fun hj46 => ?_)
  · refine z_istore (L' := [(5, vI q8.1), (0, vR (some b1)), (2, vI s3), (3, vI s4), (4, vI v2.1)]) C dL_isAppended_46 (by decide) rfl ?_
    refine z_aload_n C dL_isAppended_48 rfl 1 rfl ?_
    refine z_iload_n C dL_isAppended_49 rfl 2 rfl ?_
    refine z_iload_n C dL_isAppended_50 rfl 3 rfl ?_
    refine z_rcv bd (fun b9 hbb9 htb9 => ?_)
    have heb9 := Option.some.inj hbb9
    subst heb9
    refine z_try C cf10 mf_X9_append kt942 kt943 kt941 (k_X9_append (gL Γ) b1 s3 s4 q8.2 (gK Γ)) (t_X9_append (gL Γ) hst (gK Γ) b1 s3 s4 q8.2) htb9 rfl ⟨Nat.le_of_ble_eq_true rfl, Nat.le_of_ble_eq_true rfl⟩ ⟨Nat.le_of_ble_eq_true rfl, Nat.le_of_ble_eq_true rfl⟩ (rest := []) rfl (Nat.le_of_ble_eq_true rfl) dL_isAppended_51 (pre := []) (suf := []) (z := ⟨48, 93, 94, 124⟩) htab (fun z9 hz => by cases hz) rfl (by decide) kx929 (fun v10 => ?_) (fun g12 q11 => ?_)
    · refine z_iload C dL_isAppended_54 4 rfl ?_
      refine z_iconst C dL_isAppended_56 (v := 1) (by decide) ?_
      refine z_iadd C dL_isAppended_57 ?_
      refine z_icmp_ne C dL_isAppended_58 (tgt := 92) rfl it jf ?_ ?_
      · refine z_iload C dL_isAppended_61 0 rfl ?_
        refine z_if_eq C dL_isAppended_63 (tgt := 92) rfl it jf ?_ ?_
        · exact X.no no0
        · refine z_aload_n C dL_isAppended_66 rfl 1 rfl ?_
          refine z_iload_n C dL_isAppended_67 rfl 2 rfl ?_
          refine z_iload C dL_isAppended_68 4 rfl ?_
          refine z_rcv bd (fun b13 hbb13 htb13 => ?_)
          have heb13 := Option.some.inj hbb13
          subst heb13
          refine z_callV C cf10 mf_X9_at kt931 kt932 kt930 (k_X9_at (gL Γ) b1 s3 v2.1 v10.2 (gK Γ)) htb13 rfl ⟨Nat.le_of_ble_eq_true rfl, Nat.le_of_ble_eq_true rfl⟩ (rest := []) rfl (Nat.le_of_ble_eq_true rfl) dL_isAppended_70 (bdI) (contI fun x14 => ?_)
          refine z_iload_n C dL_isAppended_73 rfl 3 rfl ?_
          refine z_icmp_ne C dL_isAppended_74 (tgt := 92) rfl it jf ?_ ?_
          · refine z_aload_n C dL_isAppended_77 rfl 1 rfl ?_
            refine z_iload_n C dL_isAppended_78 rfl 3 rfl ?_
            refine z_bipush C dL_isAppended_79 (v := 7) (by decide) ?_
            refine z_rcv bd (fun b15 hbb15 htb15 => ?_)
            have heb15 := Option.some.inj hbb15
            subst heb15
            refine z_callV C cf10 mf_X9_ofTrip kt632 kt633 kt631 (k_X9_ofTrip (gL Γ) b1 s4 7 v10.2 (gK Γ)) htb15 rfl ⟨Nat.le_of_ble_eq_true rfl, Nat.le_of_ble_eq_true rfl⟩ (rest := []) rfl (Nat.le_of_ble_eq_true rfl) dL_isAppended_81 (bdIg) (contIg fun v16 => ?_)
            refine z_iconst C dL_isAppended_84 (v := (-1)) (by decide) ?_
            refine z_icmp_ne C dL_isAppended_85 (tgt := 92) rfl it jf ?_ ?_
            · refine z_iconst C dL_isAppended_88 (v := 1) (by decide) ?_
              refine z_goto C dL_isAppended_89 (tgt := 93) rfl ?_
              exact z_zret C Z rfl dL_isAppended_93 (fun _ => Or.inr rfl) (fun h => by cases h; rfl)
            · exact X.no no0
          · exact X.no no0
      · exact X.no no0
    · refine z_astore (L' := [(6, vR (some q11)), (5, vI q8.1), (0, vR (some b1)), (2, vI s3), (3, vI s4), (4, vI v2.1)]) C dL_isAppended_94 (by decide) rfl ?_
      refine z_iload C dL_isAppended_96 1 rfl ?_
      refine z_if_ne C dL_isAppended_98 (tgt := 116) rfl it jf ?_ ?_
      · refine z_aload_n C dL_isAppended_101 rfl 2 rfl ?_
        refine z_iload_n C dL_isAppended_102 rfl 3 rfl ?_
        refine z_iconst C dL_isAppended_103 (v := 1) (by decide) ?_
        refine z_rcv bd (fun b17 hbb17 htb17 => ?_)
        have heb17 := Option.some.inj hbb17
        subst heb17
        refine z_callV C cf10 mf_X9_ofBlock kt680 kt681 kt679 (k_X9_ofBlock (gL Γ) b1 s3 1 g12 (gK Γ)) htb17 rfl ⟨Nat.le_of_ble_eq_true rfl, Nat.le_of_ble_eq_true rfl⟩ (rest := []) rfl (Nat.le_of_ble_eq_true rfl) dL_isAppended_104 (bdIg) (contIg fun v18 => ?_)
        refine z_iload C dL_isAppended_107 5 rfl ?_
        refine z_icmp_ne C dL_isAppended_109 (tgt := 116) rfl it jf ?_ ?_
        · refine z_iconst C dL_isAppended_112 (v := 1) (by decide) ?_
          refine z_goto C dL_isAppended_113 (tgt := 117) rfl ?_
          exact z_zret C Z rfl dL_isAppended_117 (fun _ => Or.inr rfl) (fun h => by cases h; rfl)
        · exact X.no no0
      · exact X.no no0
  · refine X.conv bi ?_
    refine z_if_ge C dL_isAppended_15 (tgt := 45) rfl it jf ?_ ?_
    · refine z_iconst C dL_isAppended_45 (v := 0) (by decide) ?_
      refine z_lsub [1, 3, 4, 0] rfl ?_
      exact hj46 ((0 : Int32), v4.2)
    · refine z_iload C dL_isAppended_18 0 rfl ?_
      refine X.conv bi ?_
      refine z_if_eq C dL_isAppended_20 (tgt := 41) rfl it jf ?_ ?_
      · refine z_iconst C dL_isAppended_41 (v := 1) (by decide) ?_
        refine z_goto C dL_isAppended_42 (tgt := 46) rfl ?_
        refine z_lsub [1, 3, 4, 0] rfl ?_
        exact hj46 ((1 : Int32), v4.2)
      · refine z_aload_n C dL_isAppended_23 rfl 1 rfl ?_
        refine z_aload_n C dL_isAppended_24 rfl 2 rfl ?_
        refine z_iload_n C dL_isAppended_25 rfl 4 rfl ?_
        refine z_aload_n C dL_isAppended_26 rfl 1 rfl ?_
        refine z_iload_n C dL_isAppended_27 rfl 3 rfl ?_
        refine z_iload C dL_isAppended_28 0 rfl ?_
        refine z_iconst C dL_isAppended_30 (v := 1) (by decide) ?_
        refine z_isub C dL_isAppended_31 ?_
        refine X.conv bb ?_
        refine z_rcv bd (fun b5 hbb5 htb5 => ?_)
        have heb5 := Option.some.inj hbb5
        subst heb5
        refine X.conv bb ?_
        refine z_callV C cf10 mf_X9_at kt931 kt932 kt930 (k_X9_at (gL Γ) b1 s3 (v2.1 - 1) v4.2 (gK Γ)) htb5 rfl ⟨Nat.le_of_ble_eq_true rfl, Nat.le_of_ble_eq_true rfl⟩ (rest := [vI s4, vR s2, vR (some b1)]) rfl (Nat.le_of_ble_eq_true rfl) dL_isAppended_32 (bdI) (contI fun x6 => ?_)
        refine X.conv bb ?_
        refine z_callS C rfl mf_L_follows kt936 kt935 (k_L_follows (gL Γ) (some b1) s2 s4 x6 v4.2 (gK Γ)) rfl ⟨Nat.le_of_ble_eq_true rfl, Nat.le_of_ble_eq_true rfl⟩ (rest := []) rfl (Nat.le_of_ble_eq_true rfl) dL_isAppended_35 (bdIg) (contIg fun v7 => ?_)
        refine X.conv bi ?_
        refine z_if_eq C dL_isAppended_38 (tgt := 45) rfl it jf ?_ ?_
        · refine z_iconst C dL_isAppended_45 (v := 0) (by decide) ?_
          refine z_lsub [1, 3, 4, 0] rfl ?_
          exact hj46 ((0 : Int32), v7.2)
        · refine z_iconst C dL_isAppended_41 (v := 1) (by decide) ?_
          refine z_goto C dL_isAppended_42 (tgt := 46) rfl ?_
          refine z_lsub [1, 3, 4, 0] rfl ?_
          exact hj46 ((1 : Int32), v7.2)
theorem k_L_isSwapped (l : Launch) (hst : l.stackTraces = false) (s1 : Option Nat) (s2 : Int32) (s3 : Int32) (s4 : Int32) (s5 : Int32) (g : HP) : MMW l Pi2 yL_isSwapped cL_isSwapped 9 (some .boolean) [(51, 135, 196, 124), (136, 195, 196, 124)] 11 292 [vR s1, vI s2, vI s3, vI s4, vI s5] g (wIg (f_L_isSwapped s1 s2 s3 s4 s5 g)) := by
  refine MMW_of PO_Pi2 mfw_L_isSwapped (fun a ha => wIg_mono (f_L_isSwapped_mono s1 s2 s3 s4 s5 g) a ha) (Nat.le_of_ble_eq_true rfl) ?_
  intro Γ fin hfin hl hin C0 Z0 htab
  subst hl
  obtain ⟨v0, hv, rfl⟩ := wIg_some hfin
  have C : CX Γ cL_isSwapped 9 "BlockdutyLaw" Pi2 ok2 11 292 := C0
  have Z : RX Γ Pi2 (some .boolean) (some (vI v0.1), v0.2) := Z0
  refine X.conv (fun _ => hv) ?_
  unfold f_L_isSwapped
  show X Γ 0 [(0, vR s1), (1, vI s2), (2, vI s3), (3, vI s4), (4, vI s5)] [] g _
  refine z_aload_n C dL_isSwapped_0 rfl 0 rfl ?_
  refine z_bipush C dL_isSwapped_1 (v := 7) (by decide) ?_
  refine z_rcv bd (fun b1 hbb1 htb1 => ?_)
  subst hbb1
  refine z_callV C cf10 mf_X9_many kt737 kt738 kt736 (k_X9_many (gL Γ) b1 7 g (gK Γ)) htb1 rfl ⟨Nat.le_of_ble_eq_true rfl, Nat.le_of_ble_eq_true rfl⟩ (rest := []) rfl (Nat.le_of_ble_eq_true rfl) dL_isSwapped_3 (bdIg) (contIg fun v2 => ?_)
  refine z_istore (L' := [(5, vI v2.1), (0, vR (some b1)), (1, vI s2), (2, vI s3), (3, vI s4), (4, vI s5)]) C dL_isSwapped_6 (by decide) rfl ?_
  refine z_iconst C dL_isSwapped_8 (v := 2) (by decide) ?_
  refine z_nwI (t := 20) C rfl (by decide) dL_isSwapped_9 arr20 bd (fun a3 => ?_)
  refine z_dup C dL_isSwapped_11 rfl ?_
  refine z_iconst C dL_isSwapped_12 (v := 0) (by decide) ?_
  refine z_aload_n C dL_isSwapped_13 rfl 1 rfl ?_
  refine z_iload_n C dL_isSwapped_14 rfl 2 rfl ?_
  refine z_iconst C dL_isSwapped_15 (v := 1) (by decide) ?_
  refine z_rcv bd (fun b4 hbb4 htb4 => ?_)
  have heb4 := Option.some.inj hbb4
  subst heb4
  refine z_callV C cf10 mf_X9_ofBlock kt680 kt681 kt679 (k_X9_ofBlock (gL Γ) b1 s2 1 a3.2 (gK Γ)) htb4 rfl ⟨Nat.le_of_ble_eq_true rfl, Nat.le_of_ble_eq_true rfl⟩ (rest := [vI 0, vR (some a3.1), vR (some a3.1)]) rfl (Nat.le_of_ble_eq_true rfl) dL_isSwapped_16 (bdIg) (contIg fun v5 => ?_)
  refine z_stI C dL_isSwapped_19 bd (fun g6 => ?_)
  refine z_dup C dL_isSwapped_20 rfl ?_
  refine z_iconst C dL_isSwapped_21 (v := 1) (by decide) ?_
  refine z_aload_n C dL_isSwapped_22 rfl 1 rfl ?_
  refine z_iload_n C dL_isSwapped_23 rfl 3 rfl ?_
  refine z_iconst C dL_isSwapped_24 (v := 1) (by decide) ?_
  refine z_rcv bd (fun b7 hbb7 htb7 => ?_)
  have heb7 := Option.some.inj hbb7
  subst heb7
  refine z_callV C cf10 mf_X9_ofBlock kt680 kt681 kt679 (k_X9_ofBlock (gL Γ) b1 s3 1 g6 (gK Γ)) htb7 rfl ⟨Nat.le_of_ble_eq_true rfl, Nat.le_of_ble_eq_true rfl⟩ (rest := [vI 1, vR (some a3.1), vR (some a3.1)]) rfl (Nat.le_of_ble_eq_true rfl) dL_isSwapped_25 (bdIg) (contIg fun v8 => ?_)
  refine z_stI C dL_isSwapped_28 bd (fun g9 => ?_)
  refine z_astore (L' := [(6, vR (some a3.1)), (5, vI v2.1), (0, vR (some b1)), (1, vI s2), (2, vI s3), (3, vI s4), (4, vI s5)]) C dL_isSwapped_29 (by decide) rfl ?_
  refine z_iload_n C dL_isSwapped_31 rfl 5 rfl ?_
  refine z_aload C dL_isSwapped_32 0 rfl ?_
  refine z_iconst C dL_isSwapped_34 (v := 0) (by decide) ?_
  refine z_ldI C dL_isSwapped_35 bd (fun x10 => ?_)
  refine X.join (τ := Int32) 49 (fun q13 => [(0, vR (some b1)), (1, vI s2), (2, vI s3), (3, vI s4), (4, vI s5), (5, vI v2.1), (6, vR (some a3.1))]) (fun q13 => [vI q13]) (fun q13 => g9) (fun q13 => ?_) (fun hj49 => ?_)
  · refine z_istore (L' := [(7, vI q13), (0, vR (some b1)), (1, vI s2), (2, vI s3), (3, vI s4), (4, vI s5), (5, vI v2.1), (6, vR (some a3.1))]) C dL_isSwapped_49 (by decide) rfl ?_
    refine z_aload_n C dL_isSwapped_51 rfl 1 rfl ?_
    refine z_iload_n C dL_isSwapped_52 rfl 2 rfl ?_
    refine z_iload_n C dL_isSwapped_53 rfl 4 rfl ?_
    refine z_iload_n C dL_isSwapped_54 rfl 3 rfl ?_
    refine z_iload C dL_isSwapped_55 5 rfl ?_
    refine z_rcv bd (fun b14 hbb14 htb14 => ?_)
    have heb14 := Option.some.inj hbb14
    subst heb14
    refine z_try C cf10 mf_X9_swap kt951 kt952 kt950 (k_X9_swap (gL Γ) b1 s2 s4 s3 s5 g9 (gK Γ)) (t_X9_swap (gL Γ) hst (gK Γ) b1 s2 s4 s3 s5 g9) htb14 rfl ⟨Nat.le_of_ble_eq_true rfl, Nat.le_of_ble_eq_true rfl⟩ ⟨Nat.le_of_ble_eq_true rfl, Nat.le_of_ble_eq_true rfl⟩ (rest := []) rfl (Nat.le_of_ble_eq_true rfl) dL_isSwapped_57 (pre := []) (suf := [⟨136, 195, 196, 124⟩]) (z := ⟨51, 135, 196, 124⟩) htab (fun z9 hz => by cases hz) rfl (by decide) kx929 (fun v15 => ?_) (fun g17 q16 => ?_)
    · refine z_istore (L' := [(8, vI v15.1), (7, vI q13), (0, vR (some b1)), (1, vI s2), (2, vI s3), (3, vI s4), (4, vI s5), (5, vI v2.1), (6, vR (some a3.1))]) C dL_isSwapped_60 (by decide) rfl ?_
      refine z_iload C dL_isSwapped_62 0 rfl ?_
      refine z_aload C dL_isSwapped_64 8 rfl ?_
      refine z_iconst C dL_isSwapped_66 (v := 0) (by decide) ?_
      refine z_ldI C dL_isSwapped_67 bd (fun x18 => ?_)
      refine z_iload_n C dL_isSwapped_68 rfl 5 rfl ?_
      refine z_isub C dL_isSwapped_69 ?_
      refine z_aload C dL_isSwapped_70 8 rfl ?_
      refine z_iconst C dL_isSwapped_72 (v := 1) (by decide) ?_
      refine z_ldI C dL_isSwapped_73 bd (fun x19 => ?_)
      refine z_iadd C dL_isSwapped_74 ?_
      refine z_iload C dL_isSwapped_75 6 rfl ?_
      refine z_isub C dL_isSwapped_77 ?_
      refine z_icmp_ne C dL_isSwapped_78 (tgt := 134) rfl it jf ?_ ?_
      · refine z_aload_n C dL_isSwapped_81 rfl 2 rfl ?_
        refine z_iload_n C dL_isSwapped_82 rfl 3 rfl ?_
        refine z_iconst C dL_isSwapped_83 (v := 1) (by decide) ?_
        refine z_rcv bd (fun b20 hbb20 htb20 => ?_)
        have heb20 := Option.some.inj hbb20
        subst heb20
        refine z_callV C cf10 mf_X9_ofBlock kt680 kt681 kt679 (k_X9_ofBlock (gL Γ) b1 s2 1 v15.2 (gK Γ)) htb20 rfl ⟨Nat.le_of_ble_eq_true rfl, Nat.le_of_ble_eq_true rfl⟩ (rest := []) rfl (Nat.le_of_ble_eq_true rfl) dL_isSwapped_84 (bdIg) (contIg fun v21 => ?_)
        refine z_iload_n C dL_isSwapped_87 rfl 5 rfl ?_
        refine z_aload C dL_isSwapped_88 8 rfl ?_
        refine z_iconst C dL_isSwapped_90 (v := 1) (by decide) ?_
        refine z_ldI C dL_isSwapped_91 bd (fun x22 => ?_)
        refine z_iadd C dL_isSwapped_92 ?_
        refine z_iload C dL_isSwapped_93 6 rfl ?_
        refine z_isub C dL_isSwapped_95 ?_
        refine z_icmp_ne C dL_isSwapped_96 (tgt := 134) rfl it jf ?_ ?_
        · refine z_aload_n C dL_isSwapped_99 rfl 2 rfl ?_
          refine z_iload_n C dL_isSwapped_100 rfl 4 rfl ?_
          refine z_iconst C dL_isSwapped_101 (v := 1) (by decide) ?_
          refine z_rcv bd (fun b23 hbb23 htb23 => ?_)
          have heb23 := Option.some.inj hbb23
          subst heb23
          refine z_callV C cf10 mf_X9_ofBlock kt680 kt681 kt679 (k_X9_ofBlock (gL Γ) b1 s3 1 v21.2 (gK Γ)) htb23 rfl ⟨Nat.le_of_ble_eq_true rfl, Nat.le_of_ble_eq_true rfl⟩ (rest := []) rfl (Nat.le_of_ble_eq_true rfl) dL_isSwapped_102 (bdIg) (contIg fun v24 => ?_)
          refine z_iload C dL_isSwapped_105 6 rfl ?_
          refine z_aload C dL_isSwapped_107 8 rfl ?_
          refine z_iconst C dL_isSwapped_109 (v := 0) (by decide) ?_
          refine z_ldI C dL_isSwapped_110 bd (fun x25 => ?_)
          refine z_iadd C dL_isSwapped_111 ?_
          refine z_iload_n C dL_isSwapped_112 rfl 5 rfl ?_
          refine z_isub C dL_isSwapped_113 ?_
          refine z_icmp_ne C dL_isSwapped_114 (tgt := 134) rfl it jf ?_ ?_
          · refine z_iload C dL_isSwapped_117 1 rfl ?_
            refine X.join (τ := HP) 136 (fun q28 => [(0, vR (some b1)), (1, vI s2), (2, vI s3), (3, vI s4), (4, vI s5), (5, vI v2.1), (6, vR (some a3.1)), (8, vI v15.1)]) (fun q28 => []) (fun q28 => q28) (fun q28 => ?_) (fun hj136 => ?_)
            · refine z_aload_n C dL_isSwapped_136 rfl 0 rfl ?_
              refine z_iload_n C dL_isSwapped_137 rfl 1 rfl ?_
              refine z_iload_n C dL_isSwapped_138 rfl 3 rfl ?_
              refine z_iload_n C dL_isSwapped_139 rfl 2 rfl ?_
              refine z_iload C dL_isSwapped_140 4 rfl ?_
              refine z_rcv bd (fun b29 hbb29 htb29 => ?_)
              have heb29 := Option.some.inj hbb29
              subst heb29
              refine z_try C cf10 mf_X9_swap kt951 kt952 kt950 (k_X9_swap (gL Γ) b1 s2 s4 s3 s5 q28 (gK Γ)) (t_X9_swap (gL Γ) hst (gK Γ) b1 s2 s4 s3 s5 q28) htb29 rfl ⟨Nat.le_of_ble_eq_true rfl, Nat.le_of_ble_eq_true rfl⟩ ⟨Nat.le_of_ble_eq_true rfl, Nat.le_of_ble_eq_true rfl⟩ (rest := []) rfl (Nat.le_of_ble_eq_true rfl) dL_isSwapped_142 (pre := [⟨51, 135, 196, 124⟩]) (suf := []) (z := ⟨136, 195, 196, 124⟩) htab (fun z9 hz => by rw [List.mem_singleton.mp hz]; rfl) rfl (by decide) kx929 (fun v30 => ?_) (fun g32 q31 => ?_)
              · refine z_iload C dL_isSwapped_145 7 rfl ?_
                refine z_icmp_ne C dL_isSwapped_147 (tgt := 194) rfl it jf ?_ ?_
                · refine z_aload_n C dL_isSwapped_150 rfl 0 rfl ?_
                  refine z_bipush C dL_isSwapped_151 (v := 7) (by decide) ?_
                  refine z_rcv bd (fun b33 hbb33 htb33 => ?_)
                  have heb33 := Option.some.inj hbb33
                  subst heb33
                  refine z_callV C cf10 mf_X9_many kt737 kt738 kt736 (k_X9_many (gL Γ) b1 7 v30.2 (gK Γ)) htb33 rfl ⟨Nat.le_of_ble_eq_true rfl, Nat.le_of_ble_eq_true rfl⟩ (rest := []) rfl (Nat.le_of_ble_eq_true rfl) dL_isSwapped_153 (bdIg) (contIg fun v34 => ?_)
                  refine z_iload C dL_isSwapped_156 5 rfl ?_
                  refine z_icmp_ne C dL_isSwapped_158 (tgt := 194) rfl it jf ?_ ?_
                  · refine z_aload_n C dL_isSwapped_161 rfl 0 rfl ?_
                    refine z_iload_n C dL_isSwapped_162 rfl 1 rfl ?_
                    refine z_iconst C dL_isSwapped_163 (v := 1) (by decide) ?_
                    refine z_rcv bd (fun b35 hbb35 htb35 => ?_)
                    have heb35 := Option.some.inj hbb35
                    subst heb35
                    refine z_callV C cf10 mf_X9_ofBlock kt680 kt681 kt679 (k_X9_ofBlock (gL Γ) b1 s2 1 v34.2 (gK Γ)) htb35 rfl ⟨Nat.le_of_ble_eq_true rfl, Nat.le_of_ble_eq_true rfl⟩ (rest := []) rfl (Nat.le_of_ble_eq_true rfl) dL_isSwapped_164 (bdIg) (contIg fun v36 => ?_)
                    refine z_aload C dL_isSwapped_167 6 rfl ?_
                    refine z_iconst C dL_isSwapped_169 (v := 0) (by decide) ?_
                    refine z_ldI C dL_isSwapped_170 bd (fun x37 => ?_)
                    refine z_icmp_ne C dL_isSwapped_171 (tgt := 194) rfl it jf ?_ ?_
                    · refine z_aload_n C dL_isSwapped_174 rfl 0 rfl ?_
                      refine z_iload_n C dL_isSwapped_175 rfl 1 rfl ?_
                      refine z_iconst C dL_isSwapped_176 (v := 3) (by decide) ?_
                      refine z_rcv bd (fun b38 hbb38 htb38 => ?_)
                      have heb38 := Option.some.inj hbb38
                      subst heb38
                      refine z_callV C cf10 mf_X9_ofBlock kt680 kt681 kt679 (k_X9_ofBlock (gL Γ) b1 s2 3 v36.2 (gK Γ)) htb38 rfl ⟨Nat.le_of_ble_eq_true rfl, Nat.le_of_ble_eq_true rfl⟩ (rest := []) rfl (Nat.le_of_ble_eq_true rfl) dL_isSwapped_177 (bdIg) (contIg fun v39 => ?_)
                      refine z_aload_n C dL_isSwapped_180 rfl 0 rfl ?_
                      refine z_iload_n C dL_isSwapped_181 rfl 2 rfl ?_
                      refine z_iconst C dL_isSwapped_182 (v := 3) (by decide) ?_
                      refine z_rcv bd (fun b40 hbb40 htb40 => ?_)
                      have heb40 := Option.some.inj hbb40
                      subst heb40
                      refine z_callV C cf10 mf_X9_ofBlock kt680 kt681 kt679 (k_X9_ofBlock (gL Γ) b1 s3 3 v39.2 (gK Γ)) htb40 rfl ⟨Nat.le_of_ble_eq_true rfl, Nat.le_of_ble_eq_true rfl⟩ (rest := [vI v39.1]) rfl (Nat.le_of_ble_eq_true rfl) dL_isSwapped_183 (bdIg) (contIg fun v41 => ?_)
                      refine z_iadd C dL_isSwapped_186 ?_
                      refine z_if_ne C dL_isSwapped_187 (tgt := 194) rfl it jf ?_ ?_
                      · refine z_iconst C dL_isSwapped_190 (v := 1) (by decide) ?_
                        refine z_goto C dL_isSwapped_191 (tgt := 195) rfl ?_
                        exact z_zret C Z rfl dL_isSwapped_195 (fun _ => Or.inr rfl) (fun h => by cases h; rfl)
                      · exact X.no no0
                    · exact X.no no0
                  · exact X.no no0
                · exact X.no no0
              · refine z_astore (L' := [(8, vR (some q31)), (0, vR (some b1)), (1, vI s2), (2, vI s3), (3, vI s4), (4, vI s5), (5, vI v2.1), (6, vR (some a3.1))]) C dL_isSwapped_196 (by decide) rfl ?_
                refine z_aload_n C dL_isSwapped_198 rfl 1 rfl ?_
                refine z_iload_n C dL_isSwapped_199 rfl 2 rfl ?_
                refine z_iconst C dL_isSwapped_200 (v := 1) (by decide) ?_
                refine z_rcv bd (fun b42 hbb42 htb42 => ?_)
                have heb42 := Option.some.inj hbb42
                subst heb42
                refine z_callV C cf10 mf_X9_ofBlock kt680 kt681 kt679 (k_X9_ofBlock (gL Γ) b1 s2 1 g32 (gK Γ)) htb42 rfl ⟨Nat.le_of_ble_eq_true rfl, Nat.le_of_ble_eq_true rfl⟩ (rest := []) rfl (Nat.le_of_ble_eq_true rfl) dL_isSwapped_201 (bdIg) (contIg fun v43 => ?_)
                refine z_aload C dL_isSwapped_204 7 rfl ?_
                refine z_iconst C dL_isSwapped_206 (v := 0) (by decide) ?_
                refine z_ldI C dL_isSwapped_207 bd (fun x44 => ?_)
                refine z_icmp_ne C dL_isSwapped_208 (tgt := 226) rfl it jf ?_ ?_
                · refine z_aload_n C dL_isSwapped_211 rfl 1 rfl ?_
                  refine z_bipush C dL_isSwapped_212 (v := 7) (by decide) ?_
                  refine z_rcv bd (fun b45 hbb45 htb45 => ?_)
                  have heb45 := Option.some.inj hbb45
                  subst heb45
                  refine z_callV C cf10 mf_X9_many kt737 kt738 kt736 (k_X9_many (gL Γ) b1 7 v43.2 (gK Γ)) htb45 rfl ⟨Nat.le_of_ble_eq_true rfl, Nat.le_of_ble_eq_true rfl⟩ (rest := []) rfl (Nat.le_of_ble_eq_true rfl) dL_isSwapped_214 (bdIg) (contIg fun v46 => ?_)
                  refine z_iload C dL_isSwapped_217 6 rfl ?_
                  refine z_icmp_ne C dL_isSwapped_219 (tgt := 226) rfl it jf ?_ ?_
                  · refine z_iconst C dL_isSwapped_222 (v := 1) (by decide) ?_
                    refine z_goto C dL_isSwapped_223 (tgt := 227) rfl ?_
                    exact z_zret C Z rfl dL_isSwapped_227 (fun _ => Or.inr rfl) (fun h => by cases h; rfl)
                  · exact X.no no0
                · exact X.no no0
            · refine X.conv bi ?_
              refine z_if_lt C dL_isSwapped_119 (tgt := 136) rfl it jf ?_ ?_
              · refine z_lsub [2, 3, 4, 5, 6, 7, 8, 0] rfl ?_
                exact hj136 v24.2
              · refine z_aload_n C dL_isSwapped_122 rfl 2 rfl ?_
                refine z_iload C dL_isSwapped_123 1 rfl ?_
                refine z_bipush C dL_isSwapped_125 (v := 6) (by decide) ?_
                refine X.conv bb ?_
                refine z_rcv bd (fun b26 hbb26 htb26 => ?_)
                have heb26 := Option.some.inj hbb26
                subst heb26
                refine X.conv bb ?_
                refine z_callV C cf10 mf_X9_ofTrip kt632 kt633 kt631 (k_X9_ofTrip (gL Γ) b1 q13 6 v24.2 (gK Γ)) htb26 rfl ⟨Nat.le_of_ble_eq_true rfl, Nat.le_of_ble_eq_true rfl⟩ (rest := []) rfl (Nat.le_of_ble_eq_true rfl) dL_isSwapped_127 (bdIg) (contIg fun v27 => ?_)
                refine z_iload_n C dL_isSwapped_130 rfl 4 rfl ?_
                refine X.conv bi ?_
                refine z_icmp_eq C dL_isSwapped_131 (tgt := 136) rfl it jf ?_ ?_
                · refine z_lsub [2, 3, 4, 5, 6, 7, 8, 0] rfl ?_
                  exact hj136 v27.2
                · exact X.no no1
          · exact X.no no0
        · exact X.no no0
      · exact X.no no0
    · refine z_astore (L' := [(8, vR (some q16)), (7, vI q13), (0, vR (some b1)), (1, vI s2), (2, vI s3), (3, vI s4), (4, vI s5), (5, vI v2.1), (6, vR (some a3.1))]) C dL_isSwapped_196 (by decide) rfl ?_
      refine z_aload_n C dL_isSwapped_198 rfl 2 rfl ?_
      refine z_iload_n C dL_isSwapped_199 rfl 3 rfl ?_
      refine z_iconst C dL_isSwapped_200 (v := 1) (by decide) ?_
      refine z_rcv bd (fun b47 hbb47 htb47 => ?_)
      have heb47 := Option.some.inj hbb47
      subst heb47
      refine z_callV C cf10 mf_X9_ofBlock kt680 kt681 kt679 (k_X9_ofBlock (gL Γ) b1 s2 1 g17 (gK Γ)) htb47 rfl ⟨Nat.le_of_ble_eq_true rfl, Nat.le_of_ble_eq_true rfl⟩ (rest := []) rfl (Nat.le_of_ble_eq_true rfl) dL_isSwapped_201 (bdIg) (contIg fun v48 => ?_)
      refine z_aload C dL_isSwapped_204 8 rfl ?_
      refine z_iconst C dL_isSwapped_206 (v := 0) (by decide) ?_
      refine z_ldI C dL_isSwapped_207 bd (fun x49 => ?_)
      refine z_icmp_ne C dL_isSwapped_208 (tgt := 226) rfl it jf ?_ ?_
      · refine z_aload_n C dL_isSwapped_211 rfl 2 rfl ?_
        refine z_bipush C dL_isSwapped_212 (v := 7) (by decide) ?_
        refine z_rcv bd (fun b50 hbb50 htb50 => ?_)
        have heb50 := Option.some.inj hbb50
        subst heb50
        refine z_callV C cf10 mf_X9_many kt737 kt738 kt736 (k_X9_many (gL Γ) b1 7 v48.2 (gK Γ)) htb50 rfl ⟨Nat.le_of_ble_eq_true rfl, Nat.le_of_ble_eq_true rfl⟩ (rest := []) rfl (Nat.le_of_ble_eq_true rfl) dL_isSwapped_214 (bdIg) (contIg fun v51 => ?_)
        refine z_iload C dL_isSwapped_217 7 rfl ?_
        refine z_icmp_ne C dL_isSwapped_219 (tgt := 226) rfl it jf ?_ ?_
        · refine z_iconst C dL_isSwapped_222 (v := 1) (by decide) ?_
          refine z_goto C dL_isSwapped_223 (tgt := 227) rfl ?_
          exact z_zret C Z rfl dL_isSwapped_227 (fun _ => Or.inr rfl) (fun h => by cases h; rfl)
        · exact X.no no0
      · exact X.no no0
  · refine X.conv bi ?_
    refine z_icmp_ge C dL_isSwapped_36 (tgt := 48) rfl it jf ?_ ?_
    · refine z_iconst C dL_isSwapped_48 (v := (-1)) (by decide) ?_
      refine z_lsub [2, 3, 4, 5, 6, 1, 0] rfl ?_
      exact hj49 (-1 : Int32)
    · refine z_aload_n C dL_isSwapped_39 rfl 2 rfl ?_
      refine z_iload_n C dL_isSwapped_40 rfl 3 rfl ?_
      refine z_iload_n C dL_isSwapped_41 rfl 5 rfl ?_
      refine X.conv bb ?_
      refine z_rcv bd (fun b11 hbb11 htb11 => ?_)
      have heb11 := Option.some.inj hbb11
      subst heb11
      refine X.conv bb ?_
      refine z_callV C cf10 mf_X9_at kt931 kt932 kt930 (k_X9_at (gL Γ) b1 s2 s4 g9 (gK Γ)) htb11 rfl ⟨Nat.le_of_ble_eq_true rfl, Nat.le_of_ble_eq_true rfl⟩ (rest := []) rfl (Nat.le_of_ble_eq_true rfl) dL_isSwapped_42 (bdI) (contI fun x12 => ?_)
      refine z_goto C dL_isSwapped_45 (tgt := 49) rfl ?_
      refine z_lsub [2, 3, 4, 5, 6, 1, 0] rfl ?_
      exact hj49 x12
theorem k_L_isCut (l : Launch) (hst : l.stackTraces = false) (s1 : Option Nat) (s2 : Int32) (g : HP) : MMW l Pi2 yL_isCut cL_isCut 4 (some .boolean) [(7, 41, 42, 124)] 10 264 [vR s1, vI s2] g (wIg (f_L_isCut s1 s2 g)) := by
  refine MMW_of PO_Pi2 mfw_L_isCut (fun a ha => wIg_mono (f_L_isCut_mono s1 s2 g) a ha) (Nat.le_of_ble_eq_true rfl) ?_
  intro Γ fin hfin hl hin C0 Z0 htab
  subst hl
  obtain ⟨v0, hv, rfl⟩ := wIg_some hfin
  have C : CX Γ cL_isCut 4 "BlockdutyLaw" Pi2 ok2 10 264 := C0
  have Z : RX Γ Pi2 (some .boolean) (some (vI v0.1), v0.2) := Z0
  refine X.conv (fun _ => hv) ?_
  unfold f_L_isCut
  show X Γ 0 [(0, vR s1), (1, vI s2)] [] g _
  refine z_aload_n C dL_isCut_0 rfl 0 rfl ?_
  refine z_iload_n C dL_isCut_1 rfl 1 rfl ?_
  refine z_iconst C dL_isCut_2 (v := 3) (by decide) ?_
  refine z_rcv bd (fun b1 hbb1 htb1 => ?_)
  subst hbb1
  refine z_callV C cf10 mf_X9_ofBlock kt680 kt681 kt679 (k_X9_ofBlock (gL Γ) b1 s2 3 g (gK Γ)) htb1 rfl ⟨Nat.le_of_ble_eq_true rfl, Nat.le_of_ble_eq_true rfl⟩ (rest := []) rfl (Nat.le_of_ble_eq_true rfl) dL_isCut_3 (bdIg) (contIg fun v2 => ?_)
  refine z_istore_n (L' := [(2, vI v2.1), (0, vR (some b1)), (1, vI s2)]) C dL_isCut_6 rfl (by decide) rfl ?_
  refine z_aload_n C dL_isCut_7 rfl 1 rfl ?_
  refine z_iload_n C dL_isCut_8 rfl 2 rfl ?_
  refine z_rcv bd (fun b3 hbb3 htb3 => ?_)
  have heb3 := Option.some.inj hbb3
  subst heb3
  refine z_try C cf10 mf_X9_cut kt965 kt966 kt964 (k_X9_cut (gL Γ) b1 s2 v2.2 (gK Γ)) (t_X9_cut (gL Γ) hst (gK Γ) b1 s2 v2.2) htb3 rfl ⟨Nat.le_of_ble_eq_true rfl, Nat.le_of_ble_eq_true rfl⟩ ⟨Nat.le_of_ble_eq_true rfl, Nat.le_of_ble_eq_true rfl⟩ (rest := []) rfl (Nat.le_of_ble_eq_true rfl) dL_isCut_9 (pre := []) (suf := []) (z := ⟨7, 41, 42, 124⟩) htab (fun z9 hz => by cases hz) rfl (by decide) kx929 (fun v4 => ?_) (fun g6 q5 => ?_)
  · refine z_istore_n (L' := [(3, vI v4.1), (2, vI v2.1), (0, vR (some b1)), (1, vI s2)]) C dL_isCut_12 rfl (by decide) rfl ?_
    refine z_iload_n C dL_isCut_13 rfl 0 rfl ?_
    refine z_aload_n C dL_isCut_14 rfl 2 rfl ?_
    refine z_iload_n C dL_isCut_15 rfl 3 rfl ?_
    refine z_iconst C dL_isCut_16 (v := 3) (by decide) ?_
    refine z_rcv bd (fun b7 hbb7 htb7 => ?_)
    have heb7 := Option.some.inj hbb7
    subst heb7
    refine z_callV C cf10 mf_X9_ofBlock kt680 kt681 kt679 (k_X9_ofBlock (gL Γ) b1 s2 3 v4.2 (gK Γ)) htb7 rfl ⟨Nat.le_of_ble_eq_true rfl, Nat.le_of_ble_eq_true rfl⟩ (rest := [vI v4.1]) rfl (Nat.le_of_ble_eq_true rfl) dL_isCut_17 (bdIg) (contIg fun v8 => ?_)
    refine z_icmp_ne C dL_isCut_20 (tgt := 40) rfl it jf ?_ ?_
    · refine z_aload_n C dL_isCut_23 rfl 2 rfl ?_
      refine z_iload_n C dL_isCut_24 rfl 3 rfl ?_
      refine z_iload_n C dL_isCut_25 rfl 0 rfl ?_
      refine z_iconst C dL_isCut_26 (v := 1) (by decide) ?_
      refine z_isub C dL_isCut_27 ?_
      refine z_iconst C dL_isCut_28 (v := 4) (by decide) ?_
      refine z_rcv bd (fun b9 hbb9 htb9 => ?_)
      have heb9 := Option.some.inj hbb9
      subst heb9
      refine z_callV C cf10 mf_X9_ofPiece kt821 kt822 kt1026 (k_X9_ofPiece (gL Γ) b1 s2 (v4.1 - 1) 4 v8.2 (gK Γ)) htb9 rfl ⟨Nat.le_of_ble_eq_true rfl, Nat.le_of_ble_eq_true rfl⟩ (rest := []) rfl (Nat.le_of_ble_eq_true rfl) dL_isCut_29 (bdIg) (contIg fun v10 => ?_)
      refine z_iconst C dL_isCut_32 (v := (-1)) (by decide) ?_
      refine z_icmp_ne C dL_isCut_33 (tgt := 40) rfl it jf ?_ ?_
      · refine z_iconst C dL_isCut_36 (v := 1) (by decide) ?_
        refine z_goto C dL_isCut_37 (tgt := 41) rfl ?_
        exact z_zret C Z rfl dL_isCut_41 (fun _ => Or.inr rfl) (fun h => by cases h; rfl)
      · exact X.no no0
    · exact X.no no0
  · refine z_astore_n (L' := [(3, vR (some q5)), (2, vI v2.1), (0, vR (some b1)), (1, vI s2)]) C dL_isCut_42 rfl (by decide) rfl ?_
    refine z_aload_n C dL_isCut_43 rfl 2 rfl ?_
    refine z_iload_n C dL_isCut_44 rfl 3 rfl ?_
    refine z_iconst C dL_isCut_45 (v := 3) (by decide) ?_
    refine z_rcv bd (fun b11 hbb11 htb11 => ?_)
    have heb11 := Option.some.inj hbb11
    subst heb11
    refine z_callV C cf10 mf_X9_ofBlock kt680 kt681 kt679 (k_X9_ofBlock (gL Γ) b1 s2 3 g6 (gK Γ)) htb11 rfl ⟨Nat.le_of_ble_eq_true rfl, Nat.le_of_ble_eq_true rfl⟩ (rest := []) rfl (Nat.le_of_ble_eq_true rfl) dL_isCut_46 (bdIg) (contIg fun v12 => ?_)
    refine z_iload_n C dL_isCut_49 rfl 1 rfl ?_
    refine z_icmp_ne C dL_isCut_50 (tgt := 57) rfl it jf ?_ ?_
    · refine z_iconst C dL_isCut_53 (v := 1) (by decide) ?_
      refine z_goto C dL_isCut_54 (tgt := 58) rfl ?_
      exact z_zret C Z rfl dL_isCut_58 (fun _ => Or.inr rfl) (fun h => by cases h; rfl)
    · exact X.no no0
theorem k_L_isGiven (l : Launch) (hst : l.stackTraces = false) (s1 : Option Nat) (s2 : Int32) (s3 : Int32) (s4 : Int32) (g : HP) : MMW l Pi2 yL_isGiven cL_isGiven 6 (some .boolean) [(9, 51, 52, 124)] 8 216 [vR s1, vI s2, vI s3, vI s4] g (wIg (f_L_isGiven s1 s2 s3 s4 g)) := by
  refine MMW_of PO_Pi2 mfw_L_isGiven (fun a ha => wIg_mono (f_L_isGiven_mono s1 s2 s3 s4 g) a ha) (Nat.le_of_ble_eq_true rfl) ?_
  intro Γ fin hfin hl hin C0 Z0 htab
  subst hl
  obtain ⟨v0, hv, rfl⟩ := wIg_some hfin
  have C : CX Γ cL_isGiven 6 "BlockdutyLaw" Pi2 ok2 8 216 := C0
  have Z : RX Γ Pi2 (some .boolean) (some (vI v0.1), v0.2) := Z0
  refine X.conv (fun _ => hv) ?_
  unfold f_L_isGiven
  show X Γ 0 [(0, vR s1), (1, vI s2), (2, vI s3), (3, vI s4)] [] g _
  refine z_aload_n C dL_isGiven_0 rfl 0 rfl ?_
  refine z_iload_n C dL_isGiven_1 rfl 1 rfl ?_
  refine z_iload_n C dL_isGiven_2 rfl 2 rfl ?_
  refine z_iconst C dL_isGiven_3 (v := 4) (by decide) ?_
  refine z_rcv bd (fun b1 hbb1 htb1 => ?_)
  subst hbb1
  refine z_callV C cf10 mf_X9_ofPiece kt821 kt822 kt1026 (k_X9_ofPiece (gL Γ) b1 s2 s3 4 g (gK Γ)) htb1 rfl ⟨Nat.le_of_ble_eq_true rfl, Nat.le_of_ble_eq_true rfl⟩ (rest := []) rfl (Nat.le_of_ble_eq_true rfl) dL_isGiven_4 (bdIg) (contIg fun v2 => ?_)
  refine z_istore (L' := [(4, vI v2.1), (0, vR (some b1)), (1, vI s2), (2, vI s3), (3, vI s4)]) C dL_isGiven_7 (by decide) rfl ?_
  refine z_aload_n C dL_isGiven_9 rfl 1 rfl ?_
  refine z_iload_n C dL_isGiven_10 rfl 2 rfl ?_
  refine z_iload_n C dL_isGiven_11 rfl 3 rfl ?_
  refine z_iload_n C dL_isGiven_12 rfl 4 rfl ?_
  refine z_rcv bd (fun b3 hbb3 htb3 => ?_)
  have heb3 := Option.some.inj hbb3
  subst heb3
  refine z_try C cf10 mf_X9_give kt1031 kt1032 kt1030 (k_X9_give (gL Γ) b1 s2 s3 s4 v2.2 (gK Γ)) (t_X9_give (gL Γ) hst (gK Γ) b1 s2 s3 s4 v2.2) htb3 rfl ⟨Nat.le_of_ble_eq_true rfl, Nat.le_of_ble_eq_true rfl⟩ ⟨Nat.le_of_ble_eq_true rfl, Nat.le_of_ble_eq_true rfl⟩ (rest := []) rfl (Nat.le_of_ble_eq_true rfl) dL_isGiven_13 (pre := []) (suf := []) (z := ⟨9, 51, 52, 124⟩) htab (fun z9 hz => by cases hz) rfl (by decide) kx929 (fun v4 => ?_) (fun g6 q5 => ?_)
  · refine z_istore (L' := [(5, vI v4.1), (4, vI v2.1), (0, vR (some b1)), (1, vI s2), (2, vI s3), (3, vI s4)]) C dL_isGiven_16 (by decide) rfl ?_
    refine z_iload C dL_isGiven_18 1 rfl ?_
    refine z_iconst C dL_isGiven_20 (v := (-1)) (by decide) ?_
    refine z_icmp_ne C dL_isGiven_21 (tgt := 50) rfl it jf ?_ ?_
    · refine z_aload_n C dL_isGiven_24 rfl 2 rfl ?_
      refine z_iload_n C dL_isGiven_25 rfl 3 rfl ?_
      refine z_iload_n C dL_isGiven_26 rfl 4 rfl ?_
      refine z_iconst C dL_isGiven_27 (v := 4) (by decide) ?_
      refine z_rcv bd (fun b7 hbb7 htb7 => ?_)
      have heb7 := Option.some.inj hbb7
      subst heb7
      refine z_callV C cf10 mf_X9_ofPiece kt821 kt822 kt1026 (k_X9_ofPiece (gL Γ) b1 s2 s3 4 v4.2 (gK Γ)) htb7 rfl ⟨Nat.le_of_ble_eq_true rfl, Nat.le_of_ble_eq_true rfl⟩ (rest := []) rfl (Nat.le_of_ble_eq_true rfl) dL_isGiven_28 (bdIg) (contIg fun v8 => ?_)
      refine z_iload_n C dL_isGiven_31 rfl 5 rfl ?_
      refine z_icmp_ne C dL_isGiven_32 (tgt := 50) rfl it jf ?_ ?_
      · refine z_aload_n C dL_isGiven_35 rfl 2 rfl ?_
        refine z_iload_n C dL_isGiven_36 rfl 5 rfl ?_
        refine z_iconst C dL_isGiven_37 (v := 1) (by decide) ?_
        refine z_rcv bd (fun b9 hbb9 htb9 => ?_)
        have heb9 := Option.some.inj hbb9
        subst heb9
        refine z_callV C cf10 mf_X9_ofDriver kt705 kt706 kt704 (k_X9_ofDriver (gL Γ) b1 s4 1 v8.2 (gK Γ)) htb9 rfl ⟨Nat.le_of_ble_eq_true rfl, Nat.le_of_ble_eq_true rfl⟩ (rest := []) rfl (Nat.le_of_ble_eq_true rfl) dL_isGiven_38 (bdIg) (contIg fun v10 => ?_)
        refine z_iload C dL_isGiven_41 0 rfl ?_
        refine z_icmp_ne C dL_isGiven_43 (tgt := 50) rfl it jf ?_ ?_
        · refine z_iconst C dL_isGiven_46 (v := 1) (by decide) ?_
          refine z_goto C dL_isGiven_47 (tgt := 51) rfl ?_
          exact z_zret C Z rfl dL_isGiven_51 (fun _ => Or.inr rfl) (fun h => by cases h; rfl)
        · exact X.no no0
      · exact X.no no0
    · exact X.no no0
  · refine z_astore (L' := [(5, vR (some q5)), (4, vI v2.1), (0, vR (some b1)), (1, vI s2), (2, vI s3), (3, vI s4)]) C dL_isGiven_52 (by decide) rfl ?_
    refine z_aload_n C dL_isGiven_54 rfl 2 rfl ?_
    refine z_iload_n C dL_isGiven_55 rfl 3 rfl ?_
    refine z_iload_n C dL_isGiven_56 rfl 4 rfl ?_
    refine z_iconst C dL_isGiven_57 (v := 4) (by decide) ?_
    refine z_rcv bd (fun b11 hbb11 htb11 => ?_)
    have heb11 := Option.some.inj hbb11
    subst heb11
    refine z_callV C cf10 mf_X9_ofPiece kt821 kt822 kt1026 (k_X9_ofPiece (gL Γ) b1 s2 s3 4 g6 (gK Γ)) htb11 rfl ⟨Nat.le_of_ble_eq_true rfl, Nat.le_of_ble_eq_true rfl⟩ (rest := []) rfl (Nat.le_of_ble_eq_true rfl) dL_isGiven_58 (bdIg) (contIg fun v12 => ?_)
    refine z_iload C dL_isGiven_61 1 rfl ?_
    refine z_icmp_ne C dL_isGiven_63 (tgt := 70) rfl it jf ?_ ?_
    · refine z_iconst C dL_isGiven_66 (v := 1) (by decide) ?_
      refine z_goto C dL_isGiven_67 (tgt := 71) rfl ?_
      exact z_zret C Z rfl dL_isGiven_71 (fun _ => Or.inr rfl) (fun h => by cases h; rfl)
    · exact X.no no0
theorem k_L_law_L21 {Γ : GG} {β : Type} {fin0 : β} {F0 : HP → Option β} (C : CX Γ cL_law 19 "BlockdutyLaw" Pi2 ok2 2048 84000) (hst : (gL Γ).stackTraces = false) (p21_0 : Option Nat) (p21_1 : Option Nat) (p21_2 : Nat) (p21_3 : Nat) (hexit : ∀ q21 : HP, X Γ 107 [(0, vR p21_0), (1, vR p21_1), (2, vR (some p21_2)), (3, vR (some p21_3))] [] q21 (F0 q21 = some fin0)) : ∀ (m21 : Nat) (u21_4 : Int32) (w21 : HP), X Γ 21 [(0, vR p21_0), (1, vR p21_1), (2, vR (some p21_2)), (3, vR (some p21_3)), (4, vI u21_4)] [] w21 ((f_L_law_L21 p21_0 p21_1 p21_2 p21_3 m21 u21_4 w21).bind F0 = some fin0) := by
  intro m21
  induction m21 with
  | zero =>
    intro u21_4 w21
    exact X.no no1
  | succ m21 ih =>
    intro u21_4 w21
    unfold f_L_law_L21
    refine z_iload C dL_law_21 4 rfl ?_
    refine z_bipush C dL_law_23 (v := 8) (by decide) ?_
    refine X.conv bi ?_
    refine z_icmp_ge C dL_law_25 (tgt := 107) rfl it jf ?_ ?_
    · refine z_lsub [0, 1, 2, 3] rfl ?_
      exact hexit w21
    · refine z_aload_n C dL_law_28 rfl 0 rfl ?_
      refine z_iload C dL_law_29 4 rfl ?_
      refine X.conv bb ?_
      refine z_callS C rfl mf_L_cell kt888 kt887 (k_L_cell (gL Γ) p21_0 u21_4 w21 (gK Γ)) rfl ⟨Nat.le_of_ble_eq_true rfl, Nat.le_of_ble_eq_true rfl⟩ (rest := []) rfl (Nat.le_of_ble_eq_true rfl) dL_law_31 (bdI) (contI fun x4 => ?_)
      refine z_istore (L' := [(5, vI x4), (0, vR p21_0), (1, vR p21_1), (2, vR (some p21_2)), (3, vR (some p21_3)), (4, vI u21_4)]) C dL_law_34 (by decide) rfl ?_
      refine z_aload_n C dL_law_36 rfl 3 rfl ?_
      refine z_iload C dL_law_37 5 rfl ?_
      refine z_iload C dL_law_39 0 rfl ?_
      refine z_bipush C dL_law_41 (v := 16) (by decide) ?_
      refine X.conv bb ?_
      refine z_callS C rfl mf_L_below kt884 kt883 (k_L_below (gL Γ) x4 16 w21 (gK Γ)) rfl ⟨Nat.le_of_ble_eq_true rfl, Nat.le_of_ble_eq_true rfl⟩ (rest := [vI u21_4, vR (some p21_2)]) rfl (Nat.le_of_ble_eq_true rfl) dL_law_43 (bdI) (contI fun x5 => ?_)
      refine X.conv bb ?_
      refine z_stI C dL_law_46 bd (fun g6 => ?_)
      refine z_aload_n C dL_law_47 rfl 4 rfl ?_
      refine z_iload C dL_law_48 5 rfl ?_
      refine z_iload C dL_law_50 5 rfl ?_
      refine X.conv bb ?_
      refine X.join (τ := Int32) 71 (fun q8 => [(0, vR p21_0), (1, vR p21_1), (2, vR (some p21_2)), (3, vR (some p21_3)), (4, vI u21_4), (5, vI x4)]) (fun q8 => [vI q8, vI u21_4, vR (some p21_3)]) (fun q8 => g6) (fun q8 => ?_) (fun hj71 => ?_)
      · refine X.conv bb ?_
        refine z_stZ C dL_law_71 bd (fun g9 => ?_)
        refine z_aload_n C dL_law_72 rfl 1 rfl ?_
        refine z_iload C dL_law_73 4 rfl ?_
        refine z_aload_n C dL_law_75 rfl 2 rfl ?_
        refine z_iload C dL_law_76 4 rfl ?_
        refine X.conv bb ?_
        refine z_ldI C dL_law_78 bd (fun x10 => ?_)
        refine z_iload C dL_law_79 5 rfl ?_
        refine z_bipush C dL_law_81 (v := 6) (by decide) ?_
        refine z_ishr C dL_law_83 ?_
        refine z_bipush C dL_law_84 (v := 6) (by decide) ?_
        refine X.conv bb ?_
        refine z_callS C rfl mf_L_below kt884 kt883 (k_L_below (gL Γ) (x4 >>> (6 &&& 31)) 6 g9 (gK Γ)) rfl ⟨Nat.le_of_ble_eq_true rfl, Nat.le_of_ble_eq_true rfl⟩ (rest := [vI x10, vI u21_4, vR p21_1]) rfl (Nat.le_of_ble_eq_true rfl) dL_law_86 (bdI) (contI fun x11 => ?_)
        refine z_aload_n C dL_law_89 rfl 3 rfl ?_
        refine z_iload C dL_law_90 4 rfl ?_
        refine X.conv bb ?_
        refine z_ldZ C dL_law_92 bd (fun x12 => ?_)
        refine X.conv bb ?_
        refine z_rcv bd (fun b13 hbb13 htb13 => ?_)
        subst hbb13
        refine X.conv bb ?_
        refine z_callV C cf10 mf_X9_place kt253 kt254 kt252 (k_X9_place (gL Γ) b13 u21_4 x10 x11 x12 g9 (gK Γ)) htb13 rfl ⟨Nat.le_of_ble_eq_true rfl, Nat.le_of_ble_eq_true rfl⟩ (rest := []) rfl (Nat.le_of_ble_eq_true rfl) dL_law_93 (bdIg) (contIg fun v14 => ?_)
        refine X.conv bi ?_
        refine z_if_eq C dL_law_96 (tgt := 101) rfl it jf ?_ ?_
        · refine z_iinc (L' := [(4, vI (u21_4 + 1)), (0, vR p21_0), (1, vR (some b13)), (2, vR (some p21_2)), (3, vR (some p21_3)), (5, vI x4)]) C dL_law_101 4 rfl (v := u21_4 + 1) rfl (by decide) rfl ?_
          refine z_goto C dL_law_104 (tgt := 21) rfl ?_
          refine z_lsub [1, 2, 3, 4, 0] rfl ?_
          exact ih (u21_4 + 1) v14.2
        · exact X.no no1
      · refine X.conv bi ?_
        refine z_if_eq C dL_law_52 (tgt := 66) rfl it jf ?_ ?_
        · refine z_iconst C dL_law_66 (v := 1) (by decide) ?_
          refine z_goto C dL_law_67 (tgt := 71) rfl ?_
          refine z_lsub [1, 2, 3, 4, 5, 0] rfl ?_
          exact hj71 (1 : Int32)
        · refine z_iload C dL_law_55 0 rfl ?_
          refine z_iconst C dL_law_57 (v := 4) (by decide) ?_
          refine z_ishr C dL_law_58 ?_
          refine z_iconst C dL_law_59 (v := 3) (by decide) ?_
          refine X.conv bb ?_
          refine z_callS C rfl mf_L_below kt884 kt883 (k_L_below (gL Γ) (x4 >>> (4 &&& 31)) 3 g6 (gK Γ)) rfl ⟨Nat.le_of_ble_eq_true rfl, Nat.le_of_ble_eq_true rfl⟩ (rest := [vI u21_4, vR (some p21_3)]) rfl (Nat.le_of_ble_eq_true rfl) dL_law_60 (bdI) (contI fun x7 => ?_)
          refine X.conv bi ?_
          refine z_if_le C dL_law_63 (tgt := 70) rfl it jf ?_ ?_
          · refine z_iconst C dL_law_70 (v := 0) (by decide) ?_
            refine z_lsub [1, 2, 3, 4, 5, 0] rfl ?_
            exact hj71 (0 : Int32)
          · refine z_iconst C dL_law_66 (v := 1) (by decide) ?_
            refine z_goto C dL_law_67 (tgt := 71) rfl ?_
            refine z_lsub [1, 2, 3, 4, 5, 0] rfl ?_
            exact hj71 (1 : Int32)
theorem k_L_law_L125 {Γ : GG} {β : Type} {fin0 : β} {F0 : HP → Option β} (C : CX Γ cL_law 19 "BlockdutyLaw" Pi2 ok2 2048 84000) (hst : (gL Γ).stackTraces = false) (p125_0 : Option Nat) (p125_1 : Option Nat) (p125_2 : Nat) (p125_3 : Nat) (p125_4 : Int32) (hexit : ∀ q125 : HP, X Γ 212 [(0, vR p125_0), (1, vR p125_1), (2, vR (some p125_2)), (3, vR (some p125_3)), (4, vI p125_4)] [] q125 (F0 q125 = some fin0)) : ∀ (m125 : Nat) (u125_5 : Int32) (w125 : HP), X Γ 125 [(0, vR p125_0), (1, vR p125_1), (2, vR (some p125_2)), (3, vR (some p125_3)), (4, vI p125_4), (5, vI u125_5)] [] w125 ((f_L_law_L125 p125_0 p125_1 p125_2 p125_3 p125_4 m125 u125_5 w125).bind F0 = some fin0) := by
  intro m125
  induction m125 with
  | zero =>
    intro u125_5 w125
    exact X.no no1
  | succ m125 ih =>
    intro u125_5 w125
    unfold f_L_law_L125
    refine z_iload C dL_law_125 5 rfl ?_
    refine z_iload C dL_law_127 4 rfl ?_
    refine X.conv bi ?_
    refine z_icmp_ge C dL_law_129 (tgt := 212) rfl it jf ?_ ?_
    · refine z_lsub [0, 1, 2, 3, 4] rfl ?_
      exact hexit w125
    · refine z_aload_n C dL_law_132 rfl 0 rfl ?_
      refine z_iload C dL_law_133 5 rfl ?_
      refine z_bipush C dL_law_135 (v := 16) (by decide) ?_
      refine z_irem C dL_law_137 (by decide) ?_
      refine X.conv bb ?_
      refine z_callS C rfl mf_L_cell kt888 kt887 (k_L_cell (gL Γ) p125_0 (u125_5 - u125_5 / 16 * 16) w125 (gK Γ)) rfl ⟨Nat.le_of_ble_eq_true rfl, Nat.le_of_ble_eq_true rfl⟩ (rest := []) rfl (Nat.le_of_ble_eq_true rfl) dL_law_138 (bdI) (contI fun x18 => ?_)
      refine z_bipush C dL_law_141 (v := 53) (by decide) ?_
      refine z_iload C dL_law_143 5 rfl ?_
      refine z_imul C dL_law_145 ?_
      refine z_iadd C dL_law_146 ?_
      refine z_istore (L' := [(6, vI (x18 + (53 * u125_5))), (0, vR p125_0), (1, vR p125_1), (2, vR (some p125_2)), (3, vR (some p125_3)), (4, vI p125_4), (5, vI u125_5)]) C dL_law_147 (by decide) rfl ?_
      refine z_aload_n C dL_law_149 rfl 2 rfl ?_
      refine z_iload C dL_law_150 0 rfl ?_
      refine z_iconst C dL_law_152 (v := 4) (by decide) ?_
      refine X.conv bb ?_
      refine z_callS C rfl mf_L_below kt884 kt883 (k_L_below (gL Γ) (x18 + (53 * u125_5)) 4 w125 (gK Γ)) rfl ⟨Nat.le_of_ble_eq_true rfl, Nat.le_of_ble_eq_true rfl⟩ (rest := [vR p125_1]) rfl (Nat.le_of_ble_eq_true rfl) dL_law_153 (bdI) (contI fun x19 => ?_)
      refine z_iload C dL_law_156 0 rfl ?_
      refine z_iconst C dL_law_158 (v := 2) (by decide) ?_
      refine z_ishr C dL_law_159 ?_
      refine z_bipush C dL_law_160 (v := 8) (by decide) ?_
      refine X.conv bb ?_
      refine z_callS C rfl mf_L_below kt884 kt883 (k_L_below (gL Γ) ((x18 + (53 * u125_5)) >>> (2 &&& 31)) 8 w125 (gK Γ)) rfl ⟨Nat.le_of_ble_eq_true rfl, Nat.le_of_ble_eq_true rfl⟩ (rest := [vI x19, vR p125_1]) rfl (Nat.le_of_ble_eq_true rfl) dL_law_162 (bdI) (contI fun x20 => ?_)
      refine z_iload C dL_law_165 0 rfl ?_
      refine z_iconst C dL_law_167 (v := 5) (by decide) ?_
      refine z_ishr C dL_law_168 ?_
      refine z_bipush C dL_law_169 (v := 8) (by decide) ?_
      refine X.conv bb ?_
      refine z_callS C rfl mf_L_below kt884 kt883 (k_L_below (gL Γ) ((x18 + (53 * u125_5)) >>> (5 &&& 31)) 8 w125 (gK Γ)) rfl ⟨Nat.le_of_ble_eq_true rfl, Nat.le_of_ble_eq_true rfl⟩ (rest := [vI x20, vI x19, vR p125_1]) rfl (Nat.le_of_ble_eq_true rfl) dL_law_171 (bdI) (contI fun x21 => ?_)
      refine z_iload C dL_law_174 0 rfl ?_
      refine z_iconst C dL_law_176 (v := 3) (by decide) ?_
      refine z_ishr C dL_law_177 ?_
      refine z_sipush C dL_law_178 (v := 700) (by decide) ?_
      refine X.conv bb ?_
      refine z_callS C rfl mf_L_below kt884 kt883 (k_L_below (gL Γ) ((x18 + (53 * u125_5)) >>> (3 &&& 31)) 700 w125 (gK Γ)) rfl ⟨Nat.le_of_ble_eq_true rfl, Nat.le_of_ble_eq_true rfl⟩ (rest := [vI x21, vI x20, vI x19, vR p125_1]) rfl (Nat.le_of_ble_eq_true rfl) dL_law_181 (bdI) (contI fun x22 => ?_)
      refine z_iconst C dL_law_184 (v := 5) (by decide) ?_
      refine z_iload C dL_law_185 0 rfl ?_
      refine z_bipush C dL_law_187 (v := 7) (by decide) ?_
      refine z_ishr C dL_law_189 ?_
      refine z_bipush C dL_law_190 (v := 40) (by decide) ?_
      refine X.conv bb ?_
      refine z_callS C rfl mf_L_below kt884 kt883 (k_L_below (gL Γ) ((x18 + (53 * u125_5)) >>> (7 &&& 31)) 40 w125 (gK Γ)) rfl ⟨Nat.le_of_ble_eq_true rfl, Nat.le_of_ble_eq_true rfl⟩ (rest := [vI 5, vI x22, vI x21, vI x20, vI x19, vR p125_1]) rfl (Nat.le_of_ble_eq_true rfl) dL_law_192 (bdI) (contI fun x23 => ?_)
      refine z_iadd C dL_law_195 ?_
      refine X.conv bb ?_
      refine z_rcv bd (fun b24 hbb24 htb24 => ?_)
      subst hbb24
      refine X.conv bb ?_
      refine z_callV C cf10 mf_X9_trip kt396 kt397 kt395 (k_X9_trip (gL Γ) b24 x19 x20 x21 x22 (5 + x23) w125 (gK Γ)) htb24 rfl ⟨Nat.le_of_ble_eq_true rfl, Nat.le_of_ble_eq_true rfl⟩ (rest := []) rfl (Nat.le_of_ble_eq_true rfl) dL_law_196 (bdIg) (contIg fun v25 => ?_)
      refine z_iload C dL_law_199 6 rfl ?_
      refine X.conv bi ?_
      refine z_icmp_eq C dL_law_201 (tgt := 206) rfl it jf ?_ ?_
      · refine z_iinc (L' := [(5, vI (u125_5 + 1)), (6, vI (x18 + (53 * u125_5))), (0, vR p125_0), (1, vR (some b24)), (2, vR (some p125_2)), (3, vR (some p125_3)), (4, vI p125_4)]) C dL_law_206 6 rfl (v := u125_5 + 1) rfl (by decide) rfl ?_
        refine z_goto C dL_law_209 (tgt := 125) rfl ?_
        refine z_lsub [2, 3, 4, 5, 6, 0] rfl ?_
        exact ih (u125_5 + 1) v25.2
      · exact X.no no1
theorem k_L_law_L215 {Γ : GG} {β : Type} {fin0 : β} {F0 : HP → Option β} (C : CX Γ cL_law 19 "BlockdutyLaw" Pi2 ok2 2048 84000) (hst : (gL Γ).stackTraces = false) (p215_0 : Option Nat) (p215_1 : Option Nat) (p215_2 : Nat) (p215_3 : Nat) (p215_4 : Int32) (hexit : ∀ q215 : HP, X Γ 238 [(0, vR p215_0), (1, vR p215_1), (2, vR (some p215_2)), (3, vR (some p215_3)), (4, vI p215_4)] [] q215 (F0 q215 = some fin0)) : ∀ (m215 : Nat) (u215_5 : Int32) (w215 : HP), X Γ 215 [(0, vR p215_0), (1, vR p215_1), (2, vR (some p215_2)), (3, vR (some p215_3)), (4, vI p215_4), (5, vI u215_5)] [] w215 ((f_L_law_L215 p215_0 p215_1 p215_2 p215_3 p215_4 m215 u215_5 w215).bind F0 = some fin0) := by
  intro m215
  induction m215 with
  | zero =>
    intro u215_5 w215
    exact X.no no1
  | succ m215 ih =>
    intro u215_5 w215
    unfold f_L_law_L215
    refine z_iload C dL_law_215 5 rfl ?_
    refine z_iconst C dL_law_217 (v := 4) (by decide) ?_
    refine X.conv bi ?_
    refine z_icmp_ge C dL_law_218 (tgt := 238) rfl it jf ?_ ?_
    · refine z_lsub [0, 1, 2, 3, 4] rfl ?_
      exact hexit w215
    · refine z_aload_n C dL_law_221 rfl 1 rfl ?_
      refine X.conv bb ?_
      refine z_rcv bd (fun b27 hbb27 htb27 => ?_)
      subst hbb27
      refine X.conv bb ?_
      refine z_callV C cf10 mf_X9_driver kt484 kt485 kt483 (k_X9_driver (gL Γ) b27 w215 (gK Γ)) htb27 rfl ⟨Nat.le_of_ble_eq_true rfl, Nat.le_of_ble_eq_true rfl⟩ (rest := []) rfl (Nat.le_of_ble_eq_true rfl) dL_law_222 (bdIg) (contIg fun v28 => ?_)
      refine z_iload C dL_law_225 5 rfl ?_
      refine X.conv bi ?_
      refine z_icmp_eq C dL_law_227 (tgt := 232) rfl it jf ?_ ?_
      · refine z_iinc (L' := [(5, vI (u215_5 + 1)), (0, vR p215_0), (1, vR (some b27)), (2, vR (some p215_2)), (3, vR (some p215_3)), (4, vI p215_4)]) C dL_law_232 5 rfl (v := u215_5 + 1) rfl (by decide) rfl ?_
        refine z_goto C dL_law_235 (tgt := 215) rfl ?_
        refine z_lsub [1, 2, 3, 4, 5, 0] rfl ?_
        exact ih (u215_5 + 1) v28.2
      · exact X.no no1
theorem k_L_law_L269 {Γ : GG} {β : Type} {fin0 : β} {F0 : HP → Option β} (C : CX Γ cL_law 19 "BlockdutyLaw" Pi2 ok2 2048 84000) (hst : (gL Γ).stackTraces = false) (p269_0 : Option Nat) (p269_1 : Option Nat) (p269_2 : Nat) (p269_3 : Nat) (p269_4 : Int32) (p269_5 : Int32) (p269_6 : Nat) (hexit : ∀ q269 : HP, X Γ 1027 [(1, vR p269_1), (4, vI p269_4)] [] q269 (F0 q269 = some fin0)) : ∀ (m269 : Nat) (u269_7 : Int32) (w269 : HP), X Γ 269 [(0, vR p269_0), (1, vR p269_1), (2, vR (some p269_2)), (3, vR (some p269_3)), (4, vI p269_4), (5, vI p269_5), (6, vR (some p269_6)), (7, vI u269_7)] [] w269 ((f_L_law_L269 p269_0 p269_1 p269_2 p269_3 p269_4 p269_5 p269_6 m269 u269_7 w269).bind F0 = some fin0) := by
  intro m269
  induction m269 with
  | zero =>
    intro u269_7 w269
    exact X.no no1
  | succ m269 ih =>
    intro u269_7 w269
    unfold f_L_law_L269
    refine z_iload C dL_law_269 7 rfl ?_
    refine z_bipush C dL_law_271 (v := 50) (by decide) ?_
    refine X.conv bi ?_
    refine z_icmp_ge C dL_law_273 (tgt := 1027) rfl it jf ?_ ?_
    · refine z_lsub [1, 4] rfl ?_
      exact hexit w269
    · refine z_aload_n C dL_law_276 rfl 0 rfl ?_
      refine z_iload C dL_law_277 7 rfl ?_
      refine z_bipush C dL_law_279 (v := 16) (by decide) ?_
      refine z_irem C dL_law_281 (by decide) ?_
      refine X.conv bb ?_
      refine z_callS C rfl mf_L_cell kt888 kt887 (k_L_cell (gL Γ) p269_0 (u269_7 - u269_7 / 16 * 16) w269 (gK Γ)) rfl ⟨Nat.le_of_ble_eq_true rfl, Nat.le_of_ble_eq_true rfl⟩ (rest := []) rfl (Nat.le_of_ble_eq_true rfl) dL_law_282 (bdI) (contI fun x35 => ?_)
      refine z_bipush C dL_law_285 (v := 31) (by decide) ?_
      refine z_iload C dL_law_287 7 rfl ?_
      refine z_imul C dL_law_289 ?_
      refine z_iadd C dL_law_290 ?_
      refine z_istore (L' := [(8, vI (x35 + (31 * u269_7))), (0, vR p269_0), (1, vR p269_1), (2, vR (some p269_2)), (3, vR (some p269_3)), (4, vI p269_4), (5, vI p269_5), (6, vR (some p269_6)), (7, vI u269_7)]) C dL_law_291 (by decide) rfl ?_
      refine z_aload_n C dL_law_293 rfl 1 rfl ?_
      refine z_bipush C dL_law_294 (v := 7) (by decide) ?_
      refine z_iload C dL_law_296 8 rfl ?_
      refine z_imul C dL_law_298 ?_
      refine z_iconst C dL_law_299 (v := 3) (by decide) ?_
      refine z_iadd C dL_law_300 ?_
      refine z_bipush C dL_law_301 (v := 16) (by decide) ?_
      refine z_irem C dL_law_303 (by decide) ?_
      refine X.conv bb ?_
      refine z_callS C rfl mf_L_cell kt888 kt887 (k_L_cell (gL Γ) p269_0 (((7 * u269_7) + 3) - ((7 * u269_7) + 3) / 16 * 16) w269 (gK Γ)) rfl ⟨Nat.le_of_ble_eq_true rfl, Nat.le_of_ble_eq_true rfl⟩ (rest := []) rfl (Nat.le_of_ble_eq_true rfl) dL_law_304 (bdI) (contI fun x36 => ?_)
      refine z_iconst C dL_law_307 (v := 5) (by decide) ?_
      refine z_iload C dL_law_308 8 rfl ?_
      refine z_imul C dL_law_310 ?_
      refine z_iadd C dL_law_311 ?_
      refine z_istore (L' := [(9, vI (x36 + (5 * u269_7))), (8, vI (x35 + (31 * u269_7))), (0, vR p269_0), (1, vR p269_1), (2, vR (some p269_2)), (3, vR (some p269_3)), (4, vI p269_4), (5, vI p269_5), (6, vR (some p269_6)), (7, vI u269_7)]) C dL_law_312 (by decide) rfl ?_
      refine z_aload_n C dL_law_314 rfl 3 rfl ?_
      refine z_iconst C dL_law_315 (v := 1) (by decide) ?_
      refine X.conv bb ?_
      refine z_rcv bd (fun b37 hbb37 htb37 => ?_)
      subst hbb37
      refine X.conv bb ?_
      refine z_callV C cf10 mf_X9_many kt737 kt738 kt736 (k_X9_many (gL Γ) b37 1 w269 (gK Γ)) htb37 rfl ⟨Nat.le_of_ble_eq_true rfl, Nat.le_of_ble_eq_true rfl⟩ (rest := []) rfl (Nat.le_of_ble_eq_true rfl) dL_law_316 (bdIg) (contIg fun v38 => ?_)
      refine z_istore (L' := [(10, vI v38.1), (9, vI (x36 + (5 * u269_7))), (8, vI (x35 + (31 * u269_7))), (0, vR p269_0), (1, vR (some b37)), (2, vR (some p269_2)), (3, vR (some p269_3)), (4, vI p269_4), (5, vI p269_5), (6, vR (some p269_6)), (7, vI u269_7)]) C dL_law_319 (by decide) rfl ?_
      refine z_iload C dL_law_321 0 rfl ?_
      refine X.conv bb ?_
      refine X.join (τ := Int32) 339 (fun q40 => [(0, vR p269_0), (1, vR (some b37)), (2, vR (some p269_2)), (3, vR (some p269_3)), (4, vI p269_4), (5, vI p269_5), (6, vR (some p269_6)), (7, vI u269_7), (8, vI (x35 + (31 * u269_7))), (9, vI (x36 + (5 * u269_7))), (10, vI v38.1)]) (fun q40 => [vI q40]) (fun q40 => v38.2) (fun q40 => ?_) (fun hj339 => ?_)
      · refine z_istore (L' := [(11, vI q40), (0, vR p269_0), (1, vR (some b37)), (2, vR (some p269_2)), (3, vR (some p269_3)), (4, vI p269_4), (5, vI p269_5), (6, vR (some p269_6)), (7, vI u269_7), (8, vI (x35 + (31 * u269_7))), (9, vI (x36 + (5 * u269_7))), (10, vI v38.1)]) C dL_law_339 (by decide) rfl ?_
        refine z_iload C dL_law_341 11 rfl ?_
        refine X.conv bb ?_
        refine X.join (τ := Int32) 359 (fun q42 => [(0, vR p269_0), (1, vR (some b37)), (2, vR (some p269_2)), (3, vR (some p269_3)), (4, vI p269_4), (5, vI p269_5), (6, vR (some p269_6)), (7, vI u269_7), (8, vI (x35 + (31 * u269_7))), (9, vI (x36 + (5 * u269_7))), (10, vI v38.1), (11, vI q40)]) (fun q42 => [vI q42]) (fun q42 => v38.2) (fun q42 => ?_) (fun hj359 => ?_)
        · refine z_istore (L' := [(12, vI q42), (0, vR p269_0), (1, vR (some b37)), (2, vR (some p269_2)), (3, vR (some p269_3)), (4, vI p269_4), (5, vI p269_5), (6, vR (some p269_6)), (7, vI u269_7), (8, vI (x35 + (31 * u269_7))), (9, vI (x36 + (5 * u269_7))), (10, vI v38.1), (11, vI q40)]) C dL_law_359 (by decide) rfl ?_
          refine z_iload C dL_law_361 10 rfl ?_
          refine z_iload C dL_law_363 5 rfl ?_
          refine X.conv bb ?_
          refine z_callS C rfl mf_L_below kt884 kt883 (k_L_below (gL Γ) (x36 + (5 * u269_7)) p269_4 v38.2 (gK Γ)) rfl ⟨Nat.le_of_ble_eq_true rfl, Nat.le_of_ble_eq_true rfl⟩ (rest := []) rfl (Nat.le_of_ble_eq_true rfl) dL_law_365 (bdI) (contI fun x43 => ?_)
          refine z_istore (L' := [(13, vI x43), (12, vI q42), (0, vR p269_0), (1, vR (some b37)), (2, vR (some p269_2)), (3, vR (some p269_3)), (4, vI p269_4), (5, vI p269_5), (6, vR (some p269_6)), (7, vI u269_7), (8, vI (x35 + (31 * u269_7))), (9, vI (x36 + (5 * u269_7))), (10, vI v38.1), (11, vI q40)]) C dL_law_368 (by decide) rfl ?_
          refine z_iload C dL_law_370 10 rfl ?_
          refine z_bipush C dL_law_372 (v := 16) (by decide) ?_
          refine X.conv bb ?_
          refine z_callS C rfl mf_L_below kt884 kt883 (k_L_below (gL Γ) (x35 + (31 * u269_7)) 16 v38.2 (gK Γ)) rfl ⟨Nat.le_of_ble_eq_true rfl, Nat.le_of_ble_eq_true rfl⟩ (rest := []) rfl (Nat.le_of_ble_eq_true rfl) dL_law_374 (bdI) (contI fun x44 => ?_)
          refine X.conv bb ?_
          refine X.join (τ := HP) 996 (fun q45 => [(0, vR p269_0), (1, vR (some b37)), (2, vR (some p269_2)), (3, vR (some p269_3)), (4, vI p269_4), (5, vI p269_5), (6, vR (some p269_6)), (7, vI u269_7)]) (fun q45 => []) (fun q45 => q45) (fun q45 => ?_) (fun hj996 => ?_)
          · refine z_iload C dL_law_996 7 rfl ?_
            refine z_iconst C dL_law_998 (v := 3) (by decide) ?_
            refine z_irem C dL_law_999 (by decide) ?_
            refine z_iconst C dL_law_1000 (v := 1) (by decide) ?_
            refine X.conv bi ?_
            refine z_icmp_ne C dL_law_1001 (tgt := 1021) rfl it jf ?_ ?_
            · refine z_aload_n C dL_law_1004 rfl 1 rfl ?_
              refine z_aload_n C dL_law_1005 rfl 2 rfl ?_
              refine z_aload_n C dL_law_1006 rfl 3 rfl ?_
              refine z_iload C dL_law_1007 4 rfl ?_
              refine z_aload C dL_law_1009 6 rfl ?_
              refine z_iload C dL_law_1011 5 rfl ?_
              refine X.conv bb ?_
              refine z_callS C rfl mf_L_isSound kt1054 kt1053 (k_L_isSound (gL Γ) (some b37) (some p269_2) (some p269_3) p269_4 (some p269_6) p269_5 q45 (gK Γ)) rfl ⟨Nat.le_of_ble_eq_true rfl, Nat.le_of_ble_eq_true rfl⟩ (rest := []) rfl (Nat.le_of_ble_eq_true rfl) dL_law_1013 (bdIg) (contIg fun v130 => ?_)
              refine X.conv bi ?_
              refine z_if_ne C dL_law_1016 (tgt := 1021) rfl it jf ?_ ?_
              · exact X.no no1
              · refine z_iinc (L' := [(7, vI (u269_7 + 1)), (0, vR p269_0), (1, vR (some b37)), (2, vR (some p269_2)), (3, vR (some p269_3)), (4, vI p269_4), (5, vI p269_5), (6, vR (some p269_6))]) C dL_law_1021 7 rfl (v := u269_7 + 1) rfl (by decide) rfl ?_
                refine z_goto C dL_law_1024 (tgt := 269) rfl ?_
                refine z_lsub [1, 2, 3, 4, 5, 6, 7, 0] rfl ?_
                exact ih (u269_7 + 1) v130.2
            · refine z_iinc (L' := [(7, vI (u269_7 + 1)), (0, vR p269_0), (1, vR (some b37)), (2, vR (some p269_2)), (3, vR (some p269_3)), (4, vI p269_4), (5, vI p269_5), (6, vR (some p269_6))]) C dL_law_1021 7 rfl (v := u269_7 + 1) rfl (by decide) rfl ?_
              refine z_goto C dL_law_1024 (tgt := 269) rfl ?_
              refine z_lsub [1, 2, 3, 4, 5, 6, 7, 0] rfl ?_
              exact ih (u269_7 + 1) q45
          · refine X.conv bi ?_
            refine X.cs (c := x44 = 0) it jf (fun hc0 => ?_) (fun hc0 => ?_)
            · refine z_tin C 0 dL_law_377 hc0 (by decide) (by decide) rfl (tgt := 452) rfl ?_
              refine z_iload C dL_law_452 10 rfl ?_
              refine z_iconst C dL_law_454 (v := 4) (by decide) ?_
              refine z_ishr C dL_law_455 ?_
              refine z_iconst C dL_law_456 (v := 3) (by decide) ?_
              refine X.conv bb ?_
              refine z_callS C rfl mf_L_below kt884 kt883 (k_L_below (gL Γ) ((x35 + (31 * u269_7)) >>> (4 &&& 31)) 3 v38.2 (gK Γ)) rfl ⟨Nat.le_of_ble_eq_true rfl, Nat.le_of_ble_eq_true rfl⟩ (rest := []) rfl (Nat.le_of_ble_eq_true rfl) dL_law_457 (bdI) (contI fun x46 => ?_)
              refine X.conv bi ?_
              refine z_if_ne C dL_law_460 (tgt := 996) rfl it jf ?_ ?_
              · refine z_aload_n C dL_law_463 rfl 3 rfl ?_
                refine z_bipush C dL_law_464 (v := 80) (by decide) ?_
                refine z_iload C dL_law_466 11 rfl ?_
                refine z_sipush C dL_law_468 (v := 400) (by decide) ?_
                refine X.conv bb ?_
                refine z_callS C rfl mf_L_below kt884 kt883 (k_L_below (gL Γ) (x36 + (5 * u269_7)) 400 v38.2 (gK Γ)) rfl ⟨Nat.le_of_ble_eq_true rfl, Nat.le_of_ble_eq_true rfl⟩ (rest := [vI 80, vR (some b37)]) rfl (Nat.le_of_ble_eq_true rfl) dL_law_471 (bdI) (contI fun x47 => ?_)
                refine z_iadd C dL_law_474 ?_
                refine X.conv bb ?_
                refine z_callS C rfl mf_L_isBuilt kt892 kt891 (k_L_isBuilt (gL Γ) (some b37) (80 + x47) v38.2 (gK Γ)) rfl ⟨Nat.le_of_ble_eq_true rfl, Nat.le_of_ble_eq_true rfl⟩ (rest := []) rfl (Nat.le_of_ble_eq_true rfl) dL_law_475 (bdIg) (contIg fun v48 => ?_)
                refine X.conv bi ?_
                refine z_if_ne C dL_law_478 (tgt := 996) rfl it jf ?_ ?_
                · exact X.no no1
                · refine z_lsub [2, 3, 4, 5, 6, 7, 8, 9] rfl ?_
                  exact hj996 v48.2
              · refine z_lsub [2, 3, 4, 5, 6, 7, 8, 9] rfl ?_
                exact hj996 v38.2
            · refine X.conv bi ?_
              refine X.cs (c := x44 = 1) it jf (fun hc1 => ?_) (fun hc1 => ?_)
              · refine z_tin C 1 dL_law_377 hc1 (by decide) (by decide) rfl (tgt := 483) rfl ?_
                refine z_iload C dL_law_483 12 rfl ?_
                refine z_bipush C dL_law_485 (v := 8) (by decide) ?_
                refine X.conv bi ?_
                refine z_icmp_ge C dL_law_487 (tgt := 996) rfl it jf ?_ ?_
                · refine z_lsub [2, 3, 4, 5, 6, 7, 8, 9] rfl ?_
                  exact hj996 v38.2
                · refine z_aload_n C dL_law_490 rfl 3 rfl ?_
                  refine z_bipush C dL_law_491 (v := 80) (by decide) ?_
                  refine z_iload C dL_law_493 10 rfl ?_
                  refine z_iconst C dL_law_495 (v := 4) (by decide) ?_
                  refine z_ishr C dL_law_496 ?_
                  refine z_sipush C dL_law_497 (v := 300) (by decide) ?_
                  refine X.conv bb ?_
                  refine z_callS C rfl mf_L_below kt884 kt883 (k_L_below (gL Γ) ((x35 + (31 * u269_7)) >>> (4 &&& 31)) 300 v38.2 (gK Γ)) rfl ⟨Nat.le_of_ble_eq_true rfl, Nat.le_of_ble_eq_true rfl⟩ (rest := [vI 80, vR (some b37)]) rfl (Nat.le_of_ble_eq_true rfl) dL_law_500 (bdI) (contI fun x49 => ?_)
                  refine z_iadd C dL_law_503 ?_
                  refine X.conv bb ?_
                  refine z_rcv bd (fun b50 hbb50 htb50 => ?_)
                  have heb50 := Option.some.inj hbb50
                  subst heb50
                  refine X.conv bb ?_
                  refine z_callV C cf10 mf_X9_block kt511 kt512 kt510 (k_X9_block (gL Γ) b37 (80 + x49) v38.2 (gK Γ)) htb50 rfl ⟨Nat.le_of_ble_eq_true rfl, Nat.le_of_ble_eq_true rfl⟩ (rest := []) rfl (Nat.le_of_ble_eq_true rfl) dL_law_504 (bdIg) (contIg fun v51 => ?_)
                  refine z_iload C dL_law_507 12 rfl ?_
                  refine X.conv bi ?_
                  refine z_icmp_eq C dL_law_509 (tgt := 996) rfl it jf ?_ ?_
                  · refine z_lsub [2, 3, 4, 5, 6, 7, 8, 9] rfl ?_
                    exact hj996 v51.2
                  · exact X.no no1
              · refine X.conv bi ?_
                refine X.cs (c := x44 = 2) it jf (fun hc2 => ?_) (fun hc2 => ?_)
                · refine z_tin C 2 dL_law_377 hc2 (by decide) (by decide) rfl (tgt := 514) rfl ?_
                  refine z_iload C dL_law_514 13 rfl ?_
                  refine X.conv bi ?_
                  refine z_if_lt C dL_law_516 (tgt := 996) rfl it jf ?_ ?_
                  · refine z_lsub [2, 3, 4, 5, 6, 7, 8, 9] rfl ?_
                    exact hj996 v38.2
                  · refine z_aload_n C dL_law_519 rfl 3 rfl ?_
                    refine z_aload_n C dL_law_520 rfl 4 rfl ?_
                    refine z_iload C dL_law_521 13 rfl ?_
                    refine z_iload C dL_law_523 0 rfl ?_
                    refine X.conv bb ?_
                    refine z_callSW C rfl mfw_L_isAppended kt927 kt926 (k_L_isAppended (gL Γ) hst (some b37) (some p269_2) q40 x43 v38.2 (gK Γ)) rfl ⟨Nat.le_of_ble_eq_true rfl, Nat.le_of_ble_eq_true rfl⟩ (rest := []) rfl (Nat.le_of_ble_eq_true rfl) dL_law_525 (bdIg) (contIg fun v52 => ?_)
                    refine X.conv bi ?_
                    refine z_if_ne C dL_law_528 (tgt := 996) rfl it jf ?_ ?_
                    · exact X.no no1
                    · refine z_lsub [2, 3, 4, 5, 6, 7, 8, 9] rfl ?_
                      exact hj996 v52.2
                · refine X.conv bi ?_
                  refine X.cs (c := x44 = 3) it jf (fun hc3 => ?_) (fun hc3 => ?_)
                  · refine z_tin C 3 dL_law_377 hc3 (by decide) (by decide) rfl (tgt := 514) rfl ?_
                    refine z_iload C dL_law_514 13 rfl ?_
                    refine X.conv bi ?_
                    refine z_if_lt C dL_law_516 (tgt := 996) rfl it jf ?_ ?_
                    · refine z_lsub [2, 3, 4, 5, 6, 7, 8, 9] rfl ?_
                      exact hj996 v38.2
                    · refine z_aload_n C dL_law_519 rfl 3 rfl ?_
                      refine z_aload_n C dL_law_520 rfl 4 rfl ?_
                      refine z_iload C dL_law_521 13 rfl ?_
                      refine z_iload C dL_law_523 0 rfl ?_
                      refine X.conv bb ?_
                      refine z_callSW C rfl mfw_L_isAppended kt927 kt926 (k_L_isAppended (gL Γ) hst (some b37) (some p269_2) q40 x43 v38.2 (gK Γ)) rfl ⟨Nat.le_of_ble_eq_true rfl, Nat.le_of_ble_eq_true rfl⟩ (rest := []) rfl (Nat.le_of_ble_eq_true rfl) dL_law_525 (bdIg) (contIg fun v53 => ?_)
                      refine X.conv bi ?_
                      refine z_if_ne C dL_law_528 (tgt := 996) rfl it jf ?_ ?_
                      · exact X.no no1
                      · refine z_lsub [2, 3, 4, 5, 6, 7, 8, 9] rfl ?_
                        exact hj996 v53.2
                  · refine X.conv bi ?_
                    refine X.cs (c := x44 = 4) it jf (fun hc4 => ?_) (fun hc4 => ?_)
                    · refine z_tin C 4 dL_law_377 hc4 (by decide) (by decide) rfl (tgt := 514) rfl ?_
                      refine z_iload C dL_law_514 13 rfl ?_
                      refine X.conv bi ?_
                      refine z_if_lt C dL_law_516 (tgt := 996) rfl it jf ?_ ?_
                      · refine z_lsub [2, 3, 4, 5, 6, 7, 8, 9] rfl ?_
                        exact hj996 v38.2
                      · refine z_aload_n C dL_law_519 rfl 3 rfl ?_
                        refine z_aload_n C dL_law_520 rfl 4 rfl ?_
                        refine z_iload C dL_law_521 13 rfl ?_
                        refine z_iload C dL_law_523 0 rfl ?_
                        refine X.conv bb ?_
                        refine z_callSW C rfl mfw_L_isAppended kt927 kt926 (k_L_isAppended (gL Γ) hst (some b37) (some p269_2) q40 x43 v38.2 (gK Γ)) rfl ⟨Nat.le_of_ble_eq_true rfl, Nat.le_of_ble_eq_true rfl⟩ (rest := []) rfl (Nat.le_of_ble_eq_true rfl) dL_law_525 (bdIg) (contIg fun v54 => ?_)
                        refine X.conv bi ?_
                        refine z_if_ne C dL_law_528 (tgt := 996) rfl it jf ?_ ?_
                        · exact X.no no1
                        · refine z_lsub [2, 3, 4, 5, 6, 7, 8, 9] rfl ?_
                          exact hj996 v54.2
                    · refine X.conv bi ?_
                      refine X.cs (c := x44 = 5) it jf (fun hc5 => ?_) (fun hc5 => ?_)
                      · refine z_tin C 5 dL_law_377 hc5 (by decide) (by decide) rfl (tgt := 533) rfl ?_
                        refine z_iload C dL_law_533 13 rfl ?_
                        refine X.conv bi ?_
                        refine z_if_lt C dL_law_535 (tgt := 996) rfl it jf ?_ ?_
                        · refine z_lsub [2, 3, 4, 5, 6, 7, 8, 9] rfl ?_
                          exact hj996 v38.2
                        · refine z_aload_n C dL_law_538 rfl 3 rfl ?_
                          refine z_iload C dL_law_539 13 rfl ?_
                          refine z_iconst C dL_law_541 (v := 1) (by decide) ?_
                          refine X.conv bb ?_
                          refine z_rcv bd (fun b55 hbb55 htb55 => ?_)
                          have heb55 := Option.some.inj hbb55
                          subst heb55
                          refine X.conv bb ?_
                          refine z_callV C cf10 mf_X9_ofBlock kt680 kt681 kt679 (k_X9_ofBlock (gL Γ) b37 q40 1 v38.2 (gK Γ)) htb55 rfl ⟨Nat.le_of_ble_eq_true rfl, Nat.le_of_ble_eq_true rfl⟩ (rest := []) rfl (Nat.le_of_ble_eq_true rfl) dL_law_542 (bdIg) (contIg fun v56 => ?_)
                          refine X.conv bi ?_
                          refine z_if_le C dL_law_545 (tgt := 996) rfl it jf ?_ ?_
                          · refine z_lsub [2, 3, 4, 5, 6, 7, 8, 9] rfl ?_
                            exact hj996 v56.2
                          · refine z_aload_n C dL_law_548 rfl 3 rfl ?_
                            refine z_iload C dL_law_549 13 rfl ?_
                            refine X.conv bb ?_
                            refine z_rcv bd (fun b57 hbb57 htb57 => ?_)
                            have heb57 := Option.some.inj hbb57
                            subst heb57
                            refine X.conv bb ?_
                            refine z_callV C cf10 mf_X9_takeOff kt553 kt554 kt552 (k_X9_takeOff (gL Γ) b37 q40 v56.2 (gK Γ)) htb57 rfl ⟨Nat.le_of_ble_eq_true rfl, Nat.le_of_ble_eq_true rfl⟩ (rest := []) rfl (Nat.le_of_ble_eq_true rfl) dL_law_551 (bdIg) (contIg fun v58 => ?_)
                            refine X.conv bi ?_
                            refine z_if_lt C dL_law_554 (tgt := 567) rfl it jf ?_ ?_
                            · exact X.no no1
                            · refine z_aload_n C dL_law_557 rfl 3 rfl ?_
                              refine z_iload C dL_law_558 13 rfl ?_
                              refine z_iconst C dL_law_560 (v := 3) (by decide) ?_
                              refine X.conv bb ?_
                              refine z_rcv bd (fun b59 hbb59 htb59 => ?_)
                              have heb59 := Option.some.inj hbb59
                              subst heb59
                              refine X.conv bb ?_
                              refine z_callV C cf10 mf_X9_ofBlock kt680 kt681 kt679 (k_X9_ofBlock (gL Γ) b37 q40 3 v58.2 (gK Γ)) htb59 rfl ⟨Nat.le_of_ble_eq_true rfl, Nat.le_of_ble_eq_true rfl⟩ (rest := []) rfl (Nat.le_of_ble_eq_true rfl) dL_law_561 (bdIg) (contIg fun v60 => ?_)
                              refine X.conv bi ?_
                              refine z_if_eq C dL_law_564 (tgt := 996) rfl it jf ?_ ?_
                              · refine z_lsub [2, 3, 4, 5, 6, 7, 8, 9] rfl ?_
                                exact hj996 v60.2
                              · exact X.no no1
                      · refine X.conv bi ?_
                        refine X.cs (c := x44 = 6) it jf (fun hc6 => ?_) (fun hc6 => ?_)
                        · refine z_tin C 6 dL_law_377 hc6 (by decide) (by decide) rfl (tgt := 569) rfl ?_
                          refine z_iload C dL_law_569 13 rfl ?_
                          refine X.conv bi ?_
                          refine z_if_lt C dL_law_571 (tgt := 996) rfl it jf ?_ ?_
                          · refine z_lsub [2, 3, 4, 5, 6, 7, 8, 9] rfl ?_
                            exact hj996 v38.2
                          · refine z_iload C dL_law_574 13 rfl ?_
                            refine z_iload C dL_law_576 1 rfl ?_
                            refine X.conv bi ?_
                            refine z_icmp_eq C dL_law_578 (tgt := 996) rfl it jf ?_ ?_
                            · refine z_lsub [2, 3, 4, 5, 6, 7, 8, 9] rfl ?_
                              exact hj996 v38.2
                            · refine z_aload_n C dL_law_581 rfl 3 rfl ?_
                              refine z_iload C dL_law_582 13 rfl ?_
                              refine z_iload C dL_law_584 1 rfl ?_
                              refine z_iload C dL_law_586 10 rfl ?_
                              refine z_iconst C dL_law_588 (v := 4) (by decide) ?_
                              refine z_ishr C dL_law_589 ?_
                              refine z_aload_n C dL_law_590 rfl 3 rfl ?_
                              refine z_iload C dL_law_591 13 rfl ?_
                              refine z_iconst C dL_law_593 (v := 1) (by decide) ?_
                              refine X.conv bb ?_
                              refine z_rcv bd (fun b61 hbb61 htb61 => ?_)
                              have heb61 := Option.some.inj hbb61
                              subst heb61
                              refine X.conv bb ?_
                              refine z_callV C cf10 mf_X9_ofBlock kt680 kt681 kt679 (k_X9_ofBlock (gL Γ) b37 q40 1 v38.2 (gK Γ)) htb61 rfl ⟨Nat.le_of_ble_eq_true rfl, Nat.le_of_ble_eq_true rfl⟩ (rest := [vI ((x35 + (31 * u269_7)) >>> (4 &&& 31)), vI q42, vI q40, vR (some b37)]) rfl (Nat.le_of_ble_eq_true rfl) dL_law_594 (bdIg) (contIg fun v62 => ?_)
                              refine z_iconst C dL_law_597 (v := 1) (by decide) ?_
                              refine z_iadd C dL_law_598 ?_
                              refine X.conv bb ?_
                              refine z_callS C rfl mf_L_below kt884 kt883 (k_L_below (gL Γ) ((x35 + (31 * u269_7)) >>> (4 &&& 31)) (v62.1 + 1) v62.2 (gK Γ)) rfl ⟨Nat.le_of_ble_eq_true rfl, Nat.le_of_ble_eq_true rfl⟩ (rest := [vI q42, vI q40, vR (some b37)]) rfl (Nat.le_of_ble_eq_true rfl) dL_law_599 (bdI) (contI fun x63 => ?_)
                              refine z_iload C dL_law_602 11 rfl ?_
                              refine z_iconst C dL_law_604 (v := 5) (by decide) ?_
                              refine z_ishr C dL_law_605 ?_
                              refine z_aload_n C dL_law_606 rfl 3 rfl ?_
                              refine z_iload C dL_law_607 1 rfl ?_
                              refine z_iconst C dL_law_609 (v := 1) (by decide) ?_
                              refine X.conv bb ?_
                              refine z_rcv bd (fun b64 hbb64 htb64 => ?_)
                              have heb64 := Option.some.inj hbb64
                              subst heb64
                              refine X.conv bb ?_
                              refine z_callV C cf10 mf_X9_ofBlock kt680 kt681 kt679 (k_X9_ofBlock (gL Γ) b37 q42 1 v62.2 (gK Γ)) htb64 rfl ⟨Nat.le_of_ble_eq_true rfl, Nat.le_of_ble_eq_true rfl⟩ (rest := [vI ((x36 + (5 * u269_7)) >>> (5 &&& 31)), vI x63, vI q42, vI q40, vR (some b37)]) rfl (Nat.le_of_ble_eq_true rfl) dL_law_610 (bdIg) (contIg fun v65 => ?_)
                              refine z_iconst C dL_law_613 (v := 1) (by decide) ?_
                              refine z_iadd C dL_law_614 ?_
                              refine X.conv bb ?_
                              refine z_callS C rfl mf_L_below kt884 kt883 (k_L_below (gL Γ) ((x36 + (5 * u269_7)) >>> (5 &&& 31)) (v65.1 + 1) v65.2 (gK Γ)) rfl ⟨Nat.le_of_ble_eq_true rfl, Nat.le_of_ble_eq_true rfl⟩ (rest := [vI x63, vI q42, vI q40, vR (some b37)]) rfl (Nat.le_of_ble_eq_true rfl) dL_law_615 (bdI) (contI fun x66 => ?_)
                              refine X.conv bb ?_
                              refine z_callSW C rfl mfw_L_isSwapped kt948 kt947 (k_L_isSwapped (gL Γ) hst (some b37) q40 q42 x63 x66 v65.2 (gK Γ)) rfl ⟨Nat.le_of_ble_eq_true rfl, Nat.le_of_ble_eq_true rfl⟩ (rest := []) rfl (Nat.le_of_ble_eq_true rfl) dL_law_618 (bdIg) (contIg fun v67 => ?_)
                              refine X.conv bi ?_
                              refine z_if_ne C dL_law_621 (tgt := 996) rfl it jf ?_ ?_
                              · exact X.no no1
                              · refine z_lsub [2, 3, 4, 5, 6, 7, 8, 9] rfl ?_
                                exact hj996 v67.2
                        · refine X.conv bi ?_
                          refine X.cs (c := x44 = 7) it jf (fun hc7 => ?_) (fun hc7 => ?_)
                          · refine z_tin C 7 dL_law_377 hc7 (by decide) (by decide) rfl (tgt := 626) rfl ?_
                            refine z_iload C dL_law_626 13 rfl ?_
                            refine X.conv bi ?_
                            refine z_if_lt C dL_law_628 (tgt := 996) rfl it jf ?_ ?_
                            · refine z_lsub [2, 3, 4, 5, 6, 7, 8, 9] rfl ?_
                              exact hj996 v38.2
                            · refine z_aload_n C dL_law_631 rfl 3 rfl ?_
                              refine z_iload C dL_law_632 13 rfl ?_
                              refine X.conv bb ?_
                              refine z_callSW C rfl mfw_L_isCut kt962 kt961 (k_L_isCut (gL Γ) hst (some b37) q40 v38.2 (gK Γ)) rfl ⟨Nat.le_of_ble_eq_true rfl, Nat.le_of_ble_eq_true rfl⟩ (rest := []) rfl (Nat.le_of_ble_eq_true rfl) dL_law_634 (bdIg) (contIg fun v68 => ?_)
                              refine X.conv bi ?_
                              refine z_if_ne C dL_law_637 (tgt := 996) rfl it jf ?_ ?_
                              · exact X.no no1
                              · refine z_lsub [2, 3, 4, 5, 6, 7, 8, 9] rfl ?_
                                exact hj996 v68.2
                          · refine X.conv bi ?_
                            refine X.cs (c := x44 = 8) it jf (fun hc8 => ?_) (fun hc8 => ?_)
                            · refine z_tin C 8 dL_law_377 hc8 (by decide) (by decide) rfl (tgt := 626) rfl ?_
                              refine z_iload C dL_law_626 13 rfl ?_
                              refine X.conv bi ?_
                              refine z_if_lt C dL_law_628 (tgt := 996) rfl it jf ?_ ?_
                              · refine z_lsub [2, 3, 4, 5, 6, 7, 8, 9] rfl ?_
                                exact hj996 v38.2
                              · refine z_aload_n C dL_law_631 rfl 3 rfl ?_
                                refine z_iload C dL_law_632 13 rfl ?_
                                refine X.conv bb ?_
                                refine z_callSW C rfl mfw_L_isCut kt962 kt961 (k_L_isCut (gL Γ) hst (some b37) q40 v38.2 (gK Γ)) rfl ⟨Nat.le_of_ble_eq_true rfl, Nat.le_of_ble_eq_true rfl⟩ (rest := []) rfl (Nat.le_of_ble_eq_true rfl) dL_law_634 (bdIg) (contIg fun v69 => ?_)
                                refine X.conv bi ?_
                                refine z_if_ne C dL_law_637 (tgt := 996) rfl it jf ?_ ?_
                                · exact X.no no1
                                · refine z_lsub [2, 3, 4, 5, 6, 7, 8, 9] rfl ?_
                                  exact hj996 v69.2
                            · refine X.conv bi ?_
                              refine X.cs (c := x44 = 9) it jf (fun hc9 => ?_) (fun hc9 => ?_)
                              · refine z_tin C 9 dL_law_377 hc9 (by decide) (by decide) rfl (tgt := 642) rfl ?_
                                refine z_iload C dL_law_642 13 rfl ?_
                                refine X.conv bi ?_
                                refine z_if_lt C dL_law_644 (tgt := 996) rfl it jf ?_ ?_
                                · refine z_lsub [2, 3, 4, 5, 6, 7, 8, 9] rfl ?_
                                  exact hj996 v38.2
                                · refine z_aload_n C dL_law_647 rfl 3 rfl ?_
                                  refine z_iload C dL_law_648 13 rfl ?_
                                  refine z_iconst C dL_law_650 (v := 3) (by decide) ?_
                                  refine X.conv bb ?_
                                  refine z_rcv bd (fun b70 hbb70 htb70 => ?_)
                                  have heb70 := Option.some.inj hbb70
                                  subst heb70
                                  refine X.conv bb ?_
                                  refine z_callV C cf10 mf_X9_ofBlock kt680 kt681 kt679 (k_X9_ofBlock (gL Γ) b37 q40 3 v38.2 (gK Γ)) htb70 rfl ⟨Nat.le_of_ble_eq_true rfl, Nat.le_of_ble_eq_true rfl⟩ (rest := []) rfl (Nat.le_of_ble_eq_true rfl) dL_law_651 (bdIg) (contIg fun v71 => ?_)
                                  refine X.conv bi ?_
                                  refine z_if_le C dL_law_654 (tgt := 996) rfl it jf ?_ ?_
                                  · refine z_lsub [2, 3, 4, 5, 6, 7, 8, 9] rfl ?_
                                    exact hj996 v71.2
                                  · refine z_aload_n C dL_law_657 rfl 3 rfl ?_
                                    refine z_iload C dL_law_658 13 rfl ?_
                                    refine z_iload C dL_law_660 10 rfl ?_
                                    refine z_iconst C dL_law_662 (v := 4) (by decide) ?_
                                    refine z_ishr C dL_law_663 ?_
                                    refine z_aload_n C dL_law_664 rfl 3 rfl ?_
                                    refine z_iload C dL_law_665 13 rfl ?_
                                    refine z_iconst C dL_law_667 (v := 3) (by decide) ?_
                                    refine X.conv bb ?_
                                    refine z_rcv bd (fun b72 hbb72 htb72 => ?_)
                                    have heb72 := Option.some.inj hbb72
                                    subst heb72
                                    refine X.conv bb ?_
                                    refine z_callV C cf10 mf_X9_ofBlock kt680 kt681 kt679 (k_X9_ofBlock (gL Γ) b37 q40 3 v71.2 (gK Γ)) htb72 rfl ⟨Nat.le_of_ble_eq_true rfl, Nat.le_of_ble_eq_true rfl⟩ (rest := [vI ((x35 + (31 * u269_7)) >>> (4 &&& 31)), vI q40, vR (some b37)]) rfl (Nat.le_of_ble_eq_true rfl) dL_law_668 (bdIg) (contIg fun v73 => ?_)
                                    refine X.conv bb ?_
                                    refine z_callS C rfl mf_L_below kt884 kt883 (k_L_below (gL Γ) ((x35 + (31 * u269_7)) >>> (4 &&& 31)) v73.1 v73.2 (gK Γ)) rfl ⟨Nat.le_of_ble_eq_true rfl, Nat.le_of_ble_eq_true rfl⟩ (rest := [vI q40, vR (some b37)]) rfl (Nat.le_of_ble_eq_true rfl) dL_law_671 (bdI) (contI fun x74 => ?_)
                                    refine z_iload C dL_law_674 11 rfl ?_
                                    refine z_iconst C dL_law_676 (v := 5) (by decide) ?_
                                    refine z_ishr C dL_law_677 ?_
                                    refine z_iconst C dL_law_678 (v := 4) (by decide) ?_
                                    refine X.conv bb ?_
                                    refine z_callS C rfl mf_L_below kt884 kt883 (k_L_below (gL Γ) ((x36 + (5 * u269_7)) >>> (5 &&& 31)) 4 v73.2 (gK Γ)) rfl ⟨Nat.le_of_ble_eq_true rfl, Nat.le_of_ble_eq_true rfl⟩ (rest := [vI x74, vI q40, vR (some b37)]) rfl (Nat.le_of_ble_eq_true rfl) dL_law_679 (bdI) (contI fun x75 => ?_)
                                    refine X.conv bb ?_
                                    refine z_callSW C rfl mfw_L_isGiven kt1028 kt1027 (k_L_isGiven (gL Γ) hst (some b37) q40 x74 x75 v73.2 (gK Γ)) rfl ⟨Nat.le_of_ble_eq_true rfl, Nat.le_of_ble_eq_true rfl⟩ (rest := []) rfl (Nat.le_of_ble_eq_true rfl) dL_law_682 (bdIg) (contIg fun v76 => ?_)
                                    refine X.conv bi ?_
                                    refine z_if_ne C dL_law_685 (tgt := 996) rfl it jf ?_ ?_
                                    · exact X.no no1
                                    · refine z_lsub [2, 3, 4, 5, 6, 7, 8, 9] rfl ?_
                                      exact hj996 v76.2
                              · refine X.conv bi ?_
                                refine X.cs (c := x44 = 10) it jf (fun hc10 => ?_) (fun hc10 => ?_)
                                · refine z_tin C 10 dL_law_377 hc10 (by decide) (by decide) rfl (tgt := 642) rfl ?_
                                  refine z_iload C dL_law_642 13 rfl ?_
                                  refine X.conv bi ?_
                                  refine z_if_lt C dL_law_644 (tgt := 996) rfl it jf ?_ ?_
                                  · refine z_lsub [2, 3, 4, 5, 6, 7, 8, 9] rfl ?_
                                    exact hj996 v38.2
                                  · refine z_aload_n C dL_law_647 rfl 3 rfl ?_
                                    refine z_iload C dL_law_648 13 rfl ?_
                                    refine z_iconst C dL_law_650 (v := 3) (by decide) ?_
                                    refine X.conv bb ?_
                                    refine z_rcv bd (fun b77 hbb77 htb77 => ?_)
                                    have heb77 := Option.some.inj hbb77
                                    subst heb77
                                    refine X.conv bb ?_
                                    refine z_callV C cf10 mf_X9_ofBlock kt680 kt681 kt679 (k_X9_ofBlock (gL Γ) b37 q40 3 v38.2 (gK Γ)) htb77 rfl ⟨Nat.le_of_ble_eq_true rfl, Nat.le_of_ble_eq_true rfl⟩ (rest := []) rfl (Nat.le_of_ble_eq_true rfl) dL_law_651 (bdIg) (contIg fun v78 => ?_)
                                    refine X.conv bi ?_
                                    refine z_if_le C dL_law_654 (tgt := 996) rfl it jf ?_ ?_
                                    · refine z_lsub [2, 3, 4, 5, 6, 7, 8, 9] rfl ?_
                                      exact hj996 v78.2
                                    · refine z_aload_n C dL_law_657 rfl 3 rfl ?_
                                      refine z_iload C dL_law_658 13 rfl ?_
                                      refine z_iload C dL_law_660 10 rfl ?_
                                      refine z_iconst C dL_law_662 (v := 4) (by decide) ?_
                                      refine z_ishr C dL_law_663 ?_
                                      refine z_aload_n C dL_law_664 rfl 3 rfl ?_
                                      refine z_iload C dL_law_665 13 rfl ?_
                                      refine z_iconst C dL_law_667 (v := 3) (by decide) ?_
                                      refine X.conv bb ?_
                                      refine z_rcv bd (fun b79 hbb79 htb79 => ?_)
                                      have heb79 := Option.some.inj hbb79
                                      subst heb79
                                      refine X.conv bb ?_
                                      refine z_callV C cf10 mf_X9_ofBlock kt680 kt681 kt679 (k_X9_ofBlock (gL Γ) b37 q40 3 v78.2 (gK Γ)) htb79 rfl ⟨Nat.le_of_ble_eq_true rfl, Nat.le_of_ble_eq_true rfl⟩ (rest := [vI ((x35 + (31 * u269_7)) >>> (4 &&& 31)), vI q40, vR (some b37)]) rfl (Nat.le_of_ble_eq_true rfl) dL_law_668 (bdIg) (contIg fun v80 => ?_)
                                      refine X.conv bb ?_
                                      refine z_callS C rfl mf_L_below kt884 kt883 (k_L_below (gL Γ) ((x35 + (31 * u269_7)) >>> (4 &&& 31)) v80.1 v80.2 (gK Γ)) rfl ⟨Nat.le_of_ble_eq_true rfl, Nat.le_of_ble_eq_true rfl⟩ (rest := [vI q40, vR (some b37)]) rfl (Nat.le_of_ble_eq_true rfl) dL_law_671 (bdI) (contI fun x81 => ?_)
                                      refine z_iload C dL_law_674 11 rfl ?_
                                      refine z_iconst C dL_law_676 (v := 5) (by decide) ?_
                                      refine z_ishr C dL_law_677 ?_
                                      refine z_iconst C dL_law_678 (v := 4) (by decide) ?_
                                      refine X.conv bb ?_
                                      refine z_callS C rfl mf_L_below kt884 kt883 (k_L_below (gL Γ) ((x36 + (5 * u269_7)) >>> (5 &&& 31)) 4 v80.2 (gK Γ)) rfl ⟨Nat.le_of_ble_eq_true rfl, Nat.le_of_ble_eq_true rfl⟩ (rest := [vI x81, vI q40, vR (some b37)]) rfl (Nat.le_of_ble_eq_true rfl) dL_law_679 (bdI) (contI fun x82 => ?_)
                                      refine X.conv bb ?_
                                      refine z_callSW C rfl mfw_L_isGiven kt1028 kt1027 (k_L_isGiven (gL Γ) hst (some b37) q40 x81 x82 v80.2 (gK Γ)) rfl ⟨Nat.le_of_ble_eq_true rfl, Nat.le_of_ble_eq_true rfl⟩ (rest := []) rfl (Nat.le_of_ble_eq_true rfl) dL_law_682 (bdIg) (contIg fun v83 => ?_)
                                      refine X.conv bi ?_
                                      refine z_if_ne C dL_law_685 (tgt := 996) rfl it jf ?_ ?_
                                      · exact X.no no1
                                      · refine z_lsub [2, 3, 4, 5, 6, 7, 8, 9] rfl ?_
                                        exact hj996 v83.2
                                · refine X.conv bi ?_
                                  refine X.cs (c := x44 = 11) it jf (fun hc11 => ?_) (fun hc11 => ?_)
                                  · refine z_tin C 11 dL_law_377 hc11 (by decide) (by decide) rfl (tgt := 690) rfl ?_
                                    refine z_aload_n C dL_law_690 rfl 3 rfl ?_
                                    refine z_iload C dL_law_691 0 rfl ?_
                                    refine z_iload C dL_law_693 10 rfl ?_
                                    refine z_iconst C dL_law_695 (v := 4) (by decide) ?_
                                    refine z_ishr C dL_law_696 ?_
                                    refine z_bipush C dL_law_697 (v := 45) (by decide) ?_
                                    refine X.conv bb ?_
                                    refine z_callS C rfl mf_L_below kt884 kt883 (k_L_below (gL Γ) ((x35 + (31 * u269_7)) >>> (4 &&& 31)) 45 v38.2 (gK Γ)) rfl ⟨Nat.le_of_ble_eq_true rfl, Nat.le_of_ble_eq_true rfl⟩ (rest := [vI x43, vR (some b37)]) rfl (Nat.le_of_ble_eq_true rfl) dL_law_699 (bdI) (contI fun x84 => ?_)
                                    refine X.conv bb ?_
                                    refine z_rcv bd (fun b85 hbb85 htb85 => ?_)
                                    have heb85 := Option.some.inj hbb85
                                    subst heb85
                                    refine X.conv bb ?_
                                    refine z_callV C cf10 mf_X9_delay kt613 kt614 kt612 (k_X9_delay (gL Γ) b37 x43 x84 v38.2 (gK Γ)) htb85 rfl ⟨Nat.le_of_ble_eq_true rfl, Nat.le_of_ble_eq_true rfl⟩ (rest := []) rfl (Nat.le_of_ble_eq_true rfl) dL_law_702 (bdIg) (contIg fun v86 => ?_)
                                    refine z_bipush C dL_law_705 (v := 44) (by decide) ?_
                                    refine X.conv bi ?_
                                    refine z_icmp_le C dL_law_707 (tgt := 996) rfl it jf ?_ ?_
                                    · refine z_lsub [2, 3, 4, 5, 6, 7, 8, 9] rfl ?_
                                      exact hj996 v86.2
                                    · exact X.no no1
                                  · refine X.conv bi ?_
                                    refine X.cs (c := x44 = 12) it jf (fun hc12 => ?_) (fun hc12 => ?_)
                                    · refine z_tin C 12 dL_law_377 hc12 (by decide) (by decide) rfl (tgt := 712) rfl ?_
                                      refine z_aload_n C dL_law_712 rfl 3 rfl ?_
                                      refine z_iload C dL_law_713 11 rfl ?_
                                      refine z_iconst C dL_law_715 (v := 4) (by decide) ?_
                                      refine X.conv bb ?_
                                      refine z_callS C rfl mf_L_below kt884 kt883 (k_L_below (gL Γ) (x36 + (5 * u269_7)) 4 v38.2 (gK Γ)) rfl ⟨Nat.le_of_ble_eq_true rfl, Nat.le_of_ble_eq_true rfl⟩ (rest := [vR (some b37)]) rfl (Nat.le_of_ble_eq_true rfl) dL_law_716 (bdI) (contI fun x87 => ?_)
                                      refine z_iconst C dL_law_719 (v := 2) (by decide) ?_
                                      refine X.conv bb ?_
                                      refine z_rcv bd (fun b88 hbb88 htb88 => ?_)
                                      have heb88 := Option.some.inj hbb88
                                      subst heb88
                                      refine X.conv bb ?_
                                      refine z_callV C cf10 mf_X9_ofDriver kt705 kt706 kt704 (k_X9_ofDriver (gL Γ) b37 x87 2 v38.2 (gK Γ)) htb88 rfl ⟨Nat.le_of_ble_eq_true rfl, Nat.le_of_ble_eq_true rfl⟩ (rest := []) rfl (Nat.le_of_ble_eq_true rfl) dL_law_720 (bdIg) (contIg fun v89 => ?_)
                                      refine z_iconst C dL_law_723 (v := 1) (by decide) ?_
                                      refine X.conv bb ?_
                                      refine X.join (τ := Int32) 732 (fun q90 => [(0, vR p269_0), (1, vR (some b37)), (2, vR (some p269_2)), (3, vR (some p269_3)), (4, vI p269_4), (5, vI p269_5), (6, vR (some p269_6)), (7, vI u269_7), (8, vI (x35 + (31 * u269_7))), (9, vI (x36 + (5 * u269_7)))]) (fun q90 => [vI q90]) (fun q90 => v89.2) (fun q90 => ?_) (fun hj732 => ?_)
                                      · refine z_istore (L' := [(14, vI q90), (0, vR p269_0), (1, vR (some b37)), (2, vR (some p269_2)), (3, vR (some p269_3)), (4, vI p269_4), (5, vI p269_5), (6, vR (some p269_6)), (7, vI u269_7), (8, vI (x35 + (31 * u269_7))), (9, vI (x36 + (5 * u269_7)))]) C dL_law_732 (by decide) rfl ?_
                                        refine z_iload C dL_law_734 9 rfl ?_
                                        refine z_iconst C dL_law_736 (v := 4) (by decide) ?_
                                        refine z_ishr C dL_law_737 ?_
                                        refine z_iconst C dL_law_738 (v := 4) (by decide) ?_
                                        refine X.conv bb ?_
                                        refine z_callS C rfl mf_L_below kt884 kt883 (k_L_below (gL Γ) ((x35 + (31 * u269_7)) >>> (4 &&& 31)) 4 v89.2 (gK Γ)) rfl ⟨Nat.le_of_ble_eq_true rfl, Nat.le_of_ble_eq_true rfl⟩ (rest := []) rfl (Nat.le_of_ble_eq_true rfl) dL_law_739 (bdI) (contI fun x91 => ?_)
                                        refine X.conv bb ?_
                                        refine X.join (τ := Int32) 750 (fun q92 => [(0, vR p269_0), (1, vR (some b37)), (2, vR (some p269_2)), (3, vR (some p269_3)), (4, vI p269_4), (5, vI p269_5), (6, vR (some p269_6)), (7, vI u269_7), (9, vI (x36 + (5 * u269_7))), (14, vI q90)]) (fun q92 => [vI q92]) (fun q92 => v89.2) (fun q92 => ?_) (fun hj750 => ?_)
                                        · refine z_istore (L' := [(15, vI q92), (0, vR p269_0), (1, vR (some b37)), (2, vR (some p269_2)), (3, vR (some p269_3)), (4, vI p269_4), (5, vI p269_5), (6, vR (some p269_6)), (7, vI u269_7), (9, vI (x36 + (5 * u269_7))), (14, vI q90)]) C dL_law_750 (by decide) rfl ?_
                                          refine z_aload_n C dL_law_752 rfl 2 rfl ?_
                                          refine z_iload C dL_law_753 9 rfl ?_
                                          refine z_iconst C dL_law_755 (v := 4) (by decide) ?_
                                          refine X.conv bb ?_
                                          refine z_callS C rfl mf_L_below kt884 kt883 (k_L_below (gL Γ) (x36 + (5 * u269_7)) 4 v89.2 (gK Γ)) rfl ⟨Nat.le_of_ble_eq_true rfl, Nat.le_of_ble_eq_true rfl⟩ (rest := [vR (some b37)]) rfl (Nat.le_of_ble_eq_true rfl) dL_law_756 (bdI) (contI fun x93 => ?_)
                                          refine z_iload C dL_law_759 0 rfl ?_
                                          refine X.conv bb ?_
                                          refine z_rcv bd (fun b94 hbb94 htb94 => ?_)
                                          have heb94 := Option.some.inj hbb94
                                          subst heb94
                                          refine X.conv bb ?_
                                          refine z_callV C cf10 mf_X9_sick kt623 kt624 kt622 (k_X9_sick (gL Γ) b37 x93 q92 v89.2 (gK Γ)) htb94 rfl ⟨Nat.le_of_ble_eq_true rfl, Nat.le_of_ble_eq_true rfl⟩ (rest := []) rfl (Nat.le_of_ble_eq_true rfl) dL_law_761 (bdIg) (contIg fun v95 => ?_)
                                          refine z_iload C dL_law_764 10 rfl ?_
                                          refine X.conv bi ?_
                                          refine z_icmp_ne C dL_law_766 (tgt := 793) rfl it jf ?_ ?_
                                          · refine z_aload_n C dL_law_769 rfl 2 rfl ?_
                                            refine z_iload C dL_law_770 9 rfl ?_
                                            refine z_iconst C dL_law_772 (v := 4) (by decide) ?_
                                            refine X.conv bb ?_
                                            refine z_callS C rfl mf_L_below kt884 kt883 (k_L_below (gL Γ) (x36 + (5 * u269_7)) 4 v95.2 (gK Γ)) rfl ⟨Nat.le_of_ble_eq_true rfl, Nat.le_of_ble_eq_true rfl⟩ (rest := [vR (some b37)]) rfl (Nat.le_of_ble_eq_true rfl) dL_law_773 (bdI) (contI fun x96 => ?_)
                                            refine z_iconst C dL_law_776 (v := 2) (by decide) ?_
                                            refine X.conv bb ?_
                                            refine z_rcv bd (fun b97 hbb97 htb97 => ?_)
                                            have heb97 := Option.some.inj hbb97
                                            subst heb97
                                            refine X.conv bb ?_
                                            refine z_callV C cf10 mf_X9_ofDriver kt705 kt706 kt704 (k_X9_ofDriver (gL Γ) b37 x96 2 v95.2 (gK Γ)) htb97 rfl ⟨Nat.le_of_ble_eq_true rfl, Nat.le_of_ble_eq_true rfl⟩ (rest := []) rfl (Nat.le_of_ble_eq_true rfl) dL_law_777 (bdIg) (contIg fun v98 => ?_)
                                            refine z_iload C dL_law_780 0 rfl ?_
                                            refine X.conv bi ?_
                                            refine z_if_eq C dL_law_782 (tgt := 789) rfl it jf ?_ ?_
                                            · refine z_iconst C dL_law_789 (v := 0) (by decide) ?_
                                              refine X.conv bi ?_
                                              refine z_icmp_eq C dL_law_790 (tgt := 996) rfl it jf ?_ ?_
                                              · refine z_lsub [1, 2, 3, 4, 5, 6, 7, 8] rfl ?_
                                                exact hj996 v98.2
                                              · exact X.no no1
                                            · refine z_iconst C dL_law_785 (v := 1) (by decide) ?_
                                              refine z_goto C dL_law_786 (tgt := 790) rfl ?_
                                              refine X.conv bi ?_
                                              refine z_icmp_eq C dL_law_790 (tgt := 996) rfl it jf ?_ ?_
                                              · refine z_lsub [1, 2, 3, 4, 5, 6, 7, 8] rfl ?_
                                                exact hj996 v98.2
                                              · exact X.no no1
                                          · exact X.no no1
                                        · refine X.conv bi ?_
                                          refine z_if_ne C dL_law_742 (tgt := 749) rfl it jf ?_ ?_
                                          · refine z_iconst C dL_law_745 (v := 1) (by decide) ?_
                                            refine z_goto C dL_law_746 (tgt := 750) rfl ?_
                                            refine z_lsub [1, 2, 3, 4, 5, 6, 7, 8, 10, 0] rfl ?_
                                            exact hj750 (1 : Int32)
                                          · refine z_iconst C dL_law_749 (v := 0) (by decide) ?_
                                            refine z_lsub [1, 2, 3, 4, 5, 6, 7, 8, 10, 0] rfl ?_
                                            exact hj750 (0 : Int32)
                                      · refine X.conv bi ?_
                                        refine z_icmp_ne C dL_law_724 (tgt := 731) rfl it jf ?_ ?_
                                        · refine z_iconst C dL_law_727 (v := 1) (by decide) ?_
                                          refine z_goto C dL_law_728 (tgt := 732) rfl ?_
                                          refine z_lsub [2, 3, 4, 5, 6, 7, 8, 9, 10, 11] rfl ?_
                                          exact hj732 (1 : Int32)
                                        · refine z_iconst C dL_law_731 (v := 0) (by decide) ?_
                                          refine z_lsub [2, 3, 4, 5, 6, 7, 8, 9, 10, 11] rfl ?_
                                          exact hj732 (0 : Int32)
                                    · refine X.conv bi ?_
                                      refine X.cs (c := x44 = 13) it jf (fun hc13 => ?_) (fun hc13 => ?_)
                                      · refine z_tin C 13 dL_law_377 hc13 (by decide) (by decide) rfl (tgt := 795) rfl ?_
                                        refine z_iload C dL_law_795 13 rfl ?_
                                        refine X.conv bi ?_
                                        refine z_if_lt C dL_law_797 (tgt := 996) rfl it jf ?_ ?_
                                        · refine z_lsub [2, 3, 4, 5, 6, 7, 8, 9] rfl ?_
                                          exact hj996 v38.2
                                        · refine z_aload_n C dL_law_800 rfl 3 rfl ?_
                                          refine z_iload C dL_law_801 13 rfl ?_
                                          refine z_iload C dL_law_803 10 rfl ?_
                                          refine z_iconst C dL_law_805 (v := 4) (by decide) ?_
                                          refine z_ishr C dL_law_806 ?_
                                          refine z_sipush C dL_law_807 (v := 900) (by decide) ?_
                                          refine X.conv bb ?_
                                          refine z_callS C rfl mf_L_below kt884 kt883 (k_L_below (gL Γ) ((x35 + (31 * u269_7)) >>> (4 &&& 31)) 900 v38.2 (gK Γ)) rfl ⟨Nat.le_of_ble_eq_true rfl, Nat.le_of_ble_eq_true rfl⟩ (rest := [vI q40, vR (some b37)]) rfl (Nat.le_of_ble_eq_true rfl) dL_law_810 (bdI) (contI fun x99 => ?_)
                                          refine X.conv bb ?_
                                          refine z_callS C rfl mf_L_isBroken kt1046 kt1045 (k_L_isBroken (gL Γ) (some b37) q40 x99 v38.2 (gK Γ)) rfl ⟨Nat.le_of_ble_eq_true rfl, Nat.le_of_ble_eq_true rfl⟩ (rest := []) rfl (Nat.le_of_ble_eq_true rfl) dL_law_813 (bdIg) (contIg fun v100 => ?_)
                                          refine X.conv bi ?_
                                          refine z_if_ne C dL_law_816 (tgt := 996) rfl it jf ?_ ?_
                                          · exact X.no no1
                                          · refine z_lsub [2, 3, 4, 5, 6, 7, 8, 9] rfl ?_
                                            exact hj996 v100.2
                                      · refine X.conv bi ?_
                                        refine X.cs (c := x44 = 14) it jf (fun hc14 => ?_) (fun hc14 => ?_)
                                        · refine z_tin C 14 dL_law_377 hc14 (by decide) (by decide) rfl (tgt := 821) rfl ?_
                                          refine z_aload C dL_law_821 8 rfl ?_
                                          refine z_iload C dL_law_823 11 rfl ?_
                                          refine z_iconst C dL_law_825 (v := 4) (by decide) ?_
                                          refine X.conv bb ?_
                                          refine z_callS C rfl mf_L_below kt884 kt883 (k_L_below (gL Γ) (x36 + (5 * u269_7)) 4 v38.2 (gK Γ)) rfl ⟨Nat.le_of_ble_eq_true rfl, Nat.le_of_ble_eq_true rfl⟩ (rest := [vR (some p269_6)]) rfl (Nat.le_of_ble_eq_true rfl) dL_law_826 (bdI) (contI fun x101 => ?_)
                                          refine z_iload C dL_law_829 10 rfl ?_
                                          refine z_iconst C dL_law_831 (v := 4) (by decide) ?_
                                          refine z_ishr C dL_law_832 ?_
                                          refine z_bipush C dL_law_833 (v := 30) (by decide) ?_
                                          refine X.conv bb ?_
                                          refine z_callS C rfl mf_L_below kt884 kt883 (k_L_below (gL Γ) ((x35 + (31 * u269_7)) >>> (4 &&& 31)) 30 v38.2 (gK Γ)) rfl ⟨Nat.le_of_ble_eq_true rfl, Nat.le_of_ble_eq_true rfl⟩ (rest := [vI x101, vR (some p269_6)]) rfl (Nat.le_of_ble_eq_true rfl) dL_law_835 (bdI) (contI fun x102 => ?_)
                                          refine X.conv bb ?_
                                          refine z_stI C dL_law_838 bd (fun g103 => ?_)
                                          refine z_aload_n C dL_law_839 rfl 3 rfl ?_
                                          refine z_iload C dL_law_840 11 rfl ?_
                                          refine z_iconst C dL_law_842 (v := 4) (by decide) ?_
                                          refine X.conv bb ?_
                                          refine z_callS C rfl mf_L_below kt884 kt883 (k_L_below (gL Γ) (x36 + (5 * u269_7)) 4 g103 (gK Γ)) rfl ⟨Nat.le_of_ble_eq_true rfl, Nat.le_of_ble_eq_true rfl⟩ (rest := [vR (some b37)]) rfl (Nat.le_of_ble_eq_true rfl) dL_law_843 (bdI) (contI fun x104 => ?_)
                                          refine z_aload C dL_law_846 8 rfl ?_
                                          refine z_iload C dL_law_848 11 rfl ?_
                                          refine z_iconst C dL_law_850 (v := 4) (by decide) ?_
                                          refine X.conv bb ?_
                                          refine z_callS C rfl mf_L_below kt884 kt883 (k_L_below (gL Γ) (x36 + (5 * u269_7)) 4 g103 (gK Γ)) rfl ⟨Nat.le_of_ble_eq_true rfl, Nat.le_of_ble_eq_true rfl⟩ (rest := [vR (some p269_6), vI x104, vR (some b37)]) rfl (Nat.le_of_ble_eq_true rfl) dL_law_851 (bdI) (contI fun x105 => ?_)
                                          refine X.conv bb ?_
                                          refine z_ldI C dL_law_854 bd (fun x106 => ?_)
                                          refine z_iload C dL_law_855 11 rfl ?_
                                          refine z_iconst C dL_law_857 (v := 4) (by decide) ?_
                                          refine z_ishr C dL_law_858 ?_
                                          refine z_iconst C dL_law_859 (v := 4) (by decide) ?_
                                          refine X.conv bb ?_
                                          refine z_callS C rfl mf_L_below kt884 kt883 (k_L_below (gL Γ) ((x36 + (5 * u269_7)) >>> (4 &&& 31)) 4 g103 (gK Γ)) rfl ⟨Nat.le_of_ble_eq_true rfl, Nat.le_of_ble_eq_true rfl⟩ (rest := [vI x106, vI x104, vR (some b37)]) rfl (Nat.le_of_ble_eq_true rfl) dL_law_860 (bdI) (contI fun x107 => ?_)
                                          refine X.conv bb ?_
                                          refine X.join (τ := Int32) 871 (fun q108 => [(0, vR p269_0), (1, vR (some b37)), (2, vR (some p269_2)), (3, vR (some p269_3)), (4, vI p269_4), (5, vI p269_5), (6, vR (some p269_6)), (7, vI u269_7)]) (fun q108 => [vI q108, vI x106, vI x104, vR (some b37)]) (fun q108 => g103) (fun q108 => ?_) (fun hj871 => ?_)
                                          · refine X.conv bb ?_
                                            refine z_rcv bd (fun b109 hbb109 htb109 => ?_)
                                            have heb109 := Option.some.inj hbb109
                                            subst heb109
                                            refine X.conv bb ?_
                                            refine z_callV C cf10 mf_X9_line kt386 kt387 kt385 (k_X9_line (gL Γ) b37 x104 x106 q108 g103 (gK Γ)) htb109 rfl ⟨Nat.le_of_ble_eq_true rfl, Nat.le_of_ble_eq_true rfl⟩ (rest := []) rfl (Nat.le_of_ble_eq_true rfl) dL_law_871 (bdIg) (contIg fun v110 => ?_)
                                            refine z_bipush C dL_law_874 (v := 29) (by decide) ?_
                                            refine X.conv bi ?_
                                            refine z_icmp_le C dL_law_876 (tgt := 996) rfl it jf ?_ ?_
                                            · refine z_lsub [0, 1, 2, 3, 4, 5, 6, 7] rfl ?_
                                              exact hj996 v110.2
                                            · exact X.no no1
                                          · refine X.conv bi ?_
                                            refine z_if_ne C dL_law_863 (tgt := 870) rfl it jf ?_ ?_
                                            · refine z_iconst C dL_law_866 (v := 1) (by decide) ?_
                                              refine z_goto C dL_law_867 (tgt := 871) rfl ?_
                                              refine z_lsub [2, 3, 4, 5, 6, 7, 8, 9] rfl ?_
                                              exact hj871 (1 : Int32)
                                            · refine z_iconst C dL_law_870 (v := 0) (by decide) ?_
                                              refine z_lsub [2, 3, 4, 5, 6, 7, 8, 9] rfl ?_
                                              exact hj871 (0 : Int32)
                                        · refine z_tout C dL_law_377 (tsw_out (hi := 14) (by decide) (fun k hk => by
                                              rcases (show k = 0 ∨ k = 1 ∨ k = 2 ∨ k = 3 ∨ k = 4 ∨ k = 5 ∨ k = 6 ∨ k = 7 ∨ k = 8 ∨ k = 9 ∨ k = 10 ∨ k = 11 ∨ k = 12 ∨ k = 13 ∨ k = 14 by omega) with rfl | rfl | rfl | rfl | rfl | rfl | rfl | rfl | rfl | rfl | rfl | rfl | rfl | rfl | rfl
                                              · exact hc0
                                              · exact hc1
                                              · exact hc2
                                              · exact hc3
                                              · exact hc4
                                              · exact hc5
                                              · exact hc6
                                              · exact hc7
                                              · exact hc8
                                              · exact hc9
                                              · exact hc10
                                              · exact hc11
                                              · exact hc12
                                              · exact hc13
                                              · exact hc14)) (tgt := 881) rfl ?_
                                          refine z_aload_n C dL_law_881 rfl 3 rfl ?_
                                          refine z_iload C dL_law_882 0 rfl ?_
                                          refine z_iconst C dL_law_884 (v := 5) (by decide) ?_
                                          refine X.conv bb ?_
                                          refine z_rcv bd (fun b111 hbb111 htb111 => ?_)
                                          have heb111 := Option.some.inj hbb111
                                          subst heb111
                                          refine X.conv bb ?_
                                          refine z_callV C cf10 mf_X9_ofTrip kt632 kt633 kt631 (k_X9_ofTrip (gL Γ) b37 x43 5 v38.2 (gK Γ)) htb111 rfl ⟨Nat.le_of_ble_eq_true rfl, Nat.le_of_ble_eq_true rfl⟩ (rest := []) rfl (Nat.le_of_ble_eq_true rfl) dL_law_885 (bdIg) (contIg fun v112 => ?_)
                                          refine z_istore (L' := [(16, vI v112.1), (13, vI x43), (12, vI q42), (0, vR p269_0), (1, vR (some b37)), (2, vR (some p269_2)), (3, vR (some p269_3)), (4, vI p269_4), (5, vI p269_5), (6, vR (some p269_6)), (7, vI u269_7), (8, vI (x35 + (31 * u269_7))), (9, vI (x36 + (5 * u269_7))), (10, vI v38.1), (11, vI q40)]) C dL_law_888 (by decide) rfl ?_
                                          refine z_aload_n C dL_law_890 rfl 4 rfl ?_
                                          refine z_iload C dL_law_891 1 rfl ?_
                                          refine X.conv bb ?_
                                          refine z_rcv bd (fun b113 hbb113 htb113 => ?_)
                                          have heb113 := Option.some.inj hbb113
                                          subst heb113
                                          refine X.conv bb ?_
                                          refine z_callV C cf10 mf_X9_mayDelay kt791 kt792 kt790 (k_X9_mayDelay (gL Γ) b37 x43 v112.2 (gK Γ)) htb113 rfl ⟨Nat.le_of_ble_eq_true rfl, Nat.le_of_ble_eq_true rfl⟩ (rest := []) rfl (Nat.le_of_ble_eq_true rfl) dL_law_893 (bdIg) (contIg fun v114 => ?_)
                                          refine z_istore (L' := [(17, vI v114.1), (16, vI v112.1), (13, vI x43), (12, vI q42), (0, vR p269_0), (1, vR (some b37)), (2, vR (some p269_2)), (3, vR (some p269_3)), (4, vI p269_4), (5, vI p269_5), (6, vR (some p269_6)), (7, vI u269_7), (8, vI (x35 + (31 * u269_7))), (9, vI (x36 + (5 * u269_7))), (10, vI v38.1), (11, vI q40)]) C dL_law_896 (by decide) rfl ?_
                                          refine z_aload_n C dL_law_898 rfl 5 rfl ?_
                                          refine z_iload C dL_law_899 2 rfl ?_
                                          refine z_iconst C dL_law_901 (v := 0) (by decide) ?_
                                          refine X.conv bb ?_
                                          refine z_rcv bd (fun b115 hbb115 htb115 => ?_)
                                          have heb115 := Option.some.inj hbb115
                                          subst heb115
                                          refine X.conv bb ?_
                                          refine z_callV C cf10 mf_X9_delay kt613 kt614 kt612 (k_X9_delay (gL Γ) b37 x43 0 v114.2 (gK Γ)) htb115 rfl ⟨Nat.le_of_ble_eq_true rfl, Nat.le_of_ble_eq_true rfl⟩ (rest := []) rfl (Nat.le_of_ble_eq_true rfl) dL_law_902 (bdIg) (contIg fun v116 => ?_)
                                          refine z_iload C dL_law_905 1 rfl ?_
                                          refine X.conv bi ?_
                                          refine z_icmp_eq C dL_law_907 (tgt := 912) rfl it jf ?_ ?_
                                          · refine z_iload C dL_law_912 8 rfl ?_
                                            refine z_aload_n C dL_law_914 rfl 5 rfl ?_
                                            refine z_iconst C dL_law_915 (v := 4) (by decide) ?_
                                            refine X.conv bb ?_
                                            refine z_rcv bd (fun b117 hbb117 htb117 => ?_)
                                            have heb117 := Option.some.inj hbb117
                                            subst heb117
                                            refine X.conv bb ?_
                                            refine z_callV C cf10 mf_X9_many kt737 kt738 kt736 (k_X9_many (gL Γ) b37 4 v116.2 (gK Γ)) htb117 rfl ⟨Nat.le_of_ble_eq_true rfl, Nat.le_of_ble_eq_true rfl⟩ (rest := [vI p269_4]) rfl (Nat.le_of_ble_eq_true rfl) dL_law_916 (bdIg) (contIg fun v118 => ?_)
                                            refine z_isub C dL_law_919 ?_
                                            refine z_istore (L' := [(18, vI (p269_4 - v118.1)), (17, vI v114.1), (16, vI v112.1), (13, vI x43), (12, vI q42), (0, vR p269_0), (1, vR (some b37)), (2, vR (some p269_2)), (3, vR (some p269_3)), (4, vI p269_4), (5, vI p269_5), (6, vR (some p269_6)), (7, vI u269_7), (8, vI (x35 + (31 * u269_7))), (9, vI (x36 + (5 * u269_7))), (10, vI v38.1), (11, vI q40)]) C dL_law_920 (by decide) rfl ?_
                                            refine z_aload_n C dL_law_922 rfl 6 rfl ?_
                                            refine z_iload C dL_law_923 3 rfl ?_
                                            refine z_iload C dL_law_925 1 rfl ?_
                                            refine X.conv bb ?_
                                            refine z_rcv bd (fun b119 hbb119 htb119 => ?_)
                                            have heb119 := Option.some.inj hbb119
                                            subst heb119
                                            refine X.conv bb ?_
                                            refine z_callV C cf10 mf_X9_delay kt613 kt614 kt612 (k_X9_delay (gL Γ) b37 x43 v114.1 v118.2 (gK Γ)) htb119 rfl ⟨Nat.le_of_ble_eq_true rfl, Nat.le_of_ble_eq_true rfl⟩ (rest := []) rfl (Nat.le_of_ble_eq_true rfl) dL_law_927 (bdIg) (contIg fun v120 => ?_)
                                            refine X.conv bi ?_
                                            refine z_if_ne C dL_law_930 (tgt := 981) rfl it jf ?_ ?_
                                            · refine z_iload C dL_law_933 9 rfl ?_
                                              refine z_aload_n C dL_law_935 rfl 6 rfl ?_
                                              refine z_iconst C dL_law_936 (v := 4) (by decide) ?_
                                              refine X.conv bb ?_
                                              refine z_rcv bd (fun b121 hbb121 htb121 => ?_)
                                              have heb121 := Option.some.inj hbb121
                                              subst heb121
                                              refine X.conv bb ?_
                                              refine z_callV C cf10 mf_X9_many kt737 kt738 kt736 (k_X9_many (gL Γ) b37 4 v120.2 (gK Γ)) htb121 rfl ⟨Nat.le_of_ble_eq_true rfl, Nat.le_of_ble_eq_true rfl⟩ (rest := [vI p269_4]) rfl (Nat.le_of_ble_eq_true rfl) dL_law_937 (bdIg) (contIg fun v122 => ?_)
                                              refine z_isub C dL_law_940 ?_
                                              refine z_iload C dL_law_941 0 rfl ?_
                                              refine X.conv bi ?_
                                              refine z_icmp_gt C dL_law_943 (tgt := 981) rfl it jf ?_ ?_
                                              · exact X.no no1
                                              · refine z_iload C dL_law_946 1 rfl ?_
                                                refine z_bipush C dL_law_948 (v := 120) (by decide) ?_
                                                refine X.conv bb ?_
                                                refine X.join (τ := HP) 983 (fun q127 => [(0, vR p269_0), (1, vR (some b37)), (2, vR (some p269_2)), (3, vR (some p269_3)), (4, vI p269_4), (5, vI p269_5), (6, vR (some p269_6)), (7, vI u269_7), (13, vI x43), (16, vI v112.1)]) (fun q127 => []) (fun q127 => q127) (fun q127 => ?_) (fun hj983 => ?_)
                                                · refine z_aload_n C dL_law_983 rfl 1 rfl ?_
                                                  refine z_iload C dL_law_984 8 rfl ?_
                                                  refine z_iload C dL_law_986 9 rfl ?_
                                                  refine X.conv bb ?_
                                                  refine z_rcv bd (fun b128 hbb128 htb128 => ?_)
                                                  have heb128 := Option.some.inj hbb128
                                                  subst heb128
                                                  refine X.conv bb ?_
                                                  refine z_callV C cf10 mf_X9_delay kt613 kt614 kt612 (k_X9_delay (gL Γ) b37 x43 v112.1 q127 (gK Γ)) htb128 rfl ⟨Nat.le_of_ble_eq_true rfl, Nat.le_of_ble_eq_true rfl⟩ (rest := []) rfl (Nat.le_of_ble_eq_true rfl) dL_law_988 (bdIg) (contIg fun v129 => ?_)
                                                  refine X.conv bi ?_
                                                  refine z_if_ge C dL_law_991 (tgt := 996) rfl it jf ?_ ?_
                                                  · refine z_lsub [0, 1, 2, 3, 4, 5, 6, 7] rfl ?_
                                                    exact hj996 v129.2
                                                  · exact X.no no1
                                                · refine X.conv bi ?_
                                                  refine z_icmp_ge C dL_law_950 (tgt := 983) rfl it jf ?_ ?_
                                                  · refine z_lsub [5, 6, 7, 8, 9, 10, 11, 12, 3, 2] rfl ?_
                                                    exact hj983 v122.2
                                                  · refine z_aload_n C dL_law_953 rfl 6 rfl ?_
                                                    refine z_iload C dL_law_954 3 rfl ?_
                                                    refine z_iload C dL_law_956 1 rfl ?_
                                                    refine z_iconst C dL_law_958 (v := 1) (by decide) ?_
                                                    refine z_iadd C dL_law_959 ?_
                                                    refine X.conv bb ?_
                                                    refine z_rcv bd (fun b123 hbb123 htb123 => ?_)
                                                    have heb123 := Option.some.inj hbb123
                                                    subst heb123
                                                    refine X.conv bb ?_
                                                    refine z_callV C cf10 mf_X9_delay kt613 kt614 kt612 (k_X9_delay (gL Γ) b37 x43 (v114.1 + 1) v122.2 (gK Γ)) htb123 rfl ⟨Nat.le_of_ble_eq_true rfl, Nat.le_of_ble_eq_true rfl⟩ (rest := []) rfl (Nat.le_of_ble_eq_true rfl) dL_law_960 (bdIg) (contIg fun v124 => ?_)
                                                    refine z_iload C dL_law_963 1 rfl ?_
                                                    refine X.conv bi ?_
                                                    refine z_icmp_ne C dL_law_965 (tgt := 981) rfl it jf ?_ ?_
                                                    · refine z_iload C dL_law_968 9 rfl ?_
                                                      refine z_aload_n C dL_law_970 rfl 6 rfl ?_
                                                      refine z_iconst C dL_law_971 (v := 4) (by decide) ?_
                                                      refine X.conv bb ?_
                                                      refine z_rcv bd (fun b125 hbb125 htb125 => ?_)
                                                      have heb125 := Option.some.inj hbb125
                                                      subst heb125
                                                      refine X.conv bb ?_
                                                      refine z_callV C cf10 mf_X9_many kt737 kt738 kt736 (k_X9_many (gL Γ) b37 4 v124.2 (gK Γ)) htb125 rfl ⟨Nat.le_of_ble_eq_true rfl, Nat.le_of_ble_eq_true rfl⟩ (rest := [vI p269_4]) rfl (Nat.le_of_ble_eq_true rfl) dL_law_972 (bdIg) (contIg fun v126 => ?_)
                                                      refine z_isub C dL_law_975 ?_
                                                      refine z_iload C dL_law_976 0 rfl ?_
                                                      refine X.conv bi ?_
                                                      refine z_icmp_gt C dL_law_978 (tgt := 983) rfl it jf ?_ ?_
                                                      · refine z_lsub [5, 6, 7, 8, 9, 10, 11, 12, 3, 2] rfl ?_
                                                        exact hj983 v126.2
                                                      · exact X.no no1
                                                    · exact X.no no1
                                            · exact X.no no1
                                          · exact X.no no1
        · refine X.conv bi ?_
          refine z_if_ne C dL_law_343 (tgt := 350) rfl it jf ?_ ?_
          · refine z_iconst C dL_law_346 (v := (-1)) (by decide) ?_
            refine z_goto C dL_law_347 (tgt := 359) rfl ?_
            refine z_lsub [1, 2, 3, 4, 5, 6, 7, 8, 9, 10, 11, 0] rfl ?_
            exact hj359 (-1 : Int32)
          · refine z_iload C dL_law_350 9 rfl ?_
            refine z_iconst C dL_law_352 (v := 5) (by decide) ?_
            refine z_ishr C dL_law_353 ?_
            refine z_iload C dL_law_354 11 rfl ?_
            refine X.conv bb ?_
            refine z_callS C rfl mf_L_below kt884 kt883 (k_L_below (gL Γ) ((x35 + (31 * u269_7)) >>> (5 &&& 31)) v38.1 v38.2 (gK Γ)) rfl ⟨Nat.le_of_ble_eq_true rfl, Nat.le_of_ble_eq_true rfl⟩ (rest := []) rfl (Nat.le_of_ble_eq_true rfl) dL_law_356 (bdI) (contI fun x41 => ?_)
            refine z_lsub [1, 2, 3, 4, 5, 6, 7, 8, 9, 10, 11, 0] rfl ?_
            exact hj359 x41
      · refine X.conv bi ?_
        refine z_if_ne C dL_law_323 (tgt := 330) rfl it jf ?_ ?_
        · refine z_iconst C dL_law_326 (v := (-1)) (by decide) ?_
          refine z_goto C dL_law_327 (tgt := 339) rfl ?_
          refine z_lsub [3, 4, 5, 6, 7, 8, 9, 10, 2, 1, 0] rfl ?_
          exact hj339 (-1 : Int32)
        · refine z_iload C dL_law_330 1 rfl ?_
          refine z_iconst C dL_law_332 (v := 3) (by decide) ?_
          refine z_ishr C dL_law_333 ?_
          refine z_iload C dL_law_334 0 rfl ?_
          refine X.conv bb ?_
          refine z_callS C rfl mf_L_below kt884 kt883 (k_L_below (gL Γ) ((x36 + (5 * u269_7)) >>> (3 &&& 31)) v38.1 v38.2 (gK Γ)) rfl ⟨Nat.le_of_ble_eq_true rfl, Nat.le_of_ble_eq_true rfl⟩ (rest := []) rfl (Nat.le_of_ble_eq_true rfl) dL_law_336 (bdI) (contI fun x39 => ?_)
          refine z_lsub [3, 4, 5, 6, 7, 8, 9, 10, 2, 1, 0] rfl ?_
          exact hj339 x39
theorem k_L_law {Γ : GG} {v0 : Int32 × HP} (C : CX Γ cL_law 19 "BlockdutyLaw" Pi2 ok2 2048 84000) (hst : (gL Γ).stackTraces = false) (Z : LE Γ v0) (s1 : Option Nat) (g : HP) : X Γ 0 [(0, vR s1)] [] g (f_L_law s1 g = some v0) := by
  unfold f_L_law
  refine z_new C cf10 rfl dL_law_0 kt26 kt27 kt1 def10 ?_
  refine z_dup C dL_law_3 rfl ?_
  refine z_callI C mf_X9_init kt29 rfl kt28 (k_X9_init (gL Γ) (nx g) (newG g 11 14 [] []) (gK Γ)) rfl ⟨Nat.le_of_ble_eq_true rfl, Nat.le_of_ble_eq_true rfl⟩ (rest := [vR (some (nx g))]) rfl (Nat.le_of_ble_eq_true rfl) dL_law_4 (bdVg) (contVg fun g1 => ?_)
  refine z_astore_n (L' := [(1, vR (some (nx g))), (0, vR s1)]) C dL_law_7 rfl (by decide) rfl ?_
  refine z_bipush C dL_law_8 (v := 8) (by decide) ?_
  refine z_nwI (t := 20) C rfl (by decide) dL_law_10 arr20 bd (fun a2 => ?_)
  refine z_astore_n (L' := [(2, vR (some a2.1)), (1, vR (some (nx g))), (0, vR s1)]) C dL_law_12 rfl (by decide) rfl ?_
  refine z_bipush C dL_law_13 (v := 8) (by decide) ?_
  refine z_nwI (t := 21) C rfl (by decide) dL_law_15 arr21 bd (fun a3 => ?_)
  refine z_astore_n (L' := [(3, vR (some a3.1)), (2, vR (some a2.1)), (1, vR (some (nx g))), (0, vR s1)]) C dL_law_17 rfl (by decide) rfl ?_
  refine z_iconst C dL_law_18 (v := 0) (by decide) ?_
  refine z_istore (L' := [(4, vI 0), (3, vR (some a3.1)), (2, vR (some a2.1)), (1, vR (some (nx g))), (0, vR s1)]) C dL_law_19 (by decide) rfl ?_
  refine z_lsub [4, 3, 2, 1, 0] rfl ?_
  refine k_L_law_L21 C hst s1 (some (nx g)) a2.1 a3.1 (fun q15 => ?_) FU 0 a3.2
  refine z_iconst C dL_law_107 (v := 5) (by decide) ?_
  refine z_aload_n C dL_law_108 rfl 0 rfl ?_
  refine z_bipush C dL_law_109 (v := 8) (by decide) ?_
  refine z_callS C rfl mf_L_cell kt888 kt887 (k_L_cell (gL Γ) s1 8 q15 (gK Γ)) rfl ⟨Nat.le_of_ble_eq_true rfl, Nat.le_of_ble_eq_true rfl⟩ (rest := [vI 5]) rfl (Nat.le_of_ble_eq_true rfl) dL_law_111 (bdI) (contI fun x16 => ?_)
  refine z_bipush C dL_law_114 (v := 12) (by decide) ?_
  refine z_callS C rfl mf_L_below kt884 kt883 (k_L_below (gL Γ) x16 12 q15 (gK Γ)) rfl ⟨Nat.le_of_ble_eq_true rfl, Nat.le_of_ble_eq_true rfl⟩ (rest := [vI 5]) rfl (Nat.le_of_ble_eq_true rfl) dL_law_116 (bdI) (contI fun x17 => ?_)
  refine z_iadd C dL_law_119 ?_
  refine z_istore (L' := [(4, vI (5 + x17)), (0, vR s1), (1, vR (some (nx g))), (2, vR (some a2.1)), (3, vR (some a3.1))]) C dL_law_120 (by decide) rfl ?_
  refine z_iconst C dL_law_122 (v := 0) (by decide) ?_
  refine z_istore (L' := [(5, vI 0), (4, vI (5 + x17)), (0, vR s1), (1, vR (some (nx g))), (2, vR (some a2.1)), (3, vR (some a3.1))]) C dL_law_123 (by decide) rfl ?_
  refine z_lsub [2, 3, 4, 5, 1, 0] rfl ?_
  refine k_L_law_L125 C hst s1 (some (nx g)) a2.1 a3.1 (5 + x17) (fun q26 => ?_) FU 0 q15
  refine z_iconst C dL_law_212 (v := 0) (by decide) ?_
  refine z_istore (L' := [(5, vI 0), (0, vR s1), (1, vR (some (nx g))), (2, vR (some a2.1)), (3, vR (some a3.1)), (4, vI (5 + x17))]) C dL_law_213 (by decide) rfl ?_
  refine z_lsub [1, 2, 3, 4, 5, 0] rfl ?_
  refine k_L_law_L215 C hst s1 (some (nx g)) a2.1 a3.1 (5 + x17) (fun q29 => ?_) FU 0 q26
  refine z_iconst C dL_law_238 (v := 5) (by decide) ?_
  refine z_istore (L' := [(5, vI 5), (0, vR s1), (1, vR (some (nx g))), (2, vR (some a2.1)), (3, vR (some a3.1)), (4, vI (5 + x17))]) C dL_law_239 (by decide) rfl ?_
  refine z_iconst C dL_law_241 (v := 4) (by decide) ?_
  refine z_nwI (t := 20) C rfl (by decide) dL_law_242 arr20 bd (fun a30 => ?_)
  refine z_dup C dL_law_244 rfl ?_
  refine z_iconst C dL_law_245 (v := 0) (by decide) ?_
  refine z_bipush C dL_law_246 (v := 10) (by decide) ?_
  refine z_stI C dL_law_248 bd (fun g31 => ?_)
  refine z_dup C dL_law_249 rfl ?_
  refine z_iconst C dL_law_250 (v := 1) (by decide) ?_
  refine z_bipush C dL_law_251 (v := 10) (by decide) ?_
  refine z_stI C dL_law_253 bd (fun g32 => ?_)
  refine z_dup C dL_law_254 rfl ?_
  refine z_iconst C dL_law_255 (v := 2) (by decide) ?_
  refine z_bipush C dL_law_256 (v := 10) (by decide) ?_
  refine z_stI C dL_law_258 bd (fun g33 => ?_)
  refine z_dup C dL_law_259 rfl ?_
  refine z_iconst C dL_law_260 (v := 3) (by decide) ?_
  refine z_bipush C dL_law_261 (v := 10) (by decide) ?_
  refine z_stI C dL_law_263 bd (fun g34 => ?_)
  refine z_astore (L' := [(6, vR (some a30.1)), (5, vI 5), (0, vR s1), (1, vR (some (nx g))), (2, vR (some a2.1)), (3, vR (some a3.1)), (4, vI (5 + x17))]) C dL_law_264 (by decide) rfl ?_
  refine z_iconst C dL_law_266 (v := 0) (by decide) ?_
  refine z_istore (L' := [(7, vI 0), (6, vR (some a30.1)), (5, vI 5), (0, vR s1), (1, vR (some (nx g))), (2, vR (some a2.1)), (3, vR (some a3.1)), (4, vI (5 + x17))]) C dL_law_267 (by decide) rfl ?_
  refine z_lsub [3, 4, 5, 6, 7, 2, 1, 0] rfl ?_
  refine k_L_law_L269 C hst s1 (some (nx g)) a2.1 a3.1 (5 + x17) 5 a30.1 (fun q131 => ?_) FU 0 g34
  refine z_aload_n C dL_law_1027 rfl 0 rfl ?_
  refine z_rcv bd (fun b132 hbb132 htb132 => ?_)
  have heb132 := Option.some.inj hbb132
  subst heb132
  refine z_callV C cf10 mf_X9_digest kt795 kt796 kt794 (k_X9_digest (gL Γ) (nx g) q131 (gK Γ)) htb132 rfl ⟨Nat.le_of_ble_eq_true rfl, Nat.le_of_ble_eq_true rfl⟩ (rest := []) rfl (Nat.le_of_ble_eq_true rfl) dL_law_1028 (bdJg) (contJg fun v133 => ?_)
  refine z_lstore (L' := [(7, vJ v133.1), (1, vR (some (nx g))), (4, vI (5 + x17))]) C dL_law_1031 (by decide) rfl ?_
  refine z_aload_n C dL_law_1033 rfl 1 rfl ?_
  refine z_rcv bd (fun b134 hbb134 htb134 => ?_)
  have heb134 := Option.some.inj hbb134
  subst heb134
  refine z_callV C cf10 mf_X9_leastBlocks kt771 kt772 kt770 (k_X9_leastBlocks (gL Γ) (nx g) v133.2 (gK Γ)) htb134 rfl ⟨Nat.le_of_ble_eq_true rfl, Nat.le_of_ble_eq_true rfl⟩ (rest := []) rfl (Nat.le_of_ble_eq_true rfl) dL_law_1034 (bdIg) (contIg fun v135 => ?_)
  refine z_iload C dL_law_1037 2 rfl ?_
  refine z_icmp_gt C dL_law_1039 (tgt := 1053) rfl it jf ?_ ?_
  · exact X.no no0
  · refine z_aload_n C dL_law_1042 rfl 1 rfl ?_
    refine z_rcv bd (fun b136 hbb136 htb136 => ?_)
    have heb136 := Option.some.inj hbb136
    subst heb136
    refine z_callV C cf10 mf_X9_meanLate kt767 kt768 kt766 (k_X9_meanLate (gL Γ) (nx g) v135.2 (gK Γ)) htb136 rfl ⟨Nat.le_of_ble_eq_true rfl, Nat.le_of_ble_eq_true rfl⟩ (rest := []) rfl (Nat.le_of_ble_eq_true rfl) dL_law_1043 (bdDg) (contDg fun v137 => ?_)
    refine z_ldc2d C dL_law_1046 kt1059 ?_
    refine z_dcmp C dL_law_1049 ?_
    refine z_if_le C dL_law_1050 (tgt := 1055) rfl it jf ?_ ?_
    · refine z_aload_n C dL_law_1055 rfl 1 rfl ?_
      refine z_rcv bd (fun b138 hbb138 htb138 => ?_)
      have heb138 := Option.some.inj hbb138
      subst heb138
      refine z_callV C cf10 mf_X9_digest kt795 kt796 kt794 (k_X9_digest (gL Γ) (nx g) v137.2 (gK Γ)) htb138 rfl ⟨Nat.le_of_ble_eq_true rfl, Nat.le_of_ble_eq_true rfl⟩ (rest := []) rfl (Nat.le_of_ble_eq_true rfl) dL_law_1056 (bdJg) (contJg fun v139 => ?_)
      refine z_lload C dL_law_1059 0 rfl ?_
      refine z_lcmp C dL_law_1061 ?_
      refine z_if_ne C dL_law_1062 (tgt := 1069) rfl it jf ?_ ?_
      · refine z_iconst C dL_law_1065 (v := 1) (by decide) ?_
        refine z_goto C dL_law_1066 (tgt := 1070) rfl ?_
        exact z_main C Z dL_law_1070 (fun h => by cases h; rfl)
      · exact X.no no0
    · exact X.no no0
