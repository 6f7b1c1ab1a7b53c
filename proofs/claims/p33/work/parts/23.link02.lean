theorem k_X0_lostIf_L9 {Γ : GG} {β : Type} {fin0 : β} {F0 : (Int32 × HP) → Option β} (C : CX Γ cX0_lostIf 10 "Blockduty$Block" Pi2 ok2 3 64) (p9_0 : Nat) (p9_1 : Int32) (p9_2 : Option Nat) (p9_3 : Int32) (hexit : ∀ q9 : (Int32 × HP), X Γ 148 [(4, vI q9.1)] [] q9.2 (F0 q9 = some fin0)) : ∀ (m9 : Nat) (u9_4 : Int32) (u9_5 : Option Nat) (u9_6 : Int32) (w9 : HP), X Γ 9 [(0, vR (some p9_0)), (1, vI p9_1), (2, vR p9_2), (3, vI p9_3), (4, vI u9_4), (5, vR u9_5), (6, vI u9_6)] [] w9 ((f_X0_lostIf_L9 p9_0 p9_1 p9_2 p9_3 m9 u9_4 u9_5 u9_6 w9).bind F0 = some fin0) := by
  intro m9
  induction m9 with
  | zero =>
    intro u9_4 u9_5 u9_6 w9
    exact X.no no1
  | succ m9 ih =>
    intro u9_4 u9_5 u9_6 w9
    unfold f_X0_lostIf_L9
    refine z_iload C dX0_lostIf_9 6 rfl ?_
    refine z_aload_n C dX0_lostIf_11 rfl 0 rfl ?_
    refine X.conv bb ?_
    refine z_gfR C cf1 3 (by decide) rfl rfl dX0_lostIf_12 kt537 (fun _ h => h) bd (fun r1 => ?_)
    refine X.conv bb ?_
    refine z_rcv bd (fun b2 hbb2 htb2 => ?_)
    subst hbb2
    refine X.conv bb ?_
    refine z_callV C cf7 mf_X6_count kt606 kt607 kt605 (k_X6_count (gL Γ) b2 w9 (gK Γ)) htb2 rfl ⟨Nat.le_of_ble_eq_true rfl, Nat.le_of_ble_eq_true rfl⟩ (rest := [vI u9_6]) rfl (Nat.le_of_ble_eq_true rfl) dX0_lostIf_15 (bdI) (contI fun x3 => ?_)
    refine X.conv bi ?_
    refine z_icmp_ge C dX0_lostIf_18 (tgt := 148) rfl it jf ?_ ?_
    · refine z_lsub [4] rfl ?_
      exact hexit (u9_4, w9)
    · refine z_aload_n C dX0_lostIf_21 rfl 0 rfl ?_
      refine X.conv bb ?_
      refine z_gfR C cf1 3 (by decide) rfl rfl dX0_lostIf_22 kt537 (fun _ h => h) bd (fun r4 => ?_)
      refine X.conv bb ?_
      refine z_gfR C cf7 0 (by decide) rfl rfl dX0_lostIf_25 kt82 (fun _ h => h) bd (fun r5 => ?_)
      refine z_iload C dX0_lostIf_28 6 rfl ?_
      refine X.conv bb ?_
      refine z_rcv bd (fun b6 hbb6 htb6 => ?_)
      subst hbb6
      refine X.conv bb ?_
      refine z_callV C cf0 mf_Jx4a65c_get_915e3 kt265 kt266 kt581 (k_al_get (gL Γ) b6 u9_6 w9 (gK Γ)) htb6 rfl ⟨Nat.le_of_ble_eq_true rfl, Nat.le_of_ble_eq_true rfl⟩ (rest := []) rfl (Nat.le_of_ble_eq_true rfl) dX0_lostIf_30 (bdR) (contR fun r7 => ?_)
      refine X.conv bb ?_
      refine z_cst C cf8 dX0_lostIf_33 kt609 bd (fun r8 => ?_)
      refine z_astore (L' := [(7, vR r8), (0, vR (some p9_0)), (1, vI p9_1), (2, vR p9_2), (3, vI p9_3), (4, vI u9_4), (5, vR u9_5), (6, vI u9_6)]) C dX0_lostIf_36 (by decide) rfl ?_
      refine z_aload C dX0_lostIf_38 6 rfl ?_
      refine X.conv bb ?_
      refine X.join (τ := ((Option Nat) × Int32)) 60 (fun q12 => [(0, vR (some p9_0)), (1, vI p9_1), (2, vR p9_2), (3, vI p9_3), (4, vI u9_4), (5, vR q12.1), (6, vI u9_6), (7, vR r8)]) (fun q12 => [vI q12.2]) (fun q12 => w9) (fun q12 => ?_) (fun hj60 => ?_)
      · refine z_istore (L' := [(8, vI q12.2), (0, vR (some p9_0)), (1, vI p9_1), (2, vR p9_2), (3, vI p9_3), (4, vI u9_4), (5, vR q12.1), (6, vI u9_6), (7, vR r8)]) C dX0_lostIf_60 (by decide) rfl ?_
        refine z_aload C dX0_lostIf_62 8 rfl ?_
        refine z_aload C dX0_lostIf_64 8 rfl ?_
        refine X.conv bb ?_
        refine z_gfI C cf8 4 (by decide) rfl rfl dX0_lostIf_66 kt423 (fun _ h => h) bd (fun x13 => ?_)
        refine z_iload C dX0_lostIf_69 0 rfl ?_
        refine z_mmax C kt652 kw_mmax_s kw_math kw_mmax_c dX0_lostIf_71 (by decide) (Nat.le_of_ble_eq_true rfl) ?_
        refine X.conv bb ?_
        refine z_pfI C cf8 10 (by decide) rfl rfl rfl (Or.inl rfl) dX0_lostIf_74 kt441 (fun _ h => h) bd (fun g14 => ?_)
        refine z_aload C dX0_lostIf_77 8 rfl ?_
        refine z_aload C dX0_lostIf_79 8 rfl ?_
        refine z_iload_n C dX0_lostIf_81 rfl 2 rfl ?_
        refine X.conv bb ?_
        refine z_rcv bd (fun b15 hbb15 htb15 => ?_)
        subst hbb15
        refine X.conv bb ?_
        refine z_callV C cf8 mf_X7_causeIf kt654 kt655 kt653 (k_X7_causeIf (gL Γ) b15 p9_1 g14 (gK Γ)) htb15 rfl ⟨Nat.le_of_ble_eq_true rfl, Nat.le_of_ble_eq_true rfl⟩ (rest := [vR (some b15)]) rfl (Nat.le_of_ble_eq_true rfl) dX0_lostIf_82 (bdI) (contI fun x16 => ?_)
        refine X.conv bb ?_
        refine z_pfI C cf8 9 (by decide) rfl rfl rfl (Or.inl rfl) dX0_lostIf_85 kt438 (fun _ h => h) bd (fun g17 => ?_)
        refine z_aload C dX0_lostIf_88 8 rfl ?_
        refine X.conv bb ?_
        refine z_rcv bd (fun b18 hbb18 htb18 => ?_)
        have heb18 := Option.some.inj hbb18
        subst heb18
        refine X.conv bb ?_
        refine z_callV C cf8 mf_X7_runs kt662 kt663 kt661 (k_X7_runs (gL Γ) b15 g17 (gK Γ)) htb18 rfl ⟨Nat.le_of_ble_eq_true rfl, Nat.le_of_ble_eq_true rfl⟩ (rest := []) rfl (Nat.le_of_ble_eq_true rfl) dX0_lostIf_90 (bdI) (contI fun x19 => ?_)
        refine X.conv bi ?_
        refine z_if_eq C dX0_lostIf_93 (tgt := 139) rfl it jf ?_ ?_
        · refine z_iinc (L' := [(4, vI (u9_4 + 1)), (8, vI q12.2), (0, vR (some p9_0)), (1, vI p9_1), (2, vR p9_2), (3, vI p9_3), (5, vR q12.1), (6, vI u9_6), (7, vR (some b15))]) C dX0_lostIf_139 5 rfl (v := u9_4 + 1) rfl (by decide) rfl ?_
          refine z_iinc (L' := [(6, vI (u9_6 + 1)), (4, vI (u9_4 + 1)), (8, vI q12.2), (0, vR (some p9_0)), (1, vI p9_1), (2, vR p9_2), (3, vI p9_3), (5, vR q12.1), (7, vR (some b15))]) C dX0_lostIf_142 7 rfl (v := u9_6 + 1) rfl (by decide) rfl ?_
          refine z_goto C dX0_lostIf_145 (tgt := 9) rfl ?_
          refine z_lsub [3, 4, 5, 6, 1, 7, 0] rfl ?_
          exact ih (u9_4 + 1) q12.1 (u9_6 + 1) g17
        · refine z_aload C dX0_lostIf_96 8 rfl ?_
          refine z_aload_n C dX0_lostIf_98 rfl 3 rfl ?_
          refine X.conv bb ?_
          refine X.join (τ := Int32) 111 (fun q21 => [(0, vR (some p9_0)), (1, vI p9_1), (2, vR p9_2), (3, vI p9_3), (4, vI u9_4), (6, vI u9_6), (7, vR (some b15))]) (fun q21 => [vI q21]) (fun q21 => g17) (fun q21 => ?_) (fun hj111 => ?_)
          · refine z_istore (L' := [(9, vI q21), (0, vR (some p9_0)), (1, vI p9_1), (2, vR p9_2), (3, vI p9_3), (4, vI u9_4), (6, vI u9_6), (7, vR (some b15))]) C dX0_lostIf_111 (by decide) rfl ?_
            refine z_aload C dX0_lostIf_113 7 rfl ?_
            refine z_aload C dX0_lostIf_115 7 rfl ?_
            refine X.conv bb ?_
            refine z_gfI C cf8 10 (by decide) rfl rfl dX0_lostIf_117 kt441 (fun _ h => h) bd (fun x22 => ?_)
            refine z_aload C dX0_lostIf_120 7 rfl ?_
            refine X.conv bb ?_
            refine z_gfI C cf8 5 (by decide) rfl rfl dX0_lostIf_122 kt428 (fun _ h => h) bd (fun x23 => ?_)
            refine z_iadd C dX0_lostIf_125 ?_
            refine z_iload C dX0_lostIf_126 0 rfl ?_
            refine z_iadd C dX0_lostIf_128 ?_
            refine X.conv bb ?_
            refine z_pfI C cf8 11 (by decide) rfl rfl rfl (Or.inl rfl) dX0_lostIf_129 kt443 (fun _ h => h) bd (fun g24 => ?_)
            refine z_aload C dX0_lostIf_132 7 rfl ?_
            refine z_astore (L' := [(5, vR (some b15)), (9, vI q21), (0, vR (some p9_0)), (1, vI p9_1), (2, vR p9_2), (3, vI p9_3), (4, vI u9_4), (6, vI u9_6), (7, vR (some b15))]) C dX0_lostIf_134 (by decide) rfl ?_
            refine z_goto C dX0_lostIf_136 (tgt := 142) rfl ?_
            refine z_iinc (L' := [(6, vI (u9_6 + 1)), (5, vR (some b15)), (9, vI q21), (0, vR (some p9_0)), (1, vI p9_1), (2, vR p9_2), (3, vI p9_3), (4, vI u9_4), (7, vR (some b15))]) C dX0_lostIf_142 7 rfl (v := u9_6 + 1) rfl (by decide) rfl ?_
            refine z_goto C dX0_lostIf_145 (tgt := 9) rfl ?_
            refine z_lsub [3, 4, 5, 6, 7, 1, 0] rfl ?_
            exact ih u9_4 (some b15) (u9_6 + 1) g24
          · refine X.conv bi ?_
            refine z_acmp_ne C dX0_lostIf_99 (tgt := 106) rfl it jf ?_ ?_
            · refine z_iload_n C dX0_lostIf_102 rfl 4 rfl ?_
              refine z_goto C dX0_lostIf_103 (tgt := 111) rfl ?_
              refine z_lsub [1, 2, 3, 4, 5, 7, 8] rfl ?_
              exact hj111 p9_3
            · refine z_aload C dX0_lostIf_106 8 rfl ?_
              refine X.conv bb ?_
              refine z_gfI C cf8 6 (by decide) rfl rfl dX0_lostIf_108 kt429 (fun _ h => h) bd (fun x20 => ?_)
              refine z_lsub [1, 2, 3, 4, 5, 7, 8] rfl ?_
              exact hj111 x20
      · refine X.conv bi ?_
        refine z_ifnonnull C dX0_lostIf_40 (tgt := 47) rfl it jf ?_ ?_
        · refine z_iconst C dX0_lostIf_43 (v := 0) (by decide) ?_
          refine z_goto C dX0_lostIf_44 (tgt := 60) rfl ?_
          refine z_lsub [1, 2, 3, 4, 5, 6, 7, 0] rfl ?_
          exact hj60 (u9_5, (0 : Int32))
        · refine z_aload C dX0_lostIf_47 6 rfl ?_
          refine X.conv bb ?_
          refine z_gfI C cf8 11 (by decide) rfl rfl dX0_lostIf_49 kt443 (fun _ h => h) bd (fun x9 => ?_)
          refine z_aload C dX0_lostIf_52 6 rfl ?_
          refine z_aload C dX0_lostIf_54 0 rfl ?_
          refine X.conv bb ?_
          refine z_rcv bd (fun b10 hbb10 htb10 => ?_)
          subst hbb10
          refine X.conv bb ?_
          refine z_callV C cf8 mf_X7_emptyTo kt645 kt646 kt644 (k_X7_emptyTo (gL Γ) b10 r8 w9 (gK Γ)) htb10 rfl ⟨Nat.le_of_ble_eq_true rfl, Nat.le_of_ble_eq_true rfl⟩ (rest := [vI x9]) rfl (Nat.le_of_ble_eq_true rfl) dX0_lostIf_56 (bdI) (contI fun x11 => ?_)
          refine z_iadd C dX0_lostIf_59 ?_
          refine z_lsub [1, 2, 3, 4, 5, 6, 7, 0] rfl ?_
          exact hj60 ((some b10), x9 + x11)
theorem k_X0_lostIf (l : Launch) (b : Nat) (s1 : Int32) (s2 : Option Nat) (s3 : Int32) (g : HP) : MM l Pi2 yX0_lostIf cX0_lostIf 10 (some .int) 3 64 [vR (some b), vI s1, vR s2, vI s3] g (wIg (f_X0_lostIf b s1 s2 s3 g)) := by
  refine MM_of PO_Pi2 mf_X0_lostIf (fun a ha => wIg_mono (f_X0_lostIf_mono b s1 s2 s3 g) a ha) (Nat.le_of_ble_eq_true rfl) ?_
  intro Γ fin hfin hl hin C0 Z0
  subst hl
  obtain ⟨v0, hv, rfl⟩ := wIg_some hfin
  have C : CX Γ cX0_lostIf 10 "Blockduty$Block" Pi2 ok2 3 64 := C0
  have Z : RX Γ Pi2 (some .int) (some (vI v0.1), v0.2) := Z0
  refine X.conv (fun _ => hv) ?_
  unfold f_X0_lostIf
  show X Γ 0 [(0, vR (some b)), (1, vI s1), (2, vR s2), (3, vI s3)] [] g _
  refine z_iconst C dX0_lostIf_0 (v := 0) (by decide) ?_
  refine z_istore (L' := [(4, vI 0), (0, vR (some b)), (1, vI s1), (2, vR s2), (3, vI s3)]) C dX0_lostIf_1 (by decide) rfl ?_
  refine z_null C dX0_lostIf_3 ?_
  refine z_astore (L' := [(5, vR none), (4, vI 0), (0, vR (some b)), (1, vI s1), (2, vR s2), (3, vI s3)]) C dX0_lostIf_4 (by decide) rfl ?_
  refine z_iconst C dX0_lostIf_6 (v := 0) (by decide) ?_
  refine z_istore (L' := [(6, vI 0), (5, vR none), (4, vI 0), (0, vR (some b)), (1, vI s1), (2, vR s2), (3, vI s3)]) C dX0_lostIf_7 (by decide) rfl ?_
  refine z_lsub [3, 4, 5, 6, 2, 1, 0] rfl ?_
  refine k_X0_lostIf_L9 C b s1 s2 s3 (fun q25 => ?_) FU 0 none 0 g
  refine z_iload C dX0_lostIf_148 0 rfl ?_
  exact z_iret C Z rfl dX0_lostIf_150 (fun h => by cases h; rfl)
theorem k_X0_lostNow (l : Launch) (b : Nat) (g : HP) : MM l Pi2 yX0_lostNow cX0_lostNow 1 (some .int) 4 93 [vR (some b)] g (wIg (f_X0_lostNow b g)) := by
  refine MM_of PO_Pi2 mf_X0_lostNow (fun a ha => wIg_mono (f_X0_lostNow_mono b g) a ha) (Nat.le_of_ble_eq_true rfl) ?_
  intro Γ fin hfin hl hin C0 Z0
  subst hl
  obtain ⟨v0, hv, rfl⟩ := wIg_some hfin
  have C : CX Γ cX0_lostNow 1 "Blockduty$Block" Pi2 ok2 4 93 := C0
  have Z : RX Γ Pi2 (some .int) (some (vI v0.1), v0.2) := Z0
  refine X.conv (fun _ => hv) ?_
  unfold f_X0_lostNow
  show X Γ 0 [(0, vR (some b))] [] g _
  refine z_aload_n C dX0_lostNow_0 rfl 0 rfl ?_
  refine z_aload_n C dX0_lostNow_1 rfl 0 rfl ?_
  refine z_gfI C cf1 2 (by decide) rfl rfl dX0_lostNow_2 kt535 (fun _ h => h) bd (fun x1 => ?_)
  refine z_null C dX0_lostNow_5 ?_
  refine z_iconst C dX0_lostNow_6 (v := 0) (by decide) ?_
  refine z_rcv bd (fun b2 hbb2 htb2 => ?_)
  have heb2 := Option.some.inj hbb2
  subst heb2
  refine z_callV C cf1 mf_X0_lostIf kt641 kt642 kt703 (k_X0_lostIf (gL Γ) b x1 none 0 g (gK Γ)) htb2 rfl ⟨Nat.le_of_ble_eq_true rfl, Nat.le_of_ble_eq_true rfl⟩ (rest := []) rfl (Nat.le_of_ble_eq_true rfl) dX0_lostNow_7 (bdIg) (contIg fun v3 => ?_)
  exact z_iret C Z rfl dX0_lostNow_10 (fun h => by cases h; rfl)
theorem k_X1_init (l : Launch) (b : Nat) (s1 : Int32) (g : HP) : MM l Pi2 yX1_init cX1_init 2 none 4 100 [vR (some b), vI s1] g (wVg (f_X1_init b s1 g)) := by
  refine MM_of PO_Pi2 mf_X1_init (fun a ha => wVg_mono (f_X1_init_mono b s1 g) a ha) (Nat.le_of_ble_eq_true rfl) ?_
  intro Γ fin hfin hl hin C0 Z0
  subst hl
  obtain ⟨v0, hv, rfl⟩ := wVg_some hfin
  have C : CX Γ cX1_init 2 "Blockduty$Driver" Pi2 ok2 4 100 := C0
  have Z : RX Γ Pi2 none (none, v0) := Z0
  refine X.conv (fun _ => hv) ?_
  unfold f_X1_init
  show X Γ 0 [(0, vR (some b)), (1, vI s1)] [] g _
  refine z_aload_n C dX1_init_0 rfl 0 rfl ?_
  refine z_objInit C kt493 kwOI kwOC dX1_init_1 (by decide) (Nat.le_of_ble_eq_true rfl) ?_
  refine z_aload_n C dX1_init_4 rfl 0 rfl ?_
  refine z_newAL C dX1_init_5 kt494 ?_
  refine z_dup C dX1_init_8 rfl ?_
  refine z_callI C mf_Jx4a65c_init_da8c8 kt37 rfl kt495 (k_al_init (gL Γ) (nx g) (newG g 31 3 [] []) (gK Γ)) rfl ⟨Nat.le_of_ble_eq_true rfl, Nat.le_of_ble_eq_true rfl⟩ (rest := [vR (some (nx g)), vR (some b)]) rfl (Nat.le_of_ble_eq_true rfl) dX1_init_9 (bdVg) (contVg fun g1 => ?_)
  refine z_pfR C cf2 2 (by decide) rfl rfl (isRefTy_o _) (Or.inr ⟨rfl, hin, rfl⟩) dX1_init_12 kt501 (fun _ h => h) bd (fun g2 => ?_)
  refine z_aload_n C dX1_init_15 rfl 0 rfl ?_
  refine z_iload_n C dX1_init_16 rfl 1 rfl ?_
  refine z_pfI C cf2 0 (by decide) rfl rfl rfl (Or.inr ⟨rfl, hin, rfl⟩) dX1_init_17 kt496 (fun _ h => h) bd (fun g3 => ?_)
  exact z_vret C Z rfl dX1_init_20 (fun h => by cases h; rfl)
theorem k_X7_end (l : Launch) (b : Nat) (g : HP) : MM l Pi2 yX7_end cX7_end 1 (some .int) 0 0 [vR (some b)] g (wI g (f_X7_end b g)) := by
  refine MM_of PO_Pi2 mf_X7_end (fun a ha => wI_same a ha) (Nat.le_of_ble_eq_true rfl) ?_
  intro Γ fin hfin hl hin C0 Z0
  subst hl
  obtain ⟨v0, hv, rfl⟩ := wI_some hfin
  have C : CX Γ cX7_end 1 "Blockduty$Trip" Pi2 ok2 0 0 := C0
  have Z : RX Γ Pi2 (some .int) (some (vI v0), g) := Z0
  refine X.conv (fun _ => hv) ?_
  unfold f_X7_end
  show X Γ 0 [(0, vR (some b))] [] g _
  refine z_aload_n C dX7_end_0 rfl 0 rfl ?_
  refine z_gfI C cf8 4 (by decide) rfl rfl dX7_end_1 kt419 (fun _ h => h) bd (fun x1 => ?_)
  refine z_aload_n C dX7_end_4 rfl 0 rfl ?_
  refine z_gfI C cf8 5 (by decide) rfl rfl dX7_end_5 kt425 (fun _ h => h) bd (fun x2 => ?_)
  refine z_iadd C dX7_end_8 ?_
  exact z_iret C Z rfl dX7_end_9 (fun h => by cases h; rfl)
theorem k_X4_isNear (l : Launch) (b : Nat) (s1 : Option Nat) (g : HP) : MM l Pi2 yX4_isNear cX4_isNear 2 (some .boolean) 1 20 [vR (some b), vR s1] g (wI g (f_X4_isNear b s1 g)) := by
  refine MM_of PO_Pi2 mf_X4_isNear (fun a ha => wI_same a ha) (Nat.le_of_ble_eq_true rfl) ?_
  intro Γ fin hfin hl hin C0 Z0
  subst hl
  obtain ⟨v0, hv, rfl⟩ := wI_some hfin
  have C : CX Γ cX4_isNear 2 "Blockduty$Piece" Pi2 ok2 1 20 := C0
  have Z : RX Γ Pi2 (some .boolean) (some (vI v0), g) := Z0
  refine X.conv (fun _ => hv) ?_
  unfold f_X4_isNear
  show X Γ 0 [(0, vR (some b)), (1, vR s1)] [] g _
  refine z_aload_n C dX4_isNear_0 rfl 1 rfl ?_
  refine z_gfR C cf5 2 (by decide) rfl rfl dX4_isNear_1 kt1004 (fun _ h => h) bd (fun r1 => ?_)
  refine z_gfI C cf8 4 (by decide) rfl rfl dX4_isNear_4 kt420 (fun _ h => h) bd (fun x2 => ?_)
  refine z_aload_n C dX4_isNear_7 rfl 0 rfl ?_
  refine z_gfR C cf5 3 (by decide) rfl rfl dX4_isNear_8 kt1006 (fun _ h => h) bd (fun r3 => ?_)
  refine z_rcv bd (fun b4 hbb4 htb4 => ?_)
  subst hbb4
  refine z_callV C cf8 mf_X7_end kt666 kt667 kt717 (k_X7_end (gL Γ) b4 g (gK Γ)) htb4 rfl ⟨Nat.le_of_ble_eq_true rfl, Nat.le_of_ble_eq_true rfl⟩ (rest := [vI x2]) rfl (Nat.le_of_ble_eq_true rfl) dX4_isNear_11 (bdI) (contI fun x5 => ?_)
  refine z_bipush C dX4_isNear_14 (v := 10) (by decide) ?_
  refine z_iadd C dX4_isNear_16 ?_
  refine z_icmp_gt C dX4_isNear_17 (tgt := 44) rfl it jf ?_ ?_
  · refine z_iconst C dX4_isNear_44 (v := 0) (by decide) ?_
    exact z_zret C Z rfl dX4_isNear_45 (fun _ => Or.inl rfl) (fun h => by cases h; rfl)
  · refine z_aload_n C dX4_isNear_20 rfl 1 rfl ?_
    refine z_gfR C cf5 3 (by decide) rfl rfl dX4_isNear_21 kt1006 (fun _ h => h) bd (fun r6 => ?_)
    refine z_rcv bd (fun b7 hbb7 htb7 => ?_)
    subst hbb7
    refine z_callV C cf8 mf_X7_end kt666 kt667 kt717 (k_X7_end (gL Γ) b7 g (gK Γ)) htb7 rfl ⟨Nat.le_of_ble_eq_true rfl, Nat.le_of_ble_eq_true rfl⟩ (rest := []) rfl (Nat.le_of_ble_eq_true rfl) dX4_isNear_24 (bdI) (contI fun x8 => ?_)
    refine z_aload_n C dX4_isNear_27 rfl 0 rfl ?_
    refine z_gfR C cf5 2 (by decide) rfl rfl dX4_isNear_28 kt1004 (fun _ h => h) bd (fun r9 => ?_)
    refine z_gfI C cf8 4 (by decide) rfl rfl dX4_isNear_31 kt420 (fun _ h => h) bd (fun x10 => ?_)
    refine z_bipush C dX4_isNear_34 (v := 10) (by decide) ?_
    refine z_isub C dX4_isNear_36 ?_
    refine z_icmp_lt C dX4_isNear_37 (tgt := 44) rfl it jf ?_ ?_
    · refine z_iconst C dX4_isNear_44 (v := 0) (by decide) ?_
      exact z_zret C Z rfl dX4_isNear_45 (fun _ => Or.inl rfl) (fun h => by cases h; rfl)
    · refine z_iconst C dX4_isNear_40 (v := 1) (by decide) ?_
      refine z_goto C dX4_isNear_41 (tgt := 45) rfl ?_
      exact z_zret C Z rfl dX4_isNear_45 (fun _ => Or.inr rfl) (fun h => by cases h; rfl)
theorem k_X4_minutes (l : Launch) (b : Nat) (g : HP) : MM l Pi2 yX4_minutes cX4_minutes 1 (some .int) 1 20 [vR (some b)] g (wI g (f_X4_minutes b g)) := by
  refine MM_of PO_Pi2 mf_X4_minutes (fun a ha => wI_same a ha) (Nat.le_of_ble_eq_true rfl) ?_
  intro Γ fin hfin hl hin C0 Z0
  subst hl
  obtain ⟨v0, hv, rfl⟩ := wI_some hfin
  have C : CX Γ cX4_minutes 1 "Blockduty$Piece" Pi2 ok2 1 20 := C0
  have Z : RX Γ Pi2 (some .int) (some (vI v0), g) := Z0
  refine X.conv (fun _ => hv) ?_
  unfold f_X4_minutes
  show X Γ 0 [(0, vR (some b))] [] g _
  refine z_aload_n C dX4_minutes_0 rfl 0 rfl ?_
  refine z_gfR C cf5 3 (by decide) rfl rfl dX4_minutes_1 kt1006 (fun _ h => h) bd (fun r1 => ?_)
  refine z_rcv bd (fun b2 hbb2 htb2 => ?_)
  subst hbb2
  refine z_callV C cf8 mf_X7_end kt666 kt667 kt717 (k_X7_end (gL Γ) b2 g (gK Γ)) htb2 rfl ⟨Nat.le_of_ble_eq_true rfl, Nat.le_of_ble_eq_true rfl⟩ (rest := []) rfl (Nat.le_of_ble_eq_true rfl) dX4_minutes_4 (bdI) (contI fun x3 => ?_)
  refine z_aload_n C dX4_minutes_7 rfl 0 rfl ?_
  refine z_gfR C cf5 2 (by decide) rfl rfl dX4_minutes_8 kt1004 (fun _ h => h) bd (fun r4 => ?_)
  refine z_gfI C cf8 4 (by decide) rfl rfl dX4_minutes_11 kt420 (fun _ h => h) bd (fun x5 => ?_)
  refine z_isub C dX4_minutes_14 ?_
  exact z_iret C Z rfl dX4_minutes_15 (fun h => by cases h; rfl)
theorem k_X1_minutes_L4 {Γ : GG} {β : Type} {fin0 : β} {F0 : Int32 → Option β} (C : CX Γ cX1_minutes 3 "Blockduty$Driver" Pi2 ok2 3 64) (p4_0 : Nat) (w4 : HP) (hexit : ∀ q4 : Int32, X Γ 38 [(1, vI q4)] [] w4 (F0 q4 = some fin0)) : ∀ (m4 : Nat) (u4_1 : Int32) (u4_2 : Int32), X Γ 4 [(0, vR (some p4_0)), (1, vI u4_1), (2, vI u4_2)] [] w4 ((f_X1_minutes_L4 p4_0 w4 m4 u4_1 u4_2).bind F0 = some fin0) := by
  intro m4
  induction m4 with
  | zero =>
    intro u4_1 u4_2
    exact X.no no1
  | succ m4 ih =>
    intro u4_1 u4_2
    unfold f_X1_minutes_L4
    refine z_iload_n C dX1_minutes_4 rfl 2 rfl ?_
    refine z_aload_n C dX1_minutes_5 rfl 0 rfl ?_
    refine X.conv bb ?_
    refine z_gfR C cf2 2 (by decide) rfl rfl dX1_minutes_6 kt501 (fun _ h => h) bd (fun r1 => ?_)
    refine X.conv bb ?_
    refine z_rcv bd (fun b2 hbb2 htb2 => ?_)
    subst hbb2
    refine X.conv bb ?_
    refine z_callV C cf0 mf_Jx4a65c_size_8abf5 kt261 kt262 kt591 (k_al_size (gL Γ) b2 w4 (gK Γ)) htb2 rfl ⟨Nat.le_of_ble_eq_true rfl, Nat.le_of_ble_eq_true rfl⟩ (rest := [vI u4_2]) rfl (Nat.le_of_ble_eq_true rfl) dX1_minutes_9 (bdI) (contI fun x3 => ?_)
    refine X.conv bi ?_
    refine z_icmp_ge C dX1_minutes_12 (tgt := 38) rfl it jf ?_ ?_
    · refine z_lsub [1] rfl ?_
      exact hexit u4_1
    · refine z_iload_n C dX1_minutes_15 rfl 1 rfl ?_
      refine z_aload_n C dX1_minutes_16 rfl 0 rfl ?_
      refine X.conv bb ?_
      refine z_gfR C cf2 2 (by decide) rfl rfl dX1_minutes_17 kt501 (fun _ h => h) bd (fun r4 => ?_)
      refine z_iload_n C dX1_minutes_20 rfl 2 rfl ?_
      refine X.conv bb ?_
      refine z_rcv bd (fun b5 hbb5 htb5 => ?_)
      subst hbb5
      refine X.conv bb ?_
      refine z_callV C cf0 mf_Jx4a65c_get_915e3 kt265 kt266 kt592 (k_al_get (gL Γ) b5 u4_2 w4 (gK Γ)) htb5 rfl ⟨Nat.le_of_ble_eq_true rfl, Nat.le_of_ble_eq_true rfl⟩ (rest := [vI u4_1]) rfl (Nat.le_of_ble_eq_true rfl) dX1_minutes_21 (bdR) (contR fun r6 => ?_)
      refine X.conv bb ?_
      refine z_cst C cf5 dX1_minutes_24 kt712 bd (fun r7 => ?_)
      refine X.conv bb ?_
      refine z_rcv bd (fun b8 hbb8 htb8 => ?_)
      subst hbb8
      refine X.conv bb ?_
      refine z_callV C cf5 mf_X4_minutes kt714 kt715 kt713 (k_X4_minutes (gL Γ) b8 w4 (gK Γ)) htb8 rfl ⟨Nat.le_of_ble_eq_true rfl, Nat.le_of_ble_eq_true rfl⟩ (rest := [vI u4_1]) rfl (Nat.le_of_ble_eq_true rfl) dX1_minutes_27 (bdI) (contI fun x9 => ?_)
      refine z_iadd C dX1_minutes_30 ?_
      refine z_istore_n (L' := [(1, vI (u4_1 + x9)), (0, vR (some p4_0)), (2, vI u4_2)]) C dX1_minutes_31 rfl (by decide) rfl ?_
      refine z_iinc (L' := [(2, vI (u4_2 + 1)), (1, vI (u4_1 + x9)), (0, vR (some p4_0))]) C dX1_minutes_32 2 rfl (v := u4_2 + 1) rfl (by decide) rfl ?_
      refine z_goto C dX1_minutes_35 (tgt := 4) rfl ?_
      refine z_lsub [2, 1, 0] rfl ?_
      exact ih (u4_1 + x9) (u4_2 + 1)
theorem k_X1_minutes (l : Launch) (b : Nat) (g : HP) : MM l Pi2 yX1_minutes cX1_minutes 3 (some .int) 3 64 [vR (some b)] g (wI g (f_X1_minutes b g)) := by
  refine MM_of PO_Pi2 mf_X1_minutes (fun a ha => wI_same a ha) (Nat.le_of_ble_eq_true rfl) ?_
  intro Γ fin hfin hl hin C0 Z0
  subst hl
  obtain ⟨v0, hv, rfl⟩ := wI_some hfin
  have C : CX Γ cX1_minutes 3 "Blockduty$Driver" Pi2 ok2 3 64 := C0
  have Z : RX Γ Pi2 (some .int) (some (vI v0), g) := Z0
  refine X.conv (fun _ => hv) ?_
  unfold f_X1_minutes
  show X Γ 0 [(0, vR (some b))] [] g _
  refine z_iconst C dX1_minutes_0 (v := 0) (by decide) ?_
  refine z_istore_n (L' := [(1, vI 0), (0, vR (some b))]) C dX1_minutes_1 rfl (by decide) rfl ?_
  refine z_iconst C dX1_minutes_2 (v := 0) (by decide) ?_
  refine z_istore_n (L' := [(2, vI 0), (1, vI 0), (0, vR (some b))]) C dX1_minutes_3 rfl (by decide) rfl ?_
  refine z_lsub [2, 1, 0] rfl ?_
  refine k_X1_minutes_L4 C b g (fun q10 => ?_) FU 0 0
  refine z_iload_n C dX1_minutes_38 rfl 0 rfl ?_
  exact z_iret C Z rfl dX1_minutes_39 (fun h => by cases h; rfl)
theorem k_X1_canGet_L2 {Γ : GG} {v0 : Int32} (C : CX Γ cX1_canGet 3 "Blockduty$Driver" Pi2 ok2 4 86) (p2_0 : Nat) (p2_1 : Option Nat) (w2 : HP) (Z : RX Γ Pi2 (some .boolean) (some (vI v0), w2)) : ∀ (m2 : Nat) (u2_2 : Int32), X Γ 2 [(0, vR (some p2_0)), (1, vR p2_1), (2, vI u2_2)] [] w2 (f_X1_canGet_L2 p2_0 p2_1 w2 m2 u2_2 = some v0) := by
  intro m2
  induction m2 with
  | zero =>
    intro u2_2
    exact X.no no0
  | succ m2 ih =>
    intro u2_2
    unfold f_X1_canGet_L2
    refine z_iload_n C dX1_canGet_2 rfl 2 rfl ?_
    refine z_aload_n C dX1_canGet_3 rfl 0 rfl ?_
    refine z_gfR C cf2 2 (by decide) rfl rfl dX1_canGet_4 kt501 (fun _ h => h) bd (fun r1 => ?_)
    refine z_rcv bd (fun b2 hbb2 htb2 => ?_)
    subst hbb2
    refine z_callV C cf0 mf_Jx4a65c_size_8abf5 kt261 kt262 kt591 (k_al_size (gL Γ) b2 w2 (gK Γ)) htb2 rfl ⟨Nat.le_of_ble_eq_true rfl, Nat.le_of_ble_eq_true rfl⟩ (rest := [vI u2_2]) rfl (Nat.le_of_ble_eq_true rfl) dX1_canGet_7 (bdI) (contI fun x3 => ?_)
    refine z_icmp_ge C dX1_canGet_10 (tgt := 39) rfl it jf ?_ ?_
    · refine z_aload_n C dX1_canGet_39 rfl 0 rfl ?_
      refine z_rcv bd (fun b4 hbb4 htb4 => ?_)
      have heb4 := Option.some.inj hbb4
      subst heb4
      refine z_callV C cf2 mf_X1_minutes kt709 kt710 kt1043 (k_X1_minutes (gL Γ) p2_0 w2 (gK Γ)) htb4 rfl ⟨Nat.le_of_ble_eq_true rfl, Nat.le_of_ble_eq_true rfl⟩ (rest := []) rfl (Nat.le_of_ble_eq_true rfl) dX1_canGet_40 (bdI) (contI fun x5 => ?_)
      refine z_aload_n C dX1_canGet_43 rfl 1 rfl ?_
      refine z_rcv bd (fun b6 hbb6 htb6 => ?_)
      subst hbb6
      refine z_callV C cf5 mf_X4_minutes kt714 kt715 kt713 (k_X4_minutes (gL Γ) b6 w2 (gK Γ)) htb6 rfl ⟨Nat.le_of_ble_eq_true rfl, Nat.le_of_ble_eq_true rfl⟩ (rest := [vI x5]) rfl (Nat.le_of_ble_eq_true rfl) dX1_canGet_44 (bdI) (contI fun x7 => ?_)
      refine z_iadd C dX1_canGet_47 ?_
      refine z_sipush C dX1_canGet_48 (v := 600) (by decide) ?_
      refine z_icmp_gt C dX1_canGet_51 (tgt := 58) rfl it jf ?_ ?_
      · refine z_iconst C dX1_canGet_58 (v := 0) (by decide) ?_
        exact z_zret C Z rfl dX1_canGet_59 (fun _ => Or.inl rfl) (fun h => by cases h; rfl)
      · refine z_iconst C dX1_canGet_54 (v := 1) (by decide) ?_
        refine z_goto C dX1_canGet_55 (tgt := 59) rfl ?_
        exact z_zret C Z rfl dX1_canGet_59 (fun _ => Or.inr rfl) (fun h => by cases h; rfl)
    · refine z_aload_n C dX1_canGet_13 rfl 1 rfl ?_
      refine z_aload_n C dX1_canGet_14 rfl 0 rfl ?_
      refine z_gfR C cf2 2 (by decide) rfl rfl dX1_canGet_15 kt501 (fun _ h => h) bd (fun r8 => ?_)
      refine z_iload_n C dX1_canGet_18 rfl 2 rfl ?_
      refine z_rcv bd (fun b9 hbb9 htb9 => ?_)
      subst hbb9
      refine z_callV C cf0 mf_Jx4a65c_get_915e3 kt265 kt266 kt592 (k_al_get (gL Γ) b9 u2_2 w2 (gK Γ)) htb9 rfl ⟨Nat.le_of_ble_eq_true rfl, Nat.le_of_ble_eq_true rfl⟩ (rest := [vR p2_1]) rfl (Nat.le_of_ble_eq_true rfl) dX1_canGet_19 (bdR) (contR fun r10 => ?_)
      refine z_cst C cf5 dX1_canGet_22 kt712 bd (fun r11 => ?_)
      refine z_rcv bd (fun b12 hbb12 htb12 => ?_)
      subst hbb12
      refine z_callV C cf5 mf_X4_isNear kt1040 kt1041 kt1039 (k_X4_isNear (gL Γ) b12 r11 w2 (gK Γ)) htb12 rfl ⟨Nat.le_of_ble_eq_true rfl, Nat.le_of_ble_eq_true rfl⟩ (rest := []) rfl (Nat.le_of_ble_eq_true rfl) dX1_canGet_25 (bdI) (contI fun x13 => ?_)
      refine z_if_eq C dX1_canGet_28 (tgt := 33) rfl it jf ?_ ?_
      · refine z_iinc (L' := [(2, vI (u2_2 + 1)), (0, vR (some p2_0)), (1, vR (some b12))]) C dX1_canGet_33 2 rfl (v := u2_2 + 1) rfl (by decide) rfl ?_
        refine z_goto C dX1_canGet_36 (tgt := 2) rfl ?_
        refine z_lsub [1, 2, 0] rfl ?_
        exact ih (u2_2 + 1)
      · refine z_iconst C dX1_canGet_31 (v := 0) (by decide) ?_
        exact z_zret C Z rfl dX1_canGet_32 (fun _ => Or.inl rfl) (fun h => by cases h; rfl)
theorem k_X1_canGet (l : Launch) (b : Nat) (s1 : Option Nat) (g : HP) : MM l Pi2 yX1_canGet cX1_canGet 3 (some .boolean) 4 86 [vR (some b), vR s1] g (wI g (f_X1_canGet b s1 g)) := by
  refine MM_of PO_Pi2 mf_X1_canGet (fun a ha => wI_same a ha) (Nat.le_of_ble_eq_true rfl) ?_
  intro Γ fin hfin hl hin C0 Z0
  subst hl
  obtain ⟨v0, hv, rfl⟩ := wI_some hfin
  have C : CX Γ cX1_canGet 3 "Blockduty$Driver" Pi2 ok2 4 86 := C0
  have Z : RX Γ Pi2 (some .boolean) (some (vI v0), g) := Z0
  refine X.conv (fun _ => hv) ?_
  unfold f_X1_canGet
  show X Γ 0 [(0, vR (some b)), (1, vR s1)] [] g _
  refine z_iconst C dX1_canGet_0 (v := 0) (by decide) ?_
  refine z_istore_n (L' := [(2, vI 0), (0, vR (some b)), (1, vR s1)]) C dX1_canGet_1 rfl (by decide) rfl ?_
  refine z_lsub [1, 2, 0] rfl ?_
  exact k_X1_canGet_L2 C b s1 g Z FU 0
theorem k_X4_worked_L23 {Γ : GG} {β : Type} {fin0 : β} {F0 : Int32 → Option β} (C : CX Γ cX4_worked 4 "Blockduty$Piece" Pi2 ok2 3 64) (p23_0 : Nat) (w23 : HP) (hexit : ∀ q23 : Int32, X Γ 83 [(1, vI q23)] [] w23 (F0 q23 = some fin0)) : ∀ (m23 : Nat) (u23_1 : Int32) (u23_2 : Int32), X Γ 23 [(0, vR (some p23_0)), (1, vI u23_1), (2, vI u23_2)] [] w23 ((f_X4_worked_L23 p23_0 w23 m23 u23_1 u23_2).bind F0 = some fin0) := by
  intro m23
  induction m23 with
  | zero =>
    intro u23_1 u23_2
    exact X.no no1
  | succ m23 ih =>
    intro u23_1 u23_2
    unfold f_X4_worked_L23
    refine z_iload_n C dX4_worked_23 rfl 2 rfl ?_
    refine z_aload_n C dX4_worked_24 rfl 0 rfl ?_
    refine X.conv bb ?_
    refine z_gfR C cf5 1 (by decide) rfl rfl dX4_worked_25 kt1003 (fun _ h => h) bd (fun r4 => ?_)
    refine X.conv bb ?_
    refine z_rcv bd (fun b5 hbb5 htb5 => ?_)
    subst hbb5
    refine X.conv bb ?_
    refine z_callV C cf7 mf_X6_count kt606 kt607 kt726 (k_X6_count (gL Γ) b5 w23 (gK Γ)) htb5 rfl ⟨Nat.le_of_ble_eq_true rfl, Nat.le_of_ble_eq_true rfl⟩ (rest := [vI u23_2]) rfl (Nat.le_of_ble_eq_true rfl) dX4_worked_28 (bdI) (contI fun x6 => ?_)
    refine X.conv bi ?_
    refine z_icmp_ge C dX4_worked_31 (tgt := 83) rfl it jf ?_ ?_
    · refine z_lsub [1] rfl ?_
      exact hexit u23_1
    · refine z_aload_n C dX4_worked_34 rfl 0 rfl ?_
      refine X.conv bb ?_
      refine z_gfR C cf5 1 (by decide) rfl rfl dX4_worked_35 kt1003 (fun _ h => h) bd (fun r7 => ?_)
      refine X.conv bb ?_
      refine z_gfR C cf7 0 (by decide) rfl rfl dX4_worked_38 kt84 (fun _ h => h) bd (fun r8 => ?_)
      refine z_iload_n C dX4_worked_41 rfl 2 rfl ?_
      refine X.conv bb ?_
      refine z_rcv bd (fun b9 hbb9 htb9 => ?_)
      subst hbb9
      refine X.conv bb ?_
      refine z_callV C cf0 mf_Jx4a65c_get_915e3 kt265 kt266 kt727 (k_al_get (gL Γ) b9 u23_2 w23 (gK Γ)) htb9 rfl ⟨Nat.le_of_ble_eq_true rfl, Nat.le_of_ble_eq_true rfl⟩ (rest := []) rfl (Nat.le_of_ble_eq_true rfl) dX4_worked_42 (bdR) (contR fun r10 => ?_)
      refine X.conv bb ?_
      refine z_cst C cf8 dX4_worked_45 kt728 bd (fun r11 => ?_)
      refine z_astore_n (L' := [(3, vR r11), (0, vR (some p23_0)), (1, vI u23_1), (2, vI u23_2)]) C dX4_worked_48 rfl (by decide) rfl ?_
      refine z_aload_n C dX4_worked_49 rfl 0 rfl ?_
      refine X.conv bb ?_
      refine z_gfR C cf8 8 (by decide) rfl rfl dX4_worked_50 kt434 (fun _ h => h) bd (fun r12 => ?_)
      refine z_aload_n C dX4_worked_53 rfl 1 rfl ?_
      refine X.conv bi ?_
      refine z_acmp_ne C dX4_worked_54 (tgt := 77) rfl it jf ?_ ?_
      · refine z_aload_n C dX4_worked_57 rfl 0 rfl ?_
        refine X.conv bb ?_
        refine z_rcv bd (fun b13 hbb13 htb13 => ?_)
        subst hbb13
        refine X.conv bb ?_
        refine z_callV C cf8 mf_X7_runs kt662 kt663 kt729 (k_X7_runs (gL Γ) b13 w23 (gK Γ)) htb13 rfl ⟨Nat.le_of_ble_eq_true rfl, Nat.le_of_ble_eq_true rfl⟩ (rest := []) rfl (Nat.le_of_ble_eq_true rfl) dX4_worked_58 (bdI) (contI fun x14 => ?_)
        refine X.conv bi ?_
        refine z_if_eq C dX4_worked_61 (tgt := 77) rfl it jf ?_ ?_
        · refine z_iinc (L' := [(2, vI (u23_2 + 1)), (3, vR (some b13)), (0, vR (some p23_0)), (1, vI u23_1)]) C dX4_worked_77 3 rfl (v := u23_2 + 1) rfl (by decide) rfl ?_
          refine z_goto C dX4_worked_80 (tgt := 23) rfl ?_
          refine z_lsub [2, 3, 0] rfl ?_
          exact ih u23_1 (u23_2 + 1)
        · refine z_aload_n C dX4_worked_64 rfl 0 rfl ?_
          refine X.conv bb ?_
          refine z_gfI C cf8 11 (by decide) rfl rfl dX4_worked_65 kt442 (fun _ h => h) bd (fun x15 => ?_)
          refine z_aload_n C dX4_worked_68 rfl 1 rfl ?_
          refine X.conv bb ?_
          refine z_gfR C cf5 2 (by decide) rfl rfl dX4_worked_69 kt1004 (fun _ h => h) bd (fun r16 => ?_)
          refine X.conv bb ?_
          refine z_gfI C cf8 4 (by decide) rfl rfl dX4_worked_72 kt420 (fun _ h => h) bd (fun x17 => ?_)
          refine z_isub C dX4_worked_75 ?_
          refine z_istore_n (L' := [(1, vI (x15 - x17)), (3, vR (some b13)), (0, vR (some p23_0)), (2, vI u23_2)]) C dX4_worked_76 rfl (by decide) rfl ?_
          refine z_iinc (L' := [(2, vI (u23_2 + 1)), (1, vI (x15 - x17)), (3, vR (some b13)), (0, vR (some p23_0))]) C dX4_worked_77 3 rfl (v := u23_2 + 1) rfl (by decide) rfl ?_
          refine z_goto C dX4_worked_80 (tgt := 23) rfl ?_
          refine z_lsub [3, 1, 0] rfl ?_
          exact ih (x15 - x17) (u23_2 + 1)
      · refine z_iinc (L' := [(2, vI (u23_2 + 1)), (3, vR r11), (0, vR (some p23_0)), (1, vI u23_1)]) C dX4_worked_77 3 rfl (v := u23_2 + 1) rfl (by decide) rfl ?_
        refine z_goto C dX4_worked_80 (tgt := 23) rfl ?_
        refine z_lsub [2, 3, 0] rfl ?_
        exact ih u23_1 (u23_2 + 1)
theorem k_X4_worked (l : Launch) (b : Nat) (g : HP) : MM l Pi2 yX4_worked cX4_worked 4 (some .int) 3 64 [vR (some b)] g (wI g (f_X4_worked b g)) := by
  refine MM_of PO_Pi2 mf_X4_worked (fun a ha => wI_same a ha) (Nat.le_of_ble_eq_true rfl) ?_
  intro Γ fin hfin hl hin C0 Z0
  subst hl
  obtain ⟨v0, hv, rfl⟩ := wI_some hfin
  have C : CX Γ cX4_worked 4 "Blockduty$Piece" Pi2 ok2 3 64 := C0
  have Z : RX Γ Pi2 (some .int) (some (vI v0), g) := Z0
  refine X.conv (fun _ => hv) ?_
  unfold f_X4_worked
  show X Γ 0 [(0, vR (some b))] [] g _
  refine z_aload_n C dX4_worked_0 rfl 0 rfl ?_
  refine z_gfR C cf5 5 (by decide) rfl rfl dX4_worked_1 kt1010 (fun _ h => h) bd (fun r1 => ?_)
  refine z_ifnull C dX4_worked_4 (tgt := 17) rfl it jf ?_ ?_
  · refine z_iconst C dX4_worked_17 (v := 0) (by decide) ?_
    exact z_iret C Z rfl dX4_worked_18 (fun h => by cases h; rfl)
  · refine z_aload_n C dX4_worked_7 rfl 0 rfl ?_
    refine z_gfR C cf5 5 (by decide) rfl rfl dX4_worked_8 kt1010 (fun _ h => h) bd (fun r2 => ?_)
    refine z_gfI C cf2 1 (by decide) rfl rfl dX4_worked_11 kt498 (fun _ h => h) bd (fun x3 => ?_)
    refine z_if_eq C dX4_worked_14 (tgt := 19) rfl it jf ?_ ?_
    · refine z_iconst C dX4_worked_19 (v := 0) (by decide) ?_
      refine z_istore_n (L' := [(1, vI 0), (0, vR (some b))]) C dX4_worked_20 rfl (by decide) rfl ?_
      refine z_iconst C dX4_worked_21 (v := 0) (by decide) ?_
      refine z_istore_n (L' := [(2, vI 0), (1, vI 0), (0, vR (some b))]) C dX4_worked_22 rfl (by decide) rfl ?_
      refine z_lsub [2, 1, 0] rfl ?_
      refine k_X4_worked_L23 C b g (fun q18 => ?_) FU 0 0
      refine z_iload_n C dX4_worked_83 rfl 0 rfl ?_
      refine z_if_le C dX4_worked_84 (tgt := 94) rfl it jf ?_ ?_
      · refine z_iconst C dX4_worked_94 (v := 0) (by decide) ?_
        exact z_iret C Z rfl dX4_worked_95 (fun h => by cases h; rfl)
      · refine z_iload_n C dX4_worked_87 rfl 0 rfl ?_
        refine z_bipush C dX4_worked_88 (v := 10) (by decide) ?_
        refine z_iadd C dX4_worked_90 ?_
        refine z_goto C dX4_worked_91 (tgt := 95) rfl ?_
        exact z_iret C Z rfl dX4_worked_95 (fun h => by cases h; rfl)
    · refine z_iconst C dX4_worked_17 (v := 0) (by decide) ?_
      exact z_iret C Z rfl dX4_worked_18 (fun h => by cases h; rfl)
theorem k_X1_worked_L4 {Γ : GG} {β : Type} {fin0 : β} {F0 : Int32 → Option β} (C : CX Γ cX1_worked 3 "Blockduty$Driver" Pi2 ok2 4 87) (p4_0 : Nat) (w4 : HP) (hexit : ∀ q4 : Int32, X Γ 38 [(1, vI q4)] [] w4 (F0 q4 = some fin0)) : ∀ (m4 : Nat) (u4_1 : Int32) (u4_2 : Int32), X Γ 4 [(0, vR (some p4_0)), (1, vI u4_1), (2, vI u4_2)] [] w4 ((f_X1_worked_L4 p4_0 w4 m4 u4_1 u4_2).bind F0 = some fin0) := by
  intro m4
  induction m4 with
  | zero =>
    intro u4_1 u4_2
    exact X.no no1
  | succ m4 ih =>
    intro u4_1 u4_2
    unfold f_X1_worked_L4
    refine z_iload_n C dX1_worked_4 rfl 2 rfl ?_
    refine z_aload_n C dX1_worked_5 rfl 0 rfl ?_
    refine X.conv bb ?_
    refine z_gfR C cf2 2 (by decide) rfl rfl dX1_worked_6 kt501 (fun _ h => h) bd (fun r1 => ?_)
    refine X.conv bb ?_
    refine z_rcv bd (fun b2 hbb2 htb2 => ?_)
    subst hbb2
    refine X.conv bb ?_
    refine z_callV C cf0 mf_Jx4a65c_size_8abf5 kt261 kt262 kt591 (k_al_size (gL Γ) b2 w4 (gK Γ)) htb2 rfl ⟨Nat.le_of_ble_eq_true rfl, Nat.le_of_ble_eq_true rfl⟩ (rest := [vI u4_2]) rfl (Nat.le_of_ble_eq_true rfl) dX1_worked_9 (bdI) (contI fun x3 => ?_)
    refine X.conv bi ?_
    refine z_icmp_ge C dX1_worked_12 (tgt := 38) rfl it jf ?_ ?_
    · refine z_lsub [1] rfl ?_
      exact hexit u4_1
    · refine z_iload_n C dX1_worked_15 rfl 1 rfl ?_
      refine z_aload_n C dX1_worked_16 rfl 0 rfl ?_
      refine X.conv bb ?_
      refine z_gfR C cf2 2 (by decide) rfl rfl dX1_worked_17 kt501 (fun _ h => h) bd (fun r4 => ?_)
      refine z_iload_n C dX1_worked_20 rfl 2 rfl ?_
      refine X.conv bb ?_
      refine z_rcv bd (fun b5 hbb5 htb5 => ?_)
      subst hbb5
      refine X.conv bb ?_
      refine z_callV C cf0 mf_Jx4a65c_get_915e3 kt265 kt266 kt592 (k_al_get (gL Γ) b5 u4_2 w4 (gK Γ)) htb5 rfl ⟨Nat.le_of_ble_eq_true rfl, Nat.le_of_ble_eq_true rfl⟩ (rest := [vI u4_1]) rfl (Nat.le_of_ble_eq_true rfl) dX1_worked_21 (bdR) (contR fun r6 => ?_)
      refine X.conv bb ?_
      refine z_cst C cf5 dX1_worked_24 kt712 bd (fun r7 => ?_)
      refine X.conv bb ?_
      refine z_rcv bd (fun b8 hbb8 htb8 => ?_)
      subst hbb8
      refine X.conv bb ?_
      refine z_callV C cf5 mf_X4_worked kt723 kt724 kt722 (k_X4_worked (gL Γ) b8 w4 (gK Γ)) htb8 rfl ⟨Nat.le_of_ble_eq_true rfl, Nat.le_of_ble_eq_true rfl⟩ (rest := [vI u4_1]) rfl (Nat.le_of_ble_eq_true rfl) dX1_worked_27 (bdI) (contI fun x9 => ?_)
      refine z_iadd C dX1_worked_30 ?_
      refine z_istore_n (L' := [(1, vI (u4_1 + x9)), (0, vR (some p4_0)), (2, vI u4_2)]) C dX1_worked_31 rfl (by decide) rfl ?_
      refine z_iinc (L' := [(2, vI (u4_2 + 1)), (1, vI (u4_1 + x9)), (0, vR (some p4_0))]) C dX1_worked_32 2 rfl (v := u4_2 + 1) rfl (by decide) rfl ?_
      refine z_goto C dX1_worked_35 (tgt := 4) rfl ?_
      refine z_lsub [2, 1, 0] rfl ?_
      exact ih (u4_1 + x9) (u4_2 + 1)
theorem k_X1_worked (l : Launch) (b : Nat) (g : HP) : MM l Pi2 yX1_worked cX1_worked 3 (some .int) 4 87 [vR (some b)] g (wI g (f_X1_worked b g)) := by
  refine MM_of PO_Pi2 mf_X1_worked (fun a ha => wI_same a ha) (Nat.le_of_ble_eq_true rfl) ?_
  intro Γ fin hfin hl hin C0 Z0
  subst hl
  obtain ⟨v0, hv, rfl⟩ := wI_some hfin
  have C : CX Γ cX1_worked 3 "Blockduty$Driver" Pi2 ok2 4 87 := C0
  have Z : RX Γ Pi2 (some .int) (some (vI v0), g) := Z0
  refine X.conv (fun _ => hv) ?_
  unfold f_X1_worked
  show X Γ 0 [(0, vR (some b))] [] g _
  refine z_iconst C dX1_worked_0 (v := 0) (by decide) ?_
  refine z_istore_n (L' := [(1, vI 0), (0, vR (some b))]) C dX1_worked_1 rfl (by decide) rfl ?_
  refine z_iconst C dX1_worked_2 (v := 0) (by decide) ?_
  refine z_istore_n (L' := [(2, vI 0), (1, vI 0), (0, vR (some b))]) C dX1_worked_3 rfl (by decide) rfl ?_
  refine z_lsub [2, 1, 0] rfl ?_
  refine k_X1_worked_L4 C b g (fun q10 => ?_) FU 0 0
  refine z_iload_n C dX1_worked_38 rfl 0 rfl ?_
  exact z_iret C Z rfl dX1_worked_39 (fun h => by cases h; rfl)
theorem k_X1_pay (l : Launch) (b : Nat) (g : HP) : MM l Pi2 yX1_pay cX1_pay 3 (some .int) 5 109 [vR (some b)] g (wI g (f_X1_pay b g)) := by
  refine MM_of PO_Pi2 mf_X1_pay (fun a ha => wI_same a ha) (Nat.le_of_ble_eq_true rfl) ?_
  intro Γ fin hfin hl hin C0 Z0
  subst hl
  obtain ⟨v0, hv, rfl⟩ := wI_some hfin
  have C : CX Γ cX1_pay 3 "Blockduty$Driver" Pi2 ok2 5 109 := C0
  have Z : RX Γ Pi2 (some .int) (some (vI v0), g) := Z0
  refine X.conv (fun _ => hv) ?_
  unfold f_X1_pay
  show X Γ 0 [(0, vR (some b))] [] g _
  refine z_aload_n C dX1_pay_0 rfl 0 rfl ?_
  refine z_rcv bd (fun b1 hbb1 htb1 => ?_)
  have heb1 := Option.some.inj hbb1
  subst heb1
  refine z_callV C cf2 mf_X1_worked kt719 kt720 kt734 (k_X1_worked (gL Γ) b g (gK Γ)) htb1 rfl ⟨Nat.le_of_ble_eq_true rfl, Nat.le_of_ble_eq_true rfl⟩ (rest := []) rfl (Nat.le_of_ble_eq_true rfl) dX1_pay_1 (bdI) (contI fun x2 => ?_)
  refine z_istore_n (L' := [(1, vI x2), (0, vR (some b))]) C dX1_pay_4 rfl (by decide) rfl ?_
  refine z_iconst C dX1_pay_5 (v := 0) (by decide) ?_
  refine z_iload_n C dX1_pay_6 rfl 0 rfl ?_
  refine z_sipush C dX1_pay_7 (v := 480) (by decide) ?_
  refine z_isub C dX1_pay_10 ?_
  refine z_mmax C kt735 kw_mmax_s kw_math kw_mmax_c dX1_pay_11 (by decide) (Nat.le_of_ble_eq_true rfl) ?_
  refine z_istore_n (L' := [(2, vI (if 0 < x2 - 480 then (x2 - 480) else 0)), (1, vI x2), (0, vR (some b))]) C dX1_pay_14 rfl (by decide) rfl ?_
  refine z_iload_n C dX1_pay_15 rfl 1 rfl ?_
  refine z_iconst C dX1_pay_16 (v := 4) (by decide) ?_
  refine z_idiv C dX1_pay_17 (by decide) ?_
  refine z_iload_n C dX1_pay_18 rfl 0 rfl ?_
  refine z_iconst C dX1_pay_19 (v := 4) (by decide) ?_
  refine z_idiv C dX1_pay_20 (by decide) ?_
  refine z_iadd C dX1_pay_21 ?_
  exact z_iret C Z rfl dX1_pay_22 (fun h => by cases h; rfl)
theorem k_X2_init (l : Launch) (b : Nat) (g : HP) : MM l Pi2 yX2_init cX2_init 1 none 1 40 [vR (some b)] g (wVg (f_X2_init b g)) := by
  refine MM_of PO_Pi2 mf_X2_init (fun a ha => wVg_mono (f_X2_init_mono b g) a ha) (Nat.le_of_ble_eq_true rfl) ?_
  intro Γ fin hfin hl hin C0 Z0
  subst hl
  obtain ⟨v0, hv, rfl⟩ := wVg_some hfin
  have C : CX Γ cX2_init 1 "Blockduty$Followers" Pi2 ok2 1 40 := C0
  have Z : RX Γ Pi2 none (none, v0) := Z0
  refine X.conv (fun _ => hv) ?_
  unfold f_X2_init
  show X Γ 0 [(0, vR (some b))] [] g _
  refine z_aload_n C dX2_init_0 rfl 0 rfl ?_
  refine z_objInit C kt94 kwOI kwOC dX2_init_1 (by decide) (Nat.le_of_ble_eq_true rfl) ?_
  refine z_aload_n C dX2_init_4 rfl 0 rfl ?_
  refine z_bipush C dX2_init_5 (v := 16) (by decide) ?_
  refine z_nwI (t := 20) C rfl (by decide) dX2_init_7 arr20 bd (fun a1 => ?_)
  refine z_pfR C cf3 0 (by decide) rfl rfl (isRefTy_a _) (Or.inr ⟨rfl, hin, rfl⟩) dX2_init_9 kt95 (fun _ h => h) bd (fun g2 => ?_)
  refine z_aload_n C dX2_init_12 rfl 0 rfl ?_
  refine z_bipush C dX2_init_13 (v := 16) (by decide) ?_
  refine z_nwI (t := 21) C rfl (by decide) dX2_init_15 arr21 bd (fun a3 => ?_)
  refine z_pfR C cf3 1 (by decide) rfl rfl (isRefTy_a _) (Or.inr ⟨rfl, hin, rfl⟩) dX2_init_17 kt96 (fun _ h => h) bd (fun g4 => ?_)
  exact z_vret C Z rfl dX2_init_20 (fun h => by cases h; rfl)
theorem k_X7_canFollow (l : Launch) (b : Nat) (s1 : Option Nat) (g : HP) : MM l Pi2 yX7_canFollow cX7_canFollow 2 (some .boolean) 1 21 [vR (some b), vR s1] g (wI g (f_X7_canFollow b s1 g)) := by
  refine MM_of PO_Pi2 mf_X7_canFollow (fun a ha => wI_same a ha) (Nat.le_of_ble_eq_true rfl) ?_
  intro Γ fin hfin hl hin C0 Z0
  subst hl
  obtain ⟨v0, hv, rfl⟩ := wI_some hfin
  have C : CX Γ cX7_canFollow 2 "Blockduty$Trip" Pi2 ok2 1 21 := C0
  have Z : RX Γ Pi2 (some .boolean) (some (vI v0), g) := Z0
  refine X.conv (fun _ => hv) ?_
  unfold f_X7_canFollow
  show X Γ 0 [(0, vR (some b)), (1, vR s1)] [] g _
  refine z_aload_n C dX7_canFollow_0 rfl 1 rfl ?_
  refine z_rcv bd (fun b1 hbb1 htb1 => ?_)
  subst hbb1
  refine z_callV C cf8 mf_X7_end kt666 kt667 kt789 (k_X7_end (gL Γ) b1 g (gK Γ)) htb1 rfl ⟨Nat.le_of_ble_eq_true rfl, Nat.le_of_ble_eq_true rfl⟩ (rest := []) rfl (Nat.le_of_ble_eq_true rfl) dX7_canFollow_1 (bdI) (contI fun x2 => ?_)
  refine z_aload_n C dX7_canFollow_4 rfl 1 rfl ?_
  refine z_gfR C cf8 3 (by decide) rfl rfl dX7_canFollow_5 kt415 (fun _ h => h) bd (fun r3 => ?_)
  refine z_aload_n C dX7_canFollow_8 rfl 0 rfl ?_
  refine z_gfR C cf8 2 (by decide) rfl rfl dX7_canFollow_9 kt412 (fun _ h => h) bd (fun r4 => ?_)
  refine z_rcv bd (fun b5 hbb5 htb5 => ?_)
  subst hbb5
  refine z_callV C cf6 mf_X5_emptyTo kt649 kt650 kt648 (k_X5_emptyTo (gL Γ) b5 r4 g (gK Γ)) htb5 rfl ⟨Nat.le_of_ble_eq_true rfl, Nat.le_of_ble_eq_true rfl⟩ (rest := [vI x2]) rfl (Nat.le_of_ble_eq_true rfl) dX7_canFollow_12 (bdI) (contI fun x6 => ?_)
  refine z_iadd C dX7_canFollow_15 ?_
  refine z_iconst C dX7_canFollow_16 (v := 4) (by decide) ?_
  refine z_iadd C dX7_canFollow_17 ?_
  refine z_aload_n C dX7_canFollow_18 rfl 0 rfl ?_
  refine z_gfI C cf8 4 (by decide) rfl rfl dX7_canFollow_19 kt419 (fun _ h => h) bd (fun x7 => ?_)
  refine z_icmp_gt C dX7_canFollow_22 (tgt := 29) rfl it jf ?_ ?_
  · refine z_iconst C dX7_canFollow_29 (v := 0) (by decide) ?_
    exact z_zret C Z rfl dX7_canFollow_30 (fun _ => Or.inl rfl) (fun h => by cases h; rfl)
  · refine z_iconst C dX7_canFollow_25 (v := 1) (by decide) ?_
    refine z_goto C dX7_canFollow_26 (tgt := 30) rfl ?_
    exact z_zret C Z rfl dX7_canFollow_30 (fun _ => Or.inr rfl) (fun h => by cases h; rfl)
theorem k_X2_findsFollower_L50 {Γ : GG} {rf rl : Nat} {v0 : (Int32 × HP)} (C : CX Γ cX2_findsFollower 8 "Blockduty$Followers" Pi2 ok2 rf rl) (hrf : 3 ≤ rf) (hrl : 64 ≤ rl) (rec : Option Nat → Int32 → Option Nat → Option Nat → Int32 → HP → Option (Int32 × HP)) {F1 L1 : Nat} (hrec : ∀ (z0 : Option Nat) (z1 : Int32) (z2 : Option Nat) (z3 : Option Nat) (z4 : Int32) (g : HP), MM (gL Γ) Pi2 yX2_findsFollower cX2_findsFollower 8 (some .boolean) F1 L1 [vR z0, vI z1, vR z2, vR z3, vI z4] g (wIg (rec z0 z1 z2 z3 z4 g))) (hR : F1 + 1 ≤ rf ∧ 8 + (8 + 11) + L1 ≤ rl) (p50_0 : Nat) (p50_1 : Int32) (p50_2 : Option Nat) (p50_3 : Option Nat) (p50_4 : Int32) (p50_5 : Option Nat) (p50_6 : Int32) (Z : RX Γ Pi2 (some .boolean) (some (vI v0.1), v0.2)) : ∀ (m50 : Nat) (u50_7 : Int32) (w50 : HP), X Γ 50 [(0, vR (some p50_0)), (1, vI p50_1), (2, vR p50_2), (3, vR p50_3), (4, vI p50_4), (5, vR p50_5), (6, vI p50_6), (7, vI u50_7)] [] w50 (f_X2_findsFollower_L50 rec p50_0 p50_1 p50_2 p50_3 p50_4 p50_5 p50_6 m50 u50_7 w50 = some v0) := by
  intro m50
  induction m50 with
  | zero =>
    intro u50_7 w50
    exact X.no no0
  | succ m50 ih =>
    intro u50_7 w50
    unfold f_X2_findsFollower_L50
    refine z_iload C dX2_findsFollower_50 7 rfl ?_
    refine z_iload C dX2_findsFollower_52 6 rfl ?_
    refine z_icmp_ge C dX2_findsFollower_54 (tgt := 127) rfl it jf ?_ ?_
    · refine z_iconst C dX2_findsFollower_127 (v := 0) (by decide) ?_
      exact z_zret C Z rfl dX2_findsFollower_128 (fun _ => Or.inl rfl) (fun h => by cases h; rfl)
    · refine z_aload_n C dX2_findsFollower_57 rfl 3 rfl ?_
      refine z_iload C dX2_findsFollower_58 7 rfl ?_
      refine z_ldZ C dX2_findsFollower_60 bd (fun x10 => ?_)
      refine z_if_ne C dX2_findsFollower_61 (tgt := 121) rfl it jf ?_ ?_
      · refine z_aload_n C dX2_findsFollower_64 rfl 0 rfl ?_
        refine z_iload C dX2_findsFollower_65 7 rfl ?_
        refine z_rcv bd (fun b11 hbb11 htb11 => ?_)
        have heb11 := Option.some.inj hbb11
        subst heb11
        refine z_callV C cf0 mf_Jx4a65c_get_915e3 kt265 kt266 kt782 (k_al_get (gL Γ) p50_0 u50_7 w50 (gK Γ)) htb11 rfl ⟨Nat.le_trans (Nat.le_of_ble_eq_true rfl) hrf, Nat.le_trans (Nat.le_of_ble_eq_true rfl) hrl⟩ (rest := []) rfl (Nat.le_of_ble_eq_true rfl) dX2_findsFollower_67 (bdR) (contR fun r12 => ?_)
        refine z_cst C cf8 dX2_findsFollower_70 kt783 bd (fun r13 => ?_)
        refine z_aload C dX2_findsFollower_73 5 rfl ?_
        refine z_rcv bd (fun b14 hbb14 htb14 => ?_)
        subst hbb14
        refine z_callV C cf8 mf_X7_canFollow kt786 kt787 kt785 (k_X7_canFollow (gL Γ) b14 p50_5 w50 (gK Γ)) htb14 rfl ⟨Nat.le_trans (Nat.le_of_ble_eq_true rfl) hrf, Nat.le_trans (Nat.le_of_ble_eq_true rfl) hrl⟩ (rest := []) rfl (Nat.le_of_ble_eq_true rfl) dX2_findsFollower_75 (bdI) (contI fun x15 => ?_)
        refine z_if_ne C dX2_findsFollower_78 (tgt := 84) rfl it jf ?_ ?_
        · refine z_goto C dX2_findsFollower_81 (tgt := 121) rfl ?_
          refine z_iinc (L' := [(7, vI (u50_7 + 1)), (0, vR (some p50_0)), (1, vI p50_1), (2, vR p50_2), (3, vR p50_3), (4, vI p50_4), (5, vR p50_5), (6, vI p50_6)]) C dX2_findsFollower_121 7 rfl (v := u50_7 + 1) rfl (by decide) rfl ?_
          refine z_goto C dX2_findsFollower_124 (tgt := 50) rfl ?_
          refine z_lsub [1, 2, 3, 4, 5, 6, 7, 0] rfl ?_
          exact ih (u50_7 + 1) w50
        · refine z_aload_n C dX2_findsFollower_84 rfl 3 rfl ?_
          refine z_iload C dX2_findsFollower_85 7 rfl ?_
          refine z_iconst C dX2_findsFollower_87 (v := 1) (by decide) ?_
          refine z_stZ C dX2_findsFollower_88 bd (fun g16 => ?_)
          refine z_aload_n C dX2_findsFollower_89 rfl 2 rfl ?_
          refine z_iload C dX2_findsFollower_90 7 rfl ?_
          refine z_ldI C dX2_findsFollower_92 bd (fun x17 => ?_)
          refine z_iconst C dX2_findsFollower_93 (v := (-1)) (by decide) ?_
          refine z_icmp_eq C dX2_findsFollower_94 (tgt := 114) rfl it jf ?_ ?_
          · refine z_aload_n C dX2_findsFollower_114 rfl 2 rfl ?_
            refine z_iload C dX2_findsFollower_115 7 rfl ?_
            refine z_iload_n C dX2_findsFollower_117 rfl 1 rfl ?_
            refine z_stI C dX2_findsFollower_118 bd (fun g18 => ?_)
            refine z_iconst C dX2_findsFollower_119 (v := 1) (by decide) ?_
            exact z_zret C Z rfl dX2_findsFollower_120 (fun _ => Or.inr rfl) (fun h => by cases h; rfl)
          · refine z_aload_n C dX2_findsFollower_97 rfl 0 rfl ?_
            refine z_aload_n C dX2_findsFollower_98 rfl 2 rfl ?_
            refine z_iload C dX2_findsFollower_99 7 rfl ?_
            refine z_ldI C dX2_findsFollower_101 bd (fun x19 => ?_)
            refine z_aload_n C dX2_findsFollower_102 rfl 2 rfl ?_
            refine z_aload_n C dX2_findsFollower_103 rfl 3 rfl ?_
            refine z_iload C dX2_findsFollower_104 4 rfl ?_
            refine z_iconst C dX2_findsFollower_106 (v := 1) (by decide) ?_
            refine z_iadd C dX2_findsFollower_107 ?_
            refine z_callS C rfl mf_X2_findsFollower kt780 kt779 (hrec (some p50_0) x19 p50_2 p50_3 (p50_4 + 1) g16 (gK Γ)) rfl hR (rest := []) rfl (Nat.le_of_ble_eq_true rfl) dX2_findsFollower_108 (bdIg) (contIg fun v20 => ?_)
            refine z_if_eq C dX2_findsFollower_111 (tgt := 121) rfl it jf ?_ ?_
            · refine z_iinc (L' := [(7, vI (u50_7 + 1)), (0, vR (some p50_0)), (1, vI p50_1), (2, vR p50_2), (3, vR p50_3), (4, vI p50_4), (5, vR p50_5), (6, vI p50_6)]) C dX2_findsFollower_121 7 rfl (v := u50_7 + 1) rfl (by decide) rfl ?_
              refine z_goto C dX2_findsFollower_124 (tgt := 50) rfl ?_
              refine z_lsub [1, 2, 3, 4, 5, 6, 7, 0] rfl ?_
              exact ih (u50_7 + 1) v20.2
            · refine z_aload_n C dX2_findsFollower_114 rfl 2 rfl ?_
              refine z_iload C dX2_findsFollower_115 7 rfl ?_
              refine z_iload_n C dX2_findsFollower_117 rfl 1 rfl ?_
              refine z_stI C dX2_findsFollower_118 bd (fun g21 => ?_)
              refine z_iconst C dX2_findsFollower_119 (v := 1) (by decide) ?_
              exact z_zret C Z rfl dX2_findsFollower_120 (fun _ => Or.inr rfl) (fun h => by cases h; rfl)
      · refine z_iinc (L' := [(7, vI (u50_7 + 1)), (0, vR (some p50_0)), (1, vI p50_1), (2, vR p50_2), (3, vR p50_3), (4, vI p50_4), (5, vR p50_5), (6, vI p50_6)]) C dX2_findsFollower_121 7 rfl (v := u50_7 + 1) rfl (by decide) rfl ?_
        refine z_goto C dX2_findsFollower_124 (tgt := 50) rfl ?_
        refine z_lsub [1, 2, 3, 4, 5, 6, 7, 0] rfl ?_
        exact ih (u50_7 + 1) w50
theorem k_X2_findsFollower (l : Launch) : ∀ (d : Nat) (s1 : Option Nat) (s2 : Int32) (s3 : Option Nat) (s4 : Option Nat) (s5 : Int32) (g : HP), MM l Pi2 yX2_findsFollower cX2_findsFollower 8 (some .boolean) (3 + d) (64 + d * 27) [vR s1, vI s2, vR s3, vR s4, vI s5] g (wIg (f_X2_findsFollower d s1 s2 s3 s4 s5 g)) := by
  intro d
  induction d with
  | zero =>
    intro s1 s2 s3 s4 s5 g κ a ha
    obtain ⟨v0, hv, -⟩ := wIg_some ha
    cases hv
  | succ d ih =>
    intro s1 s2 s3 s4 s5 g
    refine MM_of PO_Pi2 mf_X2_findsFollower (fun a ha => wIg_mono (f_X2_findsFollower_mono (d + 1) s1 s2 s3 s4 s5 g) a ha) (Nat.le_of_ble_eq_true rfl) ?_
    intro Γ fin hfin hl hin C0 Z0
    subst hl
    obtain ⟨v0, hv, rfl⟩ := wIg_some hfin
    have C : CX Γ cX2_findsFollower 8 "Blockduty$Followers" Pi2 ok2 (3 + (d + 1)) (64 + (d + 1) * 27) := C0
    have Z : RX Γ Pi2 (some .boolean) (some (vI v0.1), v0.2) := Z0
    have hrf : 3 ≤ 3 + (d + 1) := Nat.le_add_right _ _
    have hrl : 64 ≤ 64 + (d + 1) * 27 := Nat.le_add_right _ _
    have hR : (3 + d) + 1 ≤ 3 + (d + 1) ∧ 8 + (8 + 11) + (64 + d * 27) ≤ 64 + (d + 1) * 27 := by constructor <;> omega
    refine X.conv (fun _ => hv) ?_
    unfold f_X2_findsFollower
    show X Γ 0 [(0, vR s1), (1, vI s2), (2, vR s3), (3, vR s4), (4, vI s5)] [] g _
    refine z_iload C dX2_findsFollower_0 4 rfl ?_
    refine z_bipush C dX2_findsFollower_2 (v := 16) (by decide) ?_
    refine z_icmp_gt C dX2_findsFollower_4 (tgt := 19) rfl it jf ?_ ?_
    · refine z_iconst C dX2_findsFollower_19 (v := 0) (by decide) ?_
      exact z_zret C Z rfl dX2_findsFollower_20 (fun _ => Or.inl rfl) (fun h => by cases h; rfl)
    · refine z_iload_n C dX2_findsFollower_7 rfl 1 rfl ?_
      refine z_if_lt C dX2_findsFollower_8 (tgt := 19) rfl it jf ?_ ?_
      · refine z_iconst C dX2_findsFollower_19 (v := 0) (by decide) ?_
        exact z_zret C Z rfl dX2_findsFollower_20 (fun _ => Or.inl rfl) (fun h => by cases h; rfl)
      · refine z_iload_n C dX2_findsFollower_11 rfl 1 rfl ?_
        refine z_aload_n C dX2_findsFollower_12 rfl 0 rfl ?_
        refine z_rcv bd (fun b1 hbb1 htb1 => ?_)
        subst hbb1
        refine z_callV C cf0 mf_Jx4a65c_size_8abf5 kt261 kt262 kt778 (k_al_size (gL Γ) b1 g (gK Γ)) htb1 rfl ⟨Nat.le_trans (Nat.le_of_ble_eq_true rfl) hrf, Nat.le_trans (Nat.le_of_ble_eq_true rfl) hrl⟩ (rest := [vI s2]) rfl (Nat.le_of_ble_eq_true rfl) dX2_findsFollower_13 (bdI) (contI fun x2 => ?_)
        refine z_icmp_lt C dX2_findsFollower_16 (tgt := 21) rfl it jf ?_ ?_
        · refine z_aload_n C dX2_findsFollower_21 rfl 0 rfl ?_
          refine z_iload_n C dX2_findsFollower_22 rfl 1 rfl ?_
          refine z_rcv bd (fun b3 hbb3 htb3 => ?_)
          have heb3 := Option.some.inj hbb3
          subst heb3
          refine z_callV C cf0 mf_Jx4a65c_get_915e3 kt265 kt266 kt782 (k_al_get (gL Γ) b1 s2 g (gK Γ)) htb3 rfl ⟨Nat.le_trans (Nat.le_of_ble_eq_true rfl) hrf, Nat.le_trans (Nat.le_of_ble_eq_true rfl) hrl⟩ (rest := []) rfl (Nat.le_of_ble_eq_true rfl) dX2_findsFollower_23 (bdR) (contR fun r4 => ?_)
          refine z_cst C cf8 dX2_findsFollower_26 kt783 bd (fun r5 => ?_)
          refine z_astore (L' := [(5, vR r5), (0, vR (some b1)), (1, vI s2), (2, vR s3), (3, vR s4), (4, vI s5)]) C dX2_findsFollower_29 (by decide) rfl ?_
          refine z_aload_n C dX2_findsFollower_31 rfl 1 rfl ?_
          refine z_rcv bd (fun b6 hbb6 htb6 => ?_)
          have heb6 := Option.some.inj hbb6
          subst heb6
          refine z_callV C cf0 mf_Jx4a65c_size_8abf5 kt261 kt262 kt778 (k_al_size (gL Γ) b1 g (gK Γ)) htb6 rfl ⟨Nat.le_trans (Nat.le_of_ble_eq_true rfl) hrf, Nat.le_trans (Nat.le_of_ble_eq_true rfl) hrl⟩ (rest := []) rfl (Nat.le_of_ble_eq_true rfl) dX2_findsFollower_32 (bdI) (contI fun x7 => ?_)
          refine z_aload_n C dX2_findsFollower_35 rfl 3 rfl ?_
          refine z_lnI C dX2_findsFollower_36 bd (fun x8 => ?_)
          refine z_aload_n C dX2_findsFollower_37 rfl 4 rfl ?_
          refine z_lnI C dX2_findsFollower_38 bd (fun x9 => ?_)
          refine z_mmin C kt784 kw_mmin_s kw_math kw_mmin_c dX2_findsFollower_39 (Nat.le_trans (Nat.le_of_ble_eq_true rfl) hrf) (Nat.le_trans (Nat.le_of_ble_eq_true rfl) hrl) ?_
          refine z_mmin C kt784 kw_mmin_s kw_math kw_mmin_c dX2_findsFollower_42 (Nat.le_trans (Nat.le_of_ble_eq_true rfl) hrf) (Nat.le_trans (Nat.le_of_ble_eq_true rfl) hrl) ?_
          refine z_istore (L' := [(6, vI (if (if x9 < x8 then x9 else x8) < x7 then (if x9 < x8 then x9 else x8) else x7)), (5, vR r5), (0, vR (some b1)), (1, vI s2), (2, vR s3), (3, vR s4), (4, vI s5)]) C dX2_findsFollower_45 (by decide) rfl ?_
          refine z_iconst C dX2_findsFollower_47 (v := 0) (by decide) ?_
          refine z_istore (L' := [(7, vI 0), (6, vI (if (if x9 < x8 then x9 else x8) < x7 then (if x9 < x8 then x9 else x8) else x7)), (5, vR r5), (0, vR (some b1)), (1, vI s2), (2, vR s3), (3, vR s4), (4, vI s5)]) C dX2_findsFollower_48 (by decide) rfl ?_
          refine z_lsub [3, 4, 5, 6, 7, 2, 1, 0] rfl ?_
          exact k_X2_findsFollower_L50 C hrf hrl (f_X2_findsFollower d) (fun s1 s2 s3 s4 s5 g => ih s1 s2 s3 s4 s5 g) hR b1 s2 s3 s4 s5 r5 (if (if x9 < x8 then x9 else x8) < x7 then (if x9 < x8 then x9 else x8) else x7) Z FU 0 g
        · refine z_iconst C dX2_findsFollower_19 (v := 0) (by decide) ?_
          exact z_zret C Z rfl dX2_findsFollower_20 (fun _ => Or.inl rfl) (fun h => by cases h; rfl)
theorem k_X2_mostPairs_L2 {Γ : GG} {β : Type} {fin0 : β} {F0 : HP → Option β} (C : CX Γ cX2_mostPairs 5 "Blockduty$Followers" Pi2 ok2 24 631) (p2_0 : Nat) (p2_1 : Option Nat) (hexit : ∀ q2 : HP, X Γ 24 [(0, vR (some p2_0)), (1, vR p2_1)] [] q2 (F0 q2 = some fin0)) : ∀ (m2 : Nat) (u2_2 : Int32) (w2 : HP), X Γ 2 [(0, vR (some p2_0)), (1, vR p2_1), (2, vI u2_2)] [] w2 ((f_X2_mostPairs_L2 p2_0 p2_1 m2 u2_2 w2).bind F0 = some fin0) := by
  intro m2
  induction m2 with
  | zero =>
    intro u2_2 w2
    exact X.no no1
  | succ m2 ih =>
    intro u2_2 w2
    unfold f_X2_mostPairs_L2
    refine z_iload_n C dX2_mostPairs_2 rfl 2 rfl ?_
    refine z_aload_n C dX2_mostPairs_3 rfl 0 rfl ?_
    refine X.conv bb ?_
    refine z_gfR C cf3 0 (by decide) rfl rfl dX2_mostPairs_4 kt95 (fun _ h => h) bd (fun r1 => ?_)
    refine X.conv bb ?_
    refine z_lnI C dX2_mostPairs_7 bd (fun x2 => ?_)
    refine X.conv bi ?_
    refine z_icmp_ge C dX2_mostPairs_8 (tgt := 24) rfl it jf ?_ ?_
    · refine z_lsub [0, 1] rfl ?_
      exact hexit w2
    · refine z_aload_n C dX2_mostPairs_11 rfl 0 rfl ?_
      refine X.conv bb ?_
      refine z_gfR C cf3 0 (by decide) rfl rfl dX2_mostPairs_12 kt95 (fun _ h => h) bd (fun r3 => ?_)
      refine z_iload_n C dX2_mostPairs_15 rfl 2 rfl ?_
      refine z_iconst C dX2_mostPairs_16 (v := (-1)) (by decide) ?_
      refine X.conv bb ?_
      refine z_stI C dX2_mostPairs_17 bd (fun g4 => ?_)
      refine z_iinc (L' := [(2, vI (u2_2 + 1)), (0, vR (some p2_0)), (1, vR p2_1)]) C dX2_mostPairs_18 2 rfl (v := u2_2 + 1) rfl (by decide) rfl ?_
      refine z_goto C dX2_mostPairs_21 (tgt := 2) rfl ?_
      refine z_lsub [1, 2, 0] rfl ?_
      exact ih (u2_2 + 1) g4
theorem k_X2_mostPairs_L39 {Γ : GG} {β : Type} {fin0 : β} {F0 : HP → Option β} (C : CX Γ cX2_mostPairs 5 "Blockduty$Followers" Pi2 ok2 24 631) (p39_0 : Nat) (p39_1 : Nat) (p39_2 : Int32) (p39_3 : Int32) (hexit : ∀ q39 : HP, X Γ 63 [(0, vR (some p39_0)), (1, vR (some p39_1)), (2, vI p39_2), (3, vI p39_3)] [] q39 (F0 q39 = some fin0)) : ∀ (m39 : Nat) (u39_4 : Int32) (w39 : HP), X Γ 39 [(0, vR (some p39_0)), (1, vR (some p39_1)), (2, vI p39_2), (3, vI p39_3), (4, vI u39_4)] [] w39 ((f_X2_mostPairs_L39 p39_0 p39_1 p39_2 p39_3 m39 u39_4 w39).bind F0 = some fin0) := by
  intro m39
  induction m39 with
  | zero =>
    intro u39_4 w39
    exact X.no no1
  | succ m39 ih =>
    intro u39_4 w39
    unfold f_X2_mostPairs_L39
    refine z_iload C dX2_mostPairs_39 4 rfl ?_
    refine z_aload_n C dX2_mostPairs_41 rfl 0 rfl ?_
    refine X.conv bb ?_
    refine z_gfR C cf3 1 (by decide) rfl rfl dX2_mostPairs_42 kt96 (fun _ h => h) bd (fun r8 => ?_)
    refine X.conv bb ?_
    refine z_lnI C dX2_mostPairs_45 bd (fun x9 => ?_)
    refine X.conv bi ?_
    refine z_icmp_ge C dX2_mostPairs_46 (tgt := 63) rfl it jf ?_ ?_
    · refine z_lsub [0, 1, 2, 3] rfl ?_
      exact hexit w39
    · refine z_aload_n C dX2_mostPairs_49 rfl 0 rfl ?_
      refine X.conv bb ?_
      refine z_gfR C cf3 1 (by decide) rfl rfl dX2_mostPairs_50 kt96 (fun _ h => h) bd (fun r10 => ?_)
      refine z_iload C dX2_mostPairs_53 4 rfl ?_
      refine z_iconst C dX2_mostPairs_55 (v := 0) (by decide) ?_
      refine X.conv bb ?_
      refine z_stZ C dX2_mostPairs_56 bd (fun g11 => ?_)
      refine z_iinc (L' := [(4, vI (u39_4 + 1)), (0, vR (some p39_0)), (1, vR (some p39_1)), (2, vI p39_2), (3, vI p39_3)]) C dX2_mostPairs_57 4 rfl (v := u39_4 + 1) rfl (by decide) rfl ?_
      refine z_goto C dX2_mostPairs_60 (tgt := 39) rfl ?_
      refine z_lsub [1, 2, 3, 4, 0] rfl ?_
      exact ih (u39_4 + 1) g11
theorem k_X2_mostPairs_L28 {Γ : GG} {β : Type} {fin0 : β} {F0 : (Int32 × HP) → Option β} (C : CX Γ cX2_mostPairs 5 "Blockduty$Followers" Pi2 ok2 24 631) (p28_0 : Nat) (p28_1 : Option Nat) (hexit : ∀ q28 : (Int32 × HP), X Γ 89 [(2, vI q28.1)] [] q28.2 (F0 q28 = some fin0)) : ∀ (m28 : Nat) (u28_2 : Int32) (u28_3 : Int32) (w28 : HP), X Γ 28 [(0, vR (some p28_0)), (1, vR p28_1), (2, vI u28_2), (3, vI u28_3)] [] w28 ((f_X2_mostPairs_L28 p28_0 p28_1 m28 u28_2 u28_3 w28).bind F0 = some fin0) := by
  intro m28
  induction m28 with
  | zero =>
    intro u28_2 u28_3 w28
    exact X.no no1
  | succ m28 ih =>
    intro u28_2 u28_3 w28
    unfold f_X2_mostPairs_L28
    refine z_iload_n C dX2_mostPairs_28 rfl 3 rfl ?_
    refine z_aload_n C dX2_mostPairs_29 rfl 1 rfl ?_
    refine X.conv bb ?_
    refine z_rcv bd (fun b6 hbb6 htb6 => ?_)
    subst hbb6
    refine X.conv bb ?_
    refine z_callV C cf0 mf_Jx4a65c_size_8abf5 kt261 kt262 kt778 (k_al_size (gL Γ) b6 w28 (gK Γ)) htb6 rfl ⟨Nat.le_of_ble_eq_true rfl, Nat.le_of_ble_eq_true rfl⟩ (rest := [vI u28_3]) rfl (Nat.le_of_ble_eq_true rfl) dX2_mostPairs_30 (bdI) (contI fun x7 => ?_)
    refine X.conv bi ?_
    refine z_icmp_ge C dX2_mostPairs_33 (tgt := 89) rfl it jf ?_ ?_
    · refine z_lsub [2] rfl ?_
      exact hexit (u28_2, w28)
    · refine z_iconst C dX2_mostPairs_36 (v := 0) (by decide) ?_
      refine z_istore (L' := [(4, vI 0), (0, vR (some p28_0)), (1, vR (some b6)), (2, vI u28_2), (3, vI u28_3)]) C dX2_mostPairs_37 (by decide) rfl ?_
      refine z_lsub [1, 2, 3, 4, 0] rfl ?_
      refine X.conv bb ?_
      refine k_X2_mostPairs_L39 C p28_0 b6 u28_2 u28_3 (fun q12 => ?_) FU 0 w28
      refine z_aload_n C dX2_mostPairs_63 rfl 1 rfl ?_
      refine z_iload_n C dX2_mostPairs_64 rfl 3 rfl ?_
      refine z_aload_n C dX2_mostPairs_65 rfl 0 rfl ?_
      refine X.conv bb ?_
      refine z_gfR C cf3 0 (by decide) rfl rfl dX2_mostPairs_66 kt95 (fun _ h => h) bd (fun r13 => ?_)
      refine z_aload_n C dX2_mostPairs_69 rfl 0 rfl ?_
      refine X.conv bb ?_
      refine z_gfR C cf3 1 (by decide) rfl rfl dX2_mostPairs_70 kt96 (fun _ h => h) bd (fun r14 => ?_)
      refine z_iconst C dX2_mostPairs_73 (v := 0) (by decide) ?_
      refine X.conv bb ?_
      refine z_callS C rfl mf_X2_findsFollower kt780 kt779 (k_X2_findsFollower (gL Γ) 20 (some b6) u28_3 r13 r14 0 q12 (gK Γ)) rfl ⟨Nat.le_of_ble_eq_true rfl, Nat.le_of_ble_eq_true rfl⟩ (rest := []) rfl (Nat.le_of_ble_eq_true rfl) dX2_mostPairs_74 (bdIg) (contIg fun v15 => ?_)
      refine X.conv bi ?_
      refine z_if_eq C dX2_mostPairs_77 (tgt := 83) rfl it jf ?_ ?_
      · refine z_iinc (L' := [(3, vI (u28_3 + 1)), (0, vR (some p28_0)), (1, vR (some b6)), (2, vI u28_2)]) C dX2_mostPairs_83 3 rfl (v := u28_3 + 1) rfl (by decide) rfl ?_
        refine z_goto C dX2_mostPairs_86 (tgt := 28) rfl ?_
        refine z_lsub [1, 2, 3, 0] rfl ?_
        exact ih u28_2 (u28_3 + 1) v15.2
      · refine z_iinc (L' := [(2, vI (u28_2 + 1)), (0, vR (some p28_0)), (1, vR (some b6)), (3, vI u28_3)]) C dX2_mostPairs_80 2 rfl (v := u28_2 + 1) rfl (by decide) rfl ?_
        refine z_iinc (L' := [(3, vI (u28_3 + 1)), (2, vI (u28_2 + 1)), (0, vR (some p28_0)), (1, vR (some b6))]) C dX2_mostPairs_83 3 rfl (v := u28_3 + 1) rfl (by decide) rfl ?_
        refine z_goto C dX2_mostPairs_86 (tgt := 28) rfl ?_
        refine z_lsub [2, 3, 1, 0] rfl ?_
        exact ih (u28_2 + 1) (u28_3 + 1) v15.2
theorem k_X2_mostPairs (l : Launch) (b : Nat) (s1 : Option Nat) (g : HP) : MM l Pi2 yX2_mostPairs cX2_mostPairs 5 (some .int) 24 631 [vR (some b), vR s1] g (wIg (f_X2_mostPairs b s1 g)) := by
  refine MM_of PO_Pi2 mf_X2_mostPairs (fun a ha => wIg_mono (f_X2_mostPairs_mono b s1 g) a ha) (Nat.le_of_ble_eq_true rfl) ?_
  intro Γ fin hfin hl hin C0 Z0
  subst hl
  obtain ⟨v0, hv, rfl⟩ := wIg_some hfin
  have C : CX Γ cX2_mostPairs 5 "Blockduty$Followers" Pi2 ok2 24 631 := C0
  have Z : RX Γ Pi2 (some .int) (some (vI v0.1), v0.2) := Z0
  refine X.conv (fun _ => hv) ?_
  unfold f_X2_mostPairs
  show X Γ 0 [(0, vR (some b)), (1, vR s1)] [] g _
  refine z_iconst C dX2_mostPairs_0 (v := 0) (by decide) ?_
  refine z_istore_n (L' := [(2, vI 0), (0, vR (some b)), (1, vR s1)]) C dX2_mostPairs_1 rfl (by decide) rfl ?_
  refine z_lsub [1, 2, 0] rfl ?_
  refine k_X2_mostPairs_L2 C b s1 (fun q5 => ?_) FU 0 g
  refine z_iconst C dX2_mostPairs_24 (v := 0) (by decide) ?_
  refine z_istore_n (L' := [(2, vI 0), (0, vR (some b)), (1, vR s1)]) C dX2_mostPairs_25 rfl (by decide) rfl ?_
  refine z_iconst C dX2_mostPairs_26 (v := 0) (by decide) ?_
  refine z_istore_n (L' := [(3, vI 0), (2, vI 0), (0, vR (some b)), (1, vR s1)]) C dX2_mostPairs_27 rfl (by decide) rfl ?_
  refine z_lsub [2, 3, 1, 0] rfl ?_
  refine k_X2_mostPairs_L28 C b s1 (fun q16 => ?_) FU 0 0 q5
  refine z_iload_n C dX2_mostPairs_89 rfl 0 rfl ?_
  exact z_iret C Z rfl dX2_mostPairs_90 (fun h => by cases h; rfl)
theorem k_X3_init (l : Launch) (b : Nat) (s1 : Int32) (g : HP) : MM l Pi2 yX3_init cX3_init 2 none 1 40 [vR (some b), vI s1] g (wVg (f_X3_init b s1 g)) := by
  refine MM_of PO_Pi2 mf_X3_init (fun a ha => wVg_mono (f_X3_init_mono b s1 g) a ha) (Nat.le_of_ble_eq_true rfl) ?_
  intro Γ fin hfin hl hin C0 Z0
  subst hl
  obtain ⟨v0, hv, rfl⟩ := wVg_some hfin
  have C : CX Γ cX3_init 2 "Blockduty$Line" Pi2 ok2 1 40 := C0
  have Z : RX Γ Pi2 none (none, v0) := Z0
  refine X.conv (fun _ => hv) ?_
  unfold f_X3_init
  show X Γ 0 [(0, vR (some b)), (1, vI s1)] [] g _
  refine z_aload_n C dX3_init_0 rfl 0 rfl ?_
  refine z_objInit C kt194 kwOI kwOC dX3_init_1 (by decide) (Nat.le_of_ble_eq_true rfl) ?_
  refine z_aload_n C dX3_init_4 rfl 0 rfl ?_
  refine z_bipush C dX3_init_5 (v := 10) (by decide) ?_
  refine z_pfI C cf4 1 (by decide) rfl rfl rfl (Or.inl rfl) dX3_init_7 kt197 (fun _ h => h) bd (fun g1 => ?_)
  refine z_aload_n C dX3_init_10 rfl 0 rfl ?_
  refine z_iload_n C dX3_init_11 rfl 1 rfl ?_
  refine z_pfI C cf4 0 (by decide) rfl rfl rfl (Or.inr ⟨rfl, hin, rfl⟩) dX3_init_12 kt195 (fun _ h => h) bd (fun g2 => ?_)
  exact z_vret C Z rfl dX3_init_15 (fun h => by cases h; rfl)
