theorem k_X9_bestSwap_L72 {Γ : GG} {β : Type} {fin0 : β} {F0 : (Int32 × Int32 × HP) → Option β} (C : CX Γ cX9_bestSwap 10 "Blockduty" Pi2 ok2 11 287) (p72_0 : Nat) (p72_3 : Option Nat) (p72_4 : Option Nat) (p72_7 : Int32) (hexit : ∀ q72 : (Int32 × Int32 × HP), X Γ 137 [(0, vR (some p72_0)), (3, vR p72_3), (4, vR p72_4), (5, vI q72.1), (6, vI q72.2.1), (7, vI p72_7)] [] q72.2.2 (F0 q72 = some fin0)) : ∀ (m72 : Nat) (u72_5 : Int32) (u72_6 : Int32) (u72_8 : Int32) (w72 : HP), X Γ 72 [(0, vR (some p72_0)), (3, vR p72_3), (4, vR p72_4), (5, vI u72_5), (6, vI u72_6), (7, vI p72_7), (8, vI u72_8)] [] w72 ((f_X9_bestSwap_L72 p72_0 p72_3 p72_4 p72_7 m72 u72_5 u72_6 u72_8 w72).bind F0 = some fin0) := by
  intro m72
  induction m72 with
  | zero =>
    intro u72_5 u72_6 u72_8 w72
    exact X.no no1
  | succ m72 ih =>
    intro u72_5 u72_6 u72_8 w72
    unfold f_X9_bestSwap_L72
    refine z_iload C dX9_bestSwap_72 6 rfl ?_
    refine z_aload C dX9_bestSwap_74 2 rfl ?_
    refine X.conv bb ?_
    refine z_gfR C cf1 3 (by decide) rfl rfl dX9_bestSwap_76 kt538 (fun _ h => h) bd (fun r8 => ?_)
    refine X.conv bb ?_
    refine z_rcv bd (fun b9 hbb9 htb9 => ?_)
    subst hbb9
    refine X.conv bb ?_
    refine z_callV C cf7 mf_X6_count kt606 kt607 kt683 (k_X6_count (gL Γ) b9 w72 (gK Γ)) htb9 rfl ⟨Nat.le_of_ble_eq_true rfl, Nat.le_of_ble_eq_true rfl⟩ (rest := [vI u72_8]) rfl (Nat.le_of_ble_eq_true rfl) dX9_bestSwap_79 (bdI) (contI fun x10 => ?_)
    refine X.conv bi ?_
    refine z_icmp_gt C dX9_bestSwap_82 (tgt := 137) rfl it jf ?_ ?_
    · refine z_lsub [0, 1, 2, 3, 4, 5] rfl ?_
      exact hexit (u72_5, u72_6, w72)
    · refine z_aload_n C dX9_bestSwap_85 rfl 0 rfl ?_
      refine z_aload_n C dX9_bestSwap_86 rfl 1 rfl ?_
      refine z_iload C dX9_bestSwap_87 5 rfl ?_
      refine z_aload C dX9_bestSwap_89 2 rfl ?_
      refine z_iload C dX9_bestSwap_91 6 rfl ?_
      refine X.conv bb ?_
      refine z_rcv bd (fun b11 hbb11 htb11 => ?_)
      have heb11 := Option.some.inj hbb11
      subst heb11
      refine X.conv bb ?_
      refine z_callV C cf10 mf_X9_emptyOfSwap kt857 (gtbl_priv (j := 25) rfl rfl) kt855 (k_X9_emptyOfSwap (gL Γ) p72_0 p72_3 p72_7 p72_4 u72_8 w72 (gK Γ)) htb11 rfl ⟨Nat.le_of_ble_eq_true rfl, Nat.le_of_ble_eq_true rfl⟩ (rest := []) rfl (Nat.le_of_ble_eq_true rfl) dX9_bestSwap_93 (bdIg) (contIg fun v12 => ?_)
      refine z_istore (L' := [(9, vI v12.1), (0, vR (some p72_0)), (3, vR p72_3), (4, vR p72_4), (5, vI u72_5), (6, vI u72_6), (7, vI p72_7), (8, vI u72_8)]) C dX9_bestSwap_96 (by decide) rfl ?_
      refine z_iload C dX9_bestSwap_98 0 rfl ?_
      refine z_iconst C dX9_bestSwap_100 (v := (-1)) (by decide) ?_
      refine X.conv bi ?_
      refine z_icmp_eq C dX9_bestSwap_101 (tgt := 131) rfl it jf ?_ ?_
      · refine z_iinc (L' := [(8, vI (u72_8 + 1)), (9, vI v12.1), (0, vR (some p72_0)), (3, vR p72_3), (4, vR p72_4), (5, vI u72_5), (6, vI u72_6), (7, vI p72_7)]) C dX9_bestSwap_131 7 rfl (v := u72_8 + 1) rfl (by decide) rfl ?_
        refine z_goto C dX9_bestSwap_134 (tgt := 72) rfl ?_
        refine z_lsub [2, 3, 4, 5, 6, 7, 0] rfl ?_
        exact ih u72_5 u72_6 (u72_8 + 1) v12.2
      · refine z_iload C dX9_bestSwap_104 4 rfl ?_
        refine z_iconst C dX9_bestSwap_106 (v := (-1)) (by decide) ?_
        refine X.conv bi ?_
        refine z_icmp_eq C dX9_bestSwap_107 (tgt := 117) rfl it jf ?_ ?_
        · refine z_bipush C dX9_bestSwap_117 (v := 20) (by decide) ?_
          refine z_iload C dX9_bestSwap_119 6 rfl ?_
          refine z_imul C dX9_bestSwap_121 ?_
          refine z_iload C dX9_bestSwap_122 7 rfl ?_
          refine z_iadd C dX9_bestSwap_124 ?_
          refine z_istore (L' := [(5, vI ((20 * p72_7) + u72_8)), (9, vI v12.1), (0, vR (some p72_0)), (3, vR p72_3), (4, vR p72_4), (6, vI u72_6), (7, vI p72_7), (8, vI u72_8)]) C dX9_bestSwap_125 (by decide) rfl ?_
          refine z_iload C dX9_bestSwap_127 1 rfl ?_
          refine z_istore (L' := [(6, vI v12.1), (5, vI ((20 * p72_7) + u72_8)), (9, vI v12.1), (0, vR (some p72_0)), (3, vR p72_3), (4, vR p72_4), (7, vI p72_7), (8, vI u72_8)]) C dX9_bestSwap_129 (by decide) rfl ?_
          refine z_iinc (L' := [(8, vI (u72_8 + 1)), (6, vI v12.1), (5, vI ((20 * p72_7) + u72_8)), (9, vI v12.1), (0, vR (some p72_0)), (3, vR p72_3), (4, vR p72_4), (7, vI p72_7)]) C dX9_bestSwap_131 7 rfl (v := u72_8 + 1) rfl (by decide) rfl ?_
          refine z_goto C dX9_bestSwap_134 (tgt := 72) rfl ?_
          refine z_lsub [4, 5, 6, 2, 1, 7, 0] rfl ?_
          exact ih ((20 * p72_7) + u72_8) v12.1 (u72_8 + 1) v12.2
        · refine z_iload C dX9_bestSwap_110 0 rfl ?_
          refine z_iload C dX9_bestSwap_112 5 rfl ?_
          refine X.conv bi ?_
          refine z_icmp_ge C dX9_bestSwap_114 (tgt := 131) rfl it jf ?_ ?_
          · refine z_iinc (L' := [(8, vI (u72_8 + 1)), (9, vI v12.1), (0, vR (some p72_0)), (3, vR p72_3), (4, vR p72_4), (5, vI u72_5), (6, vI u72_6), (7, vI p72_7)]) C dX9_bestSwap_131 7 rfl (v := u72_8 + 1) rfl (by decide) rfl ?_
            refine z_goto C dX9_bestSwap_134 (tgt := 72) rfl ?_
            refine z_lsub [2, 3, 4, 5, 6, 7, 0] rfl ?_
            exact ih u72_5 u72_6 (u72_8 + 1) v12.2
          · refine z_bipush C dX9_bestSwap_117 (v := 20) (by decide) ?_
            refine z_iload C dX9_bestSwap_119 6 rfl ?_
            refine z_imul C dX9_bestSwap_121 ?_
            refine z_iload C dX9_bestSwap_122 7 rfl ?_
            refine z_iadd C dX9_bestSwap_124 ?_
            refine z_istore (L' := [(5, vI ((20 * p72_7) + u72_8)), (9, vI v12.1), (0, vR (some p72_0)), (3, vR p72_3), (4, vR p72_4), (6, vI u72_6), (7, vI p72_7), (8, vI u72_8)]) C dX9_bestSwap_125 (by decide) rfl ?_
            refine z_iload C dX9_bestSwap_127 1 rfl ?_
            refine z_istore (L' := [(6, vI v12.1), (5, vI ((20 * p72_7) + u72_8)), (9, vI v12.1), (0, vR (some p72_0)), (3, vR p72_3), (4, vR p72_4), (7, vI p72_7), (8, vI u72_8)]) C dX9_bestSwap_129 (by decide) rfl ?_
            refine z_iinc (L' := [(8, vI (u72_8 + 1)), (6, vI v12.1), (5, vI ((20 * p72_7) + u72_8)), (9, vI v12.1), (0, vR (some p72_0)), (3, vR p72_3), (4, vR p72_4), (7, vI p72_7)]) C dX9_bestSwap_131 7 rfl (v := u72_8 + 1) rfl (by decide) rfl ?_
            refine z_goto C dX9_bestSwap_134 (tgt := 72) rfl ?_
            refine z_lsub [4, 5, 6, 2, 1, 7, 0] rfl ?_
            exact ih ((20 * p72_7) + u72_8) v12.1 (u72_8 + 1) v12.2
theorem k_X9_bestSwap_L57 {Γ : GG} {β : Type} {fin0 : β} {F0 : (Int32 × HP) → Option β} (C : CX Γ cX9_bestSwap 10 "Blockduty" Pi2 ok2 11 287) (p57_0 : Nat) (p57_3 : Option Nat) (p57_4 : Option Nat) (hexit : ∀ q57 : (Int32 × HP), X Γ 143 [(5, vI q57.1)] [] q57.2 (F0 q57 = some fin0)) : ∀ (m57 : Nat) (u57_5 : Int32) (u57_6 : Int32) (u57_7 : Int32) (w57 : HP), X Γ 57 [(0, vR (some p57_0)), (3, vR p57_3), (4, vR p57_4), (5, vI u57_5), (6, vI u57_6), (7, vI u57_7)] [] w57 ((f_X9_bestSwap_L57 p57_0 p57_3 p57_4 m57 u57_5 u57_6 u57_7 w57).bind F0 = some fin0) := by
  intro m57
  induction m57 with
  | zero =>
    intro u57_5 u57_6 u57_7 w57
    exact X.no no1
  | succ m57 ih =>
    intro u57_5 u57_6 u57_7 w57
    unfold f_X9_bestSwap_L57
    refine z_iload C dX9_bestSwap_57 5 rfl ?_
    refine z_aload_n C dX9_bestSwap_59 rfl 1 rfl ?_
    refine X.conv bb ?_
    refine z_gfR C cf1 3 (by decide) rfl rfl dX9_bestSwap_60 kt538 (fun _ h => h) bd (fun r5 => ?_)
    refine X.conv bb ?_
    refine z_rcv bd (fun b6 hbb6 htb6 => ?_)
    subst hbb6
    refine X.conv bb ?_
    refine z_callV C cf7 mf_X6_count kt606 kt607 kt683 (k_X6_count (gL Γ) b6 w57 (gK Γ)) htb6 rfl ⟨Nat.le_of_ble_eq_true rfl, Nat.le_of_ble_eq_true rfl⟩ (rest := [vI u57_7]) rfl (Nat.le_of_ble_eq_true rfl) dX9_bestSwap_63 (bdI) (contI fun x7 => ?_)
    refine X.conv bi ?_
    refine z_icmp_gt C dX9_bestSwap_66 (tgt := 143) rfl it jf ?_ ?_
    · refine z_lsub [3] rfl ?_
      exact hexit (u57_5, w57)
    · refine z_iconst C dX9_bestSwap_69 (v := 0) (by decide) ?_
      refine z_istore (L' := [(8, vI 0), (0, vR (some p57_0)), (3, vR p57_3), (4, vR p57_4), (5, vI u57_5), (6, vI u57_6), (7, vI u57_7)]) C dX9_bestSwap_70 (by decide) rfl ?_
      refine z_lsub [1, 2, 3, 4, 5, 6, 0] rfl ?_
      refine X.conv bb ?_
      refine k_X9_bestSwap_L72 C p57_0 p57_3 p57_4 u57_7 (fun q13 => ?_) FU u57_5 u57_6 0 w57
      refine z_iinc (L' := [(7, vI (u57_7 + 1)), (0, vR (some p57_0)), (3, vR p57_3), (4, vR p57_4), (5, vI q13.1), (6, vI q13.2.1)]) C dX9_bestSwap_137 5 rfl (v := u57_7 + 1) rfl (by decide) rfl ?_
      refine z_goto C dX9_bestSwap_140 (tgt := 57) rfl ?_
      refine z_lsub [1, 2, 3, 4, 5, 0] rfl ?_
      exact ih q13.1 q13.2.1 (u57_7 + 1) q13.2.2
theorem k_X9_bestSwap (l : Launch) (b : Nat) (s1 : Int32) (s2 : Int32) (g : HP) : MM l Pi2 yX9_bestSwap cX9_bestSwap 10 (some .int) 11 287 [vR (some b), vI s1, vI s2] g (wIg (f_X9_bestSwap b s1 s2 g)) := by
  refine MM_of PO_Pi2 mf_X9_bestSwap (fun a ha => wIg_mono (f_X9_bestSwap_mono b s1 s2 g) a ha) (Nat.le_of_ble_eq_true rfl) ?_
  intro Γ fin hfin hl hin C0 Z0
  subst hl
  obtain ⟨v0, hv, rfl⟩ := wIg_some hfin
  have C : CX Γ cX9_bestSwap 10 "Blockduty" Pi2 ok2 11 287 := C0
  have Z : RX Γ Pi2 (some .int) (some (vI v0.1), v0.2) := Z0
  refine X.conv (fun _ => hv) ?_
  unfold f_X9_bestSwap
  show X Γ 0 [(0, vR (some b)), (1, vI s1), (2, vI s2)] [] g _
  refine z_aload_n C dX9_bestSwap_0 rfl 0 rfl ?_
  refine z_iload_n C dX9_bestSwap_1 rfl 1 rfl ?_
  refine z_rcv bd (fun b1 hbb1 htb1 => ?_)
  have heb1 := Option.some.inj hbb1
  subst heb1
  refine z_callV C cf10 mf_X9_blockNumbered kt558 (gtbl_priv (j := 9) rfl rfl) kt556 (k_X9_blockNumbered (gL Γ) b s1 g (gK Γ)) htb1 rfl ⟨Nat.le_of_ble_eq_true rfl, Nat.le_of_ble_eq_true rfl⟩ (rest := []) rfl (Nat.le_of_ble_eq_true rfl) dX9_bestSwap_2 (bdR) (contR fun r2 => ?_)
  refine z_astore_n (L' := [(3, vR r2), (0, vR (some b)), (1, vI s1), (2, vI s2)]) C dX9_bestSwap_5 rfl (by decide) rfl ?_
  refine z_aload_n C dX9_bestSwap_6 rfl 1 rfl ?_
  refine z_iload_n C dX9_bestSwap_7 rfl 3 rfl ?_
  refine z_rcv bd (fun b3 hbb3 htb3 => ?_)
  have heb3 := Option.some.inj hbb3
  subst heb3
  refine z_callV C cf10 mf_X9_blockNumbered kt558 (gtbl_priv (j := 9) rfl rfl) kt556 (k_X9_blockNumbered (gL Γ) b s2 g (gK Γ)) htb3 rfl ⟨Nat.le_of_ble_eq_true rfl, Nat.le_of_ble_eq_true rfl⟩ (rest := []) rfl (Nat.le_of_ble_eq_true rfl) dX9_bestSwap_8 (bdR) (contR fun r4 => ?_)
  refine z_astore (L' := [(4, vR r4), (3, vR r2), (0, vR (some b)), (1, vI s1), (2, vI s2)]) C dX9_bestSwap_11 (by decide) rfl ?_
  refine z_aload_n C dX9_bestSwap_13 rfl 1 rfl ?_
  refine z_ifnull C dX9_bestSwap_14 (tgt := 22) rfl it jf ?_ ?_
  · exact X.no no0
  · refine z_aload C dX9_bestSwap_17 0 rfl ?_
    refine z_ifnonnull C dX9_bestSwap_19 (tgt := 32) rfl it jf ?_ ?_
    · exact X.no no0
    · refine z_iload_n C dX9_bestSwap_32 rfl 3 rfl ?_
      refine z_iload_n C dX9_bestSwap_33 rfl 4 rfl ?_
      refine z_icmp_ne C dX9_bestSwap_34 (tgt := 48) rfl it jf ?_ ?_
      · exact X.no no0
      · refine z_iconst C dX9_bestSwap_48 (v := (-1)) (by decide) ?_
        refine z_istore (L' := [(5, vI (-1)), (4, vR r4), (3, vR r2), (0, vR (some b)), (1, vI s1), (2, vI s2)]) C dX9_bestSwap_49 (by decide) rfl ?_
        refine z_iconst C dX9_bestSwap_51 (v := 0) (by decide) ?_
        refine z_istore (L' := [(6, vI 0), (5, vI (-1)), (4, vR r4), (3, vR r2), (0, vR (some b)), (1, vI s1), (2, vI s2)]) C dX9_bestSwap_52 (by decide) rfl ?_
        refine z_iconst C dX9_bestSwap_54 (v := 0) (by decide) ?_
        refine z_istore (L' := [(7, vI 0), (6, vI 0), (5, vI (-1)), (4, vR r4), (3, vR r2), (0, vR (some b)), (1, vI s1), (2, vI s2)]) C dX9_bestSwap_55 (by decide) rfl ?_
        refine z_lsub [5, 4, 3, 2, 1, 0] rfl ?_
        refine k_X9_bestSwap_L57 C b r2 r4 (fun q14 => ?_) FU (-1) 0 0 g
        refine z_iload C dX9_bestSwap_143 0 rfl ?_
        exact z_iret C Z rfl dX9_bestSwap_145 (fun h => by cases h; rfl)
theorem k_X9_mix (l : Launch) (s1 : Int64) (s2 : Int32) (g : HP) : MM l Pi2 yX9_mix cX9_mix 3 (some .long) 0 0 [vJ s1, vI s2] g (wJ g (f_X9_mix s1 s2 g)) := by
  refine MM_of PO_Pi2 mf_X9_mix (fun a ha => wJ_same a ha) (Nat.le_of_ble_eq_true rfl) ?_
  intro Γ fin hfin hl hin C0 Z0
  subst hl
  obtain ⟨v0, hv, rfl⟩ := wJ_some hfin
  have C : CX Γ cX9_mix 3 "Blockduty" Pi2 ok2 0 0 := C0
  have Z : RX Γ Pi2 (some .long) (some (vJ v0), g) := Z0
  refine X.conv (fun _ => hv) ?_
  unfold f_X9_mix
  show X Γ 0 [(0, vJ s1), (2, vI s2)] [] g _
  refine z_lload_n C dX9_mix_0 rfl 0 rfl ?_
  refine z_ldc2 C dX9_mix_1 kt803 ?_
  refine z_lmul C dX9_mix_4 ?_
  refine z_iload_n C dX9_mix_5 rfl 1 rfl ?_
  refine z_i2l C dX9_mix_6 ?_
  refine z_ladd C dX9_mix_7 ?_
  exact z_lret C Z rfl dX9_mix_8 (fun h => by cases h; rfl)
theorem k_X9_mixTrip_L6 {Γ : GG} {β : Type} {fin0 : β} {F0 : (Int64 × HP) → Option β} (C : CX Γ cX9_mixTrip 7 "Blockduty" Pi2 ok2 6 138) (p6_0 : Nat) (p6_3 : Int32) (hexit : ∀ q6 : (Int64 × HP), X Γ 33 [(0, vR (some p6_0)), (3, vI p6_3), (4, vJ q6.1)] [] q6.2 (F0 q6 = some fin0)) : ∀ (m6 : Nat) (u6_4 : Int64) (u6_6 : Int32) (w6 : HP), X Γ 6 [(0, vR (some p6_0)), (3, vI p6_3), (4, vJ u6_4), (6, vI u6_6)] [] w6 ((f_X9_mixTrip_L6 p6_0 p6_3 m6 u6_4 u6_6 w6).bind F0 = some fin0) := by
  intro m6
  induction m6 with
  | zero =>
    intro u6_4 u6_6 w6
    exact X.no no1
  | succ m6 ih =>
    intro u6_4 u6_6 w6
    unfold f_X9_mixTrip_L6
    refine z_iload C dX9_mixTrip_6 3 rfl ?_
    refine z_bipush C dX9_mixTrip_8 (v := 10) (by decide) ?_
    refine X.conv bi ?_
    refine z_icmp_gt C dX9_mixTrip_10 (tgt := 33) rfl it jf ?_ ?_
    · refine z_lsub [0, 1, 2] rfl ?_
      exact hexit (u6_4, w6)
    · refine z_lload C dX9_mixTrip_13 2 rfl ?_
      refine z_aload_n C dX9_mixTrip_15 rfl 0 rfl ?_
      refine z_iload_n C dX9_mixTrip_16 rfl 1 rfl ?_
      refine z_iload C dX9_mixTrip_17 3 rfl ?_
      refine X.conv bb ?_
      refine z_rcv bd (fun b1 hbb1 htb1 => ?_)
      have heb1 := Option.some.inj hbb1
      subst heb1
      refine X.conv bb ?_
      refine z_callV C cf10 mf_X9_ofTrip kt632 kt633 kt813 (k_X9_ofTrip (gL Γ) p6_0 p6_3 u6_6 w6 (gK Γ)) htb1 rfl ⟨Nat.le_of_ble_eq_true rfl, Nat.le_of_ble_eq_true rfl⟩ (rest := [vJ u6_4]) rfl (Nat.le_of_ble_eq_true rfl) dX9_mixTrip_19 (bdIg) (contIg fun v2 => ?_)
      refine X.conv bb ?_
      refine z_callS C rfl mf_X9_mix kt801 kt800 (k_X9_mix (gL Γ) u6_4 v2.1 v2.2 (gK Γ)) rfl ⟨Nat.le_of_ble_eq_true rfl, Nat.le_of_ble_eq_true rfl⟩ (rest := []) rfl (Nat.le_of_ble_eq_true rfl) dX9_mixTrip_22 (bdJ) (contJ fun y3 => ?_)
      refine z_lstore (L' := [(4, vJ y3), (0, vR (some p6_0)), (3, vI p6_3), (6, vI u6_6)]) C dX9_mixTrip_25 (by decide) rfl ?_
      refine z_iinc (L' := [(6, vI (u6_6 + 1)), (4, vJ y3), (0, vR (some p6_0)), (3, vI p6_3)]) C dX9_mixTrip_27 3 rfl (v := u6_6 + 1) rfl (by decide) rfl ?_
      refine z_goto C dX9_mixTrip_30 (tgt := 6) rfl ?_
      refine z_lsub [2, 3, 1, 0] rfl ?_
      exact ih y3 (u6_6 + 1) v2.2
theorem k_X9_mixTrip (l : Launch) (b : Nat) (s1 : Int64) (s2 : Int32) (g : HP) : MM l Pi2 yX9_mixTrip cX9_mixTrip 7 (some .long) 6 138 [vR (some b), vJ s1, vI s2] g (wJg (f_X9_mixTrip b s1 s2 g)) := by
  refine MM_of PO_Pi2 mf_X9_mixTrip (fun a ha => wJg_mono (f_X9_mixTrip_mono b s1 s2 g) a ha) (Nat.le_of_ble_eq_true rfl) ?_
  intro Γ fin hfin hl hin C0 Z0
  subst hl
  obtain ⟨v0, hv, rfl⟩ := wJg_some hfin
  have C : CX Γ cX9_mixTrip 7 "Blockduty" Pi2 ok2 6 138 := C0
  have Z : RX Γ Pi2 (some .long) (some (vJ v0.1), v0.2) := Z0
  refine X.conv (fun _ => hv) ?_
  unfold f_X9_mixTrip
  show X Γ 0 [(0, vR (some b)), (1, vJ s1), (3, vI s2)] [] g _
  refine z_lload_n C dX9_mixTrip_0 rfl 1 rfl ?_
  refine z_lstore (L' := [(4, vJ s1), (0, vR (some b)), (1, vJ s1), (3, vI s2)]) C dX9_mixTrip_1 (by decide) rfl ?_
  refine z_iconst C dX9_mixTrip_3 (v := 0) (by decide) ?_
  refine z_istore (L' := [(6, vI 0), (4, vJ s1), (0, vR (some b)), (1, vJ s1), (3, vI s2)]) C dX9_mixTrip_4 (by decide) rfl ?_
  refine z_lsub [2, 4, 1, 0] rfl ?_
  refine k_X9_mixTrip_L6 C b s2 (fun q4 => ?_) FU s1 0 g
  refine z_lload C dX9_mixTrip_33 2 rfl ?_
  refine z_aload_n C dX9_mixTrip_35 rfl 0 rfl ?_
  refine z_iload_n C dX9_mixTrip_36 rfl 1 rfl ?_
  refine z_rcv bd (fun b5 hbb5 htb5 => ?_)
  have heb5 := Option.some.inj hbb5
  subst heb5
  refine z_callV C cf10 mf_X9_mayDelay kt791 kt792 kt814 (k_X9_mayDelay (gL Γ) b s2 q4.2 (gK Γ)) htb5 rfl ⟨Nat.le_of_ble_eq_true rfl, Nat.le_of_ble_eq_true rfl⟩ (rest := [vJ q4.1]) rfl (Nat.le_of_ble_eq_true rfl) dX9_mixTrip_37 (bdIg) (contIg fun v6 => ?_)
  refine z_callS C rfl mf_X9_mix kt801 kt800 (k_X9_mix (gL Γ) q4.1 v6.1 v6.2 (gK Γ)) rfl ⟨Nat.le_of_ble_eq_true rfl, Nat.le_of_ble_eq_true rfl⟩ (rest := []) rfl (Nat.le_of_ble_eq_true rfl) dX9_mixTrip_40 (bdJ) (contJ fun y7 => ?_)
  exact z_lret C Z rfl dX9_mixTrip_43 (fun h => by cases h; rfl)
theorem k_X9_mixBlock_L6 {Γ : GG} {β : Type} {fin0 : β} {F0 : (Int64 × HP) → Option β} (C : CX Γ cX9_mixBlock 9 "Blockduty" Pi2 ok2 6 140) (p6_0 : Nat) (p6_3 : Int32) (hexit : ∀ q6 : (Int64 × HP), X Γ 33 [(0, vR (some p6_0)), (3, vI p6_3), (4, vJ q6.1)] [] q6.2 (F0 q6 = some fin0)) : ∀ (m6 : Nat) (u6_4 : Int64) (u6_6 : Int32) (w6 : HP), X Γ 6 [(0, vR (some p6_0)), (3, vI p6_3), (4, vJ u6_4), (6, vI u6_6)] [] w6 ((f_X9_mixBlock_L6 p6_0 p6_3 m6 u6_4 u6_6 w6).bind F0 = some fin0) := by
  intro m6
  induction m6 with
  | zero =>
    intro u6_4 u6_6 w6
    exact X.no no1
  | succ m6 ih =>
    intro u6_4 u6_6 w6
    unfold f_X9_mixBlock_L6
    refine z_iload C dX9_mixBlock_6 3 rfl ?_
    refine z_bipush C dX9_mixBlock_8 (v := 7) (by decide) ?_
    refine X.conv bi ?_
    refine z_icmp_gt C dX9_mixBlock_10 (tgt := 33) rfl it jf ?_ ?_
    · refine z_lsub [0, 1, 2] rfl ?_
      exact hexit (u6_4, w6)
    · refine z_lload C dX9_mixBlock_13 2 rfl ?_
      refine z_aload_n C dX9_mixBlock_15 rfl 0 rfl ?_
      refine z_iload_n C dX9_mixBlock_16 rfl 1 rfl ?_
      refine z_iload C dX9_mixBlock_17 3 rfl ?_
      refine X.conv bb ?_
      refine z_rcv bd (fun b1 hbb1 htb1 => ?_)
      have heb1 := Option.some.inj hbb1
      subst heb1
      refine X.conv bb ?_
      refine z_callV C cf10 mf_X9_ofBlock kt680 kt681 kt819 (k_X9_ofBlock (gL Γ) p6_0 p6_3 u6_6 w6 (gK Γ)) htb1 rfl ⟨Nat.le_of_ble_eq_true rfl, Nat.le_of_ble_eq_true rfl⟩ (rest := [vJ u6_4]) rfl (Nat.le_of_ble_eq_true rfl) dX9_mixBlock_19 (bdIg) (contIg fun v2 => ?_)
      refine X.conv bb ?_
      refine z_callS C rfl mf_X9_mix kt801 kt800 (k_X9_mix (gL Γ) u6_4 v2.1 v2.2 (gK Γ)) rfl ⟨Nat.le_of_ble_eq_true rfl, Nat.le_of_ble_eq_true rfl⟩ (rest := []) rfl (Nat.le_of_ble_eq_true rfl) dX9_mixBlock_22 (bdJ) (contJ fun y3 => ?_)
      refine z_lstore (L' := [(4, vJ y3), (0, vR (some p6_0)), (3, vI p6_3), (6, vI u6_6)]) C dX9_mixBlock_25 (by decide) rfl ?_
      refine z_iinc (L' := [(6, vI (u6_6 + 1)), (4, vJ y3), (0, vR (some p6_0)), (3, vI p6_3)]) C dX9_mixBlock_27 3 rfl (v := u6_6 + 1) rfl (by decide) rfl ?_
      refine z_goto C dX9_mixBlock_30 (tgt := 6) rfl ?_
      refine z_lsub [2, 3, 1, 0] rfl ?_
      exact ih y3 (u6_6 + 1) v2.2
theorem k_X9_mixBlock_L54 {Γ : GG} {β : Type} {fin0 : β} {F0 : (Int64 × HP) → Option β} (C : CX Γ cX9_mixBlock 9 "Blockduty" Pi2 ok2 6 140) (p54_0 : Nat) (p54_3 : Int32) (p54_6 : Int32) (p54_7 : Int32) (hexit : ∀ q54 : (Int64 × HP), X Γ 82 [(0, vR (some p54_0)), (3, vI p54_3), (4, vJ q54.1), (6, vI p54_6), (7, vI p54_7)] [] q54.2 (F0 q54 = some fin0)) : ∀ (m54 : Nat) (u54_4 : Int64) (u54_8 : Int32) (w54 : HP), X Γ 54 [(0, vR (some p54_0)), (3, vI p54_3), (4, vJ u54_4), (6, vI p54_6), (7, vI p54_7), (8, vI u54_8)] [] w54 ((f_X9_mixBlock_L54 p54_0 p54_3 p54_6 p54_7 m54 u54_4 u54_8 w54).bind F0 = some fin0) := by
  intro m54
  induction m54 with
  | zero =>
    intro u54_4 u54_8 w54
    exact X.no no1
  | succ m54 ih =>
    intro u54_4 u54_8 w54
    unfold f_X9_mixBlock_L54
    refine z_iload C dX9_mixBlock_54 5 rfl ?_
    refine z_iconst C dX9_mixBlock_56 (v := 5) (by decide) ?_
    refine X.conv bi ?_
    refine z_icmp_gt C dX9_mixBlock_57 (tgt := 82) rfl it jf ?_ ?_
    · refine z_lsub [0, 1, 2, 3, 4] rfl ?_
      exact hexit (u54_4, w54)
    · refine z_lload C dX9_mixBlock_60 2 rfl ?_
      refine z_aload_n C dX9_mixBlock_62 rfl 0 rfl ?_
      refine z_iload_n C dX9_mixBlock_63 rfl 1 rfl ?_
      refine z_iload C dX9_mixBlock_64 4 rfl ?_
      refine z_iload C dX9_mixBlock_66 5 rfl ?_
      refine X.conv bb ?_
      refine z_rcv bd (fun b7 hbb7 htb7 => ?_)
      have heb7 := Option.some.inj hbb7
      subst heb7
      refine X.conv bb ?_
      refine z_callV C cf10 mf_X9_ofPiece kt821 kt822 kt820 (k_X9_ofPiece (gL Γ) p54_0 p54_3 p54_7 u54_8 w54 (gK Γ)) htb7 rfl ⟨Nat.le_of_ble_eq_true rfl, Nat.le_of_ble_eq_true rfl⟩ (rest := [vJ u54_4]) rfl (Nat.le_of_ble_eq_true rfl) dX9_mixBlock_68 (bdIg) (contIg fun v8 => ?_)
      refine X.conv bb ?_
      refine z_callS C rfl mf_X9_mix kt801 kt800 (k_X9_mix (gL Γ) u54_4 v8.1 v8.2 (gK Γ)) rfl ⟨Nat.le_of_ble_eq_true rfl, Nat.le_of_ble_eq_true rfl⟩ (rest := []) rfl (Nat.le_of_ble_eq_true rfl) dX9_mixBlock_71 (bdJ) (contJ fun y9 => ?_)
      refine z_lstore (L' := [(4, vJ y9), (0, vR (some p54_0)), (3, vI p54_3), (6, vI p54_6), (7, vI p54_7), (8, vI u54_8)]) C dX9_mixBlock_74 (by decide) rfl ?_
      refine z_iinc (L' := [(8, vI (u54_8 + 1)), (4, vJ y9), (0, vR (some p54_0)), (3, vI p54_3), (6, vI p54_6), (7, vI p54_7)]) C dX9_mixBlock_76 5 rfl (v := u54_8 + 1) rfl (by decide) rfl ?_
      refine z_goto C dX9_mixBlock_79 (tgt := 54) rfl ?_
      refine z_lsub [2, 3, 1, 4, 5, 0] rfl ?_
      exact ih y9 (u54_8 + 1) v8.2
theorem k_X9_mixBlock_L44 {Γ : GG} {β : Type} {fin0 : β} {F0 : (Int64 × HP) → Option β} (C : CX Γ cX9_mixBlock 9 "Blockduty" Pi2 ok2 6 140) (p44_0 : Nat) (p44_3 : Int32) (p44_6 : Int32) (hexit : ∀ q44 : (Int64 × HP), X Γ 88 [(0, vR (some p44_0)), (3, vI p44_3), (4, vJ q44.1)] [] q44.2 (F0 q44 = some fin0)) : ∀ (m44 : Nat) (u44_4 : Int64) (u44_7 : Int32) (w44 : HP), X Γ 44 [(0, vR (some p44_0)), (3, vI p44_3), (4, vJ u44_4), (6, vI p44_6), (7, vI u44_7)] [] w44 ((f_X9_mixBlock_L44 p44_0 p44_3 p44_6 m44 u44_4 u44_7 w44).bind F0 = some fin0) := by
  intro m44
  induction m44 with
  | zero =>
    intro u44_4 u44_7 w44
    exact X.no no1
  | succ m44 ih =>
    intro u44_4 u44_7 w44
    unfold f_X9_mixBlock_L44
    refine z_iload C dX9_mixBlock_44 4 rfl ?_
    refine z_iload C dX9_mixBlock_46 3 rfl ?_
    refine X.conv bi ?_
    refine z_icmp_ge C dX9_mixBlock_48 (tgt := 88) rfl it jf ?_ ?_
    · refine z_lsub [0, 1, 2] rfl ?_
      exact hexit (u44_4, w44)
    · refine z_iconst C dX9_mixBlock_51 (v := 0) (by decide) ?_
      refine z_istore (L' := [(8, vI 0), (0, vR (some p44_0)), (3, vI p44_3), (4, vJ u44_4), (6, vI p44_6), (7, vI u44_7)]) C dX9_mixBlock_52 (by decide) rfl ?_
      refine z_lsub [1, 2, 3, 4, 5, 0] rfl ?_
      refine X.conv bb ?_
      refine k_X9_mixBlock_L54 C p44_0 p44_3 p44_6 u44_7 (fun q10 => ?_) FU u44_4 0 w44
      refine z_iinc (L' := [(7, vI (u44_7 + 1)), (0, vR (some p44_0)), (3, vI p44_3), (4, vJ q10.1), (6, vI p44_6)]) C dX9_mixBlock_82 4 rfl (v := u44_7 + 1) rfl (by decide) rfl ?_
      refine z_goto C dX9_mixBlock_85 (tgt := 44) rfl ?_
      refine z_lsub [1, 2, 3, 4, 0] rfl ?_
      exact ih q10.1 (u44_7 + 1) q10.2
theorem k_X9_mixBlock (l : Launch) (b : Nat) (s1 : Int64) (s2 : Int32) (g : HP) : MM l Pi2 yX9_mixBlock cX9_mixBlock 9 (some .long) 6 140 [vR (some b), vJ s1, vI s2] g (wJg (f_X9_mixBlock b s1 s2 g)) := by
  refine MM_of PO_Pi2 mf_X9_mixBlock (fun a ha => wJg_mono (f_X9_mixBlock_mono b s1 s2 g) a ha) (Nat.le_of_ble_eq_true rfl) ?_
  intro Γ fin hfin hl hin C0 Z0
  subst hl
  obtain ⟨v0, hv, rfl⟩ := wJg_some hfin
  have C : CX Γ cX9_mixBlock 9 "Blockduty" Pi2 ok2 6 140 := C0
  have Z : RX Γ Pi2 (some .long) (some (vJ v0.1), v0.2) := Z0
  refine X.conv (fun _ => hv) ?_
  unfold f_X9_mixBlock
  show X Γ 0 [(0, vR (some b)), (1, vJ s1), (3, vI s2)] [] g _
  refine z_lload_n C dX9_mixBlock_0 rfl 1 rfl ?_
  refine z_lstore (L' := [(4, vJ s1), (0, vR (some b)), (1, vJ s1), (3, vI s2)]) C dX9_mixBlock_1 (by decide) rfl ?_
  refine z_iconst C dX9_mixBlock_3 (v := 0) (by decide) ?_
  refine z_istore (L' := [(6, vI 0), (4, vJ s1), (0, vR (some b)), (1, vJ s1), (3, vI s2)]) C dX9_mixBlock_4 (by decide) rfl ?_
  refine z_lsub [2, 4, 1, 0] rfl ?_
  refine k_X9_mixBlock_L6 C b s2 (fun q4 => ?_) FU s1 0 g
  refine z_aload_n C dX9_mixBlock_33 rfl 0 rfl ?_
  refine z_iload_n C dX9_mixBlock_34 rfl 1 rfl ?_
  refine z_iconst C dX9_mixBlock_35 (v := 3) (by decide) ?_
  refine z_rcv bd (fun b5 hbb5 htb5 => ?_)
  have heb5 := Option.some.inj hbb5
  subst heb5
  refine z_callV C cf10 mf_X9_ofBlock kt680 kt681 kt819 (k_X9_ofBlock (gL Γ) b s2 3 q4.2 (gK Γ)) htb5 rfl ⟨Nat.le_of_ble_eq_true rfl, Nat.le_of_ble_eq_true rfl⟩ (rest := []) rfl (Nat.le_of_ble_eq_true rfl) dX9_mixBlock_36 (bdIg) (contIg fun v6 => ?_)
  refine z_istore (L' := [(6, vI v6.1), (0, vR (some b)), (3, vI s2), (4, vJ q4.1)]) C dX9_mixBlock_39 (by decide) rfl ?_
  refine z_iconst C dX9_mixBlock_41 (v := 0) (by decide) ?_
  refine z_istore (L' := [(7, vI 0), (6, vI v6.1), (0, vR (some b)), (3, vI s2), (4, vJ q4.1)]) C dX9_mixBlock_42 (by decide) rfl ?_
  refine z_lsub [2, 3, 4, 1, 0] rfl ?_
  refine k_X9_mixBlock_L44 C b s2 v6.1 (fun q11 => ?_) FU q4.1 0 v6.2
  refine z_lload C dX9_mixBlock_88 2 rfl ?_
  refine z_aload_n C dX9_mixBlock_90 rfl 0 rfl ?_
  refine z_iload_n C dX9_mixBlock_91 rfl 1 rfl ?_
  refine z_sipush C dX9_mixBlock_92 (v := 600) (by decide) ?_
  refine z_rcv bd (fun b12 hbb12 htb12 => ?_)
  have heb12 := Option.some.inj hbb12
  subst heb12
  refine z_callV C cf10 mf_X9_wouldLose kt840 kt841 kt839 (k_X9_wouldLose (gL Γ) b s2 600 q11.2 (gK Γ)) htb12 rfl ⟨Nat.le_of_ble_eq_true rfl, Nat.le_of_ble_eq_true rfl⟩ (rest := [vJ q11.1]) rfl (Nat.le_of_ble_eq_true rfl) dX9_mixBlock_95 (bdIg) (contIg fun v13 => ?_)
  refine z_callS C rfl mf_X9_mix kt801 kt800 (k_X9_mix (gL Γ) q11.1 v13.1 v13.2 (gK Γ)) rfl ⟨Nat.le_of_ble_eq_true rfl, Nat.le_of_ble_eq_true rfl⟩ (rest := []) rfl (Nat.le_of_ble_eq_true rfl) dX9_mixBlock_98 (bdJ) (contJ fun y14 => ?_)
  exact z_lret C Z rfl dX9_mixBlock_101 (fun h => by cases h; rfl)
theorem k_X9_mixDriver_L6 {Γ : GG} {β : Type} {fin0 : β} {F0 : (Int64 × HP) → Option β} (C : CX Γ cX9_mixDriver 7 "Blockduty" Pi2 ok2 7 154) (p6_0 : Nat) (p6_3 : Int32) (hexit : ∀ q6 : (Int64 × HP), X Γ 32 [(4, vJ q6.1)] [] q6.2 (F0 q6 = some fin0)) : ∀ (m6 : Nat) (u6_4 : Int64) (u6_6 : Int32) (w6 : HP), X Γ 6 [(0, vR (some p6_0)), (3, vI p6_3), (4, vJ u6_4), (6, vI u6_6)] [] w6 ((f_X9_mixDriver_L6 p6_0 p6_3 m6 u6_4 u6_6 w6).bind F0 = some fin0) := by
  intro m6
  induction m6 with
  | zero =>
    intro u6_4 u6_6 w6
    exact X.no no1
  | succ m6 ih =>
    intro u6_4 u6_6 w6
    unfold f_X9_mixDriver_L6
    refine z_iload C dX9_mixDriver_6 3 rfl ?_
    refine z_iconst C dX9_mixDriver_8 (v := 4) (by decide) ?_
    refine X.conv bi ?_
    refine z_icmp_gt C dX9_mixDriver_9 (tgt := 32) rfl it jf ?_ ?_
    · refine z_lsub [2] rfl ?_
      exact hexit (u6_4, w6)
    · refine z_lload C dX9_mixDriver_12 2 rfl ?_
      refine z_aload_n C dX9_mixDriver_14 rfl 0 rfl ?_
      refine z_iload_n C dX9_mixDriver_15 rfl 1 rfl ?_
      refine z_iload C dX9_mixDriver_16 3 rfl ?_
      refine X.conv bb ?_
      refine z_rcv bd (fun b1 hbb1 htb1 => ?_)
      have heb1 := Option.some.inj hbb1
      subst heb1
      refine X.conv bb ?_
      refine z_callV C cf10 mf_X9_ofDriver kt705 kt706 kt848 (k_X9_ofDriver (gL Γ) p6_0 p6_3 u6_6 w6 (gK Γ)) htb1 rfl ⟨Nat.le_of_ble_eq_true rfl, Nat.le_of_ble_eq_true rfl⟩ (rest := [vJ u6_4]) rfl (Nat.le_of_ble_eq_true rfl) dX9_mixDriver_18 (bdIg) (contIg fun v2 => ?_)
      refine X.conv bb ?_
      refine z_callS C rfl mf_X9_mix kt801 kt800 (k_X9_mix (gL Γ) u6_4 v2.1 v2.2 (gK Γ)) rfl ⟨Nat.le_of_ble_eq_true rfl, Nat.le_of_ble_eq_true rfl⟩ (rest := []) rfl (Nat.le_of_ble_eq_true rfl) dX9_mixDriver_21 (bdJ) (contJ fun y3 => ?_)
      refine z_lstore (L' := [(4, vJ y3), (0, vR (some p6_0)), (3, vI p6_3), (6, vI u6_6)]) C dX9_mixDriver_24 (by decide) rfl ?_
      refine z_iinc (L' := [(6, vI (u6_6 + 1)), (4, vJ y3), (0, vR (some p6_0)), (3, vI p6_3)]) C dX9_mixDriver_26 3 rfl (v := u6_6 + 1) rfl (by decide) rfl ?_
      refine z_goto C dX9_mixDriver_29 (tgt := 6) rfl ?_
      refine z_lsub [2, 3, 1, 0] rfl ?_
      exact ih y3 (u6_6 + 1) v2.2
theorem k_X9_mixDriver (l : Launch) (b : Nat) (s1 : Int64) (s2 : Int32) (g : HP) : MM l Pi2 yX9_mixDriver cX9_mixDriver 7 (some .long) 7 154 [vR (some b), vJ s1, vI s2] g (wJg (f_X9_mixDriver b s1 s2 g)) := by
  refine MM_of PO_Pi2 mf_X9_mixDriver (fun a ha => wJg_mono (f_X9_mixDriver_mono b s1 s2 g) a ha) (Nat.le_of_ble_eq_true rfl) ?_
  intro Γ fin hfin hl hin C0 Z0
  subst hl
  obtain ⟨v0, hv, rfl⟩ := wJg_some hfin
  have C : CX Γ cX9_mixDriver 7 "Blockduty" Pi2 ok2 7 154 := C0
  have Z : RX Γ Pi2 (some .long) (some (vJ v0.1), v0.2) := Z0
  refine X.conv (fun _ => hv) ?_
  unfold f_X9_mixDriver
  show X Γ 0 [(0, vR (some b)), (1, vJ s1), (3, vI s2)] [] g _
  refine z_lload_n C dX9_mixDriver_0 rfl 1 rfl ?_
  refine z_lstore (L' := [(4, vJ s1), (0, vR (some b)), (1, vJ s1), (3, vI s2)]) C dX9_mixDriver_1 (by decide) rfl ?_
  refine z_iconst C dX9_mixDriver_3 (v := 0) (by decide) ?_
  refine z_istore (L' := [(6, vI 0), (4, vJ s1), (0, vR (some b)), (1, vJ s1), (3, vI s2)]) C dX9_mixDriver_4 (by decide) rfl ?_
  refine z_lsub [2, 4, 1, 0] rfl ?_
  refine k_X9_mixDriver_L6 C b s2 (fun q4 => ?_) FU s1 0 g
  refine z_lload C dX9_mixDriver_32 0 rfl ?_
  exact z_lret C Z rfl dX9_mixDriver_34 (fun h => by cases h; rfl)
theorem k_X9_digest_L6 {Γ : GG} {β : Type} {fin0 : β} {F0 : (Int64 × HP) → Option β} (C : CX Γ cX9_digest 4 "Blockduty" Pi2 ok2 26 675) (p6_0 : Nat) (hexit : ∀ q6 : (Int64 × HP), X Γ 28 [(0, vR (some p6_0)), (1, vJ q6.1)] [] q6.2 (F0 q6 = some fin0)) : ∀ (m6 : Nat) (u6_1 : Int64) (u6_3 : Int32) (w6 : HP), X Γ 6 [(0, vR (some p6_0)), (1, vJ u6_1), (3, vI u6_3)] [] w6 ((f_X9_digest_L6 p6_0 m6 u6_1 u6_3 w6).bind F0 = some fin0) := by
  intro m6
  induction m6 with
  | zero =>
    intro u6_1 u6_3 w6
    exact X.no no1
  | succ m6 ih =>
    intro u6_1 u6_3 w6
    unfold f_X9_digest_L6
    refine z_iload_n C dX9_digest_6 rfl 2 rfl ?_
    refine z_bipush C dX9_digest_7 (v := 8) (by decide) ?_
    refine X.conv bi ?_
    refine z_icmp_gt C dX9_digest_9 (tgt := 28) rfl it jf ?_ ?_
    · refine z_lsub [0, 1] rfl ?_
      exact hexit (u6_1, w6)
    · refine z_lload_n C dX9_digest_12 rfl 1 rfl ?_
      refine z_aload_n C dX9_digest_13 rfl 0 rfl ?_
      refine z_iload_n C dX9_digest_14 rfl 2 rfl ?_
      refine X.conv bb ?_
      refine z_rcv bd (fun b1 hbb1 htb1 => ?_)
      have heb1 := Option.some.inj hbb1
      subst heb1
      refine X.conv bb ?_
      refine z_callV C cf10 mf_X9_many kt737 kt738 kt799 (k_X9_many (gL Γ) p6_0 u6_3 w6 (gK Γ)) htb1 rfl ⟨Nat.le_of_ble_eq_true rfl, Nat.le_of_ble_eq_true rfl⟩ (rest := [vJ u6_1]) rfl (Nat.le_of_ble_eq_true rfl) dX9_digest_15 (bdIg) (contIg fun v2 => ?_)
      refine X.conv bb ?_
      refine z_callS C rfl mf_X9_mix kt801 kt800 (k_X9_mix (gL Γ) u6_1 v2.1 v2.2 (gK Γ)) rfl ⟨Nat.le_of_ble_eq_true rfl, Nat.le_of_ble_eq_true rfl⟩ (rest := []) rfl (Nat.le_of_ble_eq_true rfl) dX9_digest_18 (bdJ) (contJ fun y3 => ?_)
      refine z_lstore_n (L' := [(1, vJ y3), (0, vR (some p6_0)), (3, vI u6_3)]) C dX9_digest_21 rfl (by decide) rfl ?_
      refine z_iinc (L' := [(3, vI (u6_3 + 1)), (1, vJ y3), (0, vR (some p6_0))]) C dX9_digest_22 2 rfl (v := u6_3 + 1) rfl (by decide) rfl ?_
      refine z_goto C dX9_digest_25 (tgt := 6) rfl ?_
      refine z_lsub [2, 1, 0] rfl ?_
      exact ih y3 (u6_3 + 1) v2.2
theorem k_X9_digest_L30 {Γ : GG} {β : Type} {fin0 : β} {F0 : (Int64 × HP) → Option β} (C : CX Γ cX9_digest 4 "Blockduty" Pi2 ok2 26 675) (p30_0 : Nat) (hexit : ∀ q30 : (Int64 × HP), X Γ 52 [(0, vR (some p30_0)), (1, vJ q30.1)] [] q30.2 (F0 q30 = some fin0)) : ∀ (m30 : Nat) (u30_1 : Int64) (u30_3 : Int32) (w30 : HP), X Γ 30 [(0, vR (some p30_0)), (1, vJ u30_1), (3, vI u30_3)] [] w30 ((f_X9_digest_L30 p30_0 m30 u30_1 u30_3 w30).bind F0 = some fin0) := by
  intro m30
  induction m30 with
  | zero =>
    intro u30_1 u30_3 w30
    exact X.no no1
  | succ m30 ih =>
    intro u30_1 u30_3 w30
    unfold f_X9_digest_L30
    refine z_iload_n C dX9_digest_30 rfl 2 rfl ?_
    refine z_bipush C dX9_digest_31 (v := 6) (by decide) ?_
    refine X.conv bi ?_
    refine z_icmp_gt C dX9_digest_33 (tgt := 52) rfl it jf ?_ ?_
    · refine z_lsub [0, 1] rfl ?_
      exact hexit (u30_1, w30)
    · refine z_lload_n C dX9_digest_36 rfl 1 rfl ?_
      refine z_aload_n C dX9_digest_37 rfl 0 rfl ?_
      refine z_iload_n C dX9_digest_38 rfl 2 rfl ?_
      refine X.conv bb ?_
      refine z_rcv bd (fun b5 hbb5 htb5 => ?_)
      have heb5 := Option.some.inj hbb5
      subst heb5
      refine X.conv bb ?_
      refine z_callV C cf10 mf_X9_lost kt805 kt806 kt804 (k_X9_lost (gL Γ) p30_0 u30_3 w30 (gK Γ)) htb5 rfl ⟨Nat.le_of_ble_eq_true rfl, Nat.le_of_ble_eq_true rfl⟩ (rest := [vJ u30_1]) rfl (Nat.le_of_ble_eq_true rfl) dX9_digest_39 (bdIg) (contIg fun v6 => ?_)
      refine X.conv bb ?_
      refine z_callS C rfl mf_X9_mix kt801 kt800 (k_X9_mix (gL Γ) u30_1 v6.1 v6.2 (gK Γ)) rfl ⟨Nat.le_of_ble_eq_true rfl, Nat.le_of_ble_eq_true rfl⟩ (rest := []) rfl (Nat.le_of_ble_eq_true rfl) dX9_digest_42 (bdJ) (contJ fun y7 => ?_)
      refine z_lstore_n (L' := [(1, vJ y7), (0, vR (some p30_0)), (3, vI u30_3)]) C dX9_digest_45 rfl (by decide) rfl ?_
      refine z_iinc (L' := [(3, vI (u30_3 + 1)), (1, vJ y7), (0, vR (some p30_0))]) C dX9_digest_46 2 rfl (v := u30_3 + 1) rfl (by decide) rfl ?_
      refine z_goto C dX9_digest_49 (tgt := 30) rfl ?_
      refine z_lsub [2, 1, 0] rfl ?_
      exact ih y7 (u30_3 + 1) v6.2
theorem k_X9_digest_L54 {Γ : GG} {β : Type} {fin0 : β} {F0 : (Int64 × HP) → Option β} (C : CX Γ cX9_digest 4 "Blockduty" Pi2 ok2 26 675) (p54_0 : Nat) (hexit : ∀ q54 : (Int64 × HP), X Γ 78 [(0, vR (some p54_0)), (1, vJ q54.1)] [] q54.2 (F0 q54 = some fin0)) : ∀ (m54 : Nat) (u54_1 : Int64) (u54_3 : Int32) (w54 : HP), X Γ 54 [(0, vR (some p54_0)), (1, vJ u54_1), (3, vI u54_3)] [] w54 ((f_X9_digest_L54 p54_0 m54 u54_1 u54_3 w54).bind F0 = some fin0) := by
  intro m54
  induction m54 with
  | zero =>
    intro u54_1 u54_3 w54
    exact X.no no1
  | succ m54 ih =>
    intro u54_1 u54_3 w54
    unfold f_X9_digest_L54
    refine z_iload_n C dX9_digest_54 rfl 2 rfl ?_
    refine z_aload_n C dX9_digest_55 rfl 0 rfl ?_
    refine X.conv bb ?_
    refine z_gfR C cf10 2 (by decide) rfl rfl dX9_digest_56 kt211 (fun _ h => h) bd (fun r9 => ?_)
    refine X.conv bb ?_
    refine z_rcv bd (fun b10 hbb10 htb10 => ?_)
    subst hbb10
    refine X.conv bb ?_
    refine z_callV C cf0 mf_Jx4a65c_size_8abf5 kt261 kt262 kt260 (k_al_size (gL Γ) b10 w54 (gK Γ)) htb10 rfl ⟨Nat.le_of_ble_eq_true rfl, Nat.le_of_ble_eq_true rfl⟩ (rest := [vI u54_3]) rfl (Nat.le_of_ble_eq_true rfl) dX9_digest_59 (bdI) (contI fun x11 => ?_)
    refine X.conv bi ?_
    refine z_icmp_ge C dX9_digest_62 (tgt := 78) rfl it jf ?_ ?_
    · refine z_lsub [0, 1] rfl ?_
      exact hexit (u54_1, w54)
    · refine z_aload_n C dX9_digest_65 rfl 0 rfl ?_
      refine z_lload_n C dX9_digest_66 rfl 1 rfl ?_
      refine z_iload_n C dX9_digest_67 rfl 2 rfl ?_
      refine X.conv bb ?_
      refine z_rcv bd (fun b12 hbb12 htb12 => ?_)
      have heb12 := Option.some.inj hbb12
      subst heb12
      refine X.conv bb ?_
      refine z_callV C cf10 mf_X9_mixTrip kt811 (gtbl_priv (j := 21) rfl rfl) kt809 (k_X9_mixTrip (gL Γ) p54_0 u54_1 u54_3 w54 (gK Γ)) htb12 rfl ⟨Nat.le_of_ble_eq_true rfl, Nat.le_of_ble_eq_true rfl⟩ (rest := []) rfl (Nat.le_of_ble_eq_true rfl) dX9_digest_68 (bdJg) (contJg fun v13 => ?_)
      refine z_lstore_n (L' := [(1, vJ v13.1), (0, vR (some p54_0)), (3, vI u54_3)]) C dX9_digest_71 rfl (by decide) rfl ?_
      refine z_iinc (L' := [(3, vI (u54_3 + 1)), (1, vJ v13.1), (0, vR (some p54_0))]) C dX9_digest_72 2 rfl (v := u54_3 + 1) rfl (by decide) rfl ?_
      refine z_goto C dX9_digest_75 (tgt := 54) rfl ?_
      refine z_lsub [2, 1, 0] rfl ?_
      exact ih v13.1 (u54_3 + 1) v13.2
theorem k_X9_digest_L80 {Γ : GG} {β : Type} {fin0 : β} {F0 : (Int64 × HP) → Option β} (C : CX Γ cX9_digest 4 "Blockduty" Pi2 ok2 26 675) (p80_0 : Nat) (hexit : ∀ q80 : (Int64 × HP), X Γ 104 [(0, vR (some p80_0)), (1, vJ q80.1)] [] q80.2 (F0 q80 = some fin0)) : ∀ (m80 : Nat) (u80_1 : Int64) (u80_3 : Int32) (w80 : HP), X Γ 80 [(0, vR (some p80_0)), (1, vJ u80_1), (3, vI u80_3)] [] w80 ((f_X9_digest_L80 p80_0 m80 u80_1 u80_3 w80).bind F0 = some fin0) := by
  intro m80
  induction m80 with
  | zero =>
    intro u80_1 u80_3 w80
    exact X.no no1
  | succ m80 ih =>
    intro u80_1 u80_3 w80
    unfold f_X9_digest_L80
    refine z_iload_n C dX9_digest_80 rfl 2 rfl ?_
    refine z_aload_n C dX9_digest_81 rfl 0 rfl ?_
    refine X.conv bb ?_
    refine z_gfR C cf10 4 (by decide) rfl rfl dX9_digest_82 kt213 (fun _ h => h) bd (fun r15 => ?_)
    refine X.conv bb ?_
    refine z_rcv bd (fun b16 hbb16 htb16 => ?_)
    subst hbb16
    refine X.conv bb ?_
    refine z_callV C cf0 mf_Jx4a65c_size_8abf5 kt261 kt262 kt260 (k_al_size (gL Γ) b16 w80 (gK Γ)) htb16 rfl ⟨Nat.le_of_ble_eq_true rfl, Nat.le_of_ble_eq_true rfl⟩ (rest := [vI u80_3]) rfl (Nat.le_of_ble_eq_true rfl) dX9_digest_85 (bdI) (contI fun x17 => ?_)
    refine X.conv bi ?_
    refine z_icmp_ge C dX9_digest_88 (tgt := 104) rfl it jf ?_ ?_
    · refine z_lsub [0, 1] rfl ?_
      exact hexit (u80_1, w80)
    · refine z_aload_n C dX9_digest_91 rfl 0 rfl ?_
      refine z_lload_n C dX9_digest_92 rfl 1 rfl ?_
      refine z_iload_n C dX9_digest_93 rfl 2 rfl ?_
      refine X.conv bb ?_
      refine z_rcv bd (fun b18 hbb18 htb18 => ?_)
      have heb18 := Option.some.inj hbb18
      subst heb18
      refine X.conv bb ?_
      refine z_callV C cf10 mf_X9_mixBlock kt817 (gtbl_priv (j := 22) rfl rfl) kt815 (k_X9_mixBlock (gL Γ) p80_0 u80_1 u80_3 w80 (gK Γ)) htb18 rfl ⟨Nat.le_of_ble_eq_true rfl, Nat.le_of_ble_eq_true rfl⟩ (rest := []) rfl (Nat.le_of_ble_eq_true rfl) dX9_digest_94 (bdJg) (contJg fun v19 => ?_)
      refine z_lstore_n (L' := [(1, vJ v19.1), (0, vR (some p80_0)), (3, vI u80_3)]) C dX9_digest_97 rfl (by decide) rfl ?_
      refine z_iinc (L' := [(3, vI (u80_3 + 1)), (1, vJ v19.1), (0, vR (some p80_0))]) C dX9_digest_98 2 rfl (v := u80_3 + 1) rfl (by decide) rfl ?_
      refine z_goto C dX9_digest_101 (tgt := 80) rfl ?_
      refine z_lsub [2, 1, 0] rfl ?_
      exact ih v19.1 (u80_3 + 1) v19.2
theorem k_X9_digest_L106 {Γ : GG} {β : Type} {fin0 : β} {F0 : (Int64 × HP) → Option β} (C : CX Γ cX9_digest 4 "Blockduty" Pi2 ok2 26 675) (p106_0 : Nat) (hexit : ∀ q106 : (Int64 × HP), X Γ 130 [(0, vR (some p106_0)), (1, vJ q106.1)] [] q106.2 (F0 q106 = some fin0)) : ∀ (m106 : Nat) (u106_1 : Int64) (u106_3 : Int32) (w106 : HP), X Γ 106 [(0, vR (some p106_0)), (1, vJ u106_1), (3, vI u106_3)] [] w106 ((f_X9_digest_L106 p106_0 m106 u106_1 u106_3 w106).bind F0 = some fin0) := by
  intro m106
  induction m106 with
  | zero =>
    intro u106_1 u106_3 w106
    exact X.no no1
  | succ m106 ih =>
    intro u106_1 u106_3 w106
    unfold f_X9_digest_L106
    refine z_iload_n C dX9_digest_106 rfl 2 rfl ?_
    refine z_aload_n C dX9_digest_107 rfl 0 rfl ?_
    refine X.conv bb ?_
    refine z_gfR C cf10 5 (by decide) rfl rfl dX9_digest_108 kt214 (fun _ h => h) bd (fun r21 => ?_)
    refine X.conv bb ?_
    refine z_rcv bd (fun b22 hbb22 htb22 => ?_)
    subst hbb22
    refine X.conv bb ?_
    refine z_callV C cf0 mf_Jx4a65c_size_8abf5 kt261 kt262 kt260 (k_al_size (gL Γ) b22 w106 (gK Γ)) htb22 rfl ⟨Nat.le_of_ble_eq_true rfl, Nat.le_of_ble_eq_true rfl⟩ (rest := [vI u106_3]) rfl (Nat.le_of_ble_eq_true rfl) dX9_digest_111 (bdI) (contI fun x23 => ?_)
    refine X.conv bi ?_
    refine z_icmp_ge C dX9_digest_114 (tgt := 130) rfl it jf ?_ ?_
    · refine z_lsub [0, 1] rfl ?_
      exact hexit (u106_1, w106)
    · refine z_aload_n C dX9_digest_117 rfl 0 rfl ?_
      refine z_lload_n C dX9_digest_118 rfl 1 rfl ?_
      refine z_iload_n C dX9_digest_119 rfl 2 rfl ?_
      refine X.conv bb ?_
      refine z_rcv bd (fun b24 hbb24 htb24 => ?_)
      have heb24 := Option.some.inj hbb24
      subst heb24
      refine X.conv bb ?_
      refine z_callV C cf10 mf_X9_mixDriver kt846 (gtbl_priv (j := 24) rfl rfl) kt844 (k_X9_mixDriver (gL Γ) p106_0 u106_1 u106_3 w106 (gK Γ)) htb24 rfl ⟨Nat.le_of_ble_eq_true rfl, Nat.le_of_ble_eq_true rfl⟩ (rest := []) rfl (Nat.le_of_ble_eq_true rfl) dX9_digest_120 (bdJg) (contJg fun v25 => ?_)
      refine z_lstore_n (L' := [(1, vJ v25.1), (0, vR (some p106_0)), (3, vI u106_3)]) C dX9_digest_123 rfl (by decide) rfl ?_
      refine z_iinc (L' := [(3, vI (u106_3 + 1)), (1, vJ v25.1), (0, vR (some p106_0))]) C dX9_digest_124 2 rfl (v := u106_3 + 1) rfl (by decide) rfl ?_
      refine z_goto C dX9_digest_127 (tgt := 106) rfl ?_
      refine z_lsub [2, 1, 0] rfl ?_
      exact ih v25.1 (u106_3 + 1) v25.2
theorem k_X9_digest (l : Launch) (b : Nat) (g : HP) : MM l Pi2 yX9_digest cX9_digest 4 (some .long) 26 675 [vR (some b)] g (wJg (f_X9_digest b g)) := by
  refine MM_of PO_Pi2 mf_X9_digest (fun a ha => wJg_mono (f_X9_digest_mono b g) a ha) (Nat.le_of_ble_eq_true rfl) ?_
  intro Γ fin hfin hl hin C0 Z0
  subst hl
  obtain ⟨v0, hv, rfl⟩ := wJg_some hfin
  have C : CX Γ cX9_digest 4 "Blockduty" Pi2 ok2 26 675 := C0
  have Z : RX Γ Pi2 (some .long) (some (vJ v0.1), v0.2) := Z0
  refine X.conv (fun _ => hv) ?_
  unfold f_X9_digest
  show X Γ 0 [(0, vR (some b))] [] g _
  refine z_ldc2 C dX9_digest_0 kt798 ?_
  refine z_lstore_n (L' := [(1, vJ 58195), (0, vR (some b))]) C dX9_digest_3 rfl (by decide) rfl ?_
  refine z_iconst C dX9_digest_4 (v := 0) (by decide) ?_
  refine z_istore_n (L' := [(3, vI 0), (1, vJ 58195), (0, vR (some b))]) C dX9_digest_5 rfl (by decide) rfl ?_
  refine z_lsub [2, 1, 0] rfl ?_
  refine k_X9_digest_L6 C b (fun q4 => ?_) FU 58195 0 g
  refine z_iconst C dX9_digest_28 (v := 1) (by decide) ?_
  refine z_istore_n (L' := [(3, vI 1), (0, vR (some b)), (1, vJ q4.1)]) C dX9_digest_29 rfl (by decide) rfl ?_
  refine z_lsub [1, 2, 0] rfl ?_
  refine k_X9_digest_L30 C b (fun q8 => ?_) FU q4.1 1 q4.2
  refine z_iconst C dX9_digest_52 (v := 0) (by decide) ?_
  refine z_istore_n (L' := [(3, vI 0), (0, vR (some b)), (1, vJ q8.1)]) C dX9_digest_53 rfl (by decide) rfl ?_
  refine z_lsub [1, 2, 0] rfl ?_
  refine k_X9_digest_L54 C b (fun q14 => ?_) FU q8.1 0 q8.2
  refine z_iconst C dX9_digest_78 (v := 0) (by decide) ?_
  refine z_istore_n (L' := [(3, vI 0), (0, vR (some b)), (1, vJ q14.1)]) C dX9_digest_79 rfl (by decide) rfl ?_
  refine z_lsub [1, 2, 0] rfl ?_
  refine k_X9_digest_L80 C b (fun q20 => ?_) FU q14.1 0 q14.2
  refine z_iconst C dX9_digest_104 (v := 0) (by decide) ?_
  refine z_istore_n (L' := [(3, vI 0), (0, vR (some b)), (1, vJ q20.1)]) C dX9_digest_105 rfl (by decide) rfl ?_
  refine z_lsub [1, 2, 0] rfl ?_
  refine k_X9_digest_L106 C b (fun q26 => ?_) FU q20.1 0 q20.2
  refine z_lload_n C dX9_digest_130 rfl 1 rfl ?_
  refine z_aload_n C dX9_digest_131 rfl 0 rfl ?_
  refine z_rcv bd (fun b27 hbb27 htb27 => ?_)
  have heb27 := Option.some.inj hbb27
  subst heb27
  refine z_callV C cf10 mf_X9_leastBlocks kt771 kt772 kt849 (k_X9_leastBlocks (gL Γ) b q26.2 (gK Γ)) htb27 rfl ⟨Nat.le_of_ble_eq_true rfl, Nat.le_of_ble_eq_true rfl⟩ (rest := [vJ q26.1]) rfl (Nat.le_of_ble_eq_true rfl) dX9_digest_132 (bdIg) (contIg fun v28 => ?_)
  refine z_callS C rfl mf_X9_mix kt801 kt800 (k_X9_mix (gL Γ) q26.1 v28.1 v28.2 (gK Γ)) rfl ⟨Nat.le_of_ble_eq_true rfl, Nat.le_of_ble_eq_true rfl⟩ (rest := []) rfl (Nat.le_of_ble_eq_true rfl) dX9_digest_135 (bdJ) (contJ fun y29 => ?_)
  refine z_lstore_n (L' := [(1, vJ y29), (0, vR (some b))]) C dX9_digest_138 rfl (by decide) rfl ?_
  refine z_aload_n C dX9_digest_139 rfl 1 rfl ?_
  refine z_gfR C cf10 4 (by decide) rfl rfl dX9_digest_140 kt213 (fun _ h => h) bd (fun r30 => ?_)
  refine z_rcv bd (fun b31 hbb31 htb31 => ?_)
  subst hbb31
  refine z_callV C cf0 mf_Jx4a65c_size_8abf5 kt261 kt262 kt260 (k_al_size (gL Γ) b31 v28.2 (gK Γ)) htb31 rfl ⟨Nat.le_of_ble_eq_true rfl, Nat.le_of_ble_eq_true rfl⟩ (rest := []) rfl (Nat.le_of_ble_eq_true rfl) dX9_digest_143 (bdI) (contI fun x32 => ?_)
  refine z_iconst C dX9_digest_146 (v := 2) (by decide) ?_
  refine z_icmp_ge C dX9_digest_147 (tgt := 154) rfl it jf ?_ ?_
  · refine z_lload_n C dX9_digest_154 rfl 0 rfl ?_
    refine z_aload_n C dX9_digest_155 rfl 1 rfl ?_
    refine z_iconst C dX9_digest_156 (v := 0) (by decide) ?_
    refine z_iconst C dX9_digest_157 (v := 1) (by decide) ?_
    refine z_rcv bd (fun b33 hbb33 htb33 => ?_)
    have heb33 := Option.some.inj hbb33
    subst heb33
    refine z_callV C cf10 mf_X9_bestSwap kt851 kt852 kt850 (k_X9_bestSwap (gL Γ) b 0 1 v28.2 (gK Γ)) htb33 rfl ⟨Nat.le_of_ble_eq_true rfl, Nat.le_of_ble_eq_true rfl⟩ (rest := [vJ y29]) rfl (Nat.le_of_ble_eq_true rfl) dX9_digest_158 (bdIg) (contIg fun v34 => ?_)
    refine z_callS C rfl mf_X9_mix kt801 kt800 (k_X9_mix (gL Γ) y29 v34.1 v34.2 (gK Γ)) rfl ⟨Nat.le_of_ble_eq_true rfl, Nat.le_of_ble_eq_true rfl⟩ (rest := []) rfl (Nat.le_of_ble_eq_true rfl) dX9_digest_161 (bdJ) (contJ fun y35 => ?_)
    exact z_lret C Z rfl dX9_digest_164 (fun h => by cases h; rfl)
  · refine z_lload_n C dX9_digest_150 rfl 0 rfl ?_
    refine z_goto C dX9_digest_151 (tgt := 164) rfl ?_
    exact z_lret C Z rfl dX9_digest_164 (fun h => by cases h; rfl)
