theorem t_X9_append (l : Launch) (hst : l.stackTraces = false) (κ : KK) (b : Nat) (s1 : Int32) (s2 : Int32) (g : HP) : TA l κ Pi2 yX9_append cX9_append 6 (some .int) 6 105 [vR (some b), vI s1, vI s2] g (x_X9_append b s1 s2 g) := by
  refine TA_of hst (PO_Pi2 κ) mf_X9_append (fun a ha => x_X9_append_mono b s1 s2 g a ha) (Nat.le_of_ble_eq_true rfl) ?_
  intro Γ v0 hv hl hk hin C0 Z0
  subst hl
  subst hk
  have C : CX Γ cX9_append 6 "Blockduty" Pi2 ok2 6 105 := C0
  have Z : RTX Γ Pi2 v0 := Z0
  refine X.conv (fun _ => hv) ?_
  unfold x_X9_append
  show X Γ 0 [(0, vR (some b)), (1, vI s1), (2, vI s2)] [] g _
  refine z_aload_n C dX9_append_0 rfl 0 rfl ?_
  refine z_iload_n C dX9_append_1 rfl 1 rfl ?_
  refine z_rcv bd (fun b1 hbb1 htb1 => ?_)
  have heb1 := Option.some.inj hbb1
  subst heb1
  refine z_callV C cf10 mf_X9_blockNumbered kt558 (gtbl_priv (j := 9) rfl rfl) kt556 (k_X9_blockNumbered (gL Γ) b s1 g (gK Γ)) htb1 rfl ⟨Nat.le_of_ble_eq_true rfl, Nat.le_of_ble_eq_true rfl⟩ (rest := []) rfl (Nat.le_of_ble_eq_true rfl) dX9_append_2 (bdR) (contR fun r2 => ?_)
  refine z_astore_n (L' := [(3, vR r2), (0, vR (some b)), (1, vI s1), (2, vI s2)]) C dX9_append_5 rfl (by decide) rfl ?_
  refine z_aload_n C dX9_append_6 rfl 1 rfl ?_
  refine z_iload_n C dX9_append_7 rfl 3 rfl ?_
  refine z_rcv bd (fun b3 hbb3 htb3 => ?_)
  have heb3 := Option.some.inj hbb3
  subst heb3
  refine z_callV C cf10 mf_X9_tripNumbered kt618 (gtbl_priv (j := 12) rfl rfl) kt616 (k_X9_tripNumbered (gL Γ) b s2 g (gK Γ)) htb3 rfl ⟨Nat.le_of_ble_eq_true rfl, Nat.le_of_ble_eq_true rfl⟩ (rest := []) rfl (Nat.le_of_ble_eq_true rfl) dX9_append_8 (bdR) (contR fun r4 => ?_)
  refine z_astore (L' := [(4, vR r4), (3, vR r2), (0, vR (some b)), (1, vI s1), (2, vI s2)]) C dX9_append_11 (by decide) rfl ?_
  refine z_aload_n C dX9_append_13 rfl 1 rfl ?_
  refine z_ifnull C dX9_append_14 (tgt := 22) rfl it jf ?_ ?_
  · exact X.no no0
  · refine z_aload C dX9_append_17 0 rfl ?_
    refine z_ifnonnull C dX9_append_19 (tgt := 32) rfl it jf ?_ ?_
    · exact X.no no0
    · refine z_aload_n C dX9_append_32 rfl 1 rfl ?_
      refine z_gfR C cf1 3 (by decide) rfl rfl dX9_append_33 kt538 (fun _ h => h) bd (fun r5 => ?_)
      refine z_rcv bd (fun b6 hbb6 htb6 => ?_)
      subst hbb6
      refine z_callV C cf7 mf_X6_last kt566 kt567 kt906 (k_X6_last (gL Γ) b6 g (gK Γ)) htb6 rfl ⟨Nat.le_of_ble_eq_true rfl, Nat.le_of_ble_eq_true rfl⟩ (rest := []) rfl (Nat.le_of_ble_eq_true rfl) dX9_append_36 (bdR) (contR fun r7 => ?_)
      refine z_astore (L' := [(5, vR r7), (4, vR r4), (3, vR r2), (0, vR (some b)), (1, vI s1), (2, vI s2)]) C dX9_append_39 (by decide) rfl ?_
      refine z_aload C dX9_append_41 1 rfl ?_
      refine z_gfR C cf8 7 (by decide) rfl rfl dX9_append_43 kt433 (fun _ h => h) bd (fun r8 => ?_)
      refine z_ifnonnull C dX9_append_46 (tgt := 64) rfl it jf ?_ ?_
      · refine z_aload C dX9_append_49 0 rfl ?_
        refine z_ifnull C dX9_append_51 (tgt := 74) rfl it jf ?_ ?_
        · exact X.no no0
        · refine z_aload C dX9_append_54 1 rfl ?_
          refine z_aload C dX9_append_56 0 rfl ?_
          refine z_rcv bd (fun b9 hbb9 htb9 => ?_)
          subst hbb9
          refine z_callV C cf8 mf_X7_canFollow kt786 kt787 kt866 (k_X7_canFollow (gL Γ) b9 r7 g (gK Γ)) htb9 rfl ⟨Nat.le_of_ble_eq_true rfl, Nat.le_of_ble_eq_true rfl⟩ (rest := []) rfl (Nat.le_of_ble_eq_true rfl) dX9_append_58 (bdI) (contI fun x10 => ?_)
          refine z_if_ne C dX9_append_61 (tgt := 74) rfl it jf ?_ ?_
          · exact z_thr C Z (List.mem_of_getElem? (i := 0) rfl) (Nat.le_of_ble_eq_true rfl) (Nat.le_of_ble_eq_true rfl) (Nat.le_of_ble_eq_true rfl) dX9_append_64 dX9_append_67 dX9_append_68 dX9_append_70 dX9_append_73 (fun h => (Option.some.inj h).symm)
          · exact X.no no0
      · exact z_thr C Z (List.mem_of_getElem? (i := 0) rfl) (Nat.le_of_ble_eq_true rfl) (Nat.le_of_ble_eq_true rfl) (Nat.le_of_ble_eq_true rfl) dX9_append_64 dX9_append_67 dX9_append_68 dX9_append_70 dX9_append_73 (fun h => (Option.some.inj h).symm)
theorem t_X9_swap (l : Launch) (hst : l.stackTraces = false) (κ : KK) (b : Nat) (s1 : Int32) (s2 : Int32) (s3 : Int32) (s4 : Int32) (g : HP) : TA l κ Pi2 yX9_swap cX9_swap 10 (some .int) 6 133 [vR (some b), vI s1, vI s2, vI s3, vI s4] g (x_X9_swap b s1 s2 s3 s4 g) := by
  refine TA_of hst (PO_Pi2 κ) mf_X9_swap (fun a ha => x_X9_swap_mono b s1 s2 s3 s4 g a ha) (Nat.le_of_ble_eq_true rfl) ?_
  intro Γ v0 hv hl hk hin C0 Z0
  subst hl
  subst hk
  have C : CX Γ cX9_swap 10 "Blockduty" Pi2 ok2 6 133 := C0
  have Z : RTX Γ Pi2 v0 := Z0
  refine X.conv (fun _ => hv) ?_
  unfold x_X9_swap
  show X Γ 0 [(0, vR (some b)), (1, vI s1), (2, vI s2), (3, vI s3), (4, vI s4)] [] g _
  refine z_aload_n C dX9_swap_0 rfl 0 rfl ?_
  refine z_iload_n C dX9_swap_1 rfl 1 rfl ?_
  refine z_rcv bd (fun b1 hbb1 htb1 => ?_)
  have heb1 := Option.some.inj hbb1
  subst heb1
  refine z_callV C cf10 mf_X9_blockNumbered kt558 (gtbl_priv (j := 9) rfl rfl) kt556 (k_X9_blockNumbered (gL Γ) b s1 g (gK Γ)) htb1 rfl ⟨Nat.le_of_ble_eq_true rfl, Nat.le_of_ble_eq_true rfl⟩ (rest := []) rfl (Nat.le_of_ble_eq_true rfl) dX9_swap_2 (bdR) (contR fun r2 => ?_)
  refine z_astore (L' := [(5, vR r2), (0, vR (some b)), (1, vI s1), (2, vI s2), (3, vI s3), (4, vI s4)]) C dX9_swap_5 (by decide) rfl ?_
  refine z_aload_n C dX9_swap_7 rfl 1 rfl ?_
  refine z_iload_n C dX9_swap_8 rfl 4 rfl ?_
  refine z_rcv bd (fun b3 hbb3 htb3 => ?_)
  have heb3 := Option.some.inj hbb3
  subst heb3
  refine z_callV C cf10 mf_X9_blockNumbered kt558 (gtbl_priv (j := 9) rfl rfl) kt556 (k_X9_blockNumbered (gL Γ) b s3 g (gK Γ)) htb3 rfl ⟨Nat.le_of_ble_eq_true rfl, Nat.le_of_ble_eq_true rfl⟩ (rest := []) rfl (Nat.le_of_ble_eq_true rfl) dX9_swap_9 (bdR) (contR fun r4 => ?_)
  refine z_astore (L' := [(6, vR r4), (5, vR r2), (0, vR (some b)), (1, vI s1), (2, vI s2), (3, vI s3), (4, vI s4)]) C dX9_swap_12 (by decide) rfl ?_
  refine z_aload C dX9_swap_14 1 rfl ?_
  refine z_ifnull C dX9_swap_16 (tgt := 24) rfl it jf ?_ ?_
  · exact X.no no0
  · refine z_aload C dX9_swap_19 0 rfl ?_
    refine z_ifnonnull C dX9_swap_21 (tgt := 34) rfl it jf ?_ ?_
    · exact X.no no0
    · refine z_aload C dX9_swap_34 1 rfl ?_
      refine z_gfR C cf1 3 (by decide) rfl rfl dX9_swap_36 kt538 (fun _ h => h) bd (fun r5 => ?_)
      refine z_astore (L' := [(7, vR r5), (6, vR r4), (5, vR r2), (0, vR (some b)), (1, vI s1), (2, vI s2), (3, vI s3), (4, vI s4)]) C dX9_swap_39 (by decide) rfl ?_
      refine z_aload C dX9_swap_41 1 rfl ?_
      refine z_gfR C cf1 3 (by decide) rfl rfl dX9_swap_43 kt538 (fun _ h => h) bd (fun r6 => ?_)
      refine z_astore (L' := [(8, vR r6), (7, vR r5), (6, vR r4), (5, vR r2), (0, vR (some b)), (1, vI s1), (2, vI s2), (3, vI s3), (4, vI s4)]) C dX9_swap_46 (by decide) rfl ?_
      refine z_iload_n C dX9_swap_48 rfl 5 rfl ?_
      refine z_iload_n C dX9_swap_49 rfl 7 rfl ?_
      refine z_icmp_eq C dX9_swap_50 (tgt := 80) rfl it jf ?_ ?_
      · exact X.no no0
      · refine z_iload_n C dX9_swap_53 rfl 6 rfl ?_
        refine z_iconst C dX9_swap_54 (v := 0) (by decide) ?_
        refine z_aload C dX9_swap_55 1 rfl ?_
        refine z_rcv bd (fun b7 hbb7 htb7 => ?_)
        subst hbb7
        refine z_callV C cf7 mf_X6_count kt606 kt607 kt683 (k_X6_count (gL Γ) b7 g (gK Γ)) htb7 rfl ⟨Nat.le_of_ble_eq_true rfl, Nat.le_of_ble_eq_true rfl⟩ (rest := [vI 0, vI s2]) rfl (Nat.le_of_ble_eq_true rfl) dX9_swap_57 (bdI) (contI fun x8 => ?_)
        refine z_callS C rfl mf_X9_isOutside kt347 kt346 (k_X9_isOutside (gL Γ) s2 0 x8 g (gK Γ)) rfl ⟨Nat.le_of_ble_eq_true rfl, Nat.le_of_ble_eq_true rfl⟩ (rest := []) rfl (Nat.le_of_ble_eq_true rfl) dX9_swap_60 (bdI) (contI fun x9 => ?_)
        refine z_if_ne C dX9_swap_63 (tgt := 80) rfl it jf ?_ ?_
        · refine z_iload C dX9_swap_66 8 rfl ?_
          refine z_iconst C dX9_swap_68 (v := 0) (by decide) ?_
          refine z_aload C dX9_swap_69 0 rfl ?_
          refine z_rcv bd (fun b10 hbb10 htb10 => ?_)
          subst hbb10
          refine z_callV C cf7 mf_X6_count kt606 kt607 kt683 (k_X6_count (gL Γ) b10 g (gK Γ)) htb10 rfl ⟨Nat.le_of_ble_eq_true rfl, Nat.le_of_ble_eq_true rfl⟩ (rest := [vI 0, vI s4]) rfl (Nat.le_of_ble_eq_true rfl) dX9_swap_71 (bdI) (contI fun x11 => ?_)
          refine z_callS C rfl mf_X9_isOutside kt347 kt346 (k_X9_isOutside (gL Γ) s4 0 x11 g (gK Γ)) rfl ⟨Nat.le_of_ble_eq_true rfl, Nat.le_of_ble_eq_true rfl⟩ (rest := []) rfl (Nat.le_of_ble_eq_true rfl) dX9_swap_74 (bdI) (contI fun x12 => ?_)
          refine z_if_eq C dX9_swap_77 (tgt := 90) rfl it jf ?_ ?_
          · refine z_aload C dX9_swap_90 1 rfl ?_
            refine z_iload_n C dX9_swap_92 rfl 6 rfl ?_
            refine z_aload C dX9_swap_93 0 rfl ?_
            refine z_iload C dX9_swap_95 8 rfl ?_
            refine z_callS C rfl mf_X9_canSwap kt860 kt859 (k_X9_canSwap (gL Γ) (some b7) s2 (some b10) s4 g (gK Γ)) rfl ⟨Nat.le_of_ble_eq_true rfl, Nat.le_of_ble_eq_true rfl⟩ (rest := []) rfl (Nat.le_of_ble_eq_true rfl) dX9_swap_97 (bdI) (contI fun x13 => ?_)
            refine z_if_ne C dX9_swap_100 (tgt := 113) rfl it jf ?_ ?_
            · exact z_thr C Z (List.mem_of_getElem? (i := 1) rfl) (Nat.le_of_ble_eq_true rfl) (Nat.le_of_ble_eq_true rfl) (Nat.le_of_ble_eq_true rfl) dX9_swap_103 dX9_swap_106 dX9_swap_107 dX9_swap_109 dX9_swap_112 (fun h => (Option.some.inj h).symm)
            · exact X.no no0
          · exact X.no no0
        · exact X.no no0
theorem t_X9_cut (l : Launch) (hst : l.stackTraces = false) (κ : KK) (b : Nat) (s1 : Int32) (g : HP) : TA l κ Pi2 yX9_cut cX9_cut 4 (some .int) 6 138 [vR (some b), vI s1] g (x_X9_cut b s1 g) := by
  refine TA_of hst (PO_Pi2 κ) mf_X9_cut (fun a ha => x_X9_cut_mono b s1 g a ha) (Nat.le_of_ble_eq_true rfl) ?_
  intro Γ v0 hv hl hk hin C0 Z0
  subst hl
  subst hk
  have C : CX Γ cX9_cut 4 "Blockduty" Pi2 ok2 6 138 := C0
  have Z : RTX Γ Pi2 v0 := Z0
  refine X.conv (fun _ => hv) ?_
  unfold x_X9_cut
  show X Γ 0 [(0, vR (some b)), (1, vI s1)] [] g _
  refine z_aload_n C dX9_cut_0 rfl 0 rfl ?_
  refine z_iload_n C dX9_cut_1 rfl 1 rfl ?_
  refine z_rcv bd (fun b1 hbb1 htb1 => ?_)
  have heb1 := Option.some.inj hbb1
  subst heb1
  refine z_callV C cf10 mf_X9_blockNumbered kt558 (gtbl_priv (j := 9) rfl rfl) kt556 (k_X9_blockNumbered (gL Γ) b s1 g (gK Γ)) htb1 rfl ⟨Nat.le_of_ble_eq_true rfl, Nat.le_of_ble_eq_true rfl⟩ (rest := []) rfl (Nat.le_of_ble_eq_true rfl) dX9_cut_2 (bdR) (contR fun r2 => ?_)
  refine z_astore_n (L' := [(2, vR r2), (0, vR (some b)), (1, vI s1)]) C dX9_cut_5 rfl (by decide) rfl ?_
  refine z_aload_n C dX9_cut_6 rfl 0 rfl ?_
  refine z_ifnonnull C dX9_cut_7 (tgt := 20) rfl it jf ?_ ?_
  · exact X.no no0
  · refine z_aload_n C dX9_cut_20 rfl 1 rfl ?_
    refine z_gfR C cf10 7 (by decide) rfl rfl dX9_cut_21 kt216 (fun _ h => h) bd (fun r3 => ?_)
    refine z_aload_n C dX9_cut_24 rfl 0 rfl ?_
    refine z_gfR C cf1 3 (by decide) rfl rfl dX9_cut_25 kt538 (fun _ h => h) bd (fun r4 => ?_)
    refine z_aload_n C dX9_cut_28 rfl 1 rfl ?_
    refine z_gfR C cf10 12 (by decide) rfl rfl dX9_cut_29 kt221 (fun _ h => h) bd (fun r5 => ?_)
    refine z_rcv bd (fun b6 hbb6 htb6 => ?_)
    subst hbb6
    refine z_callV C cf9 mf_X8_planPieces kt969 kt970 kt968 (k_X8_planPieces (gL Γ) b6 r4 r5 g (gK Γ)) htb6 rfl ⟨Nat.le_of_ble_eq_true rfl, Nat.le_of_ble_eq_true rfl⟩ (rest := []) rfl (Nat.le_of_ble_eq_true rfl) dX9_cut_32 (bdIg) (contIg fun v7 => ?_)
    refine z_istore_n (L' := [(3, vI v7.1), (2, vR r2), (0, vR (some b)), (1, vI s1)]) C dX9_cut_35 rfl (by decide) rfl ?_
    refine z_iload_n C dX9_cut_36 rfl 0 rfl ?_
    refine z_if_ne C dX9_cut_37 (tgt := 50) rfl it jf ?_ ?_
    · exact z_thr C Z (List.mem_of_getElem? (i := 2) rfl) (Nat.le_of_ble_eq_true rfl) (Nat.le_of_ble_eq_true rfl) (Nat.le_of_ble_eq_true rfl) dX9_cut_40 dX9_cut_43 dX9_cut_44 dX9_cut_46 dX9_cut_49 (fun h => (Option.some.inj h).symm)
    · exact X.no no0
theorem t_X9_give (l : Launch) (hst : l.stackTraces = false) (κ : KK) (b : Nat) (s1 : Int32) (s2 : Int32) (s3 : Int32) (g : HP) : TA l κ Pi2 yX9_give cX9_give 6 (some .int) 6 108 [vR (some b), vI s1, vI s2, vI s3] g (x_X9_give b s1 s2 s3 g) := by
  refine TA_of hst (PO_Pi2 κ) mf_X9_give (fun a ha => x_X9_give_mono b s1 s2 s3 g a ha) (Nat.le_of_ble_eq_true rfl) ?_
  intro Γ v0 hv hl hk hin C0 Z0
  subst hl
  subst hk
  have C : CX Γ cX9_give 6 "Blockduty" Pi2 ok2 6 108 := C0
  have Z : RTX Γ Pi2 v0 := Z0
  refine X.conv (fun _ => hv) ?_
  unfold x_X9_give
  show X Γ 0 [(0, vR (some b)), (1, vI s1), (2, vI s2), (3, vI s3)] [] g _
  refine z_aload_n C dX9_give_0 rfl 0 rfl ?_
  refine z_iload_n C dX9_give_1 rfl 1 rfl ?_
  refine z_iload_n C dX9_give_2 rfl 2 rfl ?_
  refine z_rcv bd (fun b1 hbb1 htb1 => ?_)
  have heb1 := Option.some.inj hbb1
  subst heb1
  refine z_callV C cf10 mf_X9_pieceNumbered kt826 (gtbl_priv (j := 23) rfl rfl) kt824 (k_X9_pieceNumbered (gL Γ) b s1 s2 g (gK Γ)) htb1 rfl ⟨Nat.le_of_ble_eq_true rfl, Nat.le_of_ble_eq_true rfl⟩ (rest := []) rfl (Nat.le_of_ble_eq_true rfl) dX9_give_3 (bdR) (contR fun r2 => ?_)
  refine z_astore (L' := [(4, vR r2), (0, vR (some b)), (1, vI s1), (2, vI s2), (3, vI s3)]) C dX9_give_6 (by decide) rfl ?_
  refine z_aload_n C dX9_give_8 rfl 1 rfl ?_
  refine z_iload_n C dX9_give_9 rfl 4 rfl ?_
  refine z_rcv bd (fun b3 hbb3 htb3 => ?_)
  have heb3 := Option.some.inj hbb3
  subst heb3
  refine z_callV C cf10 mf_X9_driverNumbered kt628 (gtbl_priv (j := 13) rfl rfl) kt626 (k_X9_driverNumbered (gL Γ) b s3 g (gK Γ)) htb3 rfl ⟨Nat.le_of_ble_eq_true rfl, Nat.le_of_ble_eq_true rfl⟩ (rest := []) rfl (Nat.le_of_ble_eq_true rfl) dX9_give_10 (bdR) (contR fun r4 => ?_)
  refine z_astore (L' := [(5, vR r4), (4, vR r2), (0, vR (some b)), (1, vI s1), (2, vI s2), (3, vI s3)]) C dX9_give_13 (by decide) rfl ?_
  refine z_aload C dX9_give_15 1 rfl ?_
  refine z_ifnull C dX9_give_17 (tgt := 25) rfl it jf ?_ ?_
  · exact X.no no0
  · refine z_aload C dX9_give_20 0 rfl ?_
    refine z_ifnonnull C dX9_give_22 (tgt := 36) rfl it jf ?_ ?_
    · exact X.no no0
    · refine z_aload C dX9_give_36 1 rfl ?_
      refine z_gfR C cf5 5 (by decide) rfl rfl dX9_give_38 kt1012 (fun _ h => h) bd (fun r5 => ?_)
      refine z_ifnonnull C dX9_give_41 (tgt := 54) rfl it jf ?_ ?_
      · refine z_aload C dX9_give_44 0 rfl ?_
        refine z_aload C dX9_give_46 1 rfl ?_
        refine z_rcv bd (fun b6 hbb6 htb6 => ?_)
        subst hbb6
        refine z_callV C cf2 mf_X1_canGet kt1036 kt1037 kt1035 (k_X1_canGet (gL Γ) b6 r2 g (gK Γ)) htb6 rfl ⟨Nat.le_of_ble_eq_true rfl, Nat.le_of_ble_eq_true rfl⟩ (rest := []) rfl (Nat.le_of_ble_eq_true rfl) dX9_give_48 (bdI) (contI fun x7 => ?_)
        refine z_if_ne C dX9_give_51 (tgt := 65) rfl it jf ?_ ?_
        · exact z_thrw C Z (List.mem_of_getElem? (i := 3) rfl) (Nat.le_of_ble_eq_true rfl) (Nat.le_of_ble_eq_true rfl) (Nat.le_of_ble_eq_true rfl) dX9_give_54 dX9_give_57 dX9_give_58 dX9_give_61 dX9_give_64 (fun h => (Option.some.inj h).symm)
        · exact X.no no0
      · exact z_thrw C Z (List.mem_of_getElem? (i := 3) rfl) (Nat.le_of_ble_eq_true rfl) (Nat.le_of_ble_eq_true rfl) (Nat.le_of_ble_eq_true rfl) dX9_give_54 dX9_give_57 dX9_give_58 dX9_give_61 dX9_give_64 (fun h => (Option.some.inj h).symm)
