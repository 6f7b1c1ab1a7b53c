theorem k_X9_ofPiece (l : Launch) (b : Nat) (s1 : Int32) (s2 : Int32) (s3 : Int32) (g : HP) : MM l Pi2 yX9_ofPiece cX9_ofPiece 5 (some .int) 5 115 [vR (some b), vI s1, vI s2, vI s3] g (wIg (f_X9_ofPiece b s1 s2 s3 g)) := by
  refine MM_of PO_Pi2 mf_X9_ofPiece (fun a ha => wIg_mono (f_X9_ofPiece_mono b s1 s2 s3 g) a ha) (Nat.le_of_ble_eq_true rfl) ?_
  intro Γ fin hfin hl hin C0 Z0
  subst hl
  obtain ⟨v0, hv, rfl⟩ := wIg_some hfin
  have C : CX Γ cX9_ofPiece 5 "Blockduty" Pi2 ok2 5 115 := C0
  have Z : RX Γ Pi2 (some .int) (some (vI v0.1), v0.2) := Z0
  refine X.conv (fun _ => hv) ?_
  unfold f_X9_ofPiece
  show X Γ 0 [(0, vR (some b)), (1, vI s1), (2, vI s2), (3, vI s3)] [] g _
  refine z_aload_n C dX9_ofPiece_0 rfl 0 rfl ?_
  refine z_iload_n C dX9_ofPiece_1 rfl 1 rfl ?_
  refine z_iload_n C dX9_ofPiece_2 rfl 2 rfl ?_
  refine z_rcv bd (fun b1 hbb1 htb1 => ?_)
  have heb1 := Option.some.inj hbb1
  subst heb1
  refine z_callV C cf10 mf_X9_pieceNumbered kt826 (gtbl_priv (j := 23) rfl rfl) kt824 (k_X9_pieceNumbered (gL Γ) b s1 s2 g (gK Γ)) htb1 rfl ⟨Nat.le_of_ble_eq_true rfl, Nat.le_of_ble_eq_true rfl⟩ (rest := []) rfl (Nat.le_of_ble_eq_true rfl) dX9_ofPiece_3 (bdR) (contR fun r2 => ?_)
  refine z_astore (L' := [(4, vR r2), (0, vR (some b)), (1, vI s1), (2, vI s2), (3, vI s3)]) C dX9_ofPiece_6 (by decide) rfl ?_
  refine z_aload C dX9_ofPiece_8 0 rfl ?_
  refine z_ifnonnull C dX9_ofPiece_10 (tgt := 24) rfl it jf ?_ ?_
  · exact X.no no0
  · refine z_iload_n C dX9_ofPiece_24 rfl 4 rfl ?_
    refine z_iconst C dX9_ofPiece_25 (v := 0) (by decide) ?_
    refine z_iconst C dX9_ofPiece_26 (v := 5) (by decide) ?_
    refine z_callS C rfl mf_X9_isOutside kt347 kt346 (k_X9_isOutside (gL Γ) s3 0 5 g (gK Γ)) rfl ⟨Nat.le_of_ble_eq_true rfl, Nat.le_of_ble_eq_true rfl⟩ (rest := []) rfl (Nat.le_of_ble_eq_true rfl) dX9_ofPiece_27 (bdI) (contI fun x3 => ?_)
    refine z_if_eq C dX9_ofPiece_30 (tgt := 44) rfl it jf ?_ ?_
    · refine z_aload_n C dX9_ofPiece_44 rfl 1 rfl ?_
      refine z_rcv bd (fun b4 hbb4 htb4 => ?_)
      have heb4 := Option.some.inj hbb4
      subst heb4
      refine z_callV C cf10 mf_X9_runDay kt638 (gtbl_priv (j := 14) rfl rfl) kt636 (k_X9_runDay (gL Γ) b g (gK Γ)) htb4 rfl ⟨Nat.le_of_ble_eq_true rfl, Nat.le_of_ble_eq_true rfl⟩ (rest := []) rfl (Nat.le_of_ble_eq_true rfl) dX9_ofPiece_45 (bdVg) (contVg fun g5 => ?_)
      refine z_iload_n C dX9_ofPiece_48 rfl 4 rfl ?_
      refine X.cs (c := s3 = 0) it jf (fun hc0 => ?_) (fun hc0 => ?_)
      · refine z_tin C 0 dX9_ofPiece_49 hc0 (by decide) (by decide) rfl (tgt := 84) rfl ?_
        refine z_aload C dX9_ofPiece_84 0 rfl ?_
        refine z_gfR C cf5 2 (by decide) rfl rfl dX9_ofPiece_86 kt1005 (fun _ h => h) bd (fun r6 => ?_)
        refine z_gfI C cf8 0 (by decide) rfl rfl dX9_ofPiece_89 kt409 (fun _ h => h) bd (fun x7 => ?_)
        exact z_iret C Z rfl dX9_ofPiece_92 (fun h => by cases h; rfl)
      · refine X.cs (c := s3 = 1) it jf (fun hc1 => ?_) (fun hc1 => ?_)
        · refine z_tin C 1 dX9_ofPiece_49 hc1 (by decide) (by decide) rfl (tgt := 93) rfl ?_
          refine z_aload C dX9_ofPiece_93 0 rfl ?_
          refine z_gfR C cf5 3 (by decide) rfl rfl dX9_ofPiece_95 kt1007 (fun _ h => h) bd (fun r8 => ?_)
          refine z_gfI C cf8 0 (by decide) rfl rfl dX9_ofPiece_98 kt409 (fun _ h => h) bd (fun x9 => ?_)
          exact z_iret C Z rfl dX9_ofPiece_101 (fun h => by cases h; rfl)
        · refine X.cs (c := s3 = 2) it jf (fun hc2 => ?_) (fun hc2 => ?_)
          · refine z_tin C 2 dX9_ofPiece_49 hc2 (by decide) (by decide) rfl (tgt := 102) rfl ?_
            refine z_aload C dX9_ofPiece_102 0 rfl ?_
            refine z_gfI C cf5 4 (by decide) rfl rfl dX9_ofPiece_104 kt1009 (fun _ h => h) bd (fun x10 => ?_)
            exact z_iret C Z rfl dX9_ofPiece_107 (fun h => by cases h; rfl)
          · refine X.cs (c := s3 = 3) it jf (fun hc3 => ?_) (fun hc3 => ?_)
            · refine z_tin C 3 dX9_ofPiece_49 hc3 (by decide) (by decide) rfl (tgt := 108) rfl ?_
              refine z_aload C dX9_ofPiece_108 0 rfl ?_
              refine z_rcv bd (fun b11 hbb11 htb11 => ?_)
              subst hbb11
              refine z_callV C cf5 mf_X4_minutes kt714 kt715 kt833 (k_X4_minutes (gL Γ) b11 g5 (gK Γ)) htb11 rfl ⟨Nat.le_of_ble_eq_true rfl, Nat.le_of_ble_eq_true rfl⟩ (rest := []) rfl (Nat.le_of_ble_eq_true rfl) dX9_ofPiece_110 (bdI) (contI fun x12 => ?_)
              exact z_iret C Z rfl dX9_ofPiece_113 (fun h => by cases h; rfl)
            · refine X.cs (c := s3 = 4) it jf (fun hc4 => ?_) (fun hc4 => ?_)
              · refine z_tin C 4 dX9_ofPiece_49 hc4 (by decide) (by decide) rfl (tgt := 114) rfl ?_
                refine z_aload C dX9_ofPiece_114 0 rfl ?_
                refine z_rcv bd (fun b13 hbb13 htb13 => ?_)
                subst hbb13
                refine z_callV C cf5 mf_X4_driverNumber kt835 kt836 kt834 (k_X4_driverNumber (gL Γ) b13 g5 (gK Γ)) htb13 rfl ⟨Nat.le_of_ble_eq_true rfl, Nat.le_of_ble_eq_true rfl⟩ (rest := []) rfl (Nat.le_of_ble_eq_true rfl) dX9_ofPiece_116 (bdI) (contI fun x14 => ?_)
                exact z_iret C Z rfl dX9_ofPiece_119 (fun h => by cases h; rfl)
              · refine z_tout C dX9_ofPiece_49 (tsw_out (hi := 4) (by decide) (fun k hk => by
                    rcases (show k = 0 ∨ k = 1 ∨ k = 2 ∨ k = 3 ∨ k = 4 by omega) with rfl | rfl | rfl | rfl | rfl
                    · exact hc0
                    · exact hc1
                    · exact hc2
                    · exact hc3
                    · exact hc4)) (tgt := 120) rfl ?_
                refine z_aload C dX9_ofPiece_120 0 rfl ?_
                refine z_rcv bd (fun b15 hbb15 htb15 => ?_)
                subst hbb15
                refine z_callV C cf5 mf_X4_worked kt723 kt724 kt838 (k_X4_worked (gL Γ) b15 g5 (gK Γ)) htb15 rfl ⟨Nat.le_of_ble_eq_true rfl, Nat.le_of_ble_eq_true rfl⟩ (rest := []) rfl (Nat.le_of_ble_eq_true rfl) dX9_ofPiece_122 (bdI) (contI fun x16 => ?_)
                exact z_iret C Z rfl dX9_ofPiece_125 (fun h => by cases h; rfl)
    · exact X.no no0
theorem k_X9_ofDriver (l : Launch) (b : Nat) (s1 : Int32) (s2 : Int32) (g : HP) : MM l Pi2 yX9_ofDriver cX9_ofDriver 4 (some .int) 6 131 [vR (some b), vI s1, vI s2] g (wIg (f_X9_ofDriver b s1 s2 g)) := by
  refine MM_of PO_Pi2 mf_X9_ofDriver (fun a ha => wIg_mono (f_X9_ofDriver_mono b s1 s2 g) a ha) (Nat.le_of_ble_eq_true rfl) ?_
  intro Γ fin hfin hl hin C0 Z0
  subst hl
  obtain ⟨v0, hv, rfl⟩ := wIg_some hfin
  have C : CX Γ cX9_ofDriver 4 "Blockduty" Pi2 ok2 6 131 := C0
  have Z : RX Γ Pi2 (some .int) (some (vI v0.1), v0.2) := Z0
  refine X.conv (fun _ => hv) ?_
  unfold f_X9_ofDriver
  show X Γ 0 [(0, vR (some b)), (1, vI s1), (2, vI s2)] [] g _
  refine z_aload_n C dX9_ofDriver_0 rfl 0 rfl ?_
  refine z_iload_n C dX9_ofDriver_1 rfl 1 rfl ?_
  refine z_rcv bd (fun b1 hbb1 htb1 => ?_)
  have heb1 := Option.some.inj hbb1
  subst heb1
  refine z_callV C cf10 mf_X9_driverNumbered kt628 (gtbl_priv (j := 13) rfl rfl) kt626 (k_X9_driverNumbered (gL Γ) b s1 g (gK Γ)) htb1 rfl ⟨Nat.le_of_ble_eq_true rfl, Nat.le_of_ble_eq_true rfl⟩ (rest := []) rfl (Nat.le_of_ble_eq_true rfl) dX9_ofDriver_2 (bdR) (contR fun r2 => ?_)
  refine z_astore_n (L' := [(3, vR r2), (0, vR (some b)), (1, vI s1), (2, vI s2)]) C dX9_ofDriver_5 rfl (by decide) rfl ?_
  refine z_aload_n C dX9_ofDriver_6 rfl 0 rfl ?_
  refine z_ifnonnull C dX9_ofDriver_7 (tgt := 21) rfl it jf ?_ ?_
  · exact X.no no0
  · refine z_iload_n C dX9_ofDriver_21 rfl 3 rfl ?_
    refine z_iconst C dX9_ofDriver_22 (v := 0) (by decide) ?_
    refine z_iconst C dX9_ofDriver_23 (v := 4) (by decide) ?_
    refine z_callS C rfl mf_X9_isOutside kt347 kt346 (k_X9_isOutside (gL Γ) s2 0 4 g (gK Γ)) rfl ⟨Nat.le_of_ble_eq_true rfl, Nat.le_of_ble_eq_true rfl⟩ (rest := []) rfl (Nat.le_of_ble_eq_true rfl) dX9_ofDriver_24 (bdI) (contI fun x3 => ?_)
    refine z_if_eq C dX9_ofDriver_27 (tgt := 41) rfl it jf ?_ ?_
    · refine z_aload_n C dX9_ofDriver_41 rfl 1 rfl ?_
      refine z_rcv bd (fun b4 hbb4 htb4 => ?_)
      have heb4 := Option.some.inj hbb4
      subst heb4
      refine z_callV C cf10 mf_X9_runDay kt638 (gtbl_priv (j := 14) rfl rfl) kt636 (k_X9_runDay (gL Γ) b g (gK Γ)) htb4 rfl ⟨Nat.le_of_ble_eq_true rfl, Nat.le_of_ble_eq_true rfl⟩ (rest := []) rfl (Nat.le_of_ble_eq_true rfl) dX9_ofDriver_42 (bdVg) (contVg fun g5 => ?_)
      refine z_iload_n C dX9_ofDriver_45 rfl 3 rfl ?_
      refine X.cs (c := s2 = 0) it jf (fun hc0 => ?_) (fun hc0 => ?_)
      · refine z_tin C 0 dX9_ofDriver_46 hc0 (by decide) (by decide) rfl (tgt := 76) rfl ?_
        refine z_aload_n C dX9_ofDriver_76 rfl 0 rfl ?_
        refine z_gfR C cf2 2 (by decide) rfl rfl dX9_ofDriver_77 kt502 (fun _ h => h) bd (fun r6 => ?_)
        refine z_rcv bd (fun b7 hbb7 htb7 => ?_)
        subst hbb7
        refine z_callV C cf0 mf_Jx4a65c_size_8abf5 kt261 kt262 kt260 (k_al_size (gL Γ) b7 g5 (gK Γ)) htb7 rfl ⟨Nat.le_of_ble_eq_true rfl, Nat.le_of_ble_eq_true rfl⟩ (rest := []) rfl (Nat.le_of_ble_eq_true rfl) dX9_ofDriver_80 (bdI) (contI fun x8 => ?_)
        exact z_iret C Z rfl dX9_ofDriver_83 (fun h => by cases h; rfl)
      · refine X.cs (c := s2 = 1) it jf (fun hc1 => ?_) (fun hc1 => ?_)
        · refine z_tin C 1 dX9_ofDriver_46 hc1 (by decide) (by decide) rfl (tgt := 84) rfl ?_
          refine z_aload_n C dX9_ofDriver_84 rfl 0 rfl ?_
          refine z_rcv bd (fun b9 hbb9 htb9 => ?_)
          subst hbb9
          refine z_callV C cf2 mf_X1_minutes kt709 kt710 kt708 (k_X1_minutes (gL Γ) b9 g5 (gK Γ)) htb9 rfl ⟨Nat.le_of_ble_eq_true rfl, Nat.le_of_ble_eq_true rfl⟩ (rest := []) rfl (Nat.le_of_ble_eq_true rfl) dX9_ofDriver_85 (bdI) (contI fun x10 => ?_)
          exact z_iret C Z rfl dX9_ofDriver_88 (fun h => by cases h; rfl)
        · refine X.cs (c := s2 = 2) it jf (fun hc2 => ?_) (fun hc2 => ?_)
          · refine z_tin C 2 dX9_ofDriver_46 hc2 (by decide) (by decide) rfl (tgt := 89) rfl ?_
            refine z_aload_n C dX9_ofDriver_89 rfl 0 rfl ?_
            refine z_gfI C cf2 1 (by decide) rfl rfl dX9_ofDriver_90 kt500 (fun _ h => h) bd (fun x11 => ?_)
            refine z_if_eq C dX9_ofDriver_93 (tgt := 100) rfl it jf ?_ ?_
            · refine z_iconst C dX9_ofDriver_100 (v := 0) (by decide) ?_
              exact z_iret C Z rfl dX9_ofDriver_101 (fun h => by cases h; rfl)
            · refine z_iconst C dX9_ofDriver_96 (v := 1) (by decide) ?_
              refine z_goto C dX9_ofDriver_97 (tgt := 101) rfl ?_
              exact z_iret C Z rfl dX9_ofDriver_101 (fun h => by cases h; rfl)
          · refine X.cs (c := s2 = 3) it jf (fun hc3 => ?_) (fun hc3 => ?_)
            · refine z_tin C 3 dX9_ofDriver_46 hc3 (by decide) (by decide) rfl (tgt := 102) rfl ?_
              refine z_aload_n C dX9_ofDriver_102 rfl 0 rfl ?_
              refine z_rcv bd (fun b12 hbb12 htb12 => ?_)
              subst hbb12
              refine z_callV C cf2 mf_X1_worked kt719 kt720 kt718 (k_X1_worked (gL Γ) b12 g5 (gK Γ)) htb12 rfl ⟨Nat.le_of_ble_eq_true rfl, Nat.le_of_ble_eq_true rfl⟩ (rest := []) rfl (Nat.le_of_ble_eq_true rfl) dX9_ofDriver_103 (bdI) (contI fun x13 => ?_)
              exact z_iret C Z rfl dX9_ofDriver_106 (fun h => by cases h; rfl)
            · refine z_tout C dX9_ofDriver_46 (tsw_out (hi := 3) (by decide) (fun k hk => by
                  rcases (show k = 0 ∨ k = 1 ∨ k = 2 ∨ k = 3 by omega) with rfl | rfl | rfl | rfl
                  · exact hc0
                  · exact hc1
                  · exact hc2
                  · exact hc3)) (tgt := 107) rfl ?_
              refine z_aload_n C dX9_ofDriver_107 rfl 0 rfl ?_
              refine z_rcv bd (fun b14 hbb14 htb14 => ?_)
              subst hbb14
              refine z_callV C cf2 mf_X1_pay kt731 kt732 kt730 (k_X1_pay (gL Γ) b14 g5 (gK Γ)) htb14 rfl ⟨Nat.le_of_ble_eq_true rfl, Nat.le_of_ble_eq_true rfl⟩ (rest := []) rfl (Nat.le_of_ble_eq_true rfl) dX9_ofDriver_108 (bdI) (contI fun x15 => ?_)
              exact z_iret C Z rfl dX9_ofDriver_111 (fun h => by cases h; rfl)
    · exact X.no no0
theorem k_X9_countyPays_L4 {Γ : GG} {β : Type} {fin0 : β} {F0 : Int32 → Option β} (C : CX Γ cX9_countyPays 3 "Blockduty" Pi2 ok2 3 64) (p4_0 : Nat) (w4 : HP) (hexit : ∀ q4 : Int32, X Γ 42 [(1, vI q4)] [] w4 (F0 q4 = some fin0)) : ∀ (m4 : Nat) (u4_1 : Int32) (u4_2 : Int32), X Γ 4 [(0, vR (some p4_0)), (1, vI u4_1), (2, vI u4_2)] [] w4 ((f_X9_countyPays_L4 p4_0 w4 m4 u4_1 u4_2).bind F0 = some fin0) := by
  intro m4
  induction m4 with
  | zero =>
    intro u4_1 u4_2
    exact X.no no1
  | succ m4 ih =>
    intro u4_1 u4_2
    unfold f_X9_countyPays_L4
    refine z_iload_n C dX9_countyPays_4 rfl 2 rfl ?_
    refine z_aload_n C dX9_countyPays_5 rfl 0 rfl ?_
    refine X.conv bb ?_
    refine z_gfR C cf10 2 (by decide) rfl rfl dX9_countyPays_6 kt211 (fun _ h => h) bd (fun r1 => ?_)
    refine X.conv bb ?_
    refine z_rcv bd (fun b2 hbb2 htb2 => ?_)
    subst hbb2
    refine X.conv bb ?_
    refine z_callV C cf0 mf_Jx4a65c_size_8abf5 kt261 kt262 kt260 (k_al_size (gL Γ) b2 w4 (gK Γ)) htb2 rfl ⟨Nat.le_of_ble_eq_true rfl, Nat.le_of_ble_eq_true rfl⟩ (rest := [vI u4_2]) rfl (Nat.le_of_ble_eq_true rfl) dX9_countyPays_9 (bdI) (contI fun x3 => ?_)
    refine X.conv bi ?_
    refine z_icmp_ge C dX9_countyPays_12 (tgt := 42) rfl it jf ?_ ?_
    · refine z_lsub [1] rfl ?_
      exact hexit u4_1
    · refine z_iload_n C dX9_countyPays_15 rfl 1 rfl ?_
      refine z_aload_n C dX9_countyPays_16 rfl 0 rfl ?_
      refine X.conv bb ?_
      refine z_gfR C cf10 2 (by decide) rfl rfl dX9_countyPays_17 kt211 (fun _ h => h) bd (fun r4 => ?_)
      refine z_iload_n C dX9_countyPays_20 rfl 2 rfl ?_
      refine X.conv bb ?_
      refine z_rcv bd (fun b5 hbb5 htb5 => ?_)
      subst hbb5
      refine X.conv bb ?_
      refine z_callV C cf0 mf_Jx4a65c_get_915e3 kt265 kt266 kt264 (k_al_get (gL Γ) b5 u4_2 w4 (gK Γ)) htb5 rfl ⟨Nat.le_of_ble_eq_true rfl, Nat.le_of_ble_eq_true rfl⟩ (rest := [vI u4_1]) rfl (Nat.le_of_ble_eq_true rfl) dX9_countyPays_21 (bdR) (contR fun r6 => ?_)
      refine X.conv bb ?_
      refine z_cst C cf8 dX9_countyPays_24 kt402 bd (fun r7 => ?_)
      refine z_aload_n C dX9_countyPays_27 rfl 0 rfl ?_
      refine X.conv bb ?_
      refine z_gfI C cf10 9 (by decide) rfl rfl dX9_countyPays_28 kt218 (fun _ h => h) bd (fun x8 => ?_)
      refine X.conv bb ?_
      refine z_rcv bd (fun b9 hbb9 htb9 => ?_)
      subst hbb9
      refine X.conv bb ?_
      refine z_callV C cf8 mf_X7_pay kt749 kt750 kt748 (k_X7_pay (gL Γ) b9 x8 w4 (gK Γ)) htb9 rfl ⟨Nat.le_of_ble_eq_true rfl, Nat.le_of_ble_eq_true rfl⟩ (rest := [vI u4_1]) rfl (Nat.le_of_ble_eq_true rfl) dX9_countyPays_31 (bdI) (contI fun x10 => ?_)
      refine z_iadd C dX9_countyPays_34 ?_
      refine z_istore_n (L' := [(1, vI (u4_1 + x10)), (0, vR (some p4_0)), (2, vI u4_2)]) C dX9_countyPays_35 rfl (by decide) rfl ?_
      refine z_iinc (L' := [(2, vI (u4_2 + 1)), (1, vI (u4_1 + x10)), (0, vR (some p4_0))]) C dX9_countyPays_36 2 rfl (v := u4_2 + 1) rfl (by decide) rfl ?_
      refine z_goto C dX9_countyPays_39 (tgt := 4) rfl ?_
      refine z_lsub [2, 1, 0] rfl ?_
      exact ih (u4_1 + x10) (u4_2 + 1)
theorem k_X9_countyPays (l : Launch) (b : Nat) (g : HP) : MM l Pi2 yX9_countyPays cX9_countyPays 3 (some .int) 3 64 [vR (some b)] g (wI g (f_X9_countyPays b g)) := by
  refine MM_of PO_Pi2 mf_X9_countyPays (fun a ha => wI_same a ha) (Nat.le_of_ble_eq_true rfl) ?_
  intro Γ fin hfin hl hin C0 Z0
  subst hl
  obtain ⟨v0, hv, rfl⟩ := wI_some hfin
  have C : CX Γ cX9_countyPays 3 "Blockduty" Pi2 ok2 3 64 := C0
  have Z : RX Γ Pi2 (some .int) (some (vI v0), g) := Z0
  refine X.conv (fun _ => hv) ?_
  unfold f_X9_countyPays
  show X Γ 0 [(0, vR (some b))] [] g _
  refine z_iconst C dX9_countyPays_0 (v := 0) (by decide) ?_
  refine z_istore_n (L' := [(1, vI 0), (0, vR (some b))]) C dX9_countyPays_1 rfl (by decide) rfl ?_
  refine z_iconst C dX9_countyPays_2 (v := 0) (by decide) ?_
  refine z_istore_n (L' := [(2, vI 0), (1, vI 0), (0, vR (some b))]) C dX9_countyPays_3 rfl (by decide) rfl ?_
  refine z_lsub [2, 1, 0] rfl ?_
  refine k_X9_countyPays_L4 C b g (fun q11 => ?_) FU 0 0
  refine z_iload_n C dX9_countyPays_42 rfl 0 rfl ?_
  exact z_iret C Z rfl dX9_countyPays_43 (fun h => by cases h; rfl)
theorem k_X9_allEmpty_L4 {Γ : GG} {β : Type} {fin0 : β} {F0 : Int32 → Option β} (C : CX Γ cX9_allEmpty 3 "Blockduty" Pi2 ok2 4 89) (p4_0 : Nat) (w4 : HP) (hexit : ∀ q4 : Int32, X Γ 45 [(1, vI q4)] [] w4 (F0 q4 = some fin0)) : ∀ (m4 : Nat) (u4_1 : Int32) (u4_2 : Int32), X Γ 4 [(0, vR (some p4_0)), (1, vI u4_1), (2, vI u4_2)] [] w4 ((f_X9_allEmpty_L4 p4_0 w4 m4 u4_1 u4_2).bind F0 = some fin0) := by
  intro m4
  induction m4 with
  | zero =>
    intro u4_1 u4_2
    exact X.no no1
  | succ m4 ih =>
    intro u4_1 u4_2
    unfold f_X9_allEmpty_L4
    refine z_iload_n C dX9_allEmpty_4 rfl 2 rfl ?_
    refine z_aload_n C dX9_allEmpty_5 rfl 0 rfl ?_
    refine X.conv bb ?_
    refine z_gfR C cf10 4 (by decide) rfl rfl dX9_allEmpty_6 kt213 (fun _ h => h) bd (fun r1 => ?_)
    refine X.conv bb ?_
    refine z_rcv bd (fun b2 hbb2 htb2 => ?_)
    subst hbb2
    refine X.conv bb ?_
    refine z_callV C cf0 mf_Jx4a65c_size_8abf5 kt261 kt262 kt260 (k_al_size (gL Γ) b2 w4 (gK Γ)) htb2 rfl ⟨Nat.le_of_ble_eq_true rfl, Nat.le_of_ble_eq_true rfl⟩ (rest := [vI u4_2]) rfl (Nat.le_of_ble_eq_true rfl) dX9_allEmpty_9 (bdI) (contI fun x3 => ?_)
    refine X.conv bi ?_
    refine z_icmp_ge C dX9_allEmpty_12 (tgt := 45) rfl it jf ?_ ?_
    · refine z_lsub [1] rfl ?_
      exact hexit u4_1
    · refine z_iload_n C dX9_allEmpty_15 rfl 1 rfl ?_
      refine z_aload_n C dX9_allEmpty_16 rfl 0 rfl ?_
      refine X.conv bb ?_
      refine z_gfR C cf10 4 (by decide) rfl rfl dX9_allEmpty_17 kt213 (fun _ h => h) bd (fun r4 => ?_)
      refine z_iload_n C dX9_allEmpty_20 rfl 2 rfl ?_
      refine X.conv bb ?_
      refine z_rcv bd (fun b5 hbb5 htb5 => ?_)
      subst hbb5
      refine X.conv bb ?_
      refine z_callV C cf0 mf_Jx4a65c_get_915e3 kt265 kt266 kt264 (k_al_get (gL Γ) b5 u4_2 w4 (gK Γ)) htb5 rfl ⟨Nat.le_of_ble_eq_true rfl, Nat.le_of_ble_eq_true rfl⟩ (rest := [vI u4_1]) rfl (Nat.le_of_ble_eq_true rfl) dX9_allEmpty_21 (bdR) (contR fun r6 => ?_)
      refine X.conv bb ?_
      refine z_cst C cf1 dX9_allEmpty_24 kt520 bd (fun r7 => ?_)
      refine X.conv bb ?_
      refine z_gfR C cf1 3 (by decide) rfl rfl dX9_allEmpty_27 kt538 (fun _ h => h) bd (fun r8 => ?_)
      refine z_aload_n C dX9_allEmpty_30 rfl 0 rfl ?_
      refine X.conv bb ?_
      refine z_gfR C cf10 6 (by decide) rfl rfl dX9_allEmpty_31 kt215 (fun _ h => h) bd (fun r9 => ?_)
      refine X.conv bb ?_
      refine z_rcv bd (fun b10 hbb10 htb10 => ?_)
      subst hbb10
      refine X.conv bb ?_
      refine z_callV C cf7 mf_X6_empty kt696 kt697 kt695 (k_X6_empty (gL Γ) b10 r9 w4 (gK Γ)) htb10 rfl ⟨Nat.le_of_ble_eq_true rfl, Nat.le_of_ble_eq_true rfl⟩ (rest := [vI u4_1]) rfl (Nat.le_of_ble_eq_true rfl) dX9_allEmpty_34 (bdI) (contI fun x11 => ?_)
      refine z_iadd C dX9_allEmpty_37 ?_
      refine z_istore_n (L' := [(1, vI (u4_1 + x11)), (0, vR (some p4_0)), (2, vI u4_2)]) C dX9_allEmpty_38 rfl (by decide) rfl ?_
      refine z_iinc (L' := [(2, vI (u4_2 + 1)), (1, vI (u4_1 + x11)), (0, vR (some p4_0))]) C dX9_allEmpty_39 2 rfl (v := u4_2 + 1) rfl (by decide) rfl ?_
      refine z_goto C dX9_allEmpty_42 (tgt := 4) rfl ?_
      refine z_lsub [2, 1, 0] rfl ?_
      exact ih (u4_1 + x11) (u4_2 + 1)
theorem k_X9_allEmpty (l : Launch) (b : Nat) (g : HP) : MM l Pi2 yX9_allEmpty cX9_allEmpty 3 (some .int) 4 89 [vR (some b)] g (wI g (f_X9_allEmpty b g)) := by
  refine MM_of PO_Pi2 mf_X9_allEmpty (fun a ha => wI_same a ha) (Nat.le_of_ble_eq_true rfl) ?_
  intro Γ fin hfin hl hin C0 Z0
  subst hl
  obtain ⟨v0, hv, rfl⟩ := wI_some hfin
  have C : CX Γ cX9_allEmpty 3 "Blockduty" Pi2 ok2 4 89 := C0
  have Z : RX Γ Pi2 (some .int) (some (vI v0), g) := Z0
  refine X.conv (fun _ => hv) ?_
  unfold f_X9_allEmpty
  show X Γ 0 [(0, vR (some b))] [] g _
  refine z_iconst C dX9_allEmpty_0 (v := 0) (by decide) ?_
  refine z_istore_n (L' := [(1, vI 0), (0, vR (some b))]) C dX9_allEmpty_1 rfl (by decide) rfl ?_
  refine z_iconst C dX9_allEmpty_2 (v := 0) (by decide) ?_
  refine z_istore_n (L' := [(2, vI 0), (1, vI 0), (0, vR (some b))]) C dX9_allEmpty_3 rfl (by decide) rfl ?_
  refine z_lsub [2, 1, 0] rfl ?_
  refine k_X9_allEmpty_L4 C b g (fun q12 => ?_) FU 0 0
  refine z_iload_n C dX9_allEmpty_45 rfl 0 rfl ?_
  exact z_iret C Z rfl dX9_allEmpty_46 (fun h => by cases h; rfl)
theorem k_X9_greatestLate_L4 {Γ : GG} {β : Type} {fin0 : β} {F0 : Int32 → Option β} (C : CX Γ cX9_greatestLate 4 "Blockduty" Pi2 ok2 3 64) (p4_0 : Nat) (w4 : HP) (hexit : ∀ q4 : Int32, X Γ 49 [(1, vI q4)] [] w4 (F0 q4 = some fin0)) : ∀ (m4 : Nat) (u4_1 : Int32) (u4_2 : Int32), X Γ 4 [(0, vR (some p4_0)), (1, vI u4_1), (2, vI u4_2)] [] w4 ((f_X9_greatestLate_L4 p4_0 w4 m4 u4_1 u4_2).bind F0 = some fin0) := by
  intro m4
  induction m4 with
  | zero =>
    intro u4_1 u4_2
    exact X.no no1
  | succ m4 ih =>
    intro u4_1 u4_2
    unfold f_X9_greatestLate_L4
    refine z_iload_n C dX9_greatestLate_4 rfl 2 rfl ?_
    refine z_aload_n C dX9_greatestLate_5 rfl 0 rfl ?_
    refine X.conv bb ?_
    refine z_gfR C cf10 2 (by decide) rfl rfl dX9_greatestLate_6 kt211 (fun _ h => h) bd (fun r1 => ?_)
    refine X.conv bb ?_
    refine z_rcv bd (fun b2 hbb2 htb2 => ?_)
    subst hbb2
    refine X.conv bb ?_
    refine z_callV C cf0 mf_Jx4a65c_size_8abf5 kt261 kt262 kt260 (k_al_size (gL Γ) b2 w4 (gK Γ)) htb2 rfl ⟨Nat.le_of_ble_eq_true rfl, Nat.le_of_ble_eq_true rfl⟩ (rest := [vI u4_2]) rfl (Nat.le_of_ble_eq_true rfl) dX9_greatestLate_9 (bdI) (contI fun x3 => ?_)
    refine X.conv bi ?_
    refine z_icmp_ge C dX9_greatestLate_12 (tgt := 49) rfl it jf ?_ ?_
    · refine z_lsub [1] rfl ?_
      exact hexit u4_1
    · refine z_aload_n C dX9_greatestLate_15 rfl 0 rfl ?_
      refine X.conv bb ?_
      refine z_gfR C cf10 2 (by decide) rfl rfl dX9_greatestLate_16 kt211 (fun _ h => h) bd (fun r4 => ?_)
      refine z_iload_n C dX9_greatestLate_19 rfl 2 rfl ?_
      refine X.conv bb ?_
      refine z_rcv bd (fun b5 hbb5 htb5 => ?_)
      subst hbb5
      refine X.conv bb ?_
      refine z_callV C cf0 mf_Jx4a65c_get_915e3 kt265 kt266 kt264 (k_al_get (gL Γ) b5 u4_2 w4 (gK Γ)) htb5 rfl ⟨Nat.le_of_ble_eq_true rfl, Nat.le_of_ble_eq_true rfl⟩ (rest := []) rfl (Nat.le_of_ble_eq_true rfl) dX9_greatestLate_20 (bdR) (contR fun r6 => ?_)
      refine X.conv bb ?_
      refine z_cst C cf8 dX9_greatestLate_23 kt402 bd (fun r7 => ?_)
      refine z_astore_n (L' := [(3, vR r7), (0, vR (some p4_0)), (1, vI u4_1), (2, vI u4_2)]) C dX9_greatestLate_26 rfl (by decide) rfl ?_
      refine z_aload_n C dX9_greatestLate_27 rfl 0 rfl ?_
      refine X.conv bb ?_
      refine z_rcv bd (fun b8 hbb8 htb8 => ?_)
      subst hbb8
      refine X.conv bb ?_
      refine z_callV C cf8 mf_X7_runs kt662 kt663 kt677 (k_X7_runs (gL Γ) b8 w4 (gK Γ)) htb8 rfl ⟨Nat.le_of_ble_eq_true rfl, Nat.le_of_ble_eq_true rfl⟩ (rest := []) rfl (Nat.le_of_ble_eq_true rfl) dX9_greatestLate_28 (bdI) (contI fun x9 => ?_)
      refine X.conv bi ?_
      refine z_if_eq C dX9_greatestLate_31 (tgt := 43) rfl it jf ?_ ?_
      · refine z_iinc (L' := [(2, vI (u4_2 + 1)), (3, vR (some b8)), (0, vR (some p4_0)), (1, vI u4_1)]) C dX9_greatestLate_43 3 rfl (v := u4_2 + 1) rfl (by decide) rfl ?_
        refine z_goto C dX9_greatestLate_46 (tgt := 4) rfl ?_
        refine z_lsub [2, 3, 0] rfl ?_
        exact ih u4_1 (u4_2 + 1)
      · refine z_iload_n C dX9_greatestLate_34 rfl 2 rfl ?_
        refine z_aload_n C dX9_greatestLate_35 rfl 0 rfl ?_
        refine X.conv bb ?_
        refine z_rcv bd (fun b10 hbb10 htb10 => ?_)
        have heb10 := Option.some.inj hbb10
        subst heb10
        refine X.conv bb ?_
        refine z_callV C cf8 mf_X7_late kt658 kt659 kt678 (k_X7_late (gL Γ) b8 w4 (gK Γ)) htb10 rfl ⟨Nat.le_of_ble_eq_true rfl, Nat.le_of_ble_eq_true rfl⟩ (rest := [vI u4_1]) rfl (Nat.le_of_ble_eq_true rfl) dX9_greatestLate_36 (bdI) (contI fun x11 => ?_)
        refine z_mmax C kt765 kw_mmax_s kw_math kw_mmax_c dX9_greatestLate_39 (by decide) (Nat.le_of_ble_eq_true rfl) ?_
        refine z_istore_n (L' := [(1, vI (if u4_1 < x11 then x11 else u4_1)), (3, vR (some b8)), (0, vR (some p4_0)), (2, vI u4_2)]) C dX9_greatestLate_42 rfl (by decide) rfl ?_
        refine z_iinc (L' := [(2, vI (u4_2 + 1)), (1, vI (if u4_1 < x11 then x11 else u4_1)), (3, vR (some b8)), (0, vR (some p4_0))]) C dX9_greatestLate_43 3 rfl (v := u4_2 + 1) rfl (by decide) rfl ?_
        refine z_goto C dX9_greatestLate_46 (tgt := 4) rfl ?_
        refine z_lsub [3, 1, 0] rfl ?_
        exact ih (if u4_1 < x11 then x11 else u4_1) (u4_2 + 1)
theorem k_X9_greatestLate (l : Launch) (b : Nat) (g : HP) : MM l Pi2 yX9_greatestLate cX9_greatestLate 4 (some .int) 3 64 [vR (some b)] g (wI g (f_X9_greatestLate b g)) := by
  refine MM_of PO_Pi2 mf_X9_greatestLate (fun a ha => wI_same a ha) (Nat.le_of_ble_eq_true rfl) ?_
  intro Γ fin hfin hl hin C0 Z0
  subst hl
  obtain ⟨v0, hv, rfl⟩ := wI_some hfin
  have C : CX Γ cX9_greatestLate 4 "Blockduty" Pi2 ok2 3 64 := C0
  have Z : RX Γ Pi2 (some .int) (some (vI v0), g) := Z0
  refine X.conv (fun _ => hv) ?_
  unfold f_X9_greatestLate
  show X Γ 0 [(0, vR (some b))] [] g _
  refine z_iconst C dX9_greatestLate_0 (v := 0) (by decide) ?_
  refine z_istore_n (L' := [(1, vI 0), (0, vR (some b))]) C dX9_greatestLate_1 rfl (by decide) rfl ?_
  refine z_iconst C dX9_greatestLate_2 (v := 0) (by decide) ?_
  refine z_istore_n (L' := [(2, vI 0), (1, vI 0), (0, vR (some b))]) C dX9_greatestLate_3 rfl (by decide) rfl ?_
  refine z_lsub [2, 1, 0] rfl ?_
  refine k_X9_greatestLate_L4 C b g (fun q12 => ?_) FU 0 0
  refine z_iload_n C dX9_greatestLate_49 rfl 0 rfl ?_
  exact z_iret C Z rfl dX9_greatestLate_50 (fun h => by cases h; rfl)
theorem k_X9_driversArePaid_L4 {Γ : GG} {β : Type} {fin0 : β} {F0 : Int32 → Option β} (C : CX Γ cX9_driversArePaid 3 "Blockduty" Pi2 ok2 6 131) (p4_0 : Nat) (w4 : HP) (hexit : ∀ q4 : Int32, X Γ 38 [(1, vI q4)] [] w4 (F0 q4 = some fin0)) : ∀ (m4 : Nat) (u4_1 : Int32) (u4_2 : Int32), X Γ 4 [(0, vR (some p4_0)), (1, vI u4_1), (2, vI u4_2)] [] w4 ((f_X9_driversArePaid_L4 p4_0 w4 m4 u4_1 u4_2).bind F0 = some fin0) := by
  intro m4
  induction m4 with
  | zero =>
    intro u4_1 u4_2
    exact X.no no1
  | succ m4 ih =>
    intro u4_1 u4_2
    unfold f_X9_driversArePaid_L4
    refine z_iload_n C dX9_driversArePaid_4 rfl 2 rfl ?_
    refine z_aload_n C dX9_driversArePaid_5 rfl 0 rfl ?_
    refine X.conv bb ?_
    refine z_gfR C cf10 5 (by decide) rfl rfl dX9_driversArePaid_6 kt214 (fun _ h => h) bd (fun r1 => ?_)
    refine X.conv bb ?_
    refine z_rcv bd (fun b2 hbb2 htb2 => ?_)
    subst hbb2
    refine X.conv bb ?_
    refine z_callV C cf0 mf_Jx4a65c_size_8abf5 kt261 kt262 kt260 (k_al_size (gL Γ) b2 w4 (gK Γ)) htb2 rfl ⟨Nat.le_of_ble_eq_true rfl, Nat.le_of_ble_eq_true rfl⟩ (rest := [vI u4_2]) rfl (Nat.le_of_ble_eq_true rfl) dX9_driversArePaid_9 (bdI) (contI fun x3 => ?_)
    refine X.conv bi ?_
    refine z_icmp_ge C dX9_driversArePaid_12 (tgt := 38) rfl it jf ?_ ?_
    · refine z_lsub [1] rfl ?_
      exact hexit u4_1
    · refine z_iload_n C dX9_driversArePaid_15 rfl 1 rfl ?_
      refine z_aload_n C dX9_driversArePaid_16 rfl 0 rfl ?_
      refine X.conv bb ?_
      refine z_gfR C cf10 5 (by decide) rfl rfl dX9_driversArePaid_17 kt214 (fun _ h => h) bd (fun r4 => ?_)
      refine z_iload_n C dX9_driversArePaid_20 rfl 2 rfl ?_
      refine X.conv bb ?_
      refine z_rcv bd (fun b5 hbb5 htb5 => ?_)
      subst hbb5
      refine X.conv bb ?_
      refine z_callV C cf0 mf_Jx4a65c_get_915e3 kt265 kt266 kt264 (k_al_get (gL Γ) b5 u4_2 w4 (gK Γ)) htb5 rfl ⟨Nat.le_of_ble_eq_true rfl, Nat.le_of_ble_eq_true rfl⟩ (rest := [vI u4_1]) rfl (Nat.le_of_ble_eq_true rfl) dX9_driversArePaid_21 (bdR) (contR fun r6 => ?_)
      refine X.conv bb ?_
      refine z_cst C cf2 dX9_driversArePaid_24 kt488 bd (fun r7 => ?_)
      refine X.conv bb ?_
      refine z_rcv bd (fun b8 hbb8 htb8 => ?_)
      subst hbb8
      refine X.conv bb ?_
      refine z_callV C cf2 mf_X1_pay kt731 kt732 kt730 (k_X1_pay (gL Γ) b8 w4 (gK Γ)) htb8 rfl ⟨Nat.le_of_ble_eq_true rfl, Nat.le_of_ble_eq_true rfl⟩ (rest := [vI u4_1]) rfl (Nat.le_of_ble_eq_true rfl) dX9_driversArePaid_27 (bdI) (contI fun x9 => ?_)
      refine z_iadd C dX9_driversArePaid_30 ?_
      refine z_istore_n (L' := [(1, vI (u4_1 + x9)), (0, vR (some p4_0)), (2, vI u4_2)]) C dX9_driversArePaid_31 rfl (by decide) rfl ?_
      refine z_iinc (L' := [(2, vI (u4_2 + 1)), (1, vI (u4_1 + x9)), (0, vR (some p4_0))]) C dX9_driversArePaid_32 2 rfl (v := u4_2 + 1) rfl (by decide) rfl ?_
      refine z_goto C dX9_driversArePaid_35 (tgt := 4) rfl ?_
      refine z_lsub [2, 1, 0] rfl ?_
      exact ih (u4_1 + x9) (u4_2 + 1)
theorem k_X9_driversArePaid (l : Launch) (b : Nat) (g : HP) : MM l Pi2 yX9_driversArePaid cX9_driversArePaid 3 (some .int) 6 131 [vR (some b)] g (wI g (f_X9_driversArePaid b g)) := by
  refine MM_of PO_Pi2 mf_X9_driversArePaid (fun a ha => wI_same a ha) (Nat.le_of_ble_eq_true rfl) ?_
  intro Γ fin hfin hl hin C0 Z0
  subst hl
  obtain ⟨v0, hv, rfl⟩ := wI_some hfin
  have C : CX Γ cX9_driversArePaid 3 "Blockduty" Pi2 ok2 6 131 := C0
  have Z : RX Γ Pi2 (some .int) (some (vI v0), g) := Z0
  refine X.conv (fun _ => hv) ?_
  unfold f_X9_driversArePaid
  show X Γ 0 [(0, vR (some b))] [] g _
  refine z_iconst C dX9_driversArePaid_0 (v := 0) (by decide) ?_
  refine z_istore_n (L' := [(1, vI 0), (0, vR (some b))]) C dX9_driversArePaid_1 rfl (by decide) rfl ?_
  refine z_iconst C dX9_driversArePaid_2 (v := 0) (by decide) ?_
  refine z_istore_n (L' := [(2, vI 0), (1, vI 0), (0, vR (some b))]) C dX9_driversArePaid_3 rfl (by decide) rfl ?_
  refine z_lsub [2, 1, 0] rfl ?_
  refine k_X9_driversArePaid_L4 C b g (fun q10 => ?_) FU 0 0
  refine z_iload_n C dX9_driversArePaid_38 rfl 0 rfl ?_
  exact z_iret C Z rfl dX9_driversArePaid_39 (fun h => by cases h; rfl)
theorem k_X9_countOfCause_L4 {Γ : GG} {β : Type} {fin0 : β} {F0 : Int32 → Option β} (C : CX Γ cX9_countOfCause 4 "Blockduty" Pi2 ok2 3 64) (p4_0 : Nat) (p4_1 : Int32) (w4 : HP) (hexit : ∀ q4 : Int32, X Γ 42 [(2, vI q4)] [] w4 (F0 q4 = some fin0)) : ∀ (m4 : Nat) (u4_2 : Int32) (u4_3 : Int32), X Γ 4 [(0, vR (some p4_0)), (1, vI p4_1), (2, vI u4_2), (3, vI u4_3)] [] w4 ((f_X9_countOfCause_L4 p4_0 p4_1 w4 m4 u4_2 u4_3).bind F0 = some fin0) := by
  intro m4
  induction m4 with
  | zero =>
    intro u4_2 u4_3
    exact X.no no1
  | succ m4 ih =>
    intro u4_2 u4_3
    unfold f_X9_countOfCause_L4
    refine z_iload_n C dX9_countOfCause_4 rfl 3 rfl ?_
    refine z_aload_n C dX9_countOfCause_5 rfl 0 rfl ?_
    refine X.conv bb ?_
    refine z_gfR C cf10 2 (by decide) rfl rfl dX9_countOfCause_6 kt211 (fun _ h => h) bd (fun r1 => ?_)
    refine X.conv bb ?_
    refine z_rcv bd (fun b2 hbb2 htb2 => ?_)
    subst hbb2
    refine X.conv bb ?_
    refine z_callV C cf0 mf_Jx4a65c_size_8abf5 kt261 kt262 kt260 (k_al_size (gL Γ) b2 w4 (gK Γ)) htb2 rfl ⟨Nat.le_of_ble_eq_true rfl, Nat.le_of_ble_eq_true rfl⟩ (rest := [vI u4_3]) rfl (Nat.le_of_ble_eq_true rfl) dX9_countOfCause_9 (bdI) (contI fun x3 => ?_)
    refine X.conv bi ?_
    refine z_icmp_ge C dX9_countOfCause_12 (tgt := 42) rfl it jf ?_ ?_
    · refine z_lsub [2] rfl ?_
      exact hexit u4_2
    · refine z_aload_n C dX9_countOfCause_15 rfl 0 rfl ?_
      refine X.conv bb ?_
      refine z_gfR C cf10 2 (by decide) rfl rfl dX9_countOfCause_16 kt211 (fun _ h => h) bd (fun r4 => ?_)
      refine z_iload_n C dX9_countOfCause_19 rfl 3 rfl ?_
      refine X.conv bb ?_
      refine z_rcv bd (fun b5 hbb5 htb5 => ?_)
      subst hbb5
      refine X.conv bb ?_
      refine z_callV C cf0 mf_Jx4a65c_get_915e3 kt265 kt266 kt264 (k_al_get (gL Γ) b5 u4_3 w4 (gK Γ)) htb5 rfl ⟨Nat.le_of_ble_eq_true rfl, Nat.le_of_ble_eq_true rfl⟩ (rest := []) rfl (Nat.le_of_ble_eq_true rfl) dX9_countOfCause_20 (bdR) (contR fun r6 => ?_)
      refine X.conv bb ?_
      refine z_cst C cf8 dX9_countOfCause_23 kt402 bd (fun r7 => ?_)
      refine X.conv bb ?_
      refine z_gfI C cf8 9 (by decide) rfl rfl dX9_countOfCause_26 kt439 (fun _ h => h) bd (fun x8 => ?_)
      refine z_iload_n C dX9_countOfCause_29 rfl 1 rfl ?_
      refine X.conv bi ?_
      refine z_icmp_ne C dX9_countOfCause_30 (tgt := 36) rfl it jf ?_ ?_
      · refine z_iinc (L' := [(2, vI (u4_2 + 1)), (0, vR (some p4_0)), (1, vI p4_1), (3, vI u4_3)]) C dX9_countOfCause_33 2 rfl (v := u4_2 + 1) rfl (by decide) rfl ?_
        refine z_iinc (L' := [(3, vI (u4_3 + 1)), (2, vI (u4_2 + 1)), (0, vR (some p4_0)), (1, vI p4_1)]) C dX9_countOfCause_36 3 rfl (v := u4_3 + 1) rfl (by decide) rfl ?_
        refine z_goto C dX9_countOfCause_39 (tgt := 4) rfl ?_
        refine z_lsub [2, 3, 1, 0] rfl ?_
        exact ih (u4_2 + 1) (u4_3 + 1)
      · refine z_iinc (L' := [(3, vI (u4_3 + 1)), (0, vR (some p4_0)), (1, vI p4_1), (2, vI u4_2)]) C dX9_countOfCause_36 3 rfl (v := u4_3 + 1) rfl (by decide) rfl ?_
        refine z_goto C dX9_countOfCause_39 (tgt := 4) rfl ?_
        refine z_lsub [1, 2, 3, 0] rfl ?_
        exact ih u4_2 (u4_3 + 1)
theorem k_X9_countOfCause (l : Launch) (b : Nat) (s1 : Int32) (g : HP) : MM l Pi2 yX9_countOfCause cX9_countOfCause 4 (some .int) 3 64 [vR (some b), vI s1] g (wI g (f_X9_countOfCause b s1 g)) := by
  refine MM_of PO_Pi2 mf_X9_countOfCause (fun a ha => wI_same a ha) (Nat.le_of_ble_eq_true rfl) ?_
  intro Γ fin hfin hl hin C0 Z0
  subst hl
  obtain ⟨v0, hv, rfl⟩ := wI_some hfin
  have C : CX Γ cX9_countOfCause 4 "Blockduty" Pi2 ok2 3 64 := C0
  have Z : RX Γ Pi2 (some .int) (some (vI v0), g) := Z0
  refine X.conv (fun _ => hv) ?_
  unfold f_X9_countOfCause
  show X Γ 0 [(0, vR (some b)), (1, vI s1)] [] g _
  refine z_iconst C dX9_countOfCause_0 (v := 0) (by decide) ?_
  refine z_istore_n (L' := [(2, vI 0), (0, vR (some b)), (1, vI s1)]) C dX9_countOfCause_1 rfl (by decide) rfl ?_
  refine z_iconst C dX9_countOfCause_2 (v := 0) (by decide) ?_
  refine z_istore_n (L' := [(3, vI 0), (2, vI 0), (0, vR (some b)), (1, vI s1)]) C dX9_countOfCause_3 rfl (by decide) rfl ?_
  refine z_lsub [2, 3, 1, 0] rfl ?_
  refine k_X9_countOfCause_L4 C b s1 g (fun q9 => ?_) FU 0 0
  refine z_iload_n C dX9_countOfCause_42 rfl 0 rfl ?_
  exact z_iret C Z rfl dX9_countOfCause_43 (fun h => by cases h; rfl)
theorem k_X9_many (l : Launch) (b : Nat) (s1 : Int32) (g : HP) : MM l Pi2 yX9_many cX9_many 2 (some .int) 7 153 [vR (some b), vI s1] g (wIg (f_X9_many b s1 g)) := by
  refine MM_of PO_Pi2 mf_X9_many (fun a ha => wIg_mono (f_X9_many_mono b s1 g) a ha) (Nat.le_of_ble_eq_true rfl) ?_
  intro Γ fin hfin hl hin C0 Z0
  subst hl
  obtain ⟨v0, hv, rfl⟩ := wIg_some hfin
  have C : CX Γ cX9_many 2 "Blockduty" Pi2 ok2 7 153 := C0
  have Z : RX Γ Pi2 (some .int) (some (vI v0.1), v0.2) := Z0
  refine X.conv (fun _ => hv) ?_
  unfold f_X9_many
  show X Γ 0 [(0, vR (some b)), (1, vI s1)] [] g _
  refine z_iload_n C dX9_many_0 rfl 1 rfl ?_
  refine z_iconst C dX9_many_1 (v := 0) (by decide) ?_
  refine z_bipush C dX9_many_2 (v := 8) (by decide) ?_
  refine z_callS C rfl mf_X9_isOutside kt347 kt346 (k_X9_isOutside (gL Γ) s1 0 8 g (gK Γ)) rfl ⟨Nat.le_of_ble_eq_true rfl, Nat.le_of_ble_eq_true rfl⟩ (rest := []) rfl (Nat.le_of_ble_eq_true rfl) dX9_many_4 (bdI) (contI fun x1 => ?_)
  refine z_if_eq C dX9_many_7 (tgt := 21) rfl it jf ?_ ?_
  · refine z_aload_n C dX9_many_21 rfl 0 rfl ?_
    refine z_rcv bd (fun b2 hbb2 htb2 => ?_)
    have heb2 := Option.some.inj hbb2
    subst heb2
    refine z_callV C cf10 mf_X9_runDay kt638 (gtbl_priv (j := 14) rfl rfl) kt636 (k_X9_runDay (gL Γ) b g (gK Γ)) htb2 rfl ⟨Nat.le_of_ble_eq_true rfl, Nat.le_of_ble_eq_true rfl⟩ (rest := []) rfl (Nat.le_of_ble_eq_true rfl) dX9_many_22 (bdVg) (contVg fun g3 => ?_)
    refine z_iload_n C dX9_many_25 rfl 1 rfl ?_
    refine X.cs (c := s1 = 0) it jf (fun hc0 => ?_) (fun hc0 => ?_)
    · refine z_tin C 0 dX9_many_26 hc0 (by decide) (by decide) rfl (tgt := 72) rfl ?_
      refine z_aload_n C dX9_many_72 rfl 0 rfl ?_
      refine z_gfR C cf10 2 (by decide) rfl rfl dX9_many_73 kt211 (fun _ h => h) bd (fun r4 => ?_)
      refine z_rcv bd (fun b5 hbb5 htb5 => ?_)
      subst hbb5
      refine z_callV C cf0 mf_Jx4a65c_size_8abf5 kt261 kt262 kt260 (k_al_size (gL Γ) b5 g3 (gK Γ)) htb5 rfl ⟨Nat.le_of_ble_eq_true rfl, Nat.le_of_ble_eq_true rfl⟩ (rest := []) rfl (Nat.le_of_ble_eq_true rfl) dX9_many_76 (bdI) (contI fun x6 => ?_)
      exact z_iret C Z rfl dX9_many_79 (fun h => by cases h; rfl)
    · refine X.cs (c := s1 = 1) it jf (fun hc1 => ?_) (fun hc1 => ?_)
      · refine z_tin C 1 dX9_many_26 hc1 (by decide) (by decide) rfl (tgt := 80) rfl ?_
        refine z_aload_n C dX9_many_80 rfl 0 rfl ?_
        refine z_gfR C cf10 4 (by decide) rfl rfl dX9_many_81 kt213 (fun _ h => h) bd (fun r7 => ?_)
        refine z_rcv bd (fun b8 hbb8 htb8 => ?_)
        subst hbb8
        refine z_callV C cf0 mf_Jx4a65c_size_8abf5 kt261 kt262 kt260 (k_al_size (gL Γ) b8 g3 (gK Γ)) htb8 rfl ⟨Nat.le_of_ble_eq_true rfl, Nat.le_of_ble_eq_true rfl⟩ (rest := []) rfl (Nat.le_of_ble_eq_true rfl) dX9_many_84 (bdI) (contI fun x9 => ?_)
        exact z_iret C Z rfl dX9_many_87 (fun h => by cases h; rfl)
      · refine X.cs (c := s1 = 2) it jf (fun hc2 => ?_) (fun hc2 => ?_)
        · refine z_tin C 2 dX9_many_26 hc2 (by decide) (by decide) rfl (tgt := 88) rfl ?_
          refine z_aload_n C dX9_many_88 rfl 0 rfl ?_
          refine z_gfR C cf10 5 (by decide) rfl rfl dX9_many_89 kt214 (fun _ h => h) bd (fun r10 => ?_)
          refine z_rcv bd (fun b11 hbb11 htb11 => ?_)
          subst hbb11
          refine z_callV C cf0 mf_Jx4a65c_size_8abf5 kt261 kt262 kt260 (k_al_size (gL Γ) b11 g3 (gK Γ)) htb11 rfl ⟨Nat.le_of_ble_eq_true rfl, Nat.le_of_ble_eq_true rfl⟩ (rest := []) rfl (Nat.le_of_ble_eq_true rfl) dX9_many_92 (bdI) (contI fun x12 => ?_)
          exact z_iret C Z rfl dX9_many_95 (fun h => by cases h; rfl)
        · refine X.cs (c := s1 = 3) it jf (fun hc3 => ?_) (fun hc3 => ?_)
          · refine z_tin C 3 dX9_many_26 hc3 (by decide) (by decide) rfl (tgt := 96) rfl ?_
            refine z_aload_n C dX9_many_96 rfl 0 rfl ?_
            refine z_iconst C dX9_many_97 (v := 1) (by decide) ?_
            refine z_rcv bd (fun b13 hbb13 htb13 => ?_)
            have heb13 := Option.some.inj hbb13
            subst heb13
            refine z_callV C cf10 mf_X9_countOfCause kt742 (gtbl_priv (j := 16) rfl rfl) kt740 (k_X9_countOfCause (gL Γ) b 1 g3 (gK Γ)) htb13 rfl ⟨Nat.le_of_ble_eq_true rfl, Nat.le_of_ble_eq_true rfl⟩ (rest := []) rfl (Nat.le_of_ble_eq_true rfl) dX9_many_98 (bdI) (contI fun x14 => ?_)
            exact z_iret C Z rfl dX9_many_101 (fun h => by cases h; rfl)
          · refine X.cs (c := s1 = 4) it jf (fun hc4 => ?_) (fun hc4 => ?_)
            · refine z_tin C 4 dX9_many_26 hc4 (by decide) (by decide) rfl (tgt := 102) rfl ?_
              refine z_aload_n C dX9_many_102 rfl 0 rfl ?_
              refine z_iconst C dX9_many_103 (v := 0) (by decide) ?_
              refine z_rcv bd (fun b15 hbb15 htb15 => ?_)
              have heb15 := Option.some.inj hbb15
              subst heb15
              refine z_callV C cf10 mf_X9_countOfCause kt742 (gtbl_priv (j := 16) rfl rfl) kt740 (k_X9_countOfCause (gL Γ) b 0 g3 (gK Γ)) htb15 rfl ⟨Nat.le_of_ble_eq_true rfl, Nat.le_of_ble_eq_true rfl⟩ (rest := []) rfl (Nat.le_of_ble_eq_true rfl) dX9_many_104 (bdI) (contI fun x16 => ?_)
              exact z_iret C Z rfl dX9_many_107 (fun h => by cases h; rfl)
            · refine X.cs (c := s1 = 5) it jf (fun hc5 => ?_) (fun hc5 => ?_)
              · refine z_tin C 5 dX9_many_26 hc5 (by decide) (by decide) rfl (tgt := 108) rfl ?_
                refine z_aload_n C dX9_many_108 rfl 0 rfl ?_
                refine z_rcv bd (fun b17 hbb17 htb17 => ?_)
                have heb17 := Option.some.inj hbb17
                subst heb17
                refine z_callV C cf10 mf_X9_countyPays kt746 (gtbl_priv (j := 17) rfl rfl) kt744 (k_X9_countyPays (gL Γ) b g3 (gK Γ)) htb17 rfl ⟨Nat.le_of_ble_eq_true rfl, Nat.le_of_ble_eq_true rfl⟩ (rest := []) rfl (Nat.le_of_ble_eq_true rfl) dX9_many_109 (bdI) (contI fun x18 => ?_)
                exact z_iret C Z rfl dX9_many_112 (fun h => by cases h; rfl)
              · refine X.cs (c := s1 = 6) it jf (fun hc6 => ?_) (fun hc6 => ?_)
                · refine z_tin C 6 dX9_many_26 hc6 (by decide) (by decide) rfl (tgt := 113) rfl ?_
                  refine z_aload_n C dX9_many_113 rfl 0 rfl ?_
                  refine z_rcv bd (fun b19 hbb19 htb19 => ?_)
                  have heb19 := Option.some.inj hbb19
                  subst heb19
                  refine z_callV C cf10 mf_X9_driversArePaid kt755 (gtbl_priv (j := 18) rfl rfl) kt753 (k_X9_driversArePaid (gL Γ) b g3 (gK Γ)) htb19 rfl ⟨Nat.le_of_ble_eq_true rfl, Nat.le_of_ble_eq_true rfl⟩ (rest := []) rfl (Nat.le_of_ble_eq_true rfl) dX9_many_114 (bdI) (contI fun x20 => ?_)
                  exact z_iret C Z rfl dX9_many_117 (fun h => by cases h; rfl)
                · refine X.cs (c := s1 = 7) it jf (fun hc7 => ?_) (fun hc7 => ?_)
                  · refine z_tin C 7 dX9_many_26 hc7 (by decide) (by decide) rfl (tgt := 118) rfl ?_
                    refine z_aload_n C dX9_many_118 rfl 0 rfl ?_
                    refine z_rcv bd (fun b21 hbb21 htb21 => ?_)
                    have heb21 := Option.some.inj hbb21
                    subst heb21
                    refine z_callV C cf10 mf_X9_allEmpty kt759 (gtbl_priv (j := 19) rfl rfl) kt757 (k_X9_allEmpty (gL Γ) b g3 (gK Γ)) htb21 rfl ⟨Nat.le_of_ble_eq_true rfl, Nat.le_of_ble_eq_true rfl⟩ (rest := []) rfl (Nat.le_of_ble_eq_true rfl) dX9_many_119 (bdI) (contI fun x22 => ?_)
                    exact z_iret C Z rfl dX9_many_122 (fun h => by cases h; rfl)
                  · refine z_tout C dX9_many_26 (tsw_out (hi := 7) (by decide) (fun k hk => by
                        rcases (show k = 0 ∨ k = 1 ∨ k = 2 ∨ k = 3 ∨ k = 4 ∨ k = 5 ∨ k = 6 ∨ k = 7 by omega) with rfl | rfl | rfl | rfl | rfl | rfl | rfl | rfl
                        · exact hc0
                        · exact hc1
                        · exact hc2
                        · exact hc3
                        · exact hc4
                        · exact hc5
                        · exact hc6
                        · exact hc7)) (tgt := 123) rfl ?_
                    refine z_aload_n C dX9_many_123 rfl 0 rfl ?_
                    refine z_rcv bd (fun b23 hbb23 htb23 => ?_)
                    have heb23 := Option.some.inj hbb23
                    subst heb23
                    refine z_callV C cf10 mf_X9_greatestLate kt763 (gtbl_priv (j := 20) rfl rfl) kt761 (k_X9_greatestLate (gL Γ) b g3 (gK Γ)) htb23 rfl ⟨Nat.le_of_ble_eq_true rfl, Nat.le_of_ble_eq_true rfl⟩ (rest := []) rfl (Nat.le_of_ble_eq_true rfl) dX9_many_124 (bdI) (contI fun x24 => ?_)
                    exact z_iret C Z rfl dX9_many_127 (fun h => by cases h; rfl)
  · exact X.no no0
theorem k_X9_lost (l : Launch) (b : Nat) (s1 : Int32) (g : HP) : MM l Pi2 yX9_lost cX9_lost 2 (some .int) 5 115 [vR (some b), vI s1] g (wIg (f_X9_lost b s1 g)) := by
  refine MM_of PO_Pi2 mf_X9_lost (fun a ha => wIg_mono (f_X9_lost_mono b s1 g) a ha) (Nat.le_of_ble_eq_true rfl) ?_
  intro Γ fin hfin hl hin C0 Z0
  subst hl
  obtain ⟨v0, hv, rfl⟩ := wIg_some hfin
  have C : CX Γ cX9_lost 2 "Blockduty" Pi2 ok2 5 115 := C0
  have Z : RX Γ Pi2 (some .int) (some (vI v0.1), v0.2) := Z0
  refine X.conv (fun _ => hv) ?_
  unfold f_X9_lost
  show X Γ 0 [(0, vR (some b)), (1, vI s1)] [] g _
  refine z_iload_n C dX9_lost_0 rfl 1 rfl ?_
  refine z_iconst C dX9_lost_1 (v := 1) (by decide) ?_
  refine z_bipush C dX9_lost_2 (v := 6) (by decide) ?_
  refine z_callS C rfl mf_X9_isOutside kt347 kt346 (k_X9_isOutside (gL Γ) s1 1 6 g (gK Γ)) rfl ⟨Nat.le_of_ble_eq_true rfl, Nat.le_of_ble_eq_true rfl⟩ (rest := []) rfl (Nat.le_of_ble_eq_true rfl) dX9_lost_4 (bdI) (contI fun x1 => ?_)
  refine z_if_eq C dX9_lost_7 (tgt := 21) rfl it jf ?_ ?_
  · refine z_aload_n C dX9_lost_21 rfl 0 rfl ?_
    refine z_rcv bd (fun b2 hbb2 htb2 => ?_)
    have heb2 := Option.some.inj hbb2
    subst heb2
    refine z_callV C cf10 mf_X9_runDay kt638 (gtbl_priv (j := 14) rfl rfl) kt636 (k_X9_runDay (gL Γ) b g (gK Γ)) htb2 rfl ⟨Nat.le_of_ble_eq_true rfl, Nat.le_of_ble_eq_true rfl⟩ (rest := []) rfl (Nat.le_of_ble_eq_true rfl) dX9_lost_22 (bdVg) (contVg fun g3 => ?_)
    refine z_aload_n C dX9_lost_25 rfl 0 rfl ?_
    refine z_iload_n C dX9_lost_26 rfl 1 rfl ?_
    refine z_rcv bd (fun b4 hbb4 htb4 => ?_)
    have heb4 := Option.some.inj hbb4
    subst heb4
    refine z_callV C cf10 mf_X9_countOfCause kt742 (gtbl_priv (j := 16) rfl rfl) kt740 (k_X9_countOfCause (gL Γ) b s1 g3 (gK Γ)) htb4 rfl ⟨Nat.le_of_ble_eq_true rfl, Nat.le_of_ble_eq_true rfl⟩ (rest := []) rfl (Nat.le_of_ble_eq_true rfl) dX9_lost_27 (bdI) (contI fun x5 => ?_)
    exact z_iret C Z rfl dX9_lost_30 (fun h => by cases h; rfl)
  · exact X.no no0
theorem k_X9_meanLate_L10 {Γ : GG} {β : Type} {fin0 : β} {F0 : (Int32 × Int32) → Option β} (C : CX Γ cX9_meanLate 5 "Blockduty" Pi2 ok2 5 115) (p10_0 : Nat) (w10 : HP) (hexit : ∀ q10 : (Int32 × Int32), X Γ 59 [(1, vI q10.1), (2, vI q10.2)] [] w10 (F0 q10 = some fin0)) : ∀ (m10 : Nat) (u10_1 : Int32) (u10_2 : Int32) (u10_3 : Int32), X Γ 10 [(0, vR (some p10_0)), (1, vI u10_1), (2, vI u10_2), (3, vI u10_3)] [] w10 ((f_X9_meanLate_L10 p10_0 w10 m10 u10_1 u10_2 u10_3).bind F0 = some fin0) := by
  intro m10
  induction m10 with
  | zero =>
    intro u10_1 u10_2 u10_3
    exact X.no no1
  | succ m10 ih =>
    intro u10_1 u10_2 u10_3
    unfold f_X9_meanLate_L10
    refine z_iload_n C dX9_meanLate_10 rfl 3 rfl ?_
    refine z_aload_n C dX9_meanLate_11 rfl 0 rfl ?_
    refine X.conv bb ?_
    refine z_gfR C cf10 2 (by decide) rfl rfl dX9_meanLate_12 kt211 (fun _ h => h) bd (fun r3 => ?_)
    refine X.conv bb ?_
    refine z_rcv bd (fun b4 hbb4 htb4 => ?_)
    subst hbb4
    refine X.conv bb ?_
    refine z_callV C cf0 mf_Jx4a65c_size_8abf5 kt261 kt262 kt260 (k_al_size (gL Γ) b4 w10 (gK Γ)) htb4 rfl ⟨Nat.le_of_ble_eq_true rfl, Nat.le_of_ble_eq_true rfl⟩ (rest := [vI u10_3]) rfl (Nat.le_of_ble_eq_true rfl) dX9_meanLate_15 (bdI) (contI fun x5 => ?_)
    refine X.conv bi ?_
    refine z_icmp_ge C dX9_meanLate_18 (tgt := 59) rfl it jf ?_ ?_
    · refine z_lsub [1, 2] rfl ?_
      exact hexit (u10_1, u10_2)
    · refine z_aload_n C dX9_meanLate_21 rfl 0 rfl ?_
      refine X.conv bb ?_
      refine z_gfR C cf10 2 (by decide) rfl rfl dX9_meanLate_22 kt211 (fun _ h => h) bd (fun r6 => ?_)
      refine z_iload_n C dX9_meanLate_25 rfl 3 rfl ?_
      refine X.conv bb ?_
      refine z_rcv bd (fun b7 hbb7 htb7 => ?_)
      subst hbb7
      refine X.conv bb ?_
      refine z_callV C cf0 mf_Jx4a65c_get_915e3 kt265 kt266 kt264 (k_al_get (gL Γ) b7 u10_3 w10 (gK Γ)) htb7 rfl ⟨Nat.le_of_ble_eq_true rfl, Nat.le_of_ble_eq_true rfl⟩ (rest := []) rfl (Nat.le_of_ble_eq_true rfl) dX9_meanLate_26 (bdR) (contR fun r8 => ?_)
      refine X.conv bb ?_
      refine z_cst C cf8 dX9_meanLate_29 kt402 bd (fun r9 => ?_)
      refine z_astore (L' := [(4, vR r9), (0, vR (some p10_0)), (1, vI u10_1), (2, vI u10_2), (3, vI u10_3)]) C dX9_meanLate_32 (by decide) rfl ?_
      refine z_aload C dX9_meanLate_34 0 rfl ?_
      refine X.conv bb ?_
      refine z_rcv bd (fun b10 hbb10 htb10 => ?_)
      subst hbb10
      refine X.conv bb ?_
      refine z_callV C cf8 mf_X7_runs kt662 kt663 kt677 (k_X7_runs (gL Γ) b10 w10 (gK Γ)) htb10 rfl ⟨Nat.le_of_ble_eq_true rfl, Nat.le_of_ble_eq_true rfl⟩ (rest := []) rfl (Nat.le_of_ble_eq_true rfl) dX9_meanLate_36 (bdI) (contI fun x11 => ?_)
      refine X.conv bi ?_
      refine z_if_eq C dX9_meanLate_39 (tgt := 53) rfl it jf ?_ ?_
      · refine z_iinc (L' := [(3, vI (u10_3 + 1)), (4, vR (some b10)), (0, vR (some p10_0)), (1, vI u10_1), (2, vI u10_2)]) C dX9_meanLate_53 4 rfl (v := u10_3 + 1) rfl (by decide) rfl ?_
        refine z_goto C dX9_meanLate_56 (tgt := 10) rfl ?_
        refine z_lsub [2, 3, 4, 0] rfl ?_
        exact ih u10_1 u10_2 (u10_3 + 1)
      · refine z_iinc (L' := [(1, vI (u10_1 + 1)), (4, vR (some b10)), (0, vR (some p10_0)), (2, vI u10_2), (3, vI u10_3)]) C dX9_meanLate_42 2 rfl (v := u10_1 + 1) rfl (by decide) rfl ?_
        refine z_iload_n C dX9_meanLate_45 rfl 3 rfl ?_
        refine z_aload C dX9_meanLate_46 1 rfl ?_
        refine X.conv bb ?_
        refine z_rcv bd (fun b12 hbb12 htb12 => ?_)
        have heb12 := Option.some.inj hbb12
        subst heb12
        refine X.conv bb ?_
        refine z_callV C cf8 mf_X7_late kt658 kt659 kt678 (k_X7_late (gL Γ) b10 w10 (gK Γ)) htb12 rfl ⟨Nat.le_of_ble_eq_true rfl, Nat.le_of_ble_eq_true rfl⟩ (rest := [vI u10_2]) rfl (Nat.le_of_ble_eq_true rfl) dX9_meanLate_48 (bdI) (contI fun x13 => ?_)
        refine z_iadd C dX9_meanLate_51 ?_
        refine z_istore_n (L' := [(2, vI (u10_2 + x13)), (1, vI (u10_1 + 1)), (4, vR (some b10)), (0, vR (some p10_0)), (3, vI u10_3)]) C dX9_meanLate_52 rfl (by decide) rfl ?_
        refine z_iinc (L' := [(3, vI (u10_3 + 1)), (2, vI (u10_2 + x13)), (1, vI (u10_1 + 1)), (4, vR (some b10)), (0, vR (some p10_0))]) C dX9_meanLate_53 4 rfl (v := u10_3 + 1) rfl (by decide) rfl ?_
        refine z_goto C dX9_meanLate_56 (tgt := 10) rfl ?_
        refine z_lsub [4, 2, 1, 0] rfl ?_
        exact ih (u10_1 + 1) (u10_2 + x13) (u10_3 + 1)
theorem k_X9_meanLate (l : Launch) (b : Nat) (g : HP) : MM l Pi2 yX9_meanLate cX9_meanLate 5 (some .double) 5 115 [vR (some b)] g (wDg (f_X9_meanLate b g)) := by
  refine MM_of PO_Pi2 mf_X9_meanLate (fun a ha => wDg_mono (f_X9_meanLate_mono b g) a ha) (Nat.le_of_ble_eq_true rfl) ?_
  intro Γ fin hfin hl hin C0 Z0
  subst hl
  obtain ⟨v0, hv, rfl⟩ := wDg_some hfin
  have C : CX Γ cX9_meanLate 5 "Blockduty" Pi2 ok2 5 115 := C0
  have Z : RX Γ Pi2 (some .double) (some (vD v0.1), v0.2) := Z0
  refine X.conv (fun _ => hv) ?_
  unfold f_X9_meanLate
  show X Γ 0 [(0, vR (some b))] [] g _
  refine z_aload_n C dX9_meanLate_0 rfl 0 rfl ?_
  refine z_rcv bd (fun b1 hbb1 htb1 => ?_)
  have heb1 := Option.some.inj hbb1
  subst heb1
  refine z_callV C cf10 mf_X9_runDay kt638 (gtbl_priv (j := 14) rfl rfl) kt636 (k_X9_runDay (gL Γ) b g (gK Γ)) htb1 rfl ⟨Nat.le_of_ble_eq_true rfl, Nat.le_of_ble_eq_true rfl⟩ (rest := []) rfl (Nat.le_of_ble_eq_true rfl) dX9_meanLate_1 (bdVg) (contVg fun g2 => ?_)
  refine z_iconst C dX9_meanLate_4 (v := 0) (by decide) ?_
  refine z_istore_n (L' := [(1, vI 0), (0, vR (some b))]) C dX9_meanLate_5 rfl (by decide) rfl ?_
  refine z_iconst C dX9_meanLate_6 (v := 0) (by decide) ?_
  refine z_istore_n (L' := [(2, vI 0), (1, vI 0), (0, vR (some b))]) C dX9_meanLate_7 rfl (by decide) rfl ?_
  refine z_iconst C dX9_meanLate_8 (v := 0) (by decide) ?_
  refine z_istore_n (L' := [(3, vI 0), (2, vI 0), (1, vI 0), (0, vR (some b))]) C dX9_meanLate_9 rfl (by decide) rfl ?_
  refine z_lsub [3, 2, 1, 0] rfl ?_
  refine k_X9_meanLate_L10 C b g2 (fun q14 => ?_) FU 0 0 0
  refine z_iload_n C dX9_meanLate_59 rfl 0 rfl ?_
  refine z_if_ne C dX9_meanLate_60 (tgt := 67) rfl it jf ?_ ?_
  · refine z_dconst0 C dX9_meanLate_63 ?_
    refine z_goto C dX9_meanLate_64 (tgt := 72) rfl ?_
    exact z_dret C Z rfl dX9_meanLate_72 (fun h => by cases h; rfl)
  · refine z_iload_n C dX9_meanLate_67 rfl 1 rfl ?_
    refine z_i2d C dX9_meanLate_68 ?_
    refine z_iload_n C dX9_meanLate_69 rfl 0 rfl ?_
    refine z_i2d C dX9_meanLate_70 ?_
    refine z_ddivk C dX9_meanLate_71 bd (fun d15 => ?_)
    exact z_dret C Z rfl dX9_meanLate_72 (fun h => by cases h; rfl)
theorem k_X9_leastBlocks (l : Launch) (b : Nat) (g : HP) : MM l Pi2 yX9_leastBlocks cX9_leastBlocks 1 (some .int) 25 655 [vR (some b)] g (wIg (f_X9_leastBlocks b g)) := by
  refine MM_of PO_Pi2 mf_X9_leastBlocks (fun a ha => wIg_mono (f_X9_leastBlocks_mono b g) a ha) (Nat.le_of_ble_eq_true rfl) ?_
  intro Γ fin hfin hl hin C0 Z0
  subst hl
  obtain ⟨v0, hv, rfl⟩ := wIg_some hfin
  have C : CX Γ cX9_leastBlocks 1 "Blockduty" Pi2 ok2 25 655 := C0
  have Z : RX Γ Pi2 (some .int) (some (vI v0.1), v0.2) := Z0
  refine X.conv (fun _ => hv) ?_
  unfold f_X9_leastBlocks
  show X Γ 0 [(0, vR (some b))] [] g _
  refine z_aload_n C dX9_leastBlocks_0 rfl 0 rfl ?_
  refine z_gfR C cf10 2 (by decide) rfl rfl dX9_leastBlocks_1 kt211 (fun _ h => h) bd (fun r1 => ?_)
  refine z_rcv bd (fun b2 hbb2 htb2 => ?_)
  subst hbb2
  refine z_callV C cf0 mf_Jx4a65c_size_8abf5 kt261 kt262 kt260 (k_al_size (gL Γ) b2 g (gK Γ)) htb2 rfl ⟨Nat.le_of_ble_eq_true rfl, Nat.le_of_ble_eq_true rfl⟩ (rest := []) rfl (Nat.le_of_ble_eq_true rfl) dX9_leastBlocks_4 (bdI) (contI fun x3 => ?_)
  refine z_aload_n C dX9_leastBlocks_7 rfl 0 rfl ?_
  refine z_gfR C cf10 13 (by decide) rfl rfl dX9_leastBlocks_8 kt222 (fun _ h => h) bd (fun r4 => ?_)
  refine z_aload_n C dX9_leastBlocks_11 rfl 0 rfl ?_
  refine z_gfR C cf10 2 (by decide) rfl rfl dX9_leastBlocks_12 kt211 (fun _ h => h) bd (fun r5 => ?_)
  refine z_rcv bd (fun b6 hbb6 htb6 => ?_)
  subst hbb6
  refine z_callV C cf3 mf_X2_mostPairs kt775 kt776 kt774 (k_X2_mostPairs (gL Γ) b6 r5 g (gK Γ)) htb6 rfl ⟨Nat.le_of_ble_eq_true rfl, Nat.le_of_ble_eq_true rfl⟩ (rest := [vI x3]) rfl (Nat.le_of_ble_eq_true rfl) dX9_leastBlocks_15 (bdIg) (contIg fun v7 => ?_)
  refine z_isub C dX9_leastBlocks_18 ?_
  exact z_iret C Z rfl dX9_leastBlocks_19 (fun h => by cases h; rfl)
theorem k_X9_wouldLose (l : Launch) (b : Nat) (s1 : Int32) (s2 : Int32) (g : HP) : MM l Pi2 yX9_wouldLose cX9_wouldLose 4 (some .int) 5 113 [vR (some b), vI s1, vI s2] g (wIg (f_X9_wouldLose b s1 s2 g)) := by
  refine MM_of PO_Pi2 mf_X9_wouldLose (fun a ha => wIg_mono (f_X9_wouldLose_mono b s1 s2 g) a ha) (Nat.le_of_ble_eq_true rfl) ?_
  intro Γ fin hfin hl hin C0 Z0
  subst hl
  obtain ⟨v0, hv, rfl⟩ := wIg_some hfin
  have C : CX Γ cX9_wouldLose 4 "Blockduty" Pi2 ok2 5 113 := C0
  have Z : RX Γ Pi2 (some .int) (some (vI v0.1), v0.2) := Z0
  refine X.conv (fun _ => hv) ?_
  unfold f_X9_wouldLose
  show X Γ 0 [(0, vR (some b)), (1, vI s1), (2, vI s2)] [] g _
  refine z_aload_n C dX9_wouldLose_0 rfl 0 rfl ?_
  refine z_iload_n C dX9_wouldLose_1 rfl 1 rfl ?_
  refine z_rcv bd (fun b1 hbb1 htb1 => ?_)
  have heb1 := Option.some.inj hbb1
  subst heb1
  refine z_callV C cf10 mf_X9_blockNumbered kt558 (gtbl_priv (j := 9) rfl rfl) kt556 (k_X9_blockNumbered (gL Γ) b s1 g (gK Γ)) htb1 rfl ⟨Nat.le_of_ble_eq_true rfl, Nat.le_of_ble_eq_true rfl⟩ (rest := []) rfl (Nat.le_of_ble_eq_true rfl) dX9_wouldLose_2 (bdR) (contR fun r2 => ?_)
  refine z_astore_n (L' := [(3, vR r2), (0, vR (some b)), (1, vI s1), (2, vI s2)]) C dX9_wouldLose_5 rfl (by decide) rfl ?_
  refine z_aload_n C dX9_wouldLose_6 rfl 0 rfl ?_
  refine z_ifnonnull C dX9_wouldLose_7 (tgt := 20) rfl it jf ?_ ?_
  · exact X.no no0
  · refine z_iload_n C dX9_wouldLose_20 rfl 3 rfl ?_
    refine z_iconst C dX9_wouldLose_21 (v := 0) (by decide) ?_
    refine z_sipush C dX9_wouldLose_22 (v := 1600) (by decide) ?_
    refine z_callS C rfl mf_X9_isOutside kt347 kt346 (k_X9_isOutside (gL Γ) s2 0 1600 g (gK Γ)) rfl ⟨Nat.le_of_ble_eq_true rfl, Nat.le_of_ble_eq_true rfl⟩ (rest := []) rfl (Nat.le_of_ble_eq_true rfl) dX9_wouldLose_25 (bdI) (contI fun x3 => ?_)
    refine z_if_eq C dX9_wouldLose_28 (tgt := 42) rfl it jf ?_ ?_
    · refine z_aload_n C dX9_wouldLose_42 rfl 0 rfl ?_
      refine z_iload_n C dX9_wouldLose_43 rfl 3 rfl ?_
      refine z_null C dX9_wouldLose_44 ?_
      refine z_iconst C dX9_wouldLose_45 (v := 0) (by decide) ?_
      refine z_rcv bd (fun b4 hbb4 htb4 => ?_)
      subst hbb4
      refine z_callV C cf1 mf_X0_lostIf kt641 kt642 kt640 (k_X0_lostIf (gL Γ) b4 s2 none 0 g (gK Γ)) htb4 rfl ⟨Nat.le_of_ble_eq_true rfl, Nat.le_of_ble_eq_true rfl⟩ (rest := []) rfl (Nat.le_of_ble_eq_true rfl) dX9_wouldLose_46 (bdIg) (contIg fun v5 => ?_)
      refine z_aload_n C dX9_wouldLose_49 rfl 0 rfl ?_
      refine z_rcv bd (fun b6 hbb6 htb6 => ?_)
      have heb6 := Option.some.inj hbb6
      subst heb6
      refine z_callV C cf1 mf_X0_lostNow kt700 kt701 kt699 (k_X0_lostNow (gL Γ) b4 v5.2 (gK Γ)) htb6 rfl ⟨Nat.le_of_ble_eq_true rfl, Nat.le_of_ble_eq_true rfl⟩ (rest := [vI v5.1]) rfl (Nat.le_of_ble_eq_true rfl) dX9_wouldLose_50 (bdIg) (contIg fun v7 => ?_)
      refine z_isub C dX9_wouldLose_53 ?_
      exact z_iret C Z rfl dX9_wouldLose_54 (fun h => by cases h; rfl)
    · exact X.no no0
theorem k_X9_mayDelay_L53 {Γ : GG} {v0 : (Int32 × HP)} (C : CX Γ cX9_mayDelay 7 "Blockduty" Pi2 ok2 4 93) (p53_2 : Option Nat) (p53_3 : Nat) (p53_4 : Int32) (p53_5 : Int32) (Z : RX Γ Pi2 (some .int) (some (vI v0.1), v0.2)) : ∀ (m53 : Nat) (u53_6 : Int32) (w53 : HP), X Γ 53 [(2, vR p53_2), (3, vR (some p53_3)), (4, vI p53_4), (5, vI p53_5), (6, vI u53_6)] [] w53 (f_X9_mayDelay_L53 p53_2 p53_3 p53_4 p53_5 m53 u53_6 w53 = some v0) := by
  intro m53
  induction m53 with
  | zero =>
    intro u53_6 w53
    exact X.no no0
  | succ m53 ih =>
    intro u53_6 w53
    unfold f_X9_mayDelay_L53
    refine z_iload C dX9_mayDelay_53 4 rfl ?_
    refine z_if_le C dX9_mayDelay_55 (tgt := 81) rfl it jf ?_ ?_
    · refine z_iconst C dX9_mayDelay_81 (v := 0) (by decide) ?_
      exact z_iret C Z rfl dX9_mayDelay_82 (fun h => by cases h; rfl)
    · refine z_aload_n C dX9_mayDelay_58 rfl 1 rfl ?_
      refine z_iload C dX9_mayDelay_59 2 rfl ?_
      refine z_aload_n C dX9_mayDelay_61 rfl 0 rfl ?_
      refine z_iload C dX9_mayDelay_62 4 rfl ?_
      refine z_rcv bd (fun b7 hbb7 htb7 => ?_)
      have heb7 := Option.some.inj hbb7
      subst heb7
      refine z_callV C cf1 mf_X0_lostIf kt641 kt642 kt640 (k_X0_lostIf (gL Γ) p53_3 p53_4 p53_2 u53_6 w53 (gK Γ)) htb7 rfl ⟨Nat.le_of_ble_eq_true rfl, Nat.le_of_ble_eq_true rfl⟩ (rest := []) rfl (Nat.le_of_ble_eq_true rfl) dX9_mayDelay_64 (bdIg) (contIg fun v8 => ?_)
      refine z_iload C dX9_mayDelay_67 3 rfl ?_
      refine z_icmp_gt C dX9_mayDelay_69 (tgt := 75) rfl it jf ?_ ?_
      · refine z_iinc (L' := [(6, vI (u53_6 + (-1))), (2, vR p53_2), (3, vR (some p53_3)), (4, vI p53_4), (5, vI p53_5)]) C dX9_mayDelay_75 4 rfl (v := u53_6 + (-1)) rfl (by decide) rfl ?_
        refine z_goto C dX9_mayDelay_78 (tgt := 53) rfl ?_
        refine z_lsub [1, 2, 3, 4, 0] rfl ?_
        exact ih (u53_6 + (-1)) v8.2
      · refine z_iload C dX9_mayDelay_72 4 rfl ?_
        exact z_iret C Z rfl dX9_mayDelay_74 (fun h => by cases h; rfl)
theorem k_X9_mayDelay (l : Launch) (b : Nat) (s1 : Int32) (g : HP) : MM l Pi2 yX9_mayDelay cX9_mayDelay 7 (some .int) 4 93 [vR (some b), vI s1] g (wIg (f_X9_mayDelay b s1 g)) := by
  refine MM_of PO_Pi2 mf_X9_mayDelay (fun a ha => wIg_mono (f_X9_mayDelay_mono b s1 g) a ha) (Nat.le_of_ble_eq_true rfl) ?_
  intro Γ fin hfin hl hin C0 Z0
  subst hl
  obtain ⟨v0, hv, rfl⟩ := wIg_some hfin
  have C : CX Γ cX9_mayDelay 7 "Blockduty" Pi2 ok2 4 93 := C0
  have Z : RX Γ Pi2 (some .int) (some (vI v0.1), v0.2) := Z0
  refine X.conv (fun _ => hv) ?_
  unfold f_X9_mayDelay
  show X Γ 0 [(0, vR (some b)), (1, vI s1)] [] g _
  refine z_aload_n C dX9_mayDelay_0 rfl 0 rfl ?_
  refine z_iload_n C dX9_mayDelay_1 rfl 1 rfl ?_
  refine z_rcv bd (fun b1 hbb1 htb1 => ?_)
  have heb1 := Option.some.inj hbb1
  subst heb1
  refine z_callV C cf10 mf_X9_tripNumbered kt618 (gtbl_priv (j := 12) rfl rfl) kt616 (k_X9_tripNumbered (gL Γ) b s1 g (gK Γ)) htb1 rfl ⟨Nat.le_of_ble_eq_true rfl, Nat.le_of_ble_eq_true rfl⟩ (rest := []) rfl (Nat.le_of_ble_eq_true rfl) dX9_mayDelay_2 (bdR) (contR fun r2 => ?_)
  refine z_astore_n (L' := [(2, vR r2), (0, vR (some b)), (1, vI s1)]) C dX9_mayDelay_5 rfl (by decide) rfl ?_
  refine z_aload_n C dX9_mayDelay_6 rfl 0 rfl ?_
  refine z_ifnonnull C dX9_mayDelay_7 (tgt := 21) rfl it jf ?_ ?_
  · exact X.no no0
  · refine z_aload_n C dX9_mayDelay_21 rfl 0 rfl ?_
    refine z_gfR C cf8 7 (by decide) rfl rfl dX9_mayDelay_22 kt433 (fun _ h => h) bd (fun r3 => ?_)
    refine z_astore_n (L' := [(3, vR r3), (2, vR r2), (0, vR (some b)), (1, vI s1)]) C dX9_mayDelay_25 rfl (by decide) rfl ?_
    refine z_aload_n C dX9_mayDelay_26 rfl 0 rfl ?_
    refine z_ifnonnull C dX9_mayDelay_27 (tgt := 33) rfl it jf ?_ ?_
    · refine z_bipush C dX9_mayDelay_30 (v := 120) (by decide) ?_
      exact z_iret C Z rfl dX9_mayDelay_32 (fun h => by cases h; rfl)
    · refine z_aload_n C dX9_mayDelay_33 rfl 0 rfl ?_
      refine z_gfI C cf1 2 (by decide) rfl rfl dX9_mayDelay_34 kt536 (fun _ h => h) bd (fun x4 => ?_)
      refine z_istore (L' := [(4, vI x4), (3, vR r3), (2, vR r2), (0, vR (some b)), (1, vI s1)]) C dX9_mayDelay_37 (by decide) rfl ?_
      refine z_aload_n C dX9_mayDelay_39 rfl 1 rfl ?_
      refine z_iload C dX9_mayDelay_40 0 rfl ?_
      refine z_aload_n C dX9_mayDelay_42 rfl 2 rfl ?_
      refine z_iconst C dX9_mayDelay_43 (v := 0) (by decide) ?_
      refine z_rcv bd (fun b5 hbb5 htb5 => ?_)
      subst hbb5
      refine z_callV C cf1 mf_X0_lostIf kt641 kt642 kt640 (k_X0_lostIf (gL Γ) b5 x4 r2 0 g (gK Γ)) htb5 rfl ⟨Nat.le_of_ble_eq_true rfl, Nat.le_of_ble_eq_true rfl⟩ (rest := []) rfl (Nat.le_of_ble_eq_true rfl) dX9_mayDelay_44 (bdIg) (contIg fun v6 => ?_)
      refine z_istore (L' := [(5, vI v6.1), (4, vI x4), (3, vR (some b5)), (2, vR r2), (0, vR (some b)), (1, vI s1)]) C dX9_mayDelay_47 (by decide) rfl ?_
      refine z_bipush C dX9_mayDelay_49 (v := 120) (by decide) ?_
      refine z_istore (L' := [(6, vI 120), (5, vI v6.1), (4, vI x4), (3, vR (some b5)), (2, vR r2), (0, vR (some b)), (1, vI s1)]) C dX9_mayDelay_51 (by decide) rfl ?_
      refine z_lsub [4, 3, 2, 1, 0] rfl ?_
      exact k_X9_mayDelay_L53 C r2 b5 x4 v6.1 Z FU 120 v6.2
theorem k_X9_emptyOfSwap (l : Launch) (b : Nat) (s1 : Option Nat) (s2 : Int32) (s3 : Option Nat) (s4 : Int32) (g : HP) : MM l Pi2 yX9_emptyOfSwap cX9_emptyOfSwap 5 (some .int) 10 263 [vR (some b), vR s1, vI s2, vR s3, vI s4] g (wIg (f_X9_emptyOfSwap b s1 s2 s3 s4 g)) := by
  refine MM_of PO_Pi2 mf_X9_emptyOfSwap (fun a ha => wIg_mono (f_X9_emptyOfSwap_mono b s1 s2 s3 s4 g) a ha) (Nat.le_of_ble_eq_true rfl) ?_
  intro Γ fin hfin hl hin C0 Z0
  subst hl
  obtain ⟨v0, hv, rfl⟩ := wIg_some hfin
  have C : CX Γ cX9_emptyOfSwap 5 "Blockduty" Pi2 ok2 10 263 := C0
  have Z : RX Γ Pi2 (some .int) (some (vI v0.1), v0.2) := Z0
  refine X.conv (fun _ => hv) ?_
  unfold f_X9_emptyOfSwap
  show X Γ 0 [(0, vR (some b)), (1, vR s1), (2, vI s2), (3, vR s3), (4, vI s4)] [] g _
  refine z_aload_n C dX9_emptyOfSwap_0 rfl 1 rfl ?_
  refine z_gfR C cf1 3 (by decide) rfl rfl dX9_emptyOfSwap_1 kt538 (fun _ h => h) bd (fun r1 => ?_)
  refine z_iload_n C dX9_emptyOfSwap_4 rfl 2 rfl ?_
  refine z_aload_n C dX9_emptyOfSwap_5 rfl 3 rfl ?_
  refine z_gfR C cf1 3 (by decide) rfl rfl dX9_emptyOfSwap_6 kt538 (fun _ h => h) bd (fun r2 => ?_)
  refine z_iload C dX9_emptyOfSwap_9 4 rfl ?_
  refine z_callS C rfl mf_X9_canSwap kt860 kt859 (k_X9_canSwap (gL Γ) r1 s2 r2 s4 g (gK Γ)) rfl ⟨Nat.le_of_ble_eq_true rfl, Nat.le_of_ble_eq_true rfl⟩ (rest := []) rfl (Nat.le_of_ble_eq_true rfl) dX9_emptyOfSwap_11 (bdI) (contI fun x3 => ?_)
  refine z_if_ne C dX9_emptyOfSwap_14 (tgt := 19) rfl it jf ?_ ?_
  · refine z_iconst C dX9_emptyOfSwap_17 (v := (-1)) (by decide) ?_
    exact z_iret C Z rfl dX9_emptyOfSwap_18 (fun h => by cases h; rfl)
  · refine z_aload_n C dX9_emptyOfSwap_19 rfl 0 rfl ?_
    refine z_aload_n C dX9_emptyOfSwap_20 rfl 1 rfl ?_
    refine z_gfR C cf1 3 (by decide) rfl rfl dX9_emptyOfSwap_21 kt538 (fun _ h => h) bd (fun r4 => ?_)
    refine z_iload_n C dX9_emptyOfSwap_24 rfl 2 rfl ?_
    refine z_aload_n C dX9_emptyOfSwap_25 rfl 3 rfl ?_
    refine z_gfR C cf1 3 (by decide) rfl rfl dX9_emptyOfSwap_26 kt538 (fun _ h => h) bd (fun r5 => ?_)
    refine z_iload C dX9_emptyOfSwap_29 4 rfl ?_
    refine z_rcv bd (fun b6 hbb6 htb6 => ?_)
    have heb6 := Option.some.inj hbb6
    subst heb6
    refine z_callV C cf10 mf_X9_trySwap kt869 (gtbl_priv (j := 26) rfl rfl) kt867 (k_X9_trySwap (gL Γ) b r4 s2 r5 s4 g (gK Γ)) htb6 rfl ⟨Nat.le_of_ble_eq_true rfl, Nat.le_of_ble_eq_true rfl⟩ (rest := []) rfl (Nat.le_of_ble_eq_true rfl) dX9_emptyOfSwap_31 (bdVg) (contVg fun g7 => ?_)
    refine z_aload_n C dX9_emptyOfSwap_34 rfl 0 rfl ?_
    refine z_aload_n C dX9_emptyOfSwap_35 rfl 0 rfl ?_
    refine z_gfR C cf10 10 (by decide) rfl rfl dX9_emptyOfSwap_36 kt219 (fun _ h => h) bd (fun r8 => ?_)
    refine z_aload_n C dX9_emptyOfSwap_39 rfl 1 rfl ?_
    refine z_gfI C cf1 1 (by decide) rfl rfl dX9_emptyOfSwap_40 kt534 (fun _ h => h) bd (fun x9 => ?_)
    refine z_rcv bd (fun b10 hbb10 htb10 => ?_)
    have heb10 := Option.some.inj hbb10
    subst heb10
    refine z_callV C cf10 mf_X9_isFlat kt686 (gtbl_priv (j := 15) rfl rfl) kt684 (k_X9_isFlat (gL Γ) b r8 x9 g7 (gK Γ)) htb10 rfl ⟨Nat.le_of_ble_eq_true rfl, Nat.le_of_ble_eq_true rfl⟩ (rest := []) rfl (Nat.le_of_ble_eq_true rfl) dX9_emptyOfSwap_43 (bdI) (contI fun x11 => ?_)
    refine z_if_ne C dX9_emptyOfSwap_46 (tgt := 64) rfl it jf ?_ ?_
    · refine z_aload_n C dX9_emptyOfSwap_49 rfl 0 rfl ?_
      refine z_aload_n C dX9_emptyOfSwap_50 rfl 0 rfl ?_
      refine z_gfR C cf10 11 (by decide) rfl rfl dX9_emptyOfSwap_51 kt220 (fun _ h => h) bd (fun r12 => ?_)
      refine z_aload_n C dX9_emptyOfSwap_54 rfl 3 rfl ?_
      refine z_gfI C cf1 1 (by decide) rfl rfl dX9_emptyOfSwap_55 kt534 (fun _ h => h) bd (fun x13 => ?_)
      refine z_rcv bd (fun b14 hbb14 htb14 => ?_)
      have heb14 := Option.some.inj hbb14
      subst heb14
      refine z_callV C cf10 mf_X9_isFlat kt686 (gtbl_priv (j := 15) rfl rfl) kt684 (k_X9_isFlat (gL Γ) b r12 x13 g7 (gK Γ)) htb14 rfl ⟨Nat.le_of_ble_eq_true rfl, Nat.le_of_ble_eq_true rfl⟩ (rest := []) rfl (Nat.le_of_ble_eq_true rfl) dX9_emptyOfSwap_58 (bdI) (contI fun x15 => ?_)
      refine z_if_eq C dX9_emptyOfSwap_61 (tgt := 66) rfl it jf ?_ ?_
      · refine z_aload_n C dX9_emptyOfSwap_66 rfl 0 rfl ?_
        refine z_gfR C cf10 10 (by decide) rfl rfl dX9_emptyOfSwap_67 kt219 (fun _ h => h) bd (fun r16 => ?_)
        refine z_aload_n C dX9_emptyOfSwap_70 rfl 0 rfl ?_
        refine z_gfR C cf10 6 (by decide) rfl rfl dX9_emptyOfSwap_71 kt215 (fun _ h => h) bd (fun r17 => ?_)
        refine z_rcv bd (fun b18 hbb18 htb18 => ?_)
        subst hbb18
        refine z_callV C cf7 mf_X6_empty kt696 kt697 kt695 (k_X6_empty (gL Γ) b18 r17 g7 (gK Γ)) htb18 rfl ⟨Nat.le_of_ble_eq_true rfl, Nat.le_of_ble_eq_true rfl⟩ (rest := []) rfl (Nat.le_of_ble_eq_true rfl) dX9_emptyOfSwap_74 (bdI) (contI fun x19 => ?_)
        refine z_aload_n C dX9_emptyOfSwap_77 rfl 0 rfl ?_
        refine z_gfR C cf10 11 (by decide) rfl rfl dX9_emptyOfSwap_78 kt220 (fun _ h => h) bd (fun r20 => ?_)
        refine z_aload_n C dX9_emptyOfSwap_81 rfl 0 rfl ?_
        refine z_gfR C cf10 6 (by decide) rfl rfl dX9_emptyOfSwap_82 kt215 (fun _ h => h) bd (fun r21 => ?_)
        refine z_rcv bd (fun b22 hbb22 htb22 => ?_)
        subst hbb22
        refine z_callV C cf7 mf_X6_empty kt696 kt697 kt695 (k_X6_empty (gL Γ) b22 r21 g7 (gK Γ)) htb22 rfl ⟨Nat.le_of_ble_eq_true rfl, Nat.le_of_ble_eq_true rfl⟩ (rest := [vI x19]) rfl (Nat.le_of_ble_eq_true rfl) dX9_emptyOfSwap_85 (bdI) (contI fun x23 => ?_)
        refine z_iadd C dX9_emptyOfSwap_88 ?_
        exact z_iret C Z rfl dX9_emptyOfSwap_89 (fun h => by cases h; rfl)
      · refine z_iconst C dX9_emptyOfSwap_64 (v := (-1)) (by decide) ?_
        exact z_iret C Z rfl dX9_emptyOfSwap_65 (fun h => by cases h; rfl)
    · refine z_iconst C dX9_emptyOfSwap_64 (v := (-1)) (by decide) ?_
      exact z_iret C Z rfl dX9_emptyOfSwap_65 (fun h => by cases h; rfl)
