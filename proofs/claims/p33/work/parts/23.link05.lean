theorem k_X9_build_L26 {Γ : GG} {β : Type} {fin0 : β} {F0 : (Int32 × HP) → Option β} (C : CX Γ cX9_build 5 "Blockduty" Pi2 ok2 12 308) (p26_0 : Nat) (p26_1 : Int32) (hexit : ∀ q26 : (Int32 × HP), X Γ 77 [(2, vI q26.1)] [] q26.2 (F0 q26 = some fin0)) : ∀ (m26 : Nat) (u26_2 : Int32) (u26_3 : Int32) (w26 : HP), X Γ 26 [(0, vR (some p26_0)), (1, vI p26_1), (2, vI u26_2), (3, vI u26_3)] [] w26 ((f_X9_build_L26 p26_0 p26_1 m26 u26_2 u26_3 w26).bind F0 = some fin0) := by
  intro m26
  induction m26 with
  | zero =>
    intro u26_2 u26_3 w26
    exact X.no no1
  | succ m26 ih =>
    intro u26_2 u26_3 w26
    unfold f_X9_build_L26
    refine z_iload_n C dX9_build_26 rfl 3 rfl ?_
    refine z_aload_n C dX9_build_27 rfl 0 rfl ?_
    refine X.conv bb ?_
    refine z_gfR C cf10 3 (by decide) rfl rfl dX9_build_28 kt212 (fun _ h => h) bd (fun r2 => ?_)
    refine X.conv bb ?_
    refine z_rcv bd (fun b3 hbb3 htb3 => ?_)
    subst hbb3
    refine X.conv bb ?_
    refine z_callV C cf0 mf_Jx4a65c_size_8abf5 kt261 kt262 kt260 (k_al_size (gL Γ) b3 w26 (gK Γ)) htb3 rfl ⟨Nat.le_of_ble_eq_true rfl, Nat.le_of_ble_eq_true rfl⟩ (rest := [vI u26_3]) rfl (Nat.le_of_ble_eq_true rfl) dX9_build_31 (bdI) (contI fun x4 => ?_)
    refine X.conv bi ?_
    refine z_icmp_ge C dX9_build_34 (tgt := 77) rfl it jf ?_ ?_
    · refine z_lsub [2] rfl ?_
      exact hexit (u26_2, w26)
    · refine z_aload_n C dX9_build_37 rfl 0 rfl ?_
      refine X.conv bb ?_
      refine z_gfR C cf10 3 (by decide) rfl rfl dX9_build_38 kt212 (fun _ h => h) bd (fun r5 => ?_)
      refine z_iload_n C dX9_build_41 rfl 3 rfl ?_
      refine X.conv bb ?_
      refine z_rcv bd (fun b6 hbb6 htb6 => ?_)
      subst hbb6
      refine X.conv bb ?_
      refine z_callV C cf0 mf_Jx4a65c_get_915e3 kt265 kt266 kt264 (k_al_get (gL Γ) b6 u26_3 w26 (gK Γ)) htb6 rfl ⟨Nat.le_of_ble_eq_true rfl, Nat.le_of_ble_eq_true rfl⟩ (rest := []) rfl (Nat.le_of_ble_eq_true rfl) dX9_build_42 (bdR) (contR fun r7 => ?_)
      refine X.conv bb ?_
      refine z_cst C cf8 dX9_build_45 kt402 bd (fun r8 => ?_)
      refine z_astore (L' := [(4, vR r8), (0, vR (some p26_0)), (1, vI p26_1), (2, vI u26_2), (3, vI u26_3)]) C dX9_build_48 (by decide) rfl ?_
      refine z_aload C dX9_build_50 0 rfl ?_
      refine X.conv bb ?_
      refine z_gfR C cf8 7 (by decide) rfl rfl dX9_build_52 kt433 (fun _ h => h) bd (fun r9 => ?_)
      refine X.conv bi ?_
      refine z_ifnonnull C dX9_build_55 (tgt := 71) rfl it jf ?_ ?_
      · refine z_aload_n C dX9_build_58 rfl 1 rfl ?_
        refine z_aload C dX9_build_59 0 rfl ?_
        refine z_iload_n C dX9_build_61 rfl 2 rfl ?_
        refine X.conv bb ?_
        refine z_rcv bd (fun b10 hbb10 htb10 => ?_)
        have heb10 := Option.some.inj hbb10
        subst heb10
        refine X.conv bb ?_
        refine z_callV C cf10 mf_X9_putIntoSomeBlock kt900 (gtbl_priv (j := 28) rfl rfl) kt898 (k_X9_putIntoSomeBlock (gL Γ) p26_0 r8 p26_1 w26 (gK Γ)) htb10 rfl ⟨Nat.le_of_ble_eq_true rfl, Nat.le_of_ble_eq_true rfl⟩ (rest := []) rfl (Nat.le_of_ble_eq_true rfl) dX9_build_62 (bdIg) (contIg fun v11 => ?_)
        refine X.conv bi ?_
        refine z_if_eq C dX9_build_65 (tgt := 71) rfl it jf ?_ ?_
        · refine z_iinc (L' := [(3, vI (u26_3 + 1)), (4, vR r8), (0, vR (some p26_0)), (1, vI p26_1), (2, vI u26_2)]) C dX9_build_71 4 rfl (v := u26_3 + 1) rfl (by decide) rfl ?_
          refine z_goto C dX9_build_74 (tgt := 26) rfl ?_
          refine z_lsub [2, 3, 4, 0] rfl ?_
          exact ih u26_2 (u26_3 + 1) v11.2
        · refine z_iinc (L' := [(2, vI (u26_2 + 1)), (4, vR r8), (0, vR (some p26_0)), (1, vI p26_1), (3, vI u26_3)]) C dX9_build_68 3 rfl (v := u26_2 + 1) rfl (by decide) rfl ?_
          refine z_iinc (L' := [(3, vI (u26_3 + 1)), (2, vI (u26_2 + 1)), (4, vR r8), (0, vR (some p26_0)), (1, vI p26_1)]) C dX9_build_71 4 rfl (v := u26_3 + 1) rfl (by decide) rfl ?_
          refine z_goto C dX9_build_74 (tgt := 26) rfl ?_
          refine z_lsub [3, 4, 1, 0] rfl ?_
          exact ih (u26_2 + 1) (u26_3 + 1) v11.2
      · refine z_iinc (L' := [(3, vI (u26_3 + 1)), (4, vR r8), (0, vR (some p26_0)), (1, vI p26_1), (2, vI u26_2)]) C dX9_build_71 4 rfl (v := u26_3 + 1) rfl (by decide) rfl ?_
        refine z_goto C dX9_build_74 (tgt := 26) rfl ?_
        refine z_lsub [2, 3, 4, 0] rfl ?_
        exact ih u26_2 (u26_3 + 1) w26
theorem k_X9_build (l : Launch) (b : Nat) (s1 : Int32) (g : HP) : MM l Pi2 yX9_build cX9_build 5 (some .int) 12 308 [vR (some b), vI s1] g (wIg (f_X9_build b s1 g)) := by
  refine MM_of PO_Pi2 mf_X9_build (fun a ha => wIg_mono (f_X9_build_mono b s1 g) a ha) (Nat.le_of_ble_eq_true rfl) ?_
  intro Γ fin hfin hl hin C0 Z0
  subst hl
  obtain ⟨v0, hv, rfl⟩ := wIg_some hfin
  have C : CX Γ cX9_build 5 "Blockduty" Pi2 ok2 12 308 := C0
  have Z : RX Γ Pi2 (some .int) (some (vI v0.1), v0.2) := Z0
  refine X.conv (fun _ => hv) ?_
  unfold f_X9_build
  show X Γ 0 [(0, vR (some b)), (1, vI s1)] [] g _
  refine z_iload_n C dX9_build_0 rfl 1 rfl ?_
  refine z_bipush C dX9_build_1 (v := 50) (by decide) ?_
  refine z_sipush C dX9_build_3 (v := 999) (by decide) ?_
  refine z_callS C rfl mf_X9_isOutside kt347 kt346 (k_X9_isOutside (gL Γ) s1 50 999 g (gK Γ)) rfl ⟨Nat.le_of_ble_eq_true rfl, Nat.le_of_ble_eq_true rfl⟩ (rest := []) rfl (Nat.le_of_ble_eq_true rfl) dX9_build_6 (bdI) (contI fun x1 => ?_)
  refine z_if_eq C dX9_build_9 (tgt := 22) rfl it jf ?_ ?_
  · refine z_iconst C dX9_build_22 (v := 0) (by decide) ?_
    refine z_istore_n (L' := [(2, vI 0), (0, vR (some b)), (1, vI s1)]) C dX9_build_23 rfl (by decide) rfl ?_
    refine z_iconst C dX9_build_24 (v := 0) (by decide) ?_
    refine z_istore_n (L' := [(3, vI 0), (2, vI 0), (0, vR (some b)), (1, vI s1)]) C dX9_build_25 rfl (by decide) rfl ?_
    refine z_lsub [2, 3, 1, 0] rfl ?_
    refine k_X9_build_L26 C b s1 (fun q12 => ?_) FU 0 0 g
    refine z_iload_n C dX9_build_77 rfl 0 rfl ?_
    exact z_iret C Z rfl dX9_build_78 (fun h => by cases h; rfl)
  · exact X.no no0
theorem k_X9_canJoin (l : Launch) (s1 : Option Nat) (s2 : Int32) (s3 : Option Nat) (s4 : Int32) (g : HP) : MM l Pi2 yX9_canJoin cX9_canJoin 6 (some .boolean) 4 85 [vR s1, vI s2, vR s3, vI s4] g (wI g (f_X9_canJoin s1 s2 s3 s4 g)) := by
  refine MM_of PO_Pi2 mf_X9_canJoin (fun a ha => wI_same a ha) (Nat.le_of_ble_eq_true rfl) ?_
  intro Γ fin hfin hl hin C0 Z0
  subst hl
  obtain ⟨v0, hv, rfl⟩ := wI_some hfin
  have C : CX Γ cX9_canJoin 6 "Blockduty" Pi2 ok2 4 85 := C0
  have Z : RX Γ Pi2 (some .boolean) (some (vI v0), g) := Z0
  refine X.conv (fun _ => hv) ?_
  unfold f_X9_canJoin
  show X Γ 0 [(0, vR s1), (1, vI s2), (2, vR s3), (3, vI s4)] [] g _
  refine z_aload_n C dX9_canJoin_0 rfl 0 rfl ?_
  refine z_iload_n C dX9_canJoin_1 rfl 1 rfl ?_
  refine z_iconst C dX9_canJoin_2 (v := 1) (by decide) ?_
  refine z_isub C dX9_canJoin_3 ?_
  refine z_rcv bd (fun b1 hbb1 htb1 => ?_)
  subst hbb1
  refine z_callV C cf7 mf_X6_get kt571 kt572 kt865 (k_X6_get (gL Γ) b1 (s2 - 1) g (gK Γ)) htb1 rfl ⟨Nat.le_of_ble_eq_true rfl, Nat.le_of_ble_eq_true rfl⟩ (rest := []) rfl (Nat.le_of_ble_eq_true rfl) dX9_canJoin_4 (bdR) (contR fun r2 => ?_)
  refine z_astore (L' := [(4, vR r2), (0, vR (some b1)), (1, vI s2), (2, vR s3), (3, vI s4)]) C dX9_canJoin_7 (by decide) rfl ?_
  refine z_aload_n C dX9_canJoin_9 rfl 3 rfl ?_
  refine z_iload_n C dX9_canJoin_10 rfl 4 rfl ?_
  refine z_rcv bd (fun b3 hbb3 htb3 => ?_)
  subst hbb3
  refine z_callV C cf7 mf_X6_get kt571 kt572 kt865 (k_X6_get (gL Γ) b3 s4 g (gK Γ)) htb3 rfl ⟨Nat.le_of_ble_eq_true rfl, Nat.le_of_ble_eq_true rfl⟩ (rest := []) rfl (Nat.le_of_ble_eq_true rfl) dX9_canJoin_11 (bdR) (contR fun r4 => ?_)
  refine z_astore (L' := [(5, vR r4), (4, vR r2), (0, vR (some b1)), (1, vI s2), (2, vR (some b3)), (3, vI s4)]) C dX9_canJoin_14 (by decide) rfl ?_
  refine z_aload C dX9_canJoin_16 1 rfl ?_
  refine z_ifnull C dX9_canJoin_18 (tgt := 36) rfl it jf ?_ ?_
  · refine z_iconst C dX9_canJoin_36 (v := 1) (by decide) ?_
    refine z_goto C dX9_canJoin_37 (tgt := 41) rfl ?_
    exact z_zret C Z rfl dX9_canJoin_41 (fun _ => Or.inr rfl) (fun h => by cases h; rfl)
  · refine z_aload C dX9_canJoin_21 0 rfl ?_
    refine z_ifnull C dX9_canJoin_23 (tgt := 36) rfl it jf ?_ ?_
    · refine z_iconst C dX9_canJoin_36 (v := 1) (by decide) ?_
      refine z_goto C dX9_canJoin_37 (tgt := 41) rfl ?_
      exact z_zret C Z rfl dX9_canJoin_41 (fun _ => Or.inr rfl) (fun h => by cases h; rfl)
    · refine z_aload C dX9_canJoin_26 0 rfl ?_
      refine z_aload C dX9_canJoin_28 1 rfl ?_
      refine z_rcv bd (fun b5 hbb5 htb5 => ?_)
      subst hbb5
      refine z_callV C cf8 mf_X7_canFollow kt786 kt787 kt866 (k_X7_canFollow (gL Γ) b5 r2 g (gK Γ)) htb5 rfl ⟨Nat.le_of_ble_eq_true rfl, Nat.le_of_ble_eq_true rfl⟩ (rest := []) rfl (Nat.le_of_ble_eq_true rfl) dX9_canJoin_30 (bdI) (contI fun x6 => ?_)
      refine z_if_eq C dX9_canJoin_33 (tgt := 40) rfl it jf ?_ ?_
      · refine z_iconst C dX9_canJoin_40 (v := 0) (by decide) ?_
        exact z_zret C Z rfl dX9_canJoin_41 (fun _ => Or.inl rfl) (fun h => by cases h; rfl)
      · refine z_iconst C dX9_canJoin_36 (v := 1) (by decide) ?_
        refine z_goto C dX9_canJoin_37 (tgt := 41) rfl ?_
        exact z_zret C Z rfl dX9_canJoin_41 (fun _ => Or.inr rfl) (fun h => by cases h; rfl)
theorem k_X9_canSwap (l : Launch) (s1 : Option Nat) (s2 : Int32) (s3 : Option Nat) (s4 : Int32) (g : HP) : MM l Pi2 yX9_canSwap cX9_canSwap 4 (some .boolean) 5 110 [vR s1, vI s2, vR s3, vI s4] g (wI g (f_X9_canSwap s1 s2 s3 s4 g)) := by
  refine MM_of PO_Pi2 mf_X9_canSwap (fun a ha => wI_same a ha) (Nat.le_of_ble_eq_true rfl) ?_
  intro Γ fin hfin hl hin C0 Z0
  subst hl
  obtain ⟨v0, hv, rfl⟩ := wI_some hfin
  have C : CX Γ cX9_canSwap 4 "Blockduty" Pi2 ok2 5 110 := C0
  have Z : RX Γ Pi2 (some .boolean) (some (vI v0), g) := Z0
  refine X.conv (fun _ => hv) ?_
  unfold f_X9_canSwap
  show X Γ 0 [(0, vR s1), (1, vI s2), (2, vR s3), (3, vI s4)] [] g _
  refine z_aload_n C dX9_canSwap_0 rfl 0 rfl ?_
  refine z_iload_n C dX9_canSwap_1 rfl 1 rfl ?_
  refine z_aload_n C dX9_canSwap_2 rfl 2 rfl ?_
  refine z_iload_n C dX9_canSwap_3 rfl 3 rfl ?_
  refine z_callS C rfl mf_X9_canJoin kt863 kt862 (k_X9_canJoin (gL Γ) s1 s2 s3 s4 g (gK Γ)) rfl ⟨Nat.le_of_ble_eq_true rfl, Nat.le_of_ble_eq_true rfl⟩ (rest := []) rfl (Nat.le_of_ble_eq_true rfl) dX9_canSwap_4 (bdI) (contI fun x1 => ?_)
  refine z_if_eq C dX9_canSwap_7 (tgt := 24) rfl it jf ?_ ?_
  · refine z_iconst C dX9_canSwap_24 (v := 0) (by decide) ?_
    exact z_zret C Z rfl dX9_canSwap_25 (fun _ => Or.inl rfl) (fun h => by cases h; rfl)
  · refine z_aload_n C dX9_canSwap_10 rfl 2 rfl ?_
    refine z_iload_n C dX9_canSwap_11 rfl 3 rfl ?_
    refine z_aload_n C dX9_canSwap_12 rfl 0 rfl ?_
    refine z_iload_n C dX9_canSwap_13 rfl 1 rfl ?_
    refine z_callS C rfl mf_X9_canJoin kt863 kt862 (k_X9_canJoin (gL Γ) s3 s4 s1 s2 g (gK Γ)) rfl ⟨Nat.le_of_ble_eq_true rfl, Nat.le_of_ble_eq_true rfl⟩ (rest := []) rfl (Nat.le_of_ble_eq_true rfl) dX9_canSwap_14 (bdI) (contI fun x2 => ?_)
    refine z_if_eq C dX9_canSwap_17 (tgt := 24) rfl it jf ?_ ?_
    · refine z_iconst C dX9_canSwap_24 (v := 0) (by decide) ?_
      exact z_zret C Z rfl dX9_canSwap_25 (fun _ => Or.inl rfl) (fun h => by cases h; rfl)
    · refine z_iconst C dX9_canSwap_20 (v := 1) (by decide) ?_
      refine z_goto C dX9_canSwap_21 (tgt := 25) rfl ?_
      exact z_zret C Z rfl dX9_canSwap_25 (fun _ => Or.inr rfl) (fun h => by cases h; rfl)
theorem k_X9_trySwap (l : Launch) (b : Nat) (s1 : Option Nat) (s2 : Int32) (s3 : Option Nat) (s4 : Int32) (g : HP) : MM l Pi2 yX9_trySwap cX9_trySwap 5 none 9 239 [vR (some b), vR s1, vI s2, vR s3, vI s4] g (wVg (f_X9_trySwap b s1 s2 s3 s4 g)) := by
  refine MM_of PO_Pi2 mf_X9_trySwap (fun a ha => wVg_mono (f_X9_trySwap_mono b s1 s2 s3 s4 g) a ha) (Nat.le_of_ble_eq_true rfl) ?_
  intro Γ fin hfin hl hin C0 Z0
  subst hl
  obtain ⟨v0, hv, rfl⟩ := wVg_some hfin
  have C : CX Γ cX9_trySwap 5 "Blockduty" Pi2 ok2 9 239 := C0
  have Z : RX Γ Pi2 none (none, v0) := Z0
  refine X.conv (fun _ => hv) ?_
  unfold f_X9_trySwap
  show X Γ 0 [(0, vR (some b)), (1, vR s1), (2, vI s2), (3, vR s3), (4, vI s4)] [] g _
  refine z_aload_n C dX9_trySwap_0 rfl 0 rfl ?_
  refine z_gfR C cf10 10 (by decide) rfl rfl dX9_trySwap_1 kt219 (fun _ h => h) bd (fun r1 => ?_)
  refine z_aload_n C dX9_trySwap_4 rfl 1 rfl ?_
  refine z_iload_n C dX9_trySwap_5 rfl 2 rfl ?_
  refine z_aload_n C dX9_trySwap_6 rfl 3 rfl ?_
  refine z_iload C dX9_trySwap_7 4 rfl ?_
  refine z_rcv bd (fun b2 hbb2 htb2 => ?_)
  subst hbb2
  refine z_callV C cf7 mf_X6_join kt872 kt873 kt871 (k_X6_join (gL Γ) b2 s1 s2 s3 s4 g (gK Γ)) htb2 rfl ⟨Nat.le_of_ble_eq_true rfl, Nat.le_of_ble_eq_true rfl⟩ (rest := []) rfl (Nat.le_of_ble_eq_true rfl) dX9_trySwap_9 (bdVg) (contVg fun g3 => ?_)
  refine z_aload_n C dX9_trySwap_12 rfl 0 rfl ?_
  refine z_gfR C cf10 11 (by decide) rfl rfl dX9_trySwap_13 kt220 (fun _ h => h) bd (fun r4 => ?_)
  refine z_aload_n C dX9_trySwap_16 rfl 3 rfl ?_
  refine z_iload C dX9_trySwap_17 4 rfl ?_
  refine z_aload_n C dX9_trySwap_19 rfl 1 rfl ?_
  refine z_iload_n C dX9_trySwap_20 rfl 2 rfl ?_
  refine z_rcv bd (fun b5 hbb5 htb5 => ?_)
  subst hbb5
  refine z_callV C cf7 mf_X6_join kt872 kt873 kt871 (k_X6_join (gL Γ) b5 s3 s4 s1 s2 g3 (gK Γ)) htb5 rfl ⟨Nat.le_of_ble_eq_true rfl, Nat.le_of_ble_eq_true rfl⟩ (rest := []) rfl (Nat.le_of_ble_eq_true rfl) dX9_trySwap_21 (bdVg) (contVg fun g6 => ?_)
  exact z_vret C Z rfl dX9_trySwap_24 (fun h => by cases h; rfl)
theorem k_X9_swap (l : Launch) (b : Nat) (s1 : Int32) (s2 : Int32) (s3 : Int32) (s4 : Int32) (g : HP) : MM l Pi2 yX9_swap cX9_swap 10 (some .int) 10 263 [vR (some b), vI s1, vI s2, vI s3, vI s4] g (wIg (f_X9_swap b s1 s2 s3 s4 g)) := by
  refine MM_of PO_Pi2 mf_X9_swap (fun a ha => wIg_mono (f_X9_swap_mono b s1 s2 s3 s4 g) a ha) (Nat.le_of_ble_eq_true rfl) ?_
  intro Γ fin hfin hl hin C0 Z0
  subst hl
  obtain ⟨v0, hv, rfl⟩ := wIg_some hfin
  have C : CX Γ cX9_swap 10 "Blockduty" Pi2 ok2 10 263 := C0
  have Z : RX Γ Pi2 (some .int) (some (vI v0.1), v0.2) := Z0
  refine X.conv (fun _ => hv) ?_
  unfold f_X9_swap
  show X Γ 0 [(0, vR (some b)), (1, vI s1), (2, vI s2), (3, vI s3), (4, vI s4)] [] g _
  refine z_aload_n C dX9_swap_0 rfl 0 rfl ?_
  refine z_iload_n C dX9_swap_1 rfl 1 rfl ?_
  refine z_rcv bd (fun b1 hbb1 htb1 => ?_)
  have heb1 := Option.some.inj hbb1
  subst heb1
  refine z_callV C cf10 mf_X9_blockNumbered kt558 (gtbl_priv (j := 9) rfl rfl) kt556 (k_X9_blockNumbered (gL Γ) b s1 g (gK Γ)) htb1 rfl ⟨Nat.le_of_ble_eq_true rfl, Nat.le_of_ble_eq_true rfl⟩ (rest := []) rfl (Nat.le_of_ble_eq_true rfl) dX9_swap_2 (bdR) (contR fun r2 => ?_)
  refine z_astore (L' := [(5, vR r2), (0, vR (some b)), (1, vI s1), (2, vI s2), (3, vI s3), (4, vI s4)]) C dX9_swap_5 (by decide) rfl ?_
  refine z_aload_n C dX9_swap_7 rfl 1 rfl ?_
  refine z_iload_n C dX9_swap_8 rfl 4 rfl ?_
  refine z_rcv bd (fun b3 hbb3 htb3 => ?_)
  have heb3 := Option.some.inj hbb3
  subst heb3
  refine z_callV C cf10 mf_X9_blockNumbered kt558 (gtbl_priv (j := 9) rfl rfl) kt556 (k_X9_blockNumbered (gL Γ) b s3 g (gK Γ)) htb3 rfl ⟨Nat.le_of_ble_eq_true rfl, Nat.le_of_ble_eq_true rfl⟩ (rest := []) rfl (Nat.le_of_ble_eq_true rfl) dX9_swap_9 (bdR) (contR fun r4 => ?_)
  refine z_astore (L' := [(6, vR r4), (5, vR r2), (0, vR (some b)), (1, vI s1), (2, vI s2), (3, vI s3), (4, vI s4)]) C dX9_swap_12 (by decide) rfl ?_
  refine z_aload C dX9_swap_14 1 rfl ?_
  refine z_ifnull C dX9_swap_16 (tgt := 24) rfl it jf ?_ ?_
  · exact X.no no0
  · refine z_aload C dX9_swap_19 0 rfl ?_
    refine z_ifnonnull C dX9_swap_21 (tgt := 34) rfl it jf ?_ ?_
    · exact X.no no0
    · refine z_aload C dX9_swap_34 1 rfl ?_
      refine z_gfR C cf1 3 (by decide) rfl rfl dX9_swap_36 kt538 (fun _ h => h) bd (fun r5 => ?_)
      refine z_astore (L' := [(7, vR r5), (6, vR r4), (5, vR r2), (0, vR (some b)), (1, vI s1), (2, vI s2), (3, vI s3), (4, vI s4)]) C dX9_swap_39 (by decide) rfl ?_
      refine z_aload C dX9_swap_41 1 rfl ?_
      refine z_gfR C cf1 3 (by decide) rfl rfl dX9_swap_43 kt538 (fun _ h => h) bd (fun r6 => ?_)
      refine z_astore (L' := [(8, vR r6), (7, vR r5), (6, vR r4), (5, vR r2), (0, vR (some b)), (1, vI s1), (2, vI s2), (3, vI s3), (4, vI s4)]) C dX9_swap_46 (by decide) rfl ?_
      refine z_iload_n C dX9_swap_48 rfl 5 rfl ?_
      refine z_iload_n C dX9_swap_49 rfl 7 rfl ?_
      refine z_icmp_eq C dX9_swap_50 (tgt := 80) rfl it jf ?_ ?_
      · exact X.no no0
      · refine z_iload_n C dX9_swap_53 rfl 6 rfl ?_
        refine z_iconst C dX9_swap_54 (v := 0) (by decide) ?_
        refine z_aload C dX9_swap_55 1 rfl ?_
        refine z_rcv bd (fun b7 hbb7 htb7 => ?_)
        subst hbb7
        refine z_callV C cf7 mf_X6_count kt606 kt607 kt683 (k_X6_count (gL Γ) b7 g (gK Γ)) htb7 rfl ⟨Nat.le_of_ble_eq_true rfl, Nat.le_of_ble_eq_true rfl⟩ (rest := [vI 0, vI s2]) rfl (Nat.le_of_ble_eq_true rfl) dX9_swap_57 (bdI) (contI fun x8 => ?_)
        refine z_callS C rfl mf_X9_isOutside kt347 kt346 (k_X9_isOutside (gL Γ) s2 0 x8 g (gK Γ)) rfl ⟨Nat.le_of_ble_eq_true rfl, Nat.le_of_ble_eq_true rfl⟩ (rest := []) rfl (Nat.le_of_ble_eq_true rfl) dX9_swap_60 (bdI) (contI fun x9 => ?_)
        refine z_if_ne C dX9_swap_63 (tgt := 80) rfl it jf ?_ ?_
        · refine z_iload C dX9_swap_66 8 rfl ?_
          refine z_iconst C dX9_swap_68 (v := 0) (by decide) ?_
          refine z_aload C dX9_swap_69 0 rfl ?_
          refine z_rcv bd (fun b10 hbb10 htb10 => ?_)
          subst hbb10
          refine z_callV C cf7 mf_X6_count kt606 kt607 kt683 (k_X6_count (gL Γ) b10 g (gK Γ)) htb10 rfl ⟨Nat.le_of_ble_eq_true rfl, Nat.le_of_ble_eq_true rfl⟩ (rest := [vI 0, vI s4]) rfl (Nat.le_of_ble_eq_true rfl) dX9_swap_71 (bdI) (contI fun x11 => ?_)
          refine z_callS C rfl mf_X9_isOutside kt347 kt346 (k_X9_isOutside (gL Γ) s4 0 x11 g (gK Γ)) rfl ⟨Nat.le_of_ble_eq_true rfl, Nat.le_of_ble_eq_true rfl⟩ (rest := []) rfl (Nat.le_of_ble_eq_true rfl) dX9_swap_74 (bdI) (contI fun x12 => ?_)
          refine z_if_eq C dX9_swap_77 (tgt := 90) rfl it jf ?_ ?_
          · refine z_aload C dX9_swap_90 1 rfl ?_
            refine z_iload_n C dX9_swap_92 rfl 6 rfl ?_
            refine z_aload C dX9_swap_93 0 rfl ?_
            refine z_iload C dX9_swap_95 8 rfl ?_
            refine z_callS C rfl mf_X9_canSwap kt860 kt859 (k_X9_canSwap (gL Γ) (some b7) s2 (some b10) s4 g (gK Γ)) rfl ⟨Nat.le_of_ble_eq_true rfl, Nat.le_of_ble_eq_true rfl⟩ (rest := []) rfl (Nat.le_of_ble_eq_true rfl) dX9_swap_97 (bdI) (contI fun x13 => ?_)
            refine z_if_ne C dX9_swap_100 (tgt := 113) rfl it jf ?_ ?_
            · exact X.no no0
            · refine z_aload C dX9_swap_113 1 rfl ?_
              refine z_rcv bd (fun b14 hbb14 htb14 => ?_)
              have heb14 := Option.some.inj hbb14
              subst heb14
              refine z_callV C cf7 mf_X6_count kt606 kt607 kt683 (k_X6_count (gL Γ) b7 g (gK Γ)) htb14 rfl ⟨Nat.le_of_ble_eq_true rfl, Nat.le_of_ble_eq_true rfl⟩ (rest := []) rfl (Nat.le_of_ble_eq_true rfl) dX9_swap_115 (bdI) (contI fun x15 => ?_)
              refine z_iload_n C dX9_swap_118 rfl 6 rfl ?_
              refine z_isub C dX9_swap_119 ?_
              refine z_aload C dX9_swap_120 0 rfl ?_
              refine z_rcv bd (fun b16 hbb16 htb16 => ?_)
              have heb16 := Option.some.inj hbb16
              subst heb16
              refine z_callV C cf7 mf_X6_count kt606 kt607 kt683 (k_X6_count (gL Γ) b10 g (gK Γ)) htb16 rfl ⟨Nat.le_of_ble_eq_true rfl, Nat.le_of_ble_eq_true rfl⟩ (rest := [vI (x15 - s2)]) rfl (Nat.le_of_ble_eq_true rfl) dX9_swap_122 (bdI) (contI fun x17 => ?_)
              refine z_iadd C dX9_swap_125 ?_
              refine z_iload C dX9_swap_126 8 rfl ?_
              refine z_isub C dX9_swap_128 ?_
              refine z_istore (L' := [(9, vI (((x15 - s2) + x17) - s4)), (8, vR (some b10)), (7, vR (some b7)), (6, vR r4), (5, vR r2), (0, vR (some b)), (1, vI s1), (2, vI s2), (3, vI s3), (4, vI s4)]) C dX9_swap_129 (by decide) rfl ?_
              refine z_aload_n C dX9_swap_131 rfl 5 rfl ?_
              refine z_aload C dX9_swap_132 2 rfl ?_
              refine z_iload_n C dX9_swap_134 rfl 7 rfl ?_
              refine z_aload C dX9_swap_135 1 rfl ?_
              refine z_iload C dX9_swap_137 9 rfl ?_
              refine z_rcv bd (fun b18 hbb18 htb18 => ?_)
              have heb18 := Option.some.inj hbb18
              subst heb18
              refine z_callV C cf10 mf_X9_trySwap kt869 (gtbl_priv (j := 26) rfl rfl) kt867 (k_X9_trySwap (gL Γ) b (some b7) s2 (some b10) s4 g (gK Γ)) htb18 rfl ⟨Nat.le_of_ble_eq_true rfl, Nat.le_of_ble_eq_true rfl⟩ (rest := []) rfl (Nat.le_of_ble_eq_true rfl) dX9_swap_139 (bdVg) (contVg fun g19 => ?_)
              refine z_aload C dX9_swap_142 4 rfl ?_
              refine z_aload_n C dX9_swap_144 rfl 5 rfl ?_
              refine z_gfR C cf10 10 (by decide) rfl rfl dX9_swap_145 kt219 (fun _ h => h) bd (fun r20 => ?_)
              refine z_rcv bd (fun b21 hbb21 htb21 => ?_)
              subst hbb21
              refine z_callV C cf1 mf_X0_takeOver kt957 kt958 kt956 (k_X0_takeOver (gL Γ) b21 r20 g19 (gK Γ)) htb21 rfl ⟨Nat.le_of_ble_eq_true rfl, Nat.le_of_ble_eq_true rfl⟩ (rest := []) rfl (Nat.le_of_ble_eq_true rfl) dX9_swap_148 (bdVg) (contVg fun g22 => ?_)
              refine z_aload C dX9_swap_151 3 rfl ?_
              refine z_aload_n C dX9_swap_153 rfl 5 rfl ?_
              refine z_gfR C cf10 11 (by decide) rfl rfl dX9_swap_154 kt220 (fun _ h => h) bd (fun r23 => ?_)
              refine z_rcv bd (fun b24 hbb24 htb24 => ?_)
              subst hbb24
              refine z_callV C cf1 mf_X0_takeOver kt957 kt958 kt956 (k_X0_takeOver (gL Γ) b24 r23 g22 (gK Γ)) htb24 rfl ⟨Nat.le_of_ble_eq_true rfl, Nat.le_of_ble_eq_true rfl⟩ (rest := []) rfl (Nat.le_of_ble_eq_true rfl) dX9_swap_157 (bdVg) (contVg fun g25 => ?_)
              refine z_iload C dX9_swap_160 0 rfl ?_
              exact z_iret C Z rfl dX9_swap_162 (fun h => by cases h; rfl)
          · exact X.no no0
        · exact X.no no0
theorem k_X9_cut (l : Launch) (b : Nat) (s1 : Int32) (g : HP) : MM l Pi2 yX9_cut cX9_cut 4 (some .int) 9 241 [vR (some b), vI s1] g (wIg (f_X9_cut b s1 g)) := by
  refine MM_of PO_Pi2 mf_X9_cut (fun a ha => wIg_mono (f_X9_cut_mono b s1 g) a ha) (Nat.le_of_ble_eq_true rfl) ?_
  intro Γ fin hfin hl hin C0 Z0
  subst hl
  obtain ⟨v0, hv, rfl⟩ := wIg_some hfin
  have C : CX Γ cX9_cut 4 "Blockduty" Pi2 ok2 9 241 := C0
  have Z : RX Γ Pi2 (some .int) (some (vI v0.1), v0.2) := Z0
  refine X.conv (fun _ => hv) ?_
  unfold f_X9_cut
  show X Γ 0 [(0, vR (some b)), (1, vI s1)] [] g _
  refine z_aload_n C dX9_cut_0 rfl 0 rfl ?_
  refine z_iload_n C dX9_cut_1 rfl 1 rfl ?_
  refine z_rcv bd (fun b1 hbb1 htb1 => ?_)
  have heb1 := Option.some.inj hbb1
  subst heb1
  refine z_callV C cf10 mf_X9_blockNumbered kt558 (gtbl_priv (j := 9) rfl rfl) kt556 (k_X9_blockNumbered (gL Γ) b s1 g (gK Γ)) htb1 rfl ⟨Nat.le_of_ble_eq_true rfl, Nat.le_of_ble_eq_true rfl⟩ (rest := []) rfl (Nat.le_of_ble_eq_true rfl) dX9_cut_2 (bdR) (contR fun r2 => ?_)
  refine z_astore_n (L' := [(2, vR r2), (0, vR (some b)), (1, vI s1)]) C dX9_cut_5 rfl (by decide) rfl ?_
  refine z_aload_n C dX9_cut_6 rfl 0 rfl ?_
  refine z_ifnonnull C dX9_cut_7 (tgt := 20) rfl it jf ?_ ?_
  · exact X.no no0
  · refine z_aload_n C dX9_cut_20 rfl 1 rfl ?_
    refine z_gfR C cf10 7 (by decide) rfl rfl dX9_cut_21 kt216 (fun _ h => h) bd (fun r3 => ?_)
    refine z_aload_n C dX9_cut_24 rfl 0 rfl ?_
    refine z_gfR C cf1 3 (by decide) rfl rfl dX9_cut_25 kt538 (fun _ h => h) bd (fun r4 => ?_)
    refine z_aload_n C dX9_cut_28 rfl 1 rfl ?_
    refine z_gfR C cf10 12 (by decide) rfl rfl dX9_cut_29 kt221 (fun _ h => h) bd (fun r5 => ?_)
    refine z_rcv bd (fun b6 hbb6 htb6 => ?_)
    subst hbb6
    refine z_callV C cf9 mf_X8_planPieces kt969 kt970 kt968 (k_X8_planPieces (gL Γ) b6 r4 r5 g (gK Γ)) htb6 rfl ⟨Nat.le_of_ble_eq_true rfl, Nat.le_of_ble_eq_true rfl⟩ (rest := []) rfl (Nat.le_of_ble_eq_true rfl) dX9_cut_32 (bdIg) (contIg fun v7 => ?_)
    refine z_istore_n (L' := [(3, vI v7.1), (2, vR r2), (0, vR (some b)), (1, vI s1)]) C dX9_cut_35 rfl (by decide) rfl ?_
    refine z_iload_n C dX9_cut_36 rfl 0 rfl ?_
    refine z_if_ne C dX9_cut_37 (tgt := 50) rfl it jf ?_ ?_
    · exact X.no no0
    · refine z_aload_n C dX9_cut_50 rfl 1 rfl ?_
      refine z_aload_n C dX9_cut_51 rfl 2 rfl ?_
      refine z_gfR C cf10 12 (by decide) rfl rfl dX9_cut_52 kt221 (fun _ h => h) bd (fun r8 => ?_)
      refine z_iload_n C dX9_cut_55 rfl 0 rfl ?_
      refine z_rcv bd (fun b9 hbb9 htb9 => ?_)
      subst hbb9
      refine z_callV C cf1 mf_X0_cutAt kt988 kt989 kt987 (k_X0_cutAt (gL Γ) b9 r8 v7.1 v7.2 (gK Γ)) htb9 rfl ⟨Nat.le_of_ble_eq_true rfl, Nat.le_of_ble_eq_true rfl⟩ (rest := []) rfl (Nat.le_of_ble_eq_true rfl) dX9_cut_56 (bdVg) (contVg fun g10 => ?_)
      refine z_iload_n C dX9_cut_59 rfl 0 rfl ?_
      exact z_iret C Z rfl dX9_cut_60 (fun h => by cases h; rfl)
theorem k_X9_driverNumbered (l : Launch) (b : Nat) (s1 : Int32) (g : HP) : MM l Pi2 yX9_driverNumbered cX9_driverNumbered 2 (some (.object "Blockduty$Driver")) 3 64 [vR (some b), vI s1] g (wR g (f_X9_driverNumbered b s1 g)) := by
  refine MM_of PO_Pi2 mf_X9_driverNumbered (fun a ha => wR_same a ha) (Nat.le_of_ble_eq_true rfl) ?_
  intro Γ fin hfin hl hin C0 Z0
  subst hl
  obtain ⟨v0, hv, rfl⟩ := wR_some hfin
  have C : CX Γ cX9_driverNumbered 2 "Blockduty" Pi2 ok2 3 64 := C0
  have Z : RX Γ Pi2 (some (.object "Blockduty$Driver")) (some (vR v0), g) := Z0
  refine X.conv (fun _ => hv) ?_
  unfold f_X9_driverNumbered
  show X Γ 0 [(0, vR (some b)), (1, vI s1)] [] g _
  refine z_iload_n C dX9_driverNumbered_0 rfl 1 rfl ?_
  refine z_if_lt C dX9_driverNumbered_1 (tgt := 29) rfl it jf ?_ ?_
  · refine z_null C dX9_driverNumbered_29 ?_
    exact z_aret C Z rfl (Or.inl ⟨_, rfl⟩) dX9_driverNumbered_30 (fun h => by cases h; rfl)
  · refine z_iload_n C dX9_driverNumbered_4 rfl 1 rfl ?_
    refine z_aload_n C dX9_driverNumbered_5 rfl 0 rfl ?_
    refine z_gfR C cf10 5 (by decide) rfl rfl dX9_driverNumbered_6 kt214 (fun _ h => h) bd (fun r1 => ?_)
    refine z_rcv bd (fun b2 hbb2 htb2 => ?_)
    subst hbb2
    refine z_callV C cf0 mf_Jx4a65c_size_8abf5 kt261 kt262 kt260 (k_al_size (gL Γ) b2 g (gK Γ)) htb2 rfl ⟨Nat.le_of_ble_eq_true rfl, Nat.le_of_ble_eq_true rfl⟩ (rest := [vI s1]) rfl (Nat.le_of_ble_eq_true rfl) dX9_driverNumbered_9 (bdI) (contI fun x3 => ?_)
    refine z_icmp_ge C dX9_driverNumbered_12 (tgt := 29) rfl it jf ?_ ?_
    · refine z_null C dX9_driverNumbered_29 ?_
      exact z_aret C Z rfl (Or.inl ⟨_, rfl⟩) dX9_driverNumbered_30 (fun h => by cases h; rfl)
    · refine z_aload_n C dX9_driverNumbered_15 rfl 0 rfl ?_
      refine z_gfR C cf10 5 (by decide) rfl rfl dX9_driverNumbered_16 kt214 (fun _ h => h) bd (fun r4 => ?_)
      refine z_iload_n C dX9_driverNumbered_19 rfl 1 rfl ?_
      refine z_rcv bd (fun b5 hbb5 htb5 => ?_)
      subst hbb5
      refine z_callV C cf0 mf_Jx4a65c_get_915e3 kt265 kt266 kt264 (k_al_get (gL Γ) b5 s1 g (gK Γ)) htb5 rfl ⟨Nat.le_of_ble_eq_true rfl, Nat.le_of_ble_eq_true rfl⟩ (rest := []) rfl (Nat.le_of_ble_eq_true rfl) dX9_driverNumbered_20 (bdR) (contR fun r6 => ?_)
      refine z_cst C cf2 dX9_driverNumbered_23 kt488 bd (fun r7 => ?_)
      refine z_goto C dX9_driverNumbered_26 (tgt := 30) rfl ?_
      exact z_aret C Z rfl (Or.inl ⟨_, rfl⟩) dX9_driverNumbered_30 (fun h => by cases h; rfl)
theorem k_X9_pieceNumbered (l : Launch) (b : Nat) (s1 : Int32) (s2 : Int32) (g : HP) : MM l Pi2 yX9_pieceNumbered cX9_pieceNumbered 4 (some (.object "Blockduty$Piece")) 4 85 [vR (some b), vI s1, vI s2] g (wR g (f_X9_pieceNumbered b s1 s2 g)) := by
  refine MM_of PO_Pi2 mf_X9_pieceNumbered (fun a ha => wR_same a ha) (Nat.le_of_ble_eq_true rfl) ?_
  intro Γ fin hfin hl hin C0 Z0
  subst hl
  obtain ⟨v0, hv, rfl⟩ := wR_some hfin
  have C : CX Γ cX9_pieceNumbered 4 "Blockduty" Pi2 ok2 4 85 := C0
  have Z : RX Γ Pi2 (some (.object "Blockduty$Piece")) (some (vR v0), g) := Z0
  refine X.conv (fun _ => hv) ?_
  unfold f_X9_pieceNumbered
  show X Γ 0 [(0, vR (some b)), (1, vI s1), (2, vI s2)] [] g _
  refine z_aload_n C dX9_pieceNumbered_0 rfl 0 rfl ?_
  refine z_iload_n C dX9_pieceNumbered_1 rfl 1 rfl ?_
  refine z_rcv bd (fun b1 hbb1 htb1 => ?_)
  have heb1 := Option.some.inj hbb1
  subst heb1
  refine z_callV C cf10 mf_X9_blockNumbered kt558 (gtbl_priv (j := 9) rfl rfl) kt556 (k_X9_blockNumbered (gL Γ) b s1 g (gK Γ)) htb1 rfl ⟨Nat.le_of_ble_eq_true rfl, Nat.le_of_ble_eq_true rfl⟩ (rest := []) rfl (Nat.le_of_ble_eq_true rfl) dX9_pieceNumbered_2 (bdR) (contR fun r2 => ?_)
  refine z_astore_n (L' := [(3, vR r2), (0, vR (some b)), (1, vI s1), (2, vI s2)]) C dX9_pieceNumbered_5 rfl (by decide) rfl ?_
  refine z_aload_n C dX9_pieceNumbered_6 rfl 0 rfl ?_
  refine z_ifnonnull C dX9_pieceNumbered_7 (tgt := 14) rfl it jf ?_ ?_
  · refine z_null C dX9_pieceNumbered_10 ?_
    refine z_goto C dX9_pieceNumbered_11 (tgt := 19) rfl ?_
    exact z_aret C Z rfl (Or.inl ⟨_, rfl⟩) dX9_pieceNumbered_19 (fun h => by cases h; rfl)
  · refine z_aload_n C dX9_pieceNumbered_14 rfl 0 rfl ?_
    refine z_iload_n C dX9_pieceNumbered_15 rfl 3 rfl ?_
    refine z_rcv bd (fun b3 hbb3 htb3 => ?_)
    subst hbb3
    refine z_callV C cf1 mf_X0_pieceNumbered kt829 kt830 kt828 (k_X0_pieceNumbered (gL Γ) b3 s2 g (gK Γ)) htb3 rfl ⟨Nat.le_of_ble_eq_true rfl, Nat.le_of_ble_eq_true rfl⟩ (rest := []) rfl (Nat.le_of_ble_eq_true rfl) dX9_pieceNumbered_16 (bdR) (contR fun r4 => ?_)
    exact z_aret C Z rfl (Or.inl ⟨_, rfl⟩) dX9_pieceNumbered_19 (fun h => by cases h; rfl)
theorem k_X9_give (l : Launch) (b : Nat) (s1 : Int32) (s2 : Int32) (s3 : Int32) (g : HP) : MM l Pi2 yX9_give cX9_give 6 (some .int) 7 191 [vR (some b), vI s1, vI s2, vI s3] g (wIg (f_X9_give b s1 s2 s3 g)) := by
  refine MM_of PO_Pi2 mf_X9_give (fun a ha => wIg_mono (f_X9_give_mono b s1 s2 s3 g) a ha) (Nat.le_of_ble_eq_true rfl) ?_
  intro Γ fin hfin hl hin C0 Z0
  subst hl
  obtain ⟨v0, hv, rfl⟩ := wIg_some hfin
  have C : CX Γ cX9_give 6 "Blockduty" Pi2 ok2 7 191 := C0
  have Z : RX Γ Pi2 (some .int) (some (vI v0.1), v0.2) := Z0
  refine X.conv (fun _ => hv) ?_
  unfold f_X9_give
  show X Γ 0 [(0, vR (some b)), (1, vI s1), (2, vI s2), (3, vI s3)] [] g _
  refine z_aload_n C dX9_give_0 rfl 0 rfl ?_
  refine z_iload_n C dX9_give_1 rfl 1 rfl ?_
  refine z_iload_n C dX9_give_2 rfl 2 rfl ?_
  refine z_rcv bd (fun b1 hbb1 htb1 => ?_)
  have heb1 := Option.some.inj hbb1
  subst heb1
  refine z_callV C cf10 mf_X9_pieceNumbered kt826 (gtbl_priv (j := 23) rfl rfl) kt824 (k_X9_pieceNumbered (gL Γ) b s1 s2 g (gK Γ)) htb1 rfl ⟨Nat.le_of_ble_eq_true rfl, Nat.le_of_ble_eq_true rfl⟩ (rest := []) rfl (Nat.le_of_ble_eq_true rfl) dX9_give_3 (bdR) (contR fun r2 => ?_)
  refine z_astore (L' := [(4, vR r2), (0, vR (some b)), (1, vI s1), (2, vI s2), (3, vI s3)]) C dX9_give_6 (by decide) rfl ?_
  refine z_aload_n C dX9_give_8 rfl 1 rfl ?_
  refine z_iload_n C dX9_give_9 rfl 4 rfl ?_
  refine z_rcv bd (fun b3 hbb3 htb3 => ?_)
  have heb3 := Option.some.inj hbb3
  subst heb3
  refine z_callV C cf10 mf_X9_driverNumbered kt628 (gtbl_priv (j := 13) rfl rfl) kt626 (k_X9_driverNumbered (gL Γ) b s3 g (gK Γ)) htb3 rfl ⟨Nat.le_of_ble_eq_true rfl, Nat.le_of_ble_eq_true rfl⟩ (rest := []) rfl (Nat.le_of_ble_eq_true rfl) dX9_give_10 (bdR) (contR fun r4 => ?_)
  refine z_astore (L' := [(5, vR r4), (4, vR r2), (0, vR (some b)), (1, vI s1), (2, vI s2), (3, vI s3)]) C dX9_give_13 (by decide) rfl ?_
  refine z_aload C dX9_give_15 1 rfl ?_
  refine z_ifnull C dX9_give_17 (tgt := 25) rfl it jf ?_ ?_
  · exact X.no no0
  · refine z_aload C dX9_give_20 0 rfl ?_
    refine z_ifnonnull C dX9_give_22 (tgt := 36) rfl it jf ?_ ?_
    · exact X.no no0
    · refine z_aload C dX9_give_36 1 rfl ?_
      refine z_gfR C cf5 5 (by decide) rfl rfl dX9_give_38 kt1012 (fun _ h => h) bd (fun r5 => ?_)
      refine z_ifnonnull C dX9_give_41 (tgt := 54) rfl it jf ?_ ?_
      · refine z_aload C dX9_give_44 0 rfl ?_
        refine z_aload C dX9_give_46 1 rfl ?_
        refine z_rcv bd (fun b6 hbb6 htb6 => ?_)
        subst hbb6
        refine z_callV C cf2 mf_X1_canGet kt1036 kt1037 kt1035 (k_X1_canGet (gL Γ) b6 r2 g (gK Γ)) htb6 rfl ⟨Nat.le_of_ble_eq_true rfl, Nat.le_of_ble_eq_true rfl⟩ (rest := []) rfl (Nat.le_of_ble_eq_true rfl) dX9_give_48 (bdI) (contI fun x7 => ?_)
        refine z_if_ne C dX9_give_51 (tgt := 65) rfl it jf ?_ ?_
        · exact X.no no0
        · refine z_aload C dX9_give_65 1 rfl ?_
          refine z_aload C dX9_give_67 0 rfl ?_
          refine z_pfR C cf5 5 (by decide) rfl rfl (isRefTy_o _) (Or.inl rfl) dX9_give_69 kt1012 (fun _ h => h) bd (fun g8 => ?_)
          refine z_aload C dX9_give_72 0 rfl ?_
          refine z_gfR C cf2 2 (by decide) rfl rfl dX9_give_74 kt502 (fun _ h => h) bd (fun r9 => ?_)
          refine z_aload C dX9_give_77 1 rfl ?_
          refine z_rcv bd (fun b10 hbb10 htb10 => ?_)
          subst hbb10
          refine z_callV C cf0 mf_Jx4a65c_add_9ea2d kt129 kt130 kt128 (k_al_add (gL Γ) b10 r2 g8 (gK Γ)) htb10 rfl ⟨Nat.le_of_ble_eq_true rfl, Nat.le_of_ble_eq_true rfl⟩ (rest := []) rfl (Nat.le_of_ble_eq_true rfl) dX9_give_79 (bdIg) (contIg fun v11 => ?_)
          refine z_pop C dX9_give_82 rfl ?_
          refine z_aload C dX9_give_83 0 rfl ?_
          refine z_rcv bd (fun b12 hbb12 htb12 => ?_)
          have heb12 := Option.some.inj hbb12
          subst heb12
          refine z_callV C cf2 mf_X1_minutes kt709 kt710 kt708 (k_X1_minutes (gL Γ) b6 v11.2 (gK Γ)) htb12 rfl ⟨Nat.le_of_ble_eq_true rfl, Nat.le_of_ble_eq_true rfl⟩ (rest := []) rfl (Nat.le_of_ble_eq_true rfl) dX9_give_85 (bdI) (contI fun x13 => ?_)
          exact z_iret C Z rfl dX9_give_88 (fun h => by cases h; rfl)
      · exact X.no no0
theorem k_X9_delay (l : Launch) (b : Nat) (s1 : Int32) (s2 : Int32) (g : HP) : MM l Pi2 yX9_delay cX9_delay 5 (some .int) 4 85 [vR (some b), vI s1, vI s2] g (wIg (f_X9_delay b s1 s2 g)) := by
  refine MM_of PO_Pi2 mf_X9_delay (fun a ha => wIg_mono (f_X9_delay_mono b s1 s2 g) a ha) (Nat.le_of_ble_eq_true rfl) ?_
  intro Γ fin hfin hl hin C0 Z0
  subst hl
  obtain ⟨v0, hv, rfl⟩ := wIg_some hfin
  have C : CX Γ cX9_delay 5 "Blockduty" Pi2 ok2 4 85 := C0
  have Z : RX Γ Pi2 (some .int) (some (vI v0.1), v0.2) := Z0
  refine X.conv (fun _ => hv) ?_
  unfold f_X9_delay
  show X Γ 0 [(0, vR (some b)), (1, vI s1), (2, vI s2)] [] g _
  refine z_aload_n C dX9_delay_0 rfl 0 rfl ?_
  refine z_iload_n C dX9_delay_1 rfl 1 rfl ?_
  refine z_rcv bd (fun b1 hbb1 htb1 => ?_)
  have heb1 := Option.some.inj hbb1
  subst heb1
  refine z_callV C cf10 mf_X9_tripNumbered kt618 (gtbl_priv (j := 12) rfl rfl) kt616 (k_X9_tripNumbered (gL Γ) b s1 g (gK Γ)) htb1 rfl ⟨Nat.le_of_ble_eq_true rfl, Nat.le_of_ble_eq_true rfl⟩ (rest := []) rfl (Nat.le_of_ble_eq_true rfl) dX9_delay_2 (bdR) (contR fun r2 => ?_)
  refine z_astore_n (L' := [(3, vR r2), (0, vR (some b)), (1, vI s1), (2, vI s2)]) C dX9_delay_5 rfl (by decide) rfl ?_
  refine z_aload_n C dX9_delay_6 rfl 0 rfl ?_
  refine z_ifnonnull C dX9_delay_7 (tgt := 21) rfl it jf ?_ ?_
  · exact X.no no0
  · refine z_iload_n C dX9_delay_21 rfl 3 rfl ?_
    refine z_iconst C dX9_delay_22 (v := 0) (by decide) ?_
    refine z_bipush C dX9_delay_23 (v := 120) (by decide) ?_
    refine z_callS C rfl mf_X9_isOutside kt347 kt346 (k_X9_isOutside (gL Γ) s2 0 120 g (gK Γ)) rfl ⟨Nat.le_of_ble_eq_true rfl, Nat.le_of_ble_eq_true rfl⟩ (rest := []) rfl (Nat.le_of_ble_eq_true rfl) dX9_delay_25 (bdI) (contI fun x3 => ?_)
    refine z_if_eq C dX9_delay_28 (tgt := 42) rfl it jf ?_ ?_
    · refine z_aload_n C dX9_delay_42 rfl 0 rfl ?_
      refine z_gfI C cf8 6 (by decide) rfl rfl dX9_delay_43 kt430 (fun _ h => h) bd (fun x4 => ?_)
      refine z_istore (L' := [(4, vI x4), (3, vR r2), (0, vR (some b)), (1, vI s1), (2, vI s2)]) C dX9_delay_46 (by decide) rfl ?_
      refine z_aload_n C dX9_delay_48 rfl 1 rfl ?_
      refine z_iload_n C dX9_delay_49 rfl 4 rfl ?_
      refine z_pfI C cf8 6 (by decide) rfl rfl rfl (Or.inl rfl) dX9_delay_50 kt430 (fun _ h => h) bd (fun g5 => ?_)
      refine z_iload C dX9_delay_53 0 rfl ?_
      exact z_iret C Z rfl dX9_delay_55 (fun h => by cases h; rfl)
    · exact X.no no0
theorem k_X9_breakdown (l : Launch) (b : Nat) (s1 : Int32) (s2 : Int32) (g : HP) : MM l Pi2 yX9_breakdown cX9_breakdown 5 (some .int) 4 85 [vR (some b), vI s1, vI s2] g (wIg (f_X9_breakdown b s1 s2 g)) := by
  refine MM_of PO_Pi2 mf_X9_breakdown (fun a ha => wIg_mono (f_X9_breakdown_mono b s1 s2 g) a ha) (Nat.le_of_ble_eq_true rfl) ?_
  intro Γ fin hfin hl hin C0 Z0
  subst hl
  obtain ⟨v0, hv, rfl⟩ := wIg_some hfin
  have C : CX Γ cX9_breakdown 5 "Blockduty" Pi2 ok2 4 85 := C0
  have Z : RX Γ Pi2 (some .int) (some (vI v0.1), v0.2) := Z0
  refine X.conv (fun _ => hv) ?_
  unfold f_X9_breakdown
  show X Γ 0 [(0, vR (some b)), (1, vI s1), (2, vI s2)] [] g _
  refine z_aload_n C dX9_breakdown_0 rfl 0 rfl ?_
  refine z_iload_n C dX9_breakdown_1 rfl 1 rfl ?_
  refine z_rcv bd (fun b1 hbb1 htb1 => ?_)
  have heb1 := Option.some.inj hbb1
  subst heb1
  refine z_callV C cf10 mf_X9_blockNumbered kt558 (gtbl_priv (j := 9) rfl rfl) kt556 (k_X9_blockNumbered (gL Γ) b s1 g (gK Γ)) htb1 rfl ⟨Nat.le_of_ble_eq_true rfl, Nat.le_of_ble_eq_true rfl⟩ (rest := []) rfl (Nat.le_of_ble_eq_true rfl) dX9_breakdown_2 (bdR) (contR fun r2 => ?_)
  refine z_astore_n (L' := [(3, vR r2), (0, vR (some b)), (1, vI s1), (2, vI s2)]) C dX9_breakdown_5 rfl (by decide) rfl ?_
  refine z_aload_n C dX9_breakdown_6 rfl 0 rfl ?_
  refine z_ifnonnull C dX9_breakdown_7 (tgt := 20) rfl it jf ?_ ?_
  · exact X.no no0
  · refine z_iload_n C dX9_breakdown_20 rfl 3 rfl ?_
    refine z_iconst C dX9_breakdown_21 (v := (-1)) (by decide) ?_
    refine z_sipush C dX9_breakdown_22 (v := 1600) (by decide) ?_
    refine z_callS C rfl mf_X9_isOutside kt347 kt346 (k_X9_isOutside (gL Γ) s2 (-1) 1600 g (gK Γ)) rfl ⟨Nat.le_of_ble_eq_true rfl, Nat.le_of_ble_eq_true rfl⟩ (rest := []) rfl (Nat.le_of_ble_eq_true rfl) dX9_breakdown_25 (bdI) (contI fun x3 => ?_)
    refine z_if_eq C dX9_breakdown_28 (tgt := 42) rfl it jf ?_ ?_
    · refine z_aload_n C dX9_breakdown_42 rfl 0 rfl ?_
      refine z_gfI C cf1 2 (by decide) rfl rfl dX9_breakdown_43 kt536 (fun _ h => h) bd (fun x4 => ?_)
      refine z_istore (L' := [(4, vI x4), (3, vR r2), (0, vR (some b)), (1, vI s1), (2, vI s2)]) C dX9_breakdown_46 (by decide) rfl ?_
      refine z_aload_n C dX9_breakdown_48 rfl 1 rfl ?_
      refine z_iload_n C dX9_breakdown_49 rfl 4 rfl ?_
      refine z_pfI C cf1 2 (by decide) rfl rfl rfl (Or.inl rfl) dX9_breakdown_50 kt536 (fun _ h => h) bd (fun g5 => ?_)
      refine z_iload C dX9_breakdown_53 0 rfl ?_
      exact z_iret C Z rfl dX9_breakdown_55 (fun h => by cases h; rfl)
    · exact X.no no0
theorem k_X9_sick (l : Launch) (b : Nat) (s1 : Int32) (s2 : Int32) (g : HP) : MM l Pi2 yX9_sick cX9_sick 5 (some .boolean) 4 85 [vR (some b), vI s1, vI s2] g (wIg (f_X9_sick b s1 s2 g)) := by
  refine MM_of PO_Pi2 mf_X9_sick (fun a ha => wIg_mono (f_X9_sick_mono b s1 s2 g) a ha) (Nat.le_of_ble_eq_true rfl) ?_
  intro Γ fin hfin hl hin C0 Z0
  subst hl
  obtain ⟨v0, hv, rfl⟩ := wIg_some hfin
  have C : CX Γ cX9_sick 5 "Blockduty" Pi2 ok2 4 85 := C0
  have Z : RX Γ Pi2 (some .boolean) (some (vI v0.1), v0.2) := Z0
  refine X.conv (fun _ => hv) ?_
  unfold f_X9_sick
  show X Γ 0 [(0, vR (some b)), (1, vI s1), (2, vI s2)] [] g _
  refine z_aload_n C dX9_sick_0 rfl 0 rfl ?_
  refine z_iload_n C dX9_sick_1 rfl 1 rfl ?_
  refine z_rcv bd (fun b1 hbb1 htb1 => ?_)
  have heb1 := Option.some.inj hbb1
  subst heb1
  refine z_callV C cf10 mf_X9_driverNumbered kt628 (gtbl_priv (j := 13) rfl rfl) kt626 (k_X9_driverNumbered (gL Γ) b s1 g (gK Γ)) htb1 rfl ⟨Nat.le_of_ble_eq_true rfl, Nat.le_of_ble_eq_true rfl⟩ (rest := []) rfl (Nat.le_of_ble_eq_true rfl) dX9_sick_2 (bdR) (contR fun r2 => ?_)
  refine z_astore_n (L' := [(3, vR r2), (0, vR (some b)), (1, vI s1), (2, vI s2)]) C dX9_sick_5 rfl (by decide) rfl ?_
  refine z_aload_n C dX9_sick_6 rfl 0 rfl ?_
  refine z_ifnonnull C dX9_sick_7 (tgt := 21) rfl it jf ?_ ?_
  · exact X.no no0
  · refine z_aload_n C dX9_sick_21 rfl 0 rfl ?_
    refine z_gfI C cf2 1 (by decide) rfl rfl dX9_sick_22 kt500 (fun _ h => h) bd (fun x3 => ?_)
    refine z_istore (L' := [(4, vI x3), (3, vR r2), (0, vR (some b)), (1, vI s1), (2, vI s2)]) C dX9_sick_25 (by decide) rfl ?_
    refine z_aload_n C dX9_sick_27 rfl 1 rfl ?_
    refine z_iload_n C dX9_sick_28 rfl 4 rfl ?_
    refine z_pfZ C cf2 1 (by decide) rfl rfl rfl (Or.inl rfl) dX9_sick_29 kt500 (fun _ h => h) bd (fun g4 => ?_)
    refine z_iload C dX9_sick_32 0 rfl ?_
    exact z_zret C Z rfl dX9_sick_34 (fun h => (retZ_bd h).1) (fun h => (retZ_bd h).2)
theorem k_X9_runDay_L2 {Γ : GG} {β : Type} {fin0 : β} {F0 : HP → Option β} (C : CX Γ cX9_runDay 3 "Blockduty" Pi2 ok2 4 93) (p2_0 : Nat) (hexit : ∀ q2 : HP, X Γ 34 [(0, vR (some p2_0))] [] q2 (F0 q2 = some fin0)) : ∀ (m2 : Nat) (u2_1 : Int32) (w2 : HP), X Γ 2 [(0, vR (some p2_0)), (1, vI u2_1)] [] w2 ((f_X9_runDay_L2 p2_0 m2 u2_1 w2).bind F0 = some fin0) := by
  intro m2
  induction m2 with
  | zero =>
    intro u2_1 w2
    exact X.no no1
  | succ m2 ih =>
    intro u2_1 w2
    unfold f_X9_runDay_L2
    refine z_iload_n C dX9_runDay_2 rfl 1 rfl ?_
    refine z_aload_n C dX9_runDay_3 rfl 0 rfl ?_
    refine X.conv bb ?_
    refine z_gfR C cf10 2 (by decide) rfl rfl dX9_runDay_4 kt211 (fun _ h => h) bd (fun r1 => ?_)
    refine X.conv bb ?_
    refine z_rcv bd (fun b2 hbb2 htb2 => ?_)
    subst hbb2
    refine X.conv bb ?_
    refine z_callV C cf0 mf_Jx4a65c_size_8abf5 kt261 kt262 kt260 (k_al_size (gL Γ) b2 w2 (gK Γ)) htb2 rfl ⟨Nat.le_of_ble_eq_true rfl, Nat.le_of_ble_eq_true rfl⟩ (rest := [vI u2_1]) rfl (Nat.le_of_ble_eq_true rfl) dX9_runDay_7 (bdI) (contI fun x3 => ?_)
    refine X.conv bi ?_
    refine z_icmp_ge C dX9_runDay_10 (tgt := 34) rfl it jf ?_ ?_
    · refine z_lsub [0] rfl ?_
      exact hexit w2
    · refine z_aload_n C dX9_runDay_13 rfl 0 rfl ?_
      refine X.conv bb ?_
      refine z_gfR C cf10 2 (by decide) rfl rfl dX9_runDay_14 kt211 (fun _ h => h) bd (fun r4 => ?_)
      refine z_iload_n C dX9_runDay_17 rfl 1 rfl ?_
      refine X.conv bb ?_
      refine z_rcv bd (fun b5 hbb5 htb5 => ?_)
      subst hbb5
      refine X.conv bb ?_
      refine z_callV C cf0 mf_Jx4a65c_get_915e3 kt265 kt266 kt264 (k_al_get (gL Γ) b5 u2_1 w2 (gK Γ)) htb5 rfl ⟨Nat.le_of_ble_eq_true rfl, Nat.le_of_ble_eq_true rfl⟩ (rest := []) rfl (Nat.le_of_ble_eq_true rfl) dX9_runDay_18 (bdR) (contR fun r6 => ?_)
      refine X.conv bb ?_
      refine z_cst C cf8 dX9_runDay_21 kt402 bd (fun r7 => ?_)
      refine z_iconst C dX9_runDay_24 (v := 1) (by decide) ?_
      refine X.conv bb ?_
      refine z_pfI C cf8 9 (by decide) rfl rfl rfl (Or.inl rfl) dX9_runDay_25 kt439 (fun _ h => h) bd (fun g8 => ?_)
      refine z_iinc (L' := [(1, vI (u2_1 + 1)), (0, vR (some p2_0))]) C dX9_runDay_28 1 rfl (v := u2_1 + 1) rfl (by decide) rfl ?_
      refine z_goto C dX9_runDay_31 (tgt := 2) rfl ?_
      refine z_lsub [1, 0] rfl ?_
      exact ih (u2_1 + 1) g8
theorem k_X9_runDay_L36 {Γ : GG} {β : Type} {fin0 : β} {F0 : HP → Option β} (C : CX Γ cX9_runDay 3 "Blockduty" Pi2 ok2 4 93) (p36_0 : Nat) (hexit : ∀ q36 : HP, X Γ 76 [] [] q36 (F0 q36 = some fin0)) : ∀ (m36 : Nat) (u36_1 : Int32) (w36 : HP), X Γ 36 [(0, vR (some p36_0)), (1, vI u36_1)] [] w36 ((f_X9_runDay_L36 p36_0 m36 u36_1 w36).bind F0 = some fin0) := by
  intro m36
  induction m36 with
  | zero =>
    intro u36_1 w36
    exact X.no no1
  | succ m36 ih =>
    intro u36_1 w36
    unfold f_X9_runDay_L36
    refine z_iload_n C dX9_runDay_36 rfl 1 rfl ?_
    refine z_aload_n C dX9_runDay_37 rfl 0 rfl ?_
    refine X.conv bb ?_
    refine z_gfR C cf10 4 (by decide) rfl rfl dX9_runDay_38 kt213 (fun _ h => h) bd (fun r10 => ?_)
    refine X.conv bb ?_
    refine z_rcv bd (fun b11 hbb11 htb11 => ?_)
    subst hbb11
    refine X.conv bb ?_
    refine z_callV C cf0 mf_Jx4a65c_size_8abf5 kt261 kt262 kt260 (k_al_size (gL Γ) b11 w36 (gK Γ)) htb11 rfl ⟨Nat.le_of_ble_eq_true rfl, Nat.le_of_ble_eq_true rfl⟩ (rest := [vI u36_1]) rfl (Nat.le_of_ble_eq_true rfl) dX9_runDay_41 (bdI) (contI fun x12 => ?_)
    refine X.conv bi ?_
    refine z_icmp_ge C dX9_runDay_44 (tgt := 76) rfl it jf ?_ ?_
    · refine z_lsub [] rfl ?_
      exact hexit w36
    · refine z_aload_n C dX9_runDay_47 rfl 0 rfl ?_
      refine X.conv bb ?_
      refine z_gfR C cf10 4 (by decide) rfl rfl dX9_runDay_48 kt213 (fun _ h => h) bd (fun r13 => ?_)
      refine z_iload_n C dX9_runDay_51 rfl 1 rfl ?_
      refine X.conv bb ?_
      refine z_rcv bd (fun b14 hbb14 htb14 => ?_)
      subst hbb14
      refine X.conv bb ?_
      refine z_callV C cf0 mf_Jx4a65c_get_915e3 kt265 kt266 kt264 (k_al_get (gL Γ) b14 u36_1 w36 (gK Γ)) htb14 rfl ⟨Nat.le_of_ble_eq_true rfl, Nat.le_of_ble_eq_true rfl⟩ (rest := []) rfl (Nat.le_of_ble_eq_true rfl) dX9_runDay_52 (bdR) (contR fun r15 => ?_)
      refine X.conv bb ?_
      refine z_cst C cf1 dX9_runDay_55 kt520 bd (fun r16 => ?_)
      refine z_astore_n (L' := [(2, vR r16), (0, vR (some p36_0)), (1, vI u36_1)]) C dX9_runDay_58 rfl (by decide) rfl ?_
      refine z_aload_n C dX9_runDay_59 rfl 0 rfl ?_
      refine z_aload_n C dX9_runDay_60 rfl 0 rfl ?_
      refine X.conv bb ?_
      refine z_gfI C cf1 2 (by decide) rfl rfl dX9_runDay_61 kt536 (fun _ h => h) bd (fun x17 => ?_)
      refine z_null C dX9_runDay_64 ?_
      refine z_iconst C dX9_runDay_65 (v := 0) (by decide) ?_
      refine X.conv bb ?_
      refine z_rcv bd (fun b18 hbb18 htb18 => ?_)
      subst hbb18
      refine X.conv bb ?_
      refine z_callV C cf1 mf_X0_lostIf kt641 kt642 kt640 (k_X0_lostIf (gL Γ) b18 x17 none 0 w36 (gK Γ)) htb18 rfl ⟨Nat.le_of_ble_eq_true rfl, Nat.le_of_ble_eq_true rfl⟩ (rest := []) rfl (Nat.le_of_ble_eq_true rfl) dX9_runDay_66 (bdIg) (contIg fun v19 => ?_)
      refine z_pop C dX9_runDay_69 rfl ?_
      refine z_iinc (L' := [(1, vI (u36_1 + 1)), (2, vR (some b18)), (0, vR (some p36_0))]) C dX9_runDay_70 2 rfl (v := u36_1 + 1) rfl (by decide) rfl ?_
      refine z_goto C dX9_runDay_73 (tgt := 36) rfl ?_
      refine z_lsub [2, 0] rfl ?_
      exact ih (u36_1 + 1) v19.2
theorem k_X9_runDay (l : Launch) (b : Nat) (g : HP) : MM l Pi2 yX9_runDay cX9_runDay 3 none 4 93 [vR (some b)] g (wVg (f_X9_runDay b g)) := by
  refine MM_of PO_Pi2 mf_X9_runDay (fun a ha => wVg_mono (f_X9_runDay_mono b g) a ha) (Nat.le_of_ble_eq_true rfl) ?_
  intro Γ fin hfin hl hin C0 Z0
  subst hl
  obtain ⟨v0, hv, rfl⟩ := wVg_some hfin
  have C : CX Γ cX9_runDay 3 "Blockduty" Pi2 ok2 4 93 := C0
  have Z : RX Γ Pi2 none (none, v0) := Z0
  refine X.conv (fun _ => hv) ?_
  unfold f_X9_runDay
  show X Γ 0 [(0, vR (some b))] [] g _
  refine z_iconst C dX9_runDay_0 (v := 0) (by decide) ?_
  refine z_istore_n (L' := [(1, vI 0), (0, vR (some b))]) C dX9_runDay_1 rfl (by decide) rfl ?_
  refine z_lsub [1, 0] rfl ?_
  refine k_X9_runDay_L2 C b (fun q9 => ?_) FU 0 g
  refine z_iconst C dX9_runDay_34 (v := 0) (by decide) ?_
  refine z_istore_n (L' := [(1, vI 0), (0, vR (some b))]) C dX9_runDay_35 rfl (by decide) rfl ?_
  refine z_lsub [1, 0] rfl ?_
  refine k_X9_runDay_L36 C b (fun q20 => ?_) FU 0 q9
  exact z_vret C Z rfl dX9_runDay_76 (fun h => by cases h; rfl)
theorem k_X9_ofTrip (l : Launch) (b : Nat) (s1 : Int32) (s2 : Int32) (g : HP) : MM l Pi2 yX9_ofTrip cX9_ofTrip 4 (some .int) 5 115 [vR (some b), vI s1, vI s2] g (wIg (f_X9_ofTrip b s1 s2 g)) := by
  refine MM_of PO_Pi2 mf_X9_ofTrip (fun a ha => wIg_mono (f_X9_ofTrip_mono b s1 s2 g) a ha) (Nat.le_of_ble_eq_true rfl) ?_
  intro Γ fin hfin hl hin C0 Z0
  subst hl
  obtain ⟨v0, hv, rfl⟩ := wIg_some hfin
  have C : CX Γ cX9_ofTrip 4 "Blockduty" Pi2 ok2 5 115 := C0
  have Z : RX Γ Pi2 (some .int) (some (vI v0.1), v0.2) := Z0
  refine X.conv (fun _ => hv) ?_
  unfold f_X9_ofTrip
  show X Γ 0 [(0, vR (some b)), (1, vI s1), (2, vI s2)] [] g _
  refine z_aload_n C dX9_ofTrip_0 rfl 0 rfl ?_
  refine z_iload_n C dX9_ofTrip_1 rfl 1 rfl ?_
  refine z_rcv bd (fun b1 hbb1 htb1 => ?_)
  have heb1 := Option.some.inj hbb1
  subst heb1
  refine z_callV C cf10 mf_X9_tripNumbered kt618 (gtbl_priv (j := 12) rfl rfl) kt616 (k_X9_tripNumbered (gL Γ) b s1 g (gK Γ)) htb1 rfl ⟨Nat.le_of_ble_eq_true rfl, Nat.le_of_ble_eq_true rfl⟩ (rest := []) rfl (Nat.le_of_ble_eq_true rfl) dX9_ofTrip_2 (bdR) (contR fun r2 => ?_)
  refine z_astore_n (L' := [(3, vR r2), (0, vR (some b)), (1, vI s1), (2, vI s2)]) C dX9_ofTrip_5 rfl (by decide) rfl ?_
  refine z_aload_n C dX9_ofTrip_6 rfl 0 rfl ?_
  refine z_ifnonnull C dX9_ofTrip_7 (tgt := 21) rfl it jf ?_ ?_
  · exact X.no no0
  · refine z_iload_n C dX9_ofTrip_21 rfl 3 rfl ?_
    refine z_iconst C dX9_ofTrip_22 (v := 0) (by decide) ?_
    refine z_bipush C dX9_ofTrip_23 (v := 10) (by decide) ?_
    refine z_callS C rfl mf_X9_isOutside kt347 kt346 (k_X9_isOutside (gL Γ) s2 0 10 g (gK Γ)) rfl ⟨Nat.le_of_ble_eq_true rfl, Nat.le_of_ble_eq_true rfl⟩ (rest := []) rfl (Nat.le_of_ble_eq_true rfl) dX9_ofTrip_25 (bdI) (contI fun x3 => ?_)
    refine z_if_eq C dX9_ofTrip_28 (tgt := 42) rfl it jf ?_ ?_
    · refine z_aload_n C dX9_ofTrip_42 rfl 1 rfl ?_
      refine z_rcv bd (fun b4 hbb4 htb4 => ?_)
      have heb4 := Option.some.inj hbb4
      subst heb4
      refine z_callV C cf10 mf_X9_runDay kt638 (gtbl_priv (j := 14) rfl rfl) kt636 (k_X9_runDay (gL Γ) b g (gK Γ)) htb4 rfl ⟨Nat.le_of_ble_eq_true rfl, Nat.le_of_ble_eq_true rfl⟩ (rest := []) rfl (Nat.le_of_ble_eq_true rfl) dX9_ofTrip_43 (bdVg) (contVg fun g5 => ?_)
      refine z_iload_n C dX9_ofTrip_46 rfl 3 rfl ?_
      refine X.cs (c := s2 = 0) it jf (fun hc0 => ?_) (fun hc0 => ?_)
      · refine z_tin C 0 dX9_ofTrip_47 hc0 (by decide) (by decide) rfl (tgt := 100) rfl ?_
        refine z_aload_n C dX9_ofTrip_100 rfl 0 rfl ?_
        refine z_gfR C cf8 1 (by decide) rfl rfl dX9_ofTrip_101 kt411 (fun _ h => h) bd (fun r6 => ?_)
        refine z_gfI C cf4 0 (by decide) rfl rfl dX9_ofTrip_104 kt196 (fun _ h => h) bd (fun x7 => ?_)
        exact z_iret C Z rfl dX9_ofTrip_107 (fun h => by cases h; rfl)
      · refine X.cs (c := s2 = 1) it jf (fun hc1 => ?_) (fun hc1 => ?_)
        · refine z_tin C 1 dX9_ofTrip_47 hc1 (by decide) (by decide) rfl (tgt := 108) rfl ?_
          refine z_aload_n C dX9_ofTrip_108 rfl 0 rfl ?_
          refine z_gfR C cf8 2 (by decide) rfl rfl dX9_ofTrip_109 kt414 (fun _ h => h) bd (fun r8 => ?_)
          refine z_gfI C cf6 0 (by decide) rfl rfl dX9_ofTrip_112 kt111 (fun _ h => h) bd (fun x9 => ?_)
          exact z_iret C Z rfl dX9_ofTrip_115 (fun h => by cases h; rfl)
        · refine X.cs (c := s2 = 2) it jf (fun hc2 => ?_) (fun hc2 => ?_)
          · refine z_tin C 2 dX9_ofTrip_47 hc2 (by decide) (by decide) rfl (tgt := 116) rfl ?_
            refine z_aload_n C dX9_ofTrip_116 rfl 0 rfl ?_
            refine z_gfR C cf8 3 (by decide) rfl rfl dX9_ofTrip_117 kt418 (fun _ h => h) bd (fun r10 => ?_)
            refine z_gfI C cf6 0 (by decide) rfl rfl dX9_ofTrip_120 kt111 (fun _ h => h) bd (fun x11 => ?_)
            exact z_iret C Z rfl dX9_ofTrip_123 (fun h => by cases h; rfl)
          · refine X.cs (c := s2 = 3) it jf (fun hc3 => ?_) (fun hc3 => ?_)
            · refine z_tin C 3 dX9_ofTrip_47 hc3 (by decide) (by decide) rfl (tgt := 124) rfl ?_
              refine z_aload_n C dX9_ofTrip_124 rfl 0 rfl ?_
              refine z_gfI C cf8 4 (by decide) rfl rfl dX9_ofTrip_125 kt424 (fun _ h => h) bd (fun x12 => ?_)
              exact z_iret C Z rfl dX9_ofTrip_128 (fun h => by cases h; rfl)
            · refine X.cs (c := s2 = 4) it jf (fun hc4 => ?_) (fun hc4 => ?_)
              · refine z_tin C 4 dX9_ofTrip_47 hc4 (by decide) (by decide) rfl (tgt := 129) rfl ?_
                refine z_aload_n C dX9_ofTrip_129 rfl 0 rfl ?_
                refine z_rcv bd (fun b13 hbb13 htb13 => ?_)
                subst hbb13
                refine z_callV C cf8 mf_X7_end kt666 kt667 kt665 (k_X7_end (gL Γ) b13 g5 (gK Γ)) htb13 rfl ⟨Nat.le_of_ble_eq_true rfl, Nat.le_of_ble_eq_true rfl⟩ (rest := []) rfl (Nat.le_of_ble_eq_true rfl) dX9_ofTrip_130 (bdI) (contI fun x14 => ?_)
                exact z_iret C Z rfl dX9_ofTrip_133 (fun h => by cases h; rfl)
              · refine X.cs (c := s2 = 5) it jf (fun hc5 => ?_) (fun hc5 => ?_)
                · refine z_tin C 5 dX9_ofTrip_47 hc5 (by decide) (by decide) rfl (tgt := 134) rfl ?_
                  refine z_aload_n C dX9_ofTrip_134 rfl 0 rfl ?_
                  refine z_gfI C cf8 6 (by decide) rfl rfl dX9_ofTrip_135 kt430 (fun _ h => h) bd (fun x15 => ?_)
                  exact z_iret C Z rfl dX9_ofTrip_138 (fun h => by cases h; rfl)
                · refine X.cs (c := s2 = 6) it jf (fun hc6 => ?_) (fun hc6 => ?_)
                  · refine z_tin C 6 dX9_ofTrip_47 hc6 (by decide) (by decide) rfl (tgt := 139) rfl ?_
                    refine z_aload_n C dX9_ofTrip_139 rfl 0 rfl ?_
                    refine z_rcv bd (fun b16 hbb16 htb16 => ?_)
                    subst hbb16
                    refine z_callV C cf8 mf_X7_blockNumber kt670 kt671 kt669 (k_X7_blockNumber (gL Γ) b16 g5 (gK Γ)) htb16 rfl ⟨Nat.le_of_ble_eq_true rfl, Nat.le_of_ble_eq_true rfl⟩ (rest := []) rfl (Nat.le_of_ble_eq_true rfl) dX9_ofTrip_140 (bdI) (contI fun x17 => ?_)
                    exact z_iret C Z rfl dX9_ofTrip_143 (fun h => by cases h; rfl)
                  · refine X.cs (c := s2 = 7) it jf (fun hc7 => ?_) (fun hc7 => ?_)
                    · refine z_tin C 7 dX9_ofTrip_47 hc7 (by decide) (by decide) rfl (tgt := 144) rfl ?_
                      refine z_aload_n C dX9_ofTrip_144 rfl 0 rfl ?_
                      refine z_rcv bd (fun b18 hbb18 htb18 => ?_)
                      subst hbb18
                      refine z_callV C cf8 mf_X7_pieceNumber kt674 kt675 kt673 (k_X7_pieceNumber (gL Γ) b18 g5 (gK Γ)) htb18 rfl ⟨Nat.le_of_ble_eq_true rfl, Nat.le_of_ble_eq_true rfl⟩ (rest := []) rfl (Nat.le_of_ble_eq_true rfl) dX9_ofTrip_145 (bdI) (contI fun x19 => ?_)
                      exact z_iret C Z rfl dX9_ofTrip_148 (fun h => by cases h; rfl)
                    · refine X.cs (c := s2 = 8) it jf (fun hc8 => ?_) (fun hc8 => ?_)
                      · refine z_tin C 8 dX9_ofTrip_47 hc8 (by decide) (by decide) rfl (tgt := 149) rfl ?_
                        refine z_aload_n C dX9_ofTrip_149 rfl 0 rfl ?_
                        refine z_gfI C cf8 9 (by decide) rfl rfl dX9_ofTrip_150 kt439 (fun _ h => h) bd (fun x20 => ?_)
                        exact z_iret C Z rfl dX9_ofTrip_153 (fun h => by cases h; rfl)
                      · refine X.cs (c := s2 = 9) it jf (fun hc9 => ?_) (fun hc9 => ?_)
                        · refine z_tin C 9 dX9_ofTrip_47 hc9 (by decide) (by decide) rfl (tgt := 154) rfl ?_
                          refine z_aload_n C dX9_ofTrip_154 rfl 0 rfl ?_
                          refine z_rcv bd (fun b21 hbb21 htb21 => ?_)
                          subst hbb21
                          refine z_callV C cf8 mf_X7_runs kt662 kt663 kt677 (k_X7_runs (gL Γ) b21 g5 (gK Γ)) htb21 rfl ⟨Nat.le_of_ble_eq_true rfl, Nat.le_of_ble_eq_true rfl⟩ (rest := []) rfl (Nat.le_of_ble_eq_true rfl) dX9_ofTrip_155 (bdI) (contI fun x22 => ?_)
                          refine z_if_eq C dX9_ofTrip_158 (tgt := 168) rfl it jf ?_ ?_
                          · refine z_iconst C dX9_ofTrip_168 (v := (-1)) (by decide) ?_
                            exact z_iret C Z rfl dX9_ofTrip_169 (fun h => by cases h; rfl)
                          · refine z_aload_n C dX9_ofTrip_161 rfl 0 rfl ?_
                            refine z_rcv bd (fun b23 hbb23 htb23 => ?_)
                            have heb23 := Option.some.inj hbb23
                            subst heb23
                            refine z_callV C cf8 mf_X7_late kt658 kt659 kt678 (k_X7_late (gL Γ) b21 g5 (gK Γ)) htb23 rfl ⟨Nat.le_of_ble_eq_true rfl, Nat.le_of_ble_eq_true rfl⟩ (rest := []) rfl (Nat.le_of_ble_eq_true rfl) dX9_ofTrip_162 (bdI) (contI fun x24 => ?_)
                            refine z_goto C dX9_ofTrip_165 (tgt := 169) rfl ?_
                            exact z_iret C Z rfl dX9_ofTrip_169 (fun h => by cases h; rfl)
                        · refine z_tout C dX9_ofTrip_47 (tsw_out (hi := 9) (by decide) (fun k hk => by
                              rcases (show k = 0 ∨ k = 1 ∨ k = 2 ∨ k = 3 ∨ k = 4 ∨ k = 5 ∨ k = 6 ∨ k = 7 ∨ k = 8 ∨ k = 9 by omega) with rfl | rfl | rfl | rfl | rfl | rfl | rfl | rfl | rfl | rfl
                              · exact hc0
                              · exact hc1
                              · exact hc2
                              · exact hc3
                              · exact hc4
                              · exact hc5
                              · exact hc6
                              · exact hc7
                              · exact hc8
                              · exact hc9)) (tgt := 170) rfl ?_
                          refine z_aload_n C dX9_ofTrip_170 rfl 0 rfl ?_
                          refine z_rcv bd (fun b25 hbb25 htb25 => ?_)
                          subst hbb25
                          refine z_callV C cf8 mf_X7_runs kt662 kt663 kt677 (k_X7_runs (gL Γ) b25 g5 (gK Γ)) htb25 rfl ⟨Nat.le_of_ble_eq_true rfl, Nat.le_of_ble_eq_true rfl⟩ (rest := []) rfl (Nat.le_of_ble_eq_true rfl) dX9_ofTrip_171 (bdI) (contI fun x26 => ?_)
                          refine z_if_eq C dX9_ofTrip_174 (tgt := 184) rfl it jf ?_ ?_
                          · refine z_iconst C dX9_ofTrip_184 (v := (-1)) (by decide) ?_
                            exact z_iret C Z rfl dX9_ofTrip_185 (fun h => by cases h; rfl)
                          · refine z_aload_n C dX9_ofTrip_177 rfl 0 rfl ?_
                            refine z_gfI C cf8 11 (by decide) rfl rfl dX9_ofTrip_178 kt444 (fun _ h => h) bd (fun x27 => ?_)
                            refine z_goto C dX9_ofTrip_181 (tgt := 185) rfl ?_
                            exact z_iret C Z rfl dX9_ofTrip_185 (fun h => by cases h; rfl)
    · exact X.no no0
theorem k_X9_ofBlock (l : Launch) (b : Nat) (s1 : Int32) (s2 : Int32) (g : HP) : MM l Pi2 yX9_ofBlock cX9_ofBlock 4 (some .int) 5 117 [vR (some b), vI s1, vI s2] g (wIg (f_X9_ofBlock b s1 s2 g)) := by
  refine MM_of PO_Pi2 mf_X9_ofBlock (fun a ha => wIg_mono (f_X9_ofBlock_mono b s1 s2 g) a ha) (Nat.le_of_ble_eq_true rfl) ?_
  intro Γ fin hfin hl hin C0 Z0
  subst hl
  obtain ⟨v0, hv, rfl⟩ := wIg_some hfin
  have C : CX Γ cX9_ofBlock 4 "Blockduty" Pi2 ok2 5 117 := C0
  have Z : RX Γ Pi2 (some .int) (some (vI v0.1), v0.2) := Z0
  refine X.conv (fun _ => hv) ?_
  unfold f_X9_ofBlock
  show X Γ 0 [(0, vR (some b)), (1, vI s1), (2, vI s2)] [] g _
  refine z_aload_n C dX9_ofBlock_0 rfl 0 rfl ?_
  refine z_iload_n C dX9_ofBlock_1 rfl 1 rfl ?_
  refine z_rcv bd (fun b1 hbb1 htb1 => ?_)
  have heb1 := Option.some.inj hbb1
  subst heb1
  refine z_callV C cf10 mf_X9_blockNumbered kt558 (gtbl_priv (j := 9) rfl rfl) kt556 (k_X9_blockNumbered (gL Γ) b s1 g (gK Γ)) htb1 rfl ⟨Nat.le_of_ble_eq_true rfl, Nat.le_of_ble_eq_true rfl⟩ (rest := []) rfl (Nat.le_of_ble_eq_true rfl) dX9_ofBlock_2 (bdR) (contR fun r2 => ?_)
  refine z_astore_n (L' := [(3, vR r2), (0, vR (some b)), (1, vI s1), (2, vI s2)]) C dX9_ofBlock_5 rfl (by decide) rfl ?_
  refine z_aload_n C dX9_ofBlock_6 rfl 0 rfl ?_
  refine z_ifnonnull C dX9_ofBlock_7 (tgt := 20) rfl it jf ?_ ?_
  · exact X.no no0
  · refine z_iload_n C dX9_ofBlock_20 rfl 3 rfl ?_
    refine z_iconst C dX9_ofBlock_21 (v := 0) (by decide) ?_
    refine z_bipush C dX9_ofBlock_22 (v := 7) (by decide) ?_
    refine z_callS C rfl mf_X9_isOutside kt347 kt346 (k_X9_isOutside (gL Γ) s2 0 7 g (gK Γ)) rfl ⟨Nat.le_of_ble_eq_true rfl, Nat.le_of_ble_eq_true rfl⟩ (rest := []) rfl (Nat.le_of_ble_eq_true rfl) dX9_ofBlock_24 (bdI) (contI fun x3 => ?_)
    refine z_if_eq C dX9_ofBlock_27 (tgt := 41) rfl it jf ?_ ?_
    · refine z_iload_n C dX9_ofBlock_41 rfl 3 rfl ?_
      refine X.cs (c := s2 = 0) it jf (fun hc0 => ?_) (fun hc0 => ?_)
      · refine z_tin C 0 dX9_ofBlock_42 hc0 (by decide) (by decide) rfl (tgt := 84) rfl ?_
        refine z_aload_n C dX9_ofBlock_84 rfl 0 rfl ?_
        refine z_gfI C cf1 1 (by decide) rfl rfl dX9_ofBlock_85 kt534 (fun _ h => h) bd (fun x4 => ?_)
        exact z_iret C Z rfl dX9_ofBlock_88 (fun h => by cases h; rfl)
      · refine X.cs (c := s2 = 1) it jf (fun hc1 => ?_) (fun hc1 => ?_)
        · refine z_tin C 1 dX9_ofBlock_42 hc1 (by decide) (by decide) rfl (tgt := 89) rfl ?_
          refine z_aload_n C dX9_ofBlock_89 rfl 0 rfl ?_
          refine z_gfR C cf1 3 (by decide) rfl rfl dX9_ofBlock_90 kt538 (fun _ h => h) bd (fun r5 => ?_)
          refine z_rcv bd (fun b6 hbb6 htb6 => ?_)
          subst hbb6
          refine z_callV C cf7 mf_X6_count kt606 kt607 kt683 (k_X6_count (gL Γ) b6 g (gK Γ)) htb6 rfl ⟨Nat.le_of_ble_eq_true rfl, Nat.le_of_ble_eq_true rfl⟩ (rest := []) rfl (Nat.le_of_ble_eq_true rfl) dX9_ofBlock_93 (bdI) (contI fun x7 => ?_)
          exact z_iret C Z rfl dX9_ofBlock_96 (fun h => by cases h; rfl)
        · refine X.cs (c := s2 = 2) it jf (fun hc2 => ?_) (fun hc2 => ?_)
          · refine z_tin C 2 dX9_ofBlock_42 hc2 (by decide) (by decide) rfl (tgt := 97) rfl ?_
            refine z_aload_n C dX9_ofBlock_97 rfl 0 rfl ?_
            refine z_gfI C cf1 2 (by decide) rfl rfl dX9_ofBlock_98 kt536 (fun _ h => h) bd (fun x8 => ?_)
            exact z_iret C Z rfl dX9_ofBlock_101 (fun h => by cases h; rfl)
          · refine X.cs (c := s2 = 3) it jf (fun hc3 => ?_) (fun hc3 => ?_)
            · refine z_tin C 3 dX9_ofBlock_42 hc3 (by decide) (by decide) rfl (tgt := 102) rfl ?_
              refine z_aload_n C dX9_ofBlock_102 rfl 0 rfl ?_
              refine z_gfR C cf1 4 (by decide) rfl rfl dX9_ofBlock_103 kt540 (fun _ h => h) bd (fun r9 => ?_)
              refine z_rcv bd (fun b10 hbb10 htb10 => ?_)
              subst hbb10
              refine z_callV C cf0 mf_Jx4a65c_size_8abf5 kt261 kt262 kt260 (k_al_size (gL Γ) b10 g (gK Γ)) htb10 rfl ⟨Nat.le_of_ble_eq_true rfl, Nat.le_of_ble_eq_true rfl⟩ (rest := []) rfl (Nat.le_of_ble_eq_true rfl) dX9_ofBlock_106 (bdI) (contI fun x11 => ?_)
              exact z_iret C Z rfl dX9_ofBlock_109 (fun h => by cases h; rfl)
            · refine X.cs (c := s2 = 4) it jf (fun hc4 => ?_) (fun hc4 => ?_)
              · refine z_tin C 4 dX9_ofBlock_42 hc4 (by decide) (by decide) rfl (tgt := 110) rfl ?_
                refine z_aload_n C dX9_ofBlock_110 rfl 1 rfl ?_
                refine z_aload_n C dX9_ofBlock_111 rfl 0 rfl ?_
                refine z_gfR C cf1 3 (by decide) rfl rfl dX9_ofBlock_112 kt538 (fun _ h => h) bd (fun r12 => ?_)
                refine z_aload_n C dX9_ofBlock_115 rfl 0 rfl ?_
                refine z_gfI C cf1 1 (by decide) rfl rfl dX9_ofBlock_116 kt534 (fun _ h => h) bd (fun x13 => ?_)
                refine z_rcv bd (fun b14 hbb14 htb14 => ?_)
                have heb14 := Option.some.inj hbb14
                subst heb14
                refine z_callV C cf10 mf_X9_isFlat kt686 (gtbl_priv (j := 15) rfl rfl) kt684 (k_X9_isFlat (gL Γ) b r12 x13 g (gK Γ)) htb14 rfl ⟨Nat.le_of_ble_eq_true rfl, Nat.le_of_ble_eq_true rfl⟩ (rest := []) rfl (Nat.le_of_ble_eq_true rfl) dX9_ofBlock_119 (bdI) (contI fun x15 => ?_)
                refine z_if_eq C dX9_ofBlock_122 (tgt := 129) rfl it jf ?_ ?_
                · refine z_iconst C dX9_ofBlock_129 (v := 0) (by decide) ?_
                  exact z_iret C Z rfl dX9_ofBlock_130 (fun h => by cases h; rfl)
                · refine z_iconst C dX9_ofBlock_125 (v := 1) (by decide) ?_
                  refine z_goto C dX9_ofBlock_126 (tgt := 130) rfl ?_
                  exact z_iret C Z rfl dX9_ofBlock_130 (fun h => by cases h; rfl)
              · refine X.cs (c := s2 = 5) it jf (fun hc5 => ?_) (fun hc5 => ?_)
                · refine z_tin C 5 dX9_ofBlock_42 hc5 (by decide) (by decide) rfl (tgt := 131) rfl ?_
                  refine z_aload_n C dX9_ofBlock_131 rfl 0 rfl ?_
                  refine z_gfR C cf1 3 (by decide) rfl rfl dX9_ofBlock_132 kt538 (fun _ h => h) bd (fun r16 => ?_)
                  refine z_aload_n C dX9_ofBlock_135 rfl 1 rfl ?_
                  refine z_gfR C cf10 6 (by decide) rfl rfl dX9_ofBlock_136 kt215 (fun _ h => h) bd (fun r17 => ?_)
                  refine z_aload_n C dX9_ofBlock_139 rfl 0 rfl ?_
                  refine z_gfI C cf1 1 (by decide) rfl rfl dX9_ofBlock_140 kt534 (fun _ h => h) bd (fun x18 => ?_)
                  refine z_aload_n C dX9_ofBlock_143 rfl 1 rfl ?_
                  refine z_gfI C cf10 8 (by decide) rfl rfl dX9_ofBlock_144 kt217 (fun _ h => h) bd (fun x19 => ?_)
                  refine z_rcv bd (fun b20 hbb20 htb20 => ?_)
                  subst hbb20
                  refine z_callV C cf7 mf_X6_leastCharge kt689 kt690 kt688 (k_X6_leastCharge (gL Γ) b20 r17 x18 x19 g (gK Γ)) htb20 rfl ⟨Nat.le_of_ble_eq_true rfl, Nat.le_of_ble_eq_true rfl⟩ (rest := []) rfl (Nat.le_of_ble_eq_true rfl) dX9_ofBlock_147 (bdI) (contI fun x21 => ?_)
                  exact z_iret C Z rfl dX9_ofBlock_150 (fun h => by cases h; rfl)
                · refine X.cs (c := s2 = 6) it jf (fun hc6 => ?_) (fun hc6 => ?_)
                  · refine z_tin C 6 dX9_ofBlock_42 hc6 (by decide) (by decide) rfl (tgt := 151) rfl ?_
                    refine z_aload_n C dX9_ofBlock_151 rfl 0 rfl ?_
                    refine z_gfR C cf1 3 (by decide) rfl rfl dX9_ofBlock_152 kt538 (fun _ h => h) bd (fun r22 => ?_)
                    refine z_aload_n C dX9_ofBlock_155 rfl 1 rfl ?_
                    refine z_gfR C cf10 6 (by decide) rfl rfl dX9_ofBlock_156 kt215 (fun _ h => h) bd (fun r23 => ?_)
                    refine z_rcv bd (fun b24 hbb24 htb24 => ?_)
                    subst hbb24
                    refine z_callV C cf7 mf_X6_empty kt696 kt697 kt695 (k_X6_empty (gL Γ) b24 r23 g (gK Γ)) htb24 rfl ⟨Nat.le_of_ble_eq_true rfl, Nat.le_of_ble_eq_true rfl⟩ (rest := []) rfl (Nat.le_of_ble_eq_true rfl) dX9_ofBlock_159 (bdI) (contI fun x25 => ?_)
                    exact z_iret C Z rfl dX9_ofBlock_162 (fun h => by cases h; rfl)
                  · refine z_tout C dX9_ofBlock_42 (tsw_out (hi := 6) (by decide) (fun k hk => by
                        rcases (show k = 0 ∨ k = 1 ∨ k = 2 ∨ k = 3 ∨ k = 4 ∨ k = 5 ∨ k = 6 by omega) with rfl | rfl | rfl | rfl | rfl | rfl | rfl
                        · exact hc0
                        · exact hc1
                        · exact hc2
                        · exact hc3
                        · exact hc4
                        · exact hc5
                        · exact hc6)) (tgt := 163) rfl ?_
                    refine z_aload_n C dX9_ofBlock_163 rfl 0 rfl ?_
                    refine z_gfR C cf1 3 (by decide) rfl rfl dX9_ofBlock_164 kt538 (fun _ h => h) bd (fun r26 => ?_)
                    refine z_rcv bd (fun b27 hbb27 htb27 => ?_)
                    subst hbb27
                    refine z_callV C cf7 mf_X6_count kt606 kt607 kt683 (k_X6_count (gL Γ) b27 g (gK Γ)) htb27 rfl ⟨Nat.le_of_ble_eq_true rfl, Nat.le_of_ble_eq_true rfl⟩ (rest := []) rfl (Nat.le_of_ble_eq_true rfl) dX9_ofBlock_167 (bdI) (contI fun x28 => ?_)
                    refine z_aload_n C dX9_ofBlock_170 rfl 0 rfl ?_
                    refine z_rcv bd (fun b29 hbb29 htb29 => ?_)
                    subst hbb29
                    refine z_callV C cf1 mf_X0_lostNow kt700 kt701 kt699 (k_X0_lostNow (gL Γ) b29 g (gK Γ)) htb29 rfl ⟨Nat.le_of_ble_eq_true rfl, Nat.le_of_ble_eq_true rfl⟩ (rest := [vI x28]) rfl (Nat.le_of_ble_eq_true rfl) dX9_ofBlock_171 (bdIg) (contIg fun v30 => ?_)
                    refine z_isub C dX9_ofBlock_174 ?_
                    exact z_iret C Z rfl dX9_ofBlock_175 (fun h => by cases h; rfl)
    · exact X.no no0
theorem k_X9_at (l : Launch) (b : Nat) (s1 : Int32) (s2 : Int32) (g : HP) : MM l Pi2 yX9_at cX9_at 5 (some .int) 4 85 [vR (some b), vI s1, vI s2] g (wI g (f_X9_at b s1 s2 g)) := by
  refine MM_of PO_Pi2 mf_X9_at (fun a ha => wI_same a ha) (Nat.le_of_ble_eq_true rfl) ?_
  intro Γ fin hfin hl hin C0 Z0
  subst hl
  obtain ⟨v0, hv, rfl⟩ := wI_some hfin
  have C : CX Γ cX9_at 5 "Blockduty" Pi2 ok2 4 85 := C0
  have Z : RX Γ Pi2 (some .int) (some (vI v0), g) := Z0
  refine X.conv (fun _ => hv) ?_
  unfold f_X9_at
  show X Γ 0 [(0, vR (some b)), (1, vI s1), (2, vI s2)] [] g _
  refine z_aload_n C dX9_at_0 rfl 0 rfl ?_
  refine z_iload_n C dX9_at_1 rfl 1 rfl ?_
  refine z_rcv bd (fun b1 hbb1 htb1 => ?_)
  have heb1 := Option.some.inj hbb1
  subst heb1
  refine z_callV C cf10 mf_X9_blockNumbered kt558 (gtbl_priv (j := 9) rfl rfl) kt556 (k_X9_blockNumbered (gL Γ) b s1 g (gK Γ)) htb1 rfl ⟨Nat.le_of_ble_eq_true rfl, Nat.le_of_ble_eq_true rfl⟩ (rest := []) rfl (Nat.le_of_ble_eq_true rfl) dX9_at_2 (bdR) (contR fun r2 => ?_)
  refine z_astore_n (L' := [(3, vR r2), (0, vR (some b)), (1, vI s1), (2, vI s2)]) C dX9_at_5 rfl (by decide) rfl ?_
  refine z_aload_n C dX9_at_6 rfl 0 rfl ?_
  refine z_ifnonnull C dX9_at_7 (tgt := 20) rfl it jf ?_ ?_
  · exact X.no no0
  · refine z_iload_n C dX9_at_20 rfl 3 rfl ?_
    refine z_if_ge C dX9_at_21 (tgt := 35) rfl it jf ?_ ?_
    · refine z_aload_n C dX9_at_35 rfl 0 rfl ?_
      refine z_gfR C cf1 3 (by decide) rfl rfl dX9_at_36 kt538 (fun _ h => h) bd (fun r3 => ?_)
      refine z_iload_n C dX9_at_39 rfl 3 rfl ?_
      refine z_rcv bd (fun b4 hbb4 htb4 => ?_)
      subst hbb4
      refine z_callV C cf7 mf_X6_get kt571 kt572 kt865 (k_X6_get (gL Γ) b4 s2 g (gK Γ)) htb4 rfl ⟨Nat.le_of_ble_eq_true rfl, Nat.le_of_ble_eq_true rfl⟩ (rest := []) rfl (Nat.le_of_ble_eq_true rfl) dX9_at_40 (bdR) (contR fun r5 => ?_)
      refine z_astore (L' := [(4, vR r5), (3, vR r2), (0, vR (some b)), (1, vI s1), (2, vI s2)]) C dX9_at_43 (by decide) rfl ?_
      refine z_aload C dX9_at_45 0 rfl ?_
      refine z_ifnonnull C dX9_at_47 (tgt := 54) rfl it jf ?_ ?_
      · refine z_iconst C dX9_at_50 (v := (-1)) (by decide) ?_
        refine z_goto C dX9_at_51 (tgt := 59) rfl ?_
        exact z_iret C Z rfl dX9_at_59 (fun h => by cases h; rfl)
      · refine z_aload C dX9_at_54 0 rfl ?_
        refine z_gfI C cf8 0 (by decide) rfl rfl dX9_at_56 kt409 (fun _ h => h) bd (fun x6 => ?_)
        exact z_iret C Z rfl dX9_at_59 (fun h => by cases h; rfl)
    · exact X.no no0
