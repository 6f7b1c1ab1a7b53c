theorem k_X4_driverNumber (l : Launch) (b : Nat) (g : HP) : MM l Pi2 yX4_driverNumber cX4_driverNumber 1 (some .int) 0 0 [vR (some b)] g (wI g (f_X4_driverNumber b g)) := by
  refine MM_of PO_Pi2 mf_X4_driverNumber (fun a ha => wI_same a ha) (Nat.le_of_ble_eq_true rfl) ?_
  intro Γ fin hfin hl hin C0 Z0
  subst hl
  obtain ⟨v0, hv, rfl⟩ := wI_some hfin
  have C : CX Γ cX4_driverNumber 1 "Blockduty$Piece" Pi2 ok2 0 0 := C0
  have Z : RX Γ Pi2 (some .int) (some (vI v0), g) := Z0
  refine X.conv (fun _ => hv) ?_
  unfold f_X4_driverNumber
  show X Γ 0 [(0, vR (some b))] [] g _
  refine z_aload_n C dX4_driverNumber_0 rfl 0 rfl ?_
  refine z_gfR C cf5 5 (by decide) rfl rfl dX4_driverNumber_1 kt1010 (fun _ h => h) bd (fun r1 => ?_)
  refine z_ifnonnull C dX4_driverNumber_4 (tgt := 11) rfl it jf ?_ ?_
  · refine z_iconst C dX4_driverNumber_7 (v := (-1)) (by decide) ?_
    refine z_goto C dX4_driverNumber_8 (tgt := 18) rfl ?_
    exact z_iret C Z rfl dX4_driverNumber_18 (fun h => by cases h; rfl)
  · refine z_aload_n C dX4_driverNumber_11 rfl 0 rfl ?_
    refine z_gfR C cf5 5 (by decide) rfl rfl dX4_driverNumber_12 kt1010 (fun _ h => h) bd (fun r2 => ?_)
    refine z_gfI C cf2 0 (by decide) rfl rfl dX4_driverNumber_15 kt497 (fun _ h => h) bd (fun x3 => ?_)
    exact z_iret C Z rfl dX4_driverNumber_18 (fun h => by cases h; rfl)
theorem k_X5_init (l : Launch) (b : Nat) (s1 : Int32) (g : HP) : MM l Pi2 yX5_init cX5_init 2 none 1 40 [vR (some b), vI s1] g (wVg (f_X5_init b s1 g)) := by
  refine MM_of PO_Pi2 mf_X5_init (fun a ha => wVg_mono (f_X5_init_mono b s1 g) a ha) (Nat.le_of_ble_eq_true rfl) ?_
  intro Γ fin hfin hl hin C0 Z0
  subst hl
  obtain ⟨v0, hv, rfl⟩ := wVg_some hfin
  have C : CX Γ cX5_init 2 "Blockduty$Place" Pi2 ok2 1 40 := C0
  have Z : RX Γ Pi2 none (none, v0) := Z0
  refine X.conv (fun _ => hv) ?_
  unfold f_X5_init
  show X Γ 0 [(0, vR (some b)), (1, vI s1)] [] g _
  refine z_aload_n C dX5_init_0 rfl 0 rfl ?_
  refine z_objInit C kt109 kwOI kwOC dX5_init_1 (by decide) (Nat.le_of_ble_eq_true rfl) ?_
  refine z_aload_n C dX5_init_4 rfl 0 rfl ?_
  refine z_iload_n C dX5_init_5 rfl 1 rfl ?_
  refine z_pfI C cf6 0 (by decide) rfl rfl rfl (Or.inr ⟨rfl, hin, rfl⟩) dX5_init_6 kt110 (fun _ h => h) bd (fun g1 => ?_)
  refine z_aload_n C dX5_init_9 rfl 0 rfl ?_
  refine z_iload_n C dX5_init_10 rfl 1 rfl ?_
  refine z_if_ne C dX5_init_11 (tgt := 18) rfl it jf ?_ ?_
  · refine z_iconst C dX5_init_14 (v := 1) (by decide) ?_
    refine z_goto C dX5_init_15 (tgt := 19) rfl ?_
    refine z_pfZ C cf6 3 (by decide) rfl rfl rfl (Or.inl rfl) dX5_init_19 kt116 (fun _ h => h) bd (fun g2 => ?_)
    exact z_vret C Z rfl dX5_init_22 (fun h => by cases h; rfl)
  · refine z_iconst C dX5_init_18 (v := 0) (by decide) ?_
    refine z_pfZ C cf6 3 (by decide) rfl rfl rfl (Or.inl rfl) dX5_init_19 kt116 (fun _ h => h) bd (fun g3 => ?_)
    exact z_vret C Z rfl dX5_init_22 (fun h => by cases h; rfl)
theorem k_X6_join (l : Launch) (b : Nat) (s1 : Option Nat) (s2 : Int32) (s3 : Option Nat) (s4 : Int32) (g : HP) : MM l Pi2 yX6_join cX6_join 5 none 8 215 [vR (some b), vR s1, vI s2, vR s3, vI s4] g (wVg (f_X6_join b s1 s2 s3 s4 g)) := by
  refine MM_of PO_Pi2 mf_X6_join (fun a ha => wVg_mono (f_X6_join_mono b s1 s2 s3 s4 g) a ha) (Nat.le_of_ble_eq_true rfl) ?_
  intro Γ fin hfin hl hin C0 Z0
  subst hl
  obtain ⟨v0, hv, rfl⟩ := wVg_some hfin
  have C : CX Γ cX6_join 5 "Blockduty$Row" Pi2 ok2 8 215 := C0
  have Z : RX Γ Pi2 none (none, v0) := Z0
  refine X.conv (fun _ => hv) ?_
  unfold f_X6_join
  show X Γ 0 [(0, vR (some b)), (1, vR s1), (2, vI s2), (3, vR s3), (4, vI s4)] [] g _
  refine z_aload_n C dX6_join_0 rfl 0 rfl ?_
  refine z_gfR C cf7 0 (by decide) rfl rfl dX6_join_1 kt81 (fun _ h => h) bd (fun r1 => ?_)
  refine z_rcv bd (fun b2 hbb2 htb2 => ?_)
  subst hbb2
  refine z_callV C cf0 mf_Jx4a65c_clear_da8c8 kt602 kt603 kt875 (k_al_clear (gL Γ) b2 g (gK Γ)) htb2 rfl ⟨Nat.le_of_ble_eq_true rfl, Nat.le_of_ble_eq_true rfl⟩ (rest := []) rfl (Nat.le_of_ble_eq_true rfl) dX6_join_4 (bdVg) (contVg fun g3 => ?_)
  refine z_aload_n C dX6_join_7 rfl 0 rfl ?_
  refine z_aload_n C dX6_join_8 rfl 1 rfl ?_
  refine z_iconst C dX6_join_9 (v := 0) (by decide) ?_
  refine z_iload_n C dX6_join_10 rfl 2 rfl ?_
  refine z_rcv bd (fun b4 hbb4 htb4 => ?_)
  have heb4 := Option.some.inj hbb4
  subst heb4
  refine z_callV C cf7 mf_X6_addPart kt878 (gtbl_priv (j := 27) rfl rfl) kt876 (k_X6_addPart (gL Γ) b s1 0 s2 g3 (gK Γ)) htb4 rfl ⟨Nat.le_of_ble_eq_true rfl, Nat.le_of_ble_eq_true rfl⟩ (rest := []) rfl (Nat.le_of_ble_eq_true rfl) dX6_join_11 (bdVg) (contVg fun g5 => ?_)
  refine z_aload_n C dX6_join_14 rfl 0 rfl ?_
  refine z_aload_n C dX6_join_15 rfl 3 rfl ?_
  refine z_iload C dX6_join_16 4 rfl ?_
  refine z_aload_n C dX6_join_18 rfl 3 rfl ?_
  refine z_rcv bd (fun b6 hbb6 htb6 => ?_)
  subst hbb6
  refine z_callV C cf7 mf_X6_count kt606 kt607 kt882 (k_X6_count (gL Γ) b6 g5 (gK Γ)) htb6 rfl ⟨Nat.le_of_ble_eq_true rfl, Nat.le_of_ble_eq_true rfl⟩ (rest := [vI s4, vR (some b6), vR (some b)]) rfl (Nat.le_of_ble_eq_true rfl) dX6_join_19 (bdI) (contI fun x7 => ?_)
  refine z_rcv bd (fun b8 hbb8 htb8 => ?_)
  have heb8 := Option.some.inj hbb8
  subst heb8
  refine z_callV C cf7 mf_X6_addPart kt878 (gtbl_priv (j := 27) rfl rfl) kt876 (k_X6_addPart (gL Γ) b (some b6) s4 x7 g5 (gK Γ)) htb8 rfl ⟨Nat.le_of_ble_eq_true rfl, Nat.le_of_ble_eq_true rfl⟩ (rest := []) rfl (Nat.le_of_ble_eq_true rfl) dX6_join_22 (bdVg) (contVg fun g9 => ?_)
  exact z_vret C Z rfl dX6_join_25 (fun h => by cases h; rfl)
theorem k_X6_empty_L7 {Γ : GG} {β : Type} {fin0 : β} {F0 : (Int32 × (Option Nat)) → Option β} (C : CX Γ cX6_empty 6 "Blockduty$Row" Pi2 ok2 3 64) (p7_0 : Nat) (p7_1 : Option Nat) (w7 : HP) (hexit : ∀ q7 : (Int32 × (Option Nat)), X Γ 57 [(1, vR p7_1), (2, vI q7.1), (3, vR q7.2)] [] w7 (F0 q7 = some fin0)) : ∀ (m7 : Nat) (u7_2 : Int32) (u7_3 : Option Nat) (u7_4 : Int32), X Γ 7 [(0, vR (some p7_0)), (1, vR p7_1), (2, vI u7_2), (3, vR u7_3), (4, vI u7_4)] [] w7 ((f_X6_empty_L7 p7_0 p7_1 w7 m7 u7_2 u7_3 u7_4).bind F0 = some fin0) := by
  intro m7
  induction m7 with
  | zero =>
    intro u7_2 u7_3 u7_4
    exact X.no no1
  | succ m7 ih =>
    intro u7_2 u7_3 u7_4
    unfold f_X6_empty_L7
    refine z_iload C dX6_empty_7 4 rfl ?_
    refine z_aload_n C dX6_empty_9 rfl 0 rfl ?_
    refine X.conv bb ?_
    refine z_gfR C cf7 0 (by decide) rfl rfl dX6_empty_10 kt81 (fun _ h => h) bd (fun r1 => ?_)
    refine X.conv bb ?_
    refine z_rcv bd (fun b2 hbb2 htb2 => ?_)
    subst hbb2
    refine X.conv bb ?_
    refine z_callV C cf0 mf_Jx4a65c_size_8abf5 kt261 kt262 kt569 (k_al_size (gL Γ) b2 w7 (gK Γ)) htb2 rfl ⟨Nat.le_of_ble_eq_true rfl, Nat.le_of_ble_eq_true rfl⟩ (rest := [vI u7_4]) rfl (Nat.le_of_ble_eq_true rfl) dX6_empty_13 (bdI) (contI fun x3 => ?_)
    refine X.conv bi ?_
    refine z_icmp_ge C dX6_empty_16 (tgt := 57) rfl it jf ?_ ?_
    · refine z_lsub [1, 2, 3] rfl ?_
      exact hexit (u7_2, u7_3)
    · refine z_aload_n C dX6_empty_19 rfl 0 rfl ?_
      refine X.conv bb ?_
      refine z_gfR C cf7 0 (by decide) rfl rfl dX6_empty_20 kt81 (fun _ h => h) bd (fun r4 => ?_)
      refine z_iload C dX6_empty_23 4 rfl ?_
      refine X.conv bb ?_
      refine z_rcv bd (fun b5 hbb5 htb5 => ?_)
      subst hbb5
      refine X.conv bb ?_
      refine z_callV C cf0 mf_Jx4a65c_get_915e3 kt265 kt266 kt574 (k_al_get (gL Γ) b5 u7_4 w7 (gK Γ)) htb5 rfl ⟨Nat.le_of_ble_eq_true rfl, Nat.le_of_ble_eq_true rfl⟩ (rest := []) rfl (Nat.le_of_ble_eq_true rfl) dX6_empty_25 (bdR) (contR fun r6 => ?_)
      refine X.conv bb ?_
      refine z_cst C cf8 dX6_empty_28 kt575 bd (fun r7 => ?_)
      refine z_astore (L' := [(5, vR r7), (0, vR (some p7_0)), (1, vR p7_1), (2, vI u7_2), (3, vR u7_3), (4, vI u7_4)]) C dX6_empty_31 (by decide) rfl ?_
      refine z_iload_n C dX6_empty_33 rfl 3 rfl ?_
      refine z_aload_n C dX6_empty_34 rfl 4 rfl ?_
      refine z_aload C dX6_empty_35 0 rfl ?_
      refine X.conv bb ?_
      refine z_gfR C cf8 2 (by decide) rfl rfl dX6_empty_37 kt413 (fun _ h => h) bd (fun r8 => ?_)
      refine X.conv bb ?_
      refine z_rcv bd (fun b9 hbb9 htb9 => ?_)
      subst hbb9
      refine X.conv bb ?_
      refine z_callV C cf6 mf_X5_emptyTo kt649 kt650 kt692 (k_X5_emptyTo (gL Γ) b9 r8 w7 (gK Γ)) htb9 rfl ⟨Nat.le_of_ble_eq_true rfl, Nat.le_of_ble_eq_true rfl⟩ (rest := [vI u7_2]) rfl (Nat.le_of_ble_eq_true rfl) dX6_empty_40 (bdI) (contI fun x10 => ?_)
      refine z_iadd C dX6_empty_43 ?_
      refine z_istore_n (L' := [(2, vI (u7_2 + x10)), (5, vR r7), (0, vR (some p7_0)), (1, vR p7_1), (3, vR (some b9)), (4, vI u7_4)]) C dX6_empty_44 rfl (by decide) rfl ?_
      refine z_aload C dX6_empty_45 1 rfl ?_
      refine X.conv bb ?_
      refine z_gfR C cf8 3 (by decide) rfl rfl dX6_empty_47 kt417 (fun _ h => h) bd (fun r11 => ?_)
      refine z_astore_n (L' := [(3, vR r11), (2, vI (u7_2 + x10)), (5, vR r7), (0, vR (some p7_0)), (1, vR p7_1), (4, vI u7_4)]) C dX6_empty_50 rfl (by decide) rfl ?_
      refine z_iinc (L' := [(4, vI (u7_4 + 1)), (3, vR r11), (2, vI (u7_2 + x10)), (5, vR r7), (0, vR (some p7_0)), (1, vR p7_1)]) C dX6_empty_51 5 rfl (v := u7_4 + 1) rfl (by decide) rfl ?_
      refine z_goto C dX6_empty_54 (tgt := 7) rfl ?_
      refine z_lsub [4, 5, 2, 1, 0] rfl ?_
      exact ih (u7_2 + x10) r11 (u7_4 + 1)
theorem k_X6_empty (l : Launch) (b : Nat) (s1 : Option Nat) (g : HP) : MM l Pi2 yX6_empty cX6_empty 6 (some .int) 3 64 [vR (some b), vR s1] g (wI g (f_X6_empty b s1 g)) := by
  refine MM_of PO_Pi2 mf_X6_empty (fun a ha => wI_same a ha) (Nat.le_of_ble_eq_true rfl) ?_
  intro Γ fin hfin hl hin C0 Z0
  subst hl
  obtain ⟨v0, hv, rfl⟩ := wI_some hfin
  have C : CX Γ cX6_empty 6 "Blockduty$Row" Pi2 ok2 3 64 := C0
  have Z : RX Γ Pi2 (some .int) (some (vI v0), g) := Z0
  refine X.conv (fun _ => hv) ?_
  unfold f_X6_empty
  show X Γ 0 [(0, vR (some b)), (1, vR s1)] [] g _
  refine z_iconst C dX6_empty_0 (v := 0) (by decide) ?_
  refine z_istore_n (L' := [(2, vI 0), (0, vR (some b)), (1, vR s1)]) C dX6_empty_1 rfl (by decide) rfl ?_
  refine z_aload_n C dX6_empty_2 rfl 2 rfl ?_
  refine z_astore_n (L' := [(3, vR s1), (2, vI 0), (0, vR (some b)), (1, vR s1)]) C dX6_empty_3 rfl (by decide) rfl ?_
  refine z_iconst C dX6_empty_4 (v := 0) (by decide) ?_
  refine z_istore (L' := [(4, vI 0), (3, vR s1), (2, vI 0), (0, vR (some b)), (1, vR s1)]) C dX6_empty_5 (by decide) rfl ?_
  refine z_lsub [3, 4, 2, 1, 0] rfl ?_
  refine k_X6_empty_L7 C b s1 g (fun q12 => ?_) FU 0 s1 0
  refine z_iload_n C dX6_empty_57 rfl 1 rfl ?_
  refine z_aload_n C dX6_empty_58 rfl 2 rfl ?_
  refine z_aload_n C dX6_empty_59 rfl 0 rfl ?_
  refine z_rcv bd (fun b13 hbb13 htb13 => ?_)
  rw [hbb13]
  refine z_callV C cf6 mf_X5_emptyTo kt649 kt650 kt692 (k_X5_emptyTo (gL Γ) b13 s1 g (gK Γ)) htb13 rfl ⟨Nat.le_of_ble_eq_true rfl, Nat.le_of_ble_eq_true rfl⟩ (rest := [vI q12.1]) rfl (Nat.le_of_ble_eq_true rfl) dX6_empty_60 (bdI) (contI fun x14 => ?_)
  refine z_iadd C dX6_empty_63 ?_
  exact z_iret C Z rfl dX6_empty_64 (fun h => by cases h; rfl)
theorem k_X6_leastCharge_L15 {Γ : GG} {β : Type} {fin0 : β} {F0 : (Int32 × Int32 × (Option Nat)) → Option β} (C : CX Γ cX6_leastCharge 12 "Blockduty$Row" Pi2 ok2 3 64) (p15_0 : Nat) (p15_1 : Option Nat) (p15_2 : Int32) (p15_3 : Int32) (w15 : HP) (hexit : ∀ q15 : (Int32 × Int32 × (Option Nat)), X Γ 150 [(1, vR p15_1), (4, vI q15.1), (5, vI q15.2.1), (6, vR q15.2.2)] [] w15 (F0 q15 = some fin0)) : ∀ (m15 : Nat) (u15_4 : Int32) (u15_5 : Int32) (u15_6 : Option Nat) (u15_7 : Option Nat) (u15_8 : Int32), X Γ 15 [(0, vR (some p15_0)), (1, vR p15_1), (2, vI p15_2), (3, vI p15_3), (4, vI u15_4), (5, vI u15_5), (6, vR u15_6), (7, vR u15_7), (8, vI u15_8)] [] w15 ((f_X6_leastCharge_L15 p15_0 p15_1 p15_2 p15_3 w15 m15 u15_4 u15_5 u15_6 u15_7 u15_8).bind F0 = some fin0) := by
  intro m15
  induction m15 with
  | zero =>
    intro u15_4 u15_5 u15_6 u15_7 u15_8
    exact X.no no1
  | succ m15 ih =>
    intro u15_4 u15_5 u15_6 u15_7 u15_8
    unfold f_X6_leastCharge_L15
    refine z_iload C dX6_leastCharge_15 8 rfl ?_
    refine z_aload_n C dX6_leastCharge_17 rfl 0 rfl ?_
    refine X.conv bb ?_
    refine z_gfR C cf7 0 (by decide) rfl rfl dX6_leastCharge_18 kt81 (fun _ h => h) bd (fun r1 => ?_)
    refine X.conv bb ?_
    refine z_rcv bd (fun b2 hbb2 htb2 => ?_)
    subst hbb2
    refine X.conv bb ?_
    refine z_callV C cf0 mf_Jx4a65c_size_8abf5 kt261 kt262 kt569 (k_al_size (gL Γ) b2 w15 (gK Γ)) htb2 rfl ⟨Nat.le_of_ble_eq_true rfl, Nat.le_of_ble_eq_true rfl⟩ (rest := [vI u15_8]) rfl (Nat.le_of_ble_eq_true rfl) dX6_leastCharge_21 (bdI) (contI fun x3 => ?_)
    refine X.conv bi ?_
    refine z_icmp_ge C dX6_leastCharge_24 (tgt := 150) rfl it jf ?_ ?_
    · refine z_lsub [1, 4, 5, 6] rfl ?_
      exact hexit (u15_4, u15_5, u15_6)
    · refine z_aload_n C dX6_leastCharge_27 rfl 0 rfl ?_
      refine X.conv bb ?_
      refine z_gfR C cf7 0 (by decide) rfl rfl dX6_leastCharge_28 kt81 (fun _ h => h) bd (fun r4 => ?_)
      refine z_iload C dX6_leastCharge_31 8 rfl ?_
      refine X.conv bb ?_
      refine z_rcv bd (fun b5 hbb5 htb5 => ?_)
      subst hbb5
      refine X.conv bb ?_
      refine z_callV C cf0 mf_Jx4a65c_get_915e3 kt265 kt266 kt574 (k_al_get (gL Γ) b5 u15_8 w15 (gK Γ)) htb5 rfl ⟨Nat.le_of_ble_eq_true rfl, Nat.le_of_ble_eq_true rfl⟩ (rest := []) rfl (Nat.le_of_ble_eq_true rfl) dX6_leastCharge_33 (bdR) (contR fun r6 => ?_)
      refine X.conv bb ?_
      refine z_cst C cf8 dX6_leastCharge_36 kt575 bd (fun r7 => ?_)
      refine z_astore (L' := [(9, vR r7), (0, vR (some p15_0)), (1, vR p15_1), (2, vI p15_2), (3, vI p15_3), (4, vI u15_4), (5, vI u15_5), (6, vR u15_6), (7, vR u15_7), (8, vI u15_8)]) C dX6_leastCharge_39 (by decide) rfl ?_
      refine z_aload C dX6_leastCharge_41 7 rfl ?_
      refine z_aload C dX6_leastCharge_43 0 rfl ?_
      refine X.conv bb ?_
      refine z_gfR C cf8 2 (by decide) rfl rfl dX6_leastCharge_45 kt413 (fun _ h => h) bd (fun r8 => ?_)
      refine X.conv bb ?_
      refine z_rcv bd (fun b9 hbb9 htb9 => ?_)
      subst hbb9
      refine X.conv bb ?_
      refine z_callV C cf6 mf_X5_emptyTo kt649 kt650 kt692 (k_X5_emptyTo (gL Γ) b9 r8 w15 (gK Γ)) htb9 rfl ⟨Nat.le_of_ble_eq_true rfl, Nat.le_of_ble_eq_true rfl⟩ (rest := []) rfl (Nat.le_of_ble_eq_true rfl) dX6_leastCharge_48 (bdI) (contI fun x10 => ?_)
      refine z_istore (L' := [(10, vI x10), (9, vR r7), (0, vR (some p15_0)), (1, vR p15_1), (2, vI p15_2), (3, vI p15_3), (4, vI u15_4), (5, vI u15_5), (6, vR (some b9)), (7, vR u15_7), (8, vI u15_8)]) C dX6_leastCharge_51 (by decide) rfl ?_
      refine z_iload C dX6_leastCharge_53 6 rfl ?_
      refine z_iload C dX6_leastCharge_55 0 rfl ?_
      refine z_isub C dX6_leastCharge_57 ?_
      refine z_istore (L' := [(4, vI (u15_4 - x10)), (10, vI x10), (9, vR r7), (0, vR (some p15_0)), (1, vR p15_1), (2, vI p15_2), (3, vI p15_3), (5, vI u15_5), (6, vR (some b9)), (7, vR u15_7), (8, vI u15_8)]) C dX6_leastCharge_58 (by decide) rfl ?_
      refine z_iload C dX6_leastCharge_60 7 rfl ?_
      refine z_iload C dX6_leastCharge_62 0 rfl ?_
      refine z_mmin C kt693 kw_mmin_s kw_math kw_mmin_c dX6_leastCharge_64 (by decide) (Nat.le_of_ble_eq_true rfl) ?_
      refine z_istore (L' := [(5, vI (if u15_4 - x10 < u15_5 then (u15_4 - x10) else u15_5)), (4, vI (u15_4 - x10)), (10, vI x10), (9, vR r7), (0, vR (some p15_0)), (1, vR p15_1), (2, vI p15_2), (3, vI p15_3), (6, vR (some b9)), (7, vR u15_7), (8, vI u15_8)]) C dX6_leastCharge_67 (by decide) rfl ?_
      refine z_aload C dX6_leastCharge_69 9 rfl ?_
      refine X.conv bb ?_
      refine X.join (τ := Int32) 110 (fun q16 => [(0, vR (some p15_0)), (1, vR p15_1), (2, vI p15_2), (3, vI p15_3), (4, vI q16), (5, vI (if u15_4 - x10 < u15_5 then (u15_4 - x10) else u15_5)), (8, vI u15_8), (9, vR r7)]) (fun q16 => []) (fun q16 => w15) (fun q16 => ?_) (fun hj110 => ?_)
      · refine z_iload C dX6_leastCharge_110 4 rfl ?_
        refine z_aload C dX6_leastCharge_112 7 rfl ?_
        refine X.conv bb ?_
        refine z_gfI C cf8 5 (by decide) rfl rfl dX6_leastCharge_114 kt427 (fun _ h => h) bd (fun x17 => ?_)
        refine z_iconst C dX6_leastCharge_117 (v := 2) (by decide) ?_
        refine z_iload_n C dX6_leastCharge_118 rfl 3 rfl ?_
        refine z_iadd C dX6_leastCharge_119 ?_
        refine z_imul C dX6_leastCharge_120 ?_
        refine z_isub C dX6_leastCharge_121 ?_
        refine z_istore (L' := [(4, vI (q16 - (x17 * (2 + p15_3)))), (0, vR (some p15_0)), (1, vR p15_1), (2, vI p15_2), (3, vI p15_3), (5, vI (if u15_4 - x10 < u15_5 then (u15_4 - x10) else u15_5)), (8, vI u15_8), (9, vR r7)]) C dX6_leastCharge_122 (by decide) rfl ?_
        refine z_iload C dX6_leastCharge_124 5 rfl ?_
        refine z_iload C dX6_leastCharge_126 0 rfl ?_
        refine z_mmin C kt693 kw_mmin_s kw_math kw_mmin_c dX6_leastCharge_128 (by decide) (Nat.le_of_ble_eq_true rfl) ?_
        refine z_istore (L' := [(5, vI (if q16 - (x17 * (2 + p15_3)) < (if u15_4 - x10 < u15_5 then (u15_4 - x10) else u15_5) then (q16 - (x17 * (2 + p15_3))) else (if u15_4 - x10 < u15_5 then (u15_4 - x10) else u15_5))), (4, vI (q16 - (x17 * (2 + p15_3)))), (0, vR (some p15_0)), (1, vR p15_1), (2, vI p15_2), (3, vI p15_3), (8, vI u15_8), (9, vR r7)]) C dX6_leastCharge_131 (by decide) rfl ?_
        refine z_aload C dX6_leastCharge_133 7 rfl ?_
        refine X.conv bb ?_
        refine z_gfR C cf8 3 (by decide) rfl rfl dX6_leastCharge_135 kt417 (fun _ h => h) bd (fun r18 => ?_)
        refine z_astore (L' := [(6, vR r18), (5, vI (if q16 - (x17 * (2 + p15_3)) < (if u15_4 - x10 < u15_5 then (u15_4 - x10) else u15_5) then (q16 - (x17 * (2 + p15_3))) else (if u15_4 - x10 < u15_5 then (u15_4 - x10) else u15_5))), (4, vI (q16 - (x17 * (2 + p15_3)))), (0, vR (some p15_0)), (1, vR p15_1), (2, vI p15_2), (3, vI p15_3), (8, vI u15_8), (9, vR r7)]) C dX6_leastCharge_138 (by decide) rfl ?_
        refine z_aload C dX6_leastCharge_140 8 rfl ?_
        refine z_astore (L' := [(7, vR r7), (6, vR r18), (5, vI (if q16 - (x17 * (2 + p15_3)) < (if u15_4 - x10 < u15_5 then (u15_4 - x10) else u15_5) then (q16 - (x17 * (2 + p15_3))) else (if u15_4 - x10 < u15_5 then (u15_4 - x10) else u15_5))), (4, vI (q16 - (x17 * (2 + p15_3)))), (0, vR (some p15_0)), (1, vR p15_1), (2, vI p15_2), (3, vI p15_3), (8, vI u15_8), (9, vR r7)]) C dX6_leastCharge_142 (by decide) rfl ?_
        refine z_iinc (L' := [(8, vI (u15_8 + 1)), (7, vR r7), (6, vR r18), (5, vI (if q16 - (x17 * (2 + p15_3)) < (if u15_4 - x10 < u15_5 then (u15_4 - x10) else u15_5) then (q16 - (x17 * (2 + p15_3))) else (if u15_4 - x10 < u15_5 then (u15_4 - x10) else u15_5))), (4, vI (q16 - (x17 * (2 + p15_3)))), (0, vR (some p15_0)), (1, vR p15_1), (2, vI p15_2), (3, vI p15_3), (9, vR r7)]) C dX6_leastCharge_144 8 rfl (v := u15_8 + 1) rfl (by decide) rfl ?_
        refine z_goto C dX6_leastCharge_147 (tgt := 15) rfl ?_
        refine z_lsub [5, 6, 7, 8, 4, 3, 2, 1, 0] rfl ?_
        exact ih (q16 - (x17 * (2 + p15_3))) (if q16 - (x17 * (2 + p15_3)) < (if u15_4 - x10 < u15_5 then (u15_4 - x10) else u15_5) then (q16 - (x17 * (2 + p15_3))) else (if u15_4 - x10 < u15_5 then (u15_4 - x10) else u15_5)) r18 r7 (u15_8 + 1)
      · refine X.conv bi ?_
        refine z_ifnull C dX6_leastCharge_71 (tgt := 110) rfl it jf ?_ ?_
        · refine z_lsub [4, 5, 6, 7, 1, 0, 10, 3] rfl ?_
          exact hj110 (u15_4 - x10)
        · refine z_aload C dX6_leastCharge_74 3 rfl ?_
          refine X.conv bb ?_
          refine z_gfI C cf8 4 (by decide) rfl rfl dX6_leastCharge_76 kt422 (fun _ h => h) bd (fun x11 => ?_)
          refine z_aload C dX6_leastCharge_79 9 rfl ?_
          refine X.conv bb ?_
          refine z_rcv bd (fun b12 hbb12 htb12 => ?_)
          subst hbb12
          refine X.conv bb ?_
          refine z_callV C cf8 mf_X7_end kt666 kt667 kt694 (k_X7_end (gL Γ) b12 w15 (gK Γ)) htb12 rfl ⟨Nat.le_of_ble_eq_true rfl, Nat.le_of_ble_eq_true rfl⟩ (rest := [vI x11]) rfl (Nat.le_of_ble_eq_true rfl) dX6_leastCharge_81 (bdI) (contI fun x13 => ?_)
          refine z_isub C dX6_leastCharge_84 ?_
          refine z_iload C dX6_leastCharge_85 2 rfl ?_
          refine z_isub C dX6_leastCharge_87 ?_
          refine z_istore (L' := [(11, vI ((x11 - x13) - x10)), (5, vI (if u15_4 - x10 < u15_5 then (u15_4 - x10) else u15_5)), (4, vI (u15_4 - x10)), (10, vI x10), (9, vR r7), (0, vR (some p15_0)), (1, vR p15_1), (2, vI p15_2), (3, vI p15_3), (6, vR (some b9)), (7, vR (some b12)), (8, vI u15_8)]) C dX6_leastCharge_88 (by decide) rfl ?_
          refine z_iload_n C dX6_leastCharge_90 rfl 7 rfl ?_
          refine z_iload C dX6_leastCharge_91 2 rfl ?_
          refine z_aload C dX6_leastCharge_93 4 rfl ?_
          refine X.conv bb ?_
          refine z_gfR C cf8 2 (by decide) rfl rfl dX6_leastCharge_95 kt413 (fun _ h => h) bd (fun r14 => ?_)
          refine X.conv bb ?_
          refine z_gfI C cf6 2 (by decide) rfl rfl dX6_leastCharge_98 kt115 (fun _ h => h) bd (fun x15 => ?_)
          refine z_iload C dX6_leastCharge_101 0 rfl ?_
          refine z_imul C dX6_leastCharge_103 ?_
          refine z_iadd C dX6_leastCharge_104 ?_
          refine z_mmin C kt693 kw_mmin_s kw_math kw_mmin_c dX6_leastCharge_105 (by decide) (Nat.le_of_ble_eq_true rfl) ?_
          refine z_istore (L' := [(4, vI (if (u15_4 - x10) + (x15 * ((x11 - x13) - x10)) < p15_2 then ((u15_4 - x10) + (x15 * ((x11 - x13) - x10))) else p15_2)), (11, vI ((x11 - x13) - x10)), (5, vI (if u15_4 - x10 < u15_5 then (u15_4 - x10) else u15_5)), (10, vI x10), (9, vR r7), (0, vR (some p15_0)), (1, vR p15_1), (2, vI p15_2), (3, vI p15_3), (6, vR (some b9)), (7, vR (some b12)), (8, vI u15_8)]) C dX6_leastCharge_108 (by decide) rfl ?_
          refine z_lsub [5, 6, 7, 8, 0, 2, 11, 4] rfl ?_
          exact hj110 (if (u15_4 - x10) + (x15 * ((x11 - x13) - x10)) < p15_2 then ((u15_4 - x10) + (x15 * ((x11 - x13) - x10))) else p15_2)
theorem k_X6_leastCharge (l : Launch) (b : Nat) (s1 : Option Nat) (s2 : Int32) (s3 : Int32) (g : HP) : MM l Pi2 yX6_leastCharge cX6_leastCharge 12 (some .int) 3 64 [vR (some b), vR s1, vI s2, vI s3] g (wI g (f_X6_leastCharge b s1 s2 s3 g)) := by
  refine MM_of PO_Pi2 mf_X6_leastCharge (fun a ha => wI_same a ha) (Nat.le_of_ble_eq_true rfl) ?_
  intro Γ fin hfin hl hin C0 Z0
  subst hl
  obtain ⟨v0, hv, rfl⟩ := wI_some hfin
  have C : CX Γ cX6_leastCharge 12 "Blockduty$Row" Pi2 ok2 3 64 := C0
  have Z : RX Γ Pi2 (some .int) (some (vI v0), g) := Z0
  refine X.conv (fun _ => hv) ?_
  unfold f_X6_leastCharge
  show X Γ 0 [(0, vR (some b)), (1, vR s1), (2, vI s2), (3, vI s3)] [] g _
  refine z_iload_n C dX6_leastCharge_0 rfl 2 rfl ?_
  refine z_istore (L' := [(4, vI s2), (0, vR (some b)), (1, vR s1), (2, vI s2), (3, vI s3)]) C dX6_leastCharge_1 (by decide) rfl ?_
  refine z_iload_n C dX6_leastCharge_3 rfl 3 rfl ?_
  refine z_istore (L' := [(5, vI s2), (4, vI s2), (0, vR (some b)), (1, vR s1), (2, vI s2), (3, vI s3)]) C dX6_leastCharge_4 (by decide) rfl ?_
  refine z_aload_n C dX6_leastCharge_6 rfl 3 rfl ?_
  refine z_astore (L' := [(6, vR s1), (5, vI s2), (4, vI s2), (0, vR (some b)), (1, vR s1), (2, vI s2), (3, vI s3)]) C dX6_leastCharge_7 (by decide) rfl ?_
  refine z_null C dX6_leastCharge_9 ?_
  refine z_astore (L' := [(7, vR none), (6, vR s1), (5, vI s2), (4, vI s2), (0, vR (some b)), (1, vR s1), (2, vI s2), (3, vI s3)]) C dX6_leastCharge_10 (by decide) rfl ?_
  refine z_iconst C dX6_leastCharge_12 (v := 0) (by decide) ?_
  refine z_istore (L' := [(8, vI 0), (7, vR none), (6, vR s1), (5, vI s2), (4, vI s2), (0, vR (some b)), (1, vR s1), (2, vI s2), (3, vI s3)]) C dX6_leastCharge_13 (by decide) rfl ?_
  refine z_lsub [5, 6, 7, 8, 4, 3, 2, 1, 0] rfl ?_
  refine k_X6_leastCharge_L15 C b s1 s2 s3 g (fun q19 => ?_) FU s2 s2 s1 none 0
  refine z_iload C dX6_leastCharge_150 2 rfl ?_
  refine z_iload C dX6_leastCharge_152 1 rfl ?_
  refine z_aload C dX6_leastCharge_154 3 rfl ?_
  refine z_aload_n C dX6_leastCharge_156 rfl 0 rfl ?_
  refine z_rcv bd (fun b20 hbb20 htb20 => ?_)
  rw [hbb20]
  refine z_callV C cf6 mf_X5_emptyTo kt649 kt650 kt692 (k_X5_emptyTo (gL Γ) b20 s1 g (gK Γ)) htb20 rfl ⟨Nat.le_of_ble_eq_true rfl, Nat.le_of_ble_eq_true rfl⟩ (rest := [vI q19.1, vI q19.2.1]) rfl (Nat.le_of_ble_eq_true rfl) dX6_leastCharge_157 (bdI) (contI fun x21 => ?_)
  refine z_isub C dX6_leastCharge_160 ?_
  refine z_mmin C kt693 kw_mmin_s kw_math kw_mmin_c dX6_leastCharge_161 (by decide) (Nat.le_of_ble_eq_true rfl) ?_
  exact z_iret C Z rfl dX6_leastCharge_164 (fun h => by cases h; rfl)
theorem k_X7_init (l : Launch) (b : Nat) (s1 : Int32) (s2 : Option Nat) (s3 : Option Nat) (s4 : Option Nat) (s5 : Int32) (s6 : Int32) (g : HP) : MM l Pi2 yX7_init cX7_init 7 none 1 40 [vR (some b), vI s1, vR s2, vR s3, vR s4, vI s5, vI s6] g (wVg (f_X7_init b s1 s2 s3 s4 s5 s6 g)) := by
  refine MM_of PO_Pi2 mf_X7_init (fun a ha => wVg_mono (f_X7_init_mono b s1 s2 s3 s4 s5 s6 g) a ha) (Nat.le_of_ble_eq_true rfl) ?_
  intro Γ fin hfin hl hin C0 Z0
  subst hl
  obtain ⟨v0, hv, rfl⟩ := wVg_some hfin
  have C : CX Γ cX7_init 7 "Blockduty$Trip" Pi2 ok2 1 40 := C0
  have Z : RX Γ Pi2 none (none, v0) := Z0
  refine X.conv (fun _ => hv) ?_
  unfold f_X7_init
  show X Γ 0 [(0, vR (some b)), (1, vI s1), (2, vR s2), (3, vR s3), (4, vR s4), (5, vI s5), (6, vI s6)] [] g _
  refine z_aload_n C dX7_init_0 rfl 0 rfl ?_
  refine z_objInit C kt407 kwOI kwOC dX7_init_1 (by decide) (Nat.le_of_ble_eq_true rfl) ?_
  refine z_aload_n C dX7_init_4 rfl 0 rfl ?_
  refine z_iload_n C dX7_init_5 rfl 1 rfl ?_
  refine z_pfI C cf8 0 (by decide) rfl rfl rfl (Or.inr ⟨rfl, hin, rfl⟩) dX7_init_6 kt408 (fun _ h => h) bd (fun g1 => ?_)
  refine z_aload_n C dX7_init_9 rfl 0 rfl ?_
  refine z_aload_n C dX7_init_10 rfl 2 rfl ?_
  refine z_pfR C cf8 1 (by decide) rfl rfl (isRefTy_o _) (Or.inr ⟨rfl, hin, rfl⟩) dX7_init_11 kt410 (fun _ h => h) bd (fun g2 => ?_)
  refine z_aload_n C dX7_init_14 rfl 0 rfl ?_
  refine z_aload_n C dX7_init_15 rfl 3 rfl ?_
  refine z_pfR C cf8 2 (by decide) rfl rfl (isRefTy_o _) (Or.inr ⟨rfl, hin, rfl⟩) dX7_init_16 kt412 (fun _ h => h) bd (fun g3 => ?_)
  refine z_aload_n C dX7_init_19 rfl 0 rfl ?_
  refine z_aload C dX7_init_20 4 rfl ?_
  refine z_pfR C cf8 3 (by decide) rfl rfl (isRefTy_o _) (Or.inr ⟨rfl, hin, rfl⟩) dX7_init_22 kt415 (fun _ h => h) bd (fun g4 => ?_)
  refine z_aload_n C dX7_init_25 rfl 0 rfl ?_
  refine z_iload C dX7_init_26 5 rfl ?_
  refine z_pfI C cf8 4 (by decide) rfl rfl rfl (Or.inr ⟨rfl, hin, rfl⟩) dX7_init_28 kt419 (fun _ h => h) bd (fun g5 => ?_)
  refine z_aload_n C dX7_init_31 rfl 0 rfl ?_
  refine z_iload C dX7_init_32 6 rfl ?_
  refine z_pfI C cf8 5 (by decide) rfl rfl rfl (Or.inr ⟨rfl, hin, rfl⟩) dX7_init_34 kt425 (fun _ h => h) bd (fun g6 => ?_)
  exact z_vret C Z rfl dX7_init_37 (fun h => by cases h; rfl)
theorem k_X7_waitBehind (l : Launch) (b : Nat) (s1 : Option Nat) (g : HP) : MM l Pi2 yX7_waitBehind cX7_waitBehind 2 (some .int) 1 21 [vR (some b), vR s1] g (wI g (f_X7_waitBehind b s1 g)) := by
  refine MM_of PO_Pi2 mf_X7_waitBehind (fun a ha => wI_same a ha) (Nat.le_of_ble_eq_true rfl) ?_
  intro Γ fin hfin hl hin C0 Z0
  subst hl
  obtain ⟨v0, hv, rfl⟩ := wI_some hfin
  have C : CX Γ cX7_waitBehind 2 "Blockduty$Trip" Pi2 ok2 1 21 := C0
  have Z : RX Γ Pi2 (some .int) (some (vI v0), g) := Z0
  refine X.conv (fun _ => hv) ?_
  unfold f_X7_waitBehind
  show X Γ 0 [(0, vR (some b)), (1, vR s1)] [] g _
  refine z_aload_n C dX7_waitBehind_0 rfl 0 rfl ?_
  refine z_gfI C cf8 4 (by decide) rfl rfl dX7_waitBehind_1 kt419 (fun _ h => h) bd (fun x1 => ?_)
  refine z_aload_n C dX7_waitBehind_4 rfl 1 rfl ?_
  refine z_rcv bd (fun b2 hbb2 htb2 => ?_)
  subst hbb2
  refine z_callV C cf8 mf_X7_end kt666 kt667 kt789 (k_X7_end (gL Γ) b2 g (gK Γ)) htb2 rfl ⟨Nat.le_of_ble_eq_true rfl, Nat.le_of_ble_eq_true rfl⟩ (rest := [vI x1]) rfl (Nat.le_of_ble_eq_true rfl) dX7_waitBehind_5 (bdI) (contI fun x3 => ?_)
  refine z_isub C dX7_waitBehind_8 ?_
  refine z_aload_n C dX7_waitBehind_9 rfl 1 rfl ?_
  refine z_gfR C cf8 3 (by decide) rfl rfl dX7_waitBehind_10 kt415 (fun _ h => h) bd (fun r4 => ?_)
  refine z_aload_n C dX7_waitBehind_13 rfl 0 rfl ?_
  refine z_gfR C cf8 2 (by decide) rfl rfl dX7_waitBehind_14 kt412 (fun _ h => h) bd (fun r5 => ?_)
  refine z_rcv bd (fun b6 hbb6 htb6 => ?_)
  subst hbb6
  refine z_callV C cf6 mf_X5_emptyTo kt649 kt650 kt648 (k_X5_emptyTo (gL Γ) b6 r5 g (gK Γ)) htb6 rfl ⟨Nat.le_of_ble_eq_true rfl, Nat.le_of_ble_eq_true rfl⟩ (rest := [vI (x1 - x3)]) rfl (Nat.le_of_ble_eq_true rfl) dX7_waitBehind_17 (bdI) (contI fun x7 => ?_)
  refine z_isub C dX7_waitBehind_20 ?_
  exact z_iret C Z rfl dX7_waitBehind_21 (fun h => by cases h; rfl)
theorem k_X7_blockNumber (l : Launch) (b : Nat) (g : HP) : MM l Pi2 yX7_blockNumber cX7_blockNumber 1 (some .int) 0 0 [vR (some b)] g (wI g (f_X7_blockNumber b g)) := by
  refine MM_of PO_Pi2 mf_X7_blockNumber (fun a ha => wI_same a ha) (Nat.le_of_ble_eq_true rfl) ?_
  intro Γ fin hfin hl hin C0 Z0
  subst hl
  obtain ⟨v0, hv, rfl⟩ := wI_some hfin
  have C : CX Γ cX7_blockNumber 1 "Blockduty$Trip" Pi2 ok2 0 0 := C0
  have Z : RX Γ Pi2 (some .int) (some (vI v0), g) := Z0
  refine X.conv (fun _ => hv) ?_
  unfold f_X7_blockNumber
  show X Γ 0 [(0, vR (some b))] [] g _
  refine z_aload_n C dX7_blockNumber_0 rfl 0 rfl ?_
  refine z_gfR C cf8 7 (by decide) rfl rfl dX7_blockNumber_1 kt432 (fun _ h => h) bd (fun r1 => ?_)
  refine z_ifnonnull C dX7_blockNumber_4 (tgt := 11) rfl it jf ?_ ?_
  · refine z_iconst C dX7_blockNumber_7 (v := (-1)) (by decide) ?_
    refine z_goto C dX7_blockNumber_8 (tgt := 18) rfl ?_
    exact z_iret C Z rfl dX7_blockNumber_18 (fun h => by cases h; rfl)
  · refine z_aload_n C dX7_blockNumber_11 rfl 0 rfl ?_
    refine z_gfR C cf8 7 (by decide) rfl rfl dX7_blockNumber_12 kt432 (fun _ h => h) bd (fun r2 => ?_)
    refine z_gfI C cf1 0 (by decide) rfl rfl dX7_blockNumber_15 kt531 (fun _ h => h) bd (fun x3 => ?_)
    exact z_iret C Z rfl dX7_blockNumber_18 (fun h => by cases h; rfl)
theorem k_X7_pieceNumber (l : Launch) (b : Nat) (g : HP) : MM l Pi2 yX7_pieceNumber cX7_pieceNumber 1 (some .int) 0 0 [vR (some b)] g (wI g (f_X7_pieceNumber b g)) := by
  refine MM_of PO_Pi2 mf_X7_pieceNumber (fun a ha => wI_same a ha) (Nat.le_of_ble_eq_true rfl) ?_
  intro Γ fin hfin hl hin C0 Z0
  subst hl
  obtain ⟨v0, hv, rfl⟩ := wI_some hfin
  have C : CX Γ cX7_pieceNumber 1 "Blockduty$Trip" Pi2 ok2 0 0 := C0
  have Z : RX Γ Pi2 (some .int) (some (vI v0), g) := Z0
  refine X.conv (fun _ => hv) ?_
  unfold f_X7_pieceNumber
  show X Γ 0 [(0, vR (some b))] [] g _
  refine z_aload_n C dX7_pieceNumber_0 rfl 0 rfl ?_
  refine z_gfR C cf8 8 (by decide) rfl rfl dX7_pieceNumber_1 kt436 (fun _ h => h) bd (fun r1 => ?_)
  refine z_ifnonnull C dX7_pieceNumber_4 (tgt := 11) rfl it jf ?_ ?_
  · refine z_iconst C dX7_pieceNumber_7 (v := (-1)) (by decide) ?_
    refine z_goto C dX7_pieceNumber_8 (tgt := 18) rfl ?_
    exact z_iret C Z rfl dX7_pieceNumber_18 (fun h => by cases h; rfl)
  · refine z_aload_n C dX7_pieceNumber_11 rfl 0 rfl ?_
    refine z_gfR C cf8 8 (by decide) rfl rfl dX7_pieceNumber_12 kt436 (fun _ h => h) bd (fun r2 => ?_)
    refine z_gfI C cf5 0 (by decide) rfl rfl dX7_pieceNumber_15 kt1002 (fun _ h => h) bd (fun x3 => ?_)
    exact z_iret C Z rfl dX7_pieceNumber_18 (fun h => by cases h; rfl)
theorem k_X7_pay (l : Launch) (b : Nat) (s1 : Int32) (g : HP) : MM l Pi2 yX7_pay cX7_pay 2 (some .int) 1 20 [vR (some b), vI s1] g (wI g (f_X7_pay b s1 g)) := by
  refine MM_of PO_Pi2 mf_X7_pay (fun a ha => wI_same a ha) (Nat.le_of_ble_eq_true rfl) ?_
  intro Γ fin hfin hl hin C0 Z0
  subst hl
  obtain ⟨v0, hv, rfl⟩ := wI_some hfin
  have C : CX Γ cX7_pay 2 "Blockduty$Trip" Pi2 ok2 1 20 := C0
  have Z : RX Γ Pi2 (some .int) (some (vI v0), g) := Z0
  refine X.conv (fun _ => hv) ?_
  unfold f_X7_pay
  show X Γ 0 [(0, vR (some b)), (1, vI s1)] [] g _
  refine z_aload_n C dX7_pay_0 rfl 0 rfl ?_
  refine z_rcv bd (fun b1 hbb1 htb1 => ?_)
  have heb1 := Option.some.inj hbb1
  subst heb1
  refine z_callV C cf8 mf_X7_runs kt662 kt663 kt752 (k_X7_runs (gL Γ) b g (gK Γ)) htb1 rfl ⟨Nat.le_of_ble_eq_true rfl, Nat.le_of_ble_eq_true rfl⟩ (rest := []) rfl (Nat.le_of_ble_eq_true rfl) dX7_pay_1 (bdI) (contI fun x2 => ?_)
  refine z_if_eq C dX7_pay_4 (tgt := 22) rfl it jf ?_ ?_
  · refine z_aload_n C dX7_pay_22 rfl 0 rfl ?_
    refine z_gfI C cf8 9 (by decide) rfl rfl dX7_pay_23 kt437 (fun _ h => h) bd (fun x3 => ?_)
    refine z_iconst C dX7_pay_26 (v := 2) (by decide) ?_
    refine z_icmp_ne C dX7_pay_27 (tgt := 34) rfl it jf ?_ ?_
    · refine z_iconst C dX7_pay_30 (v := 0) (by decide) ?_
      refine z_goto C dX7_pay_31 (tgt := 36) rfl ?_
      exact z_iret C Z rfl dX7_pay_36 (fun h => by cases h; rfl)
    · refine z_iload_n C dX7_pay_34 rfl 1 rfl ?_
      refine z_ineg C dX7_pay_35 ?_
      exact z_iret C Z rfl dX7_pay_36 (fun h => by cases h; rfl)
  · refine z_aload_n C dX7_pay_7 rfl 0 rfl ?_
    refine z_gfR C cf8 1 (by decide) rfl rfl dX7_pay_8 kt410 (fun _ h => h) bd (fun r4 => ?_)
    refine z_gfI C cf4 1 (by decide) rfl rfl dX7_pay_11 kt199 (fun _ h => h) bd (fun x5 => ?_)
    refine z_aload_n C dX7_pay_14 rfl 0 rfl ?_
    refine z_rcv bd (fun b6 hbb6 htb6 => ?_)
    have heb6 := Option.some.inj hbb6
    subst heb6
    refine z_callV C cf8 mf_X7_late kt658 kt659 kt657 (k_X7_late (gL Γ) b g (gK Γ)) htb6 rfl ⟨Nat.le_of_ble_eq_true rfl, Nat.le_of_ble_eq_true rfl⟩ (rest := [vI x5]) rfl (Nat.le_of_ble_eq_true rfl) dX7_pay_15 (bdI) (contI fun x7 => ?_)
    refine z_iconst C dX7_pay_18 (v := 2) (by decide) ?_
    refine z_idiv C dX7_pay_19 (by decide) ?_
    refine z_isub C dX7_pay_20 ?_
    exact z_iret C Z rfl dX7_pay_21 (fun h => by cases h; rfl)
theorem k_X8_init (l : Launch) (b : Nat) (g : HP) : MM l Pi2 yX8_init cX8_init 1 none 1 40 [vR (some b)] g (wVg (f_X8_init b g)) := by
  refine MM_of PO_Pi2 mf_X8_init (fun a ha => wVg_mono (f_X8_init_mono b g) a ha) (Nat.le_of_ble_eq_true rfl) ?_
  intro Γ fin hfin hl hin C0 Z0
  subst hl
  obtain ⟨v0, hv, rfl⟩ := wVg_some hfin
  have C : CX Γ cX8_init 1 "Blockduty$WorkRules" Pi2 ok2 1 40 := C0
  have Z : RX Γ Pi2 none (none, v0) := Z0
  refine X.conv (fun _ => hv) ?_
  unfold f_X8_init
  show X Γ 0 [(0, vR (some b))] [] g _
  refine z_aload_n C dX8_init_0 rfl 0 rfl ?_
  refine z_objInit C kt65 kwOI kwOC dX8_init_1 (by decide) (Nat.le_of_ble_eq_true rfl) ?_
  refine z_aload_n C dX8_init_4 rfl 0 rfl ?_
  refine z_sipush C dX8_init_5 (v := 600) (by decide) ?_
  refine z_pfI C cf9 0 (by decide) rfl rfl rfl (Or.inl rfl) dX8_init_8 kt66 (fun _ h => h) bd (fun g1 => ?_)
  refine z_aload_n C dX8_init_11 rfl 0 rfl ?_
  refine z_sipush C dX8_init_12 (v := 240) (by decide) ?_
  refine z_pfI C cf9 1 (by decide) rfl rfl rfl (Or.inl rfl) dX8_init_15 kt67 (fun _ h => h) bd (fun g2 => ?_)
  exact z_vret C Z rfl dX8_init_18 (fun h => by cases h; rfl)
theorem k_X8_endOfLongest_L18 {Γ : GG} {β : Type} {fin0 : β} {F0 : Int32 → Option β} (C : CX Γ cX8_endOfLongest 9 "Blockduty$WorkRules" Pi2 ok2 4 85) (p18_0 : Nat) (p18_1 : Nat) (p18_5 : Option Nat) (w18 : HP) (hexit : ∀ q18 : Int32, X Γ 165 [(3, vI q18)] [] w18 (F0 q18 = some fin0)) : ∀ (m18 : Nat) (u18_3 : Int32) (u18_4 : Int32) (u18_6 : Option Nat) (u18_7 : Int32), X Γ 18 [(0, vR (some p18_0)), (1, vR (some p18_1)), (3, vI u18_3), (4, vI u18_4), (5, vR p18_5), (6, vR u18_6), (7, vI u18_7)] [] w18 ((f_X8_endOfLongest_L18 p18_0 p18_1 p18_5 w18 m18 u18_3 u18_4 u18_6 u18_7).bind F0 = some fin0) := by
  intro m18
  induction m18 with
  | zero =>
    intro u18_3 u18_4 u18_6 u18_7
    exact X.no no1
  | succ m18 ih =>
    intro u18_3 u18_4 u18_6 u18_7
    unfold f_X8_endOfLongest_L18
    refine z_iload C dX8_endOfLongest_18 6 rfl ?_
    refine z_aload_n C dX8_endOfLongest_20 rfl 1 rfl ?_
    refine X.conv bb ?_
    refine z_rcv bd (fun b3 hbb3 htb3 => ?_)
    have heb3 := Option.some.inj hbb3
    subst heb3
    refine X.conv bb ?_
    refine z_callV C cf7 mf_X6_count kt606 kt607 kt972 (k_X6_count (gL Γ) p18_1 w18 (gK Γ)) htb3 rfl ⟨Nat.le_of_ble_eq_true rfl, Nat.le_of_ble_eq_true rfl⟩ (rest := [vI u18_7]) rfl (Nat.le_of_ble_eq_true rfl) dX8_endOfLongest_21 (bdI) (contI fun x4 => ?_)
    refine X.conv bi ?_
    refine z_icmp_ge C dX8_endOfLongest_24 (tgt := 165) rfl it jf ?_ ?_
    · refine z_lsub [2] rfl ?_
      exact hexit u18_3
    · refine z_aload C dX8_endOfLongest_27 4 rfl ?_
      refine X.conv bi ?_
      refine z_ifnull C dX8_endOfLongest_29 (tgt := 165) rfl it jf ?_ ?_
      · refine z_lsub [2] rfl ?_
        exact hexit u18_3
      · refine z_aload_n C dX8_endOfLongest_32 rfl 1 rfl ?_
        refine X.conv bb ?_
        refine z_gfR C cf7 0 (by decide) rfl rfl dX8_endOfLongest_33 kt83 (fun _ h => h) bd (fun r5 => ?_)
        refine z_iload C dX8_endOfLongest_36 6 rfl ?_
        refine X.conv bb ?_
        refine z_rcv bd (fun b6 hbb6 htb6 => ?_)
        subst hbb6
        refine X.conv bb ?_
        refine z_callV C cf0 mf_Jx4a65c_get_915e3 kt265 kt266 kt978 (k_al_get (gL Γ) b6 u18_7 w18 (gK Γ)) htb6 rfl ⟨Nat.le_of_ble_eq_true rfl, Nat.le_of_ble_eq_true rfl⟩ (rest := []) rfl (Nat.le_of_ble_eq_true rfl) dX8_endOfLongest_38 (bdR) (contR fun r7 => ?_)
        refine X.conv bb ?_
        refine z_cst C cf8 dX8_endOfLongest_41 kt979 bd (fun r8 => ?_)
        refine z_astore (L' := [(8, vR r8), (0, vR (some p18_0)), (1, vR (some p18_1)), (3, vI u18_3), (4, vI u18_4), (5, vR p18_5), (6, vR u18_6), (7, vI u18_7)]) C dX8_endOfLongest_44 (by decide) rfl ?_
        refine z_aload C dX8_endOfLongest_46 6 rfl ?_
        refine X.conv bi ?_
        refine z_ifnull C dX8_endOfLongest_48 (tgt := 90) rfl it jf ?_ ?_
        · refine z_iload C dX8_endOfLongest_90 4 rfl ?_
          refine z_aload C dX8_endOfLongest_92 0 rfl ?_
          refine X.conv bb ?_
          refine z_gfI C cf8 5 (by decide) rfl rfl dX8_endOfLongest_94 kt426 (fun _ h => h) bd (fun x9 => ?_)
          refine z_iadd C dX8_endOfLongest_97 ?_
          refine z_istore (L' := [(4, vI (u18_4 + x9)), (8, vR r8), (0, vR (some p18_0)), (1, vR (some p18_1)), (3, vI u18_3), (5, vR p18_5), (6, vR u18_6), (7, vI u18_7)]) C dX8_endOfLongest_98 (by decide) rfl ?_
          refine z_iload C dX8_endOfLongest_100 0 rfl ?_
          refine z_aload_n C dX8_endOfLongest_102 rfl 2 rfl ?_
          refine X.conv bb ?_
          refine z_gfI C cf9 1 (by decide) rfl rfl dX8_endOfLongest_103 kt67 (fun _ h => h) bd (fun x10 => ?_)
          refine X.conv bi ?_
          refine z_icmp_gt C dX8_endOfLongest_106 (tgt := 165) rfl it jf ?_ ?_
          · refine z_lsub [4] rfl ?_
            exact hexit u18_3
          · refine z_aload C dX8_endOfLongest_109 1 rfl ?_
            refine X.conv bb ?_
            refine z_rcv bd (fun b11 hbb11 htb11 => ?_)
            subst hbb11
            refine X.conv bb ?_
            refine z_callV C cf8 mf_X7_end kt666 kt667 kt985 (k_X7_end (gL Γ) b11 w18 (gK Γ)) htb11 rfl ⟨Nat.le_of_ble_eq_true rfl, Nat.le_of_ble_eq_true rfl⟩ (rest := []) rfl (Nat.le_of_ble_eq_true rfl) dX8_endOfLongest_111 (bdI) (contI fun x12 => ?_)
            refine z_aload C dX8_endOfLongest_114 5 rfl ?_
            refine X.conv bb ?_
            refine z_gfI C cf8 4 (by decide) rfl rfl dX8_endOfLongest_116 kt421 (fun _ h => h) bd (fun x13 => ?_)
            refine z_isub C dX8_endOfLongest_119 ?_
            refine z_aload_n C dX8_endOfLongest_120 rfl 2 rfl ?_
            refine X.conv bb ?_
            refine z_gfI C cf9 0 (by decide) rfl rfl dX8_endOfLongest_121 kt66 (fun _ h => h) bd (fun x14 => ?_)
            refine X.conv bi ?_
            refine z_icmp_le C dX8_endOfLongest_124 (tgt := 130) rfl it jf ?_ ?_
            · refine z_aload C dX8_endOfLongest_130 1 rfl ?_
              refine X.conv bb ?_
              refine z_gfR C cf8 3 (by decide) rfl rfl dX8_endOfLongest_132 kt416 (fun _ h => h) bd (fun r15 => ?_)
              refine X.conv bb ?_
              refine z_gfI C cf6 3 (by decide) rfl rfl dX8_endOfLongest_135 kt118 (fun _ h => h) bd (fun x16 => ?_)
              refine X.conv bi ?_
              refine z_if_ne C dX8_endOfLongest_138 (tgt := 152) rfl it jf ?_ ?_
              · refine z_iload C dX8_endOfLongest_141 7 rfl ?_
                refine z_aload_n C dX8_endOfLongest_143 rfl 3 rfl ?_
                refine X.conv bb ?_
                refine z_rcv bd (fun b17 hbb17 htb17 => ?_)
                have heb17 := Option.some.inj hbb17
                subst heb17
                refine X.conv bb ?_
                refine z_callV C cf7 mf_X6_count kt606 kt607 kt972 (k_X6_count (gL Γ) p18_1 w18 (gK Γ)) htb17 rfl ⟨Nat.le_of_ble_eq_true rfl, Nat.le_of_ble_eq_true rfl⟩ (rest := [vI u18_7]) rfl (Nat.le_of_ble_eq_true rfl) dX8_endOfLongest_144 (bdI) (contI fun x18 => ?_)
                refine z_iconst C dX8_endOfLongest_147 (v := 1) (by decide) ?_
                refine z_isub C dX8_endOfLongest_148 ?_
                refine X.conv bi ?_
                refine z_icmp_ne C dX8_endOfLongest_149 (tgt := 155) rfl it jf ?_ ?_
                · refine z_iload C dX8_endOfLongest_152 7 rfl ?_
                  refine z_istore_n (L' := [(3, vI u18_7), (4, vI (u18_4 + x9)), (8, vR (some b11)), (0, vR (some p18_0)), (1, vR (some p18_1)), (5, vR p18_5), (6, vR u18_6), (7, vI u18_7)]) C dX8_endOfLongest_154 rfl (by decide) rfl ?_
                  refine z_aload C dX8_endOfLongest_155 2 rfl ?_
                  refine z_astore (L' := [(6, vR (some b11)), (3, vI u18_7), (4, vI (u18_4 + x9)), (8, vR (some b11)), (0, vR (some p18_0)), (1, vR (some p18_1)), (5, vR p18_5), (7, vI u18_7)]) C dX8_endOfLongest_157 (by decide) rfl ?_
                  refine z_iinc (L' := [(7, vI (u18_7 + 1)), (6, vR (some b11)), (3, vI u18_7), (4, vI (u18_4 + x9)), (8, vR (some b11)), (0, vR (some p18_0)), (1, vR (some p18_1)), (5, vR p18_5)]) C dX8_endOfLongest_159 7 rfl (v := u18_7 + 1) rfl (by decide) rfl ?_
                  refine z_goto C dX8_endOfLongest_162 (tgt := 18) rfl ?_
                  refine z_lsub [5, 6, 2, 3, 7, 1, 0] rfl ?_
                  exact ih u18_7 (u18_4 + x9) (some b11) (u18_7 + 1)
                · refine z_aload C dX8_endOfLongest_155 1 rfl ?_
                  refine z_astore (L' := [(6, vR (some b11)), (4, vI (u18_4 + x9)), (8, vR (some b11)), (0, vR (some p18_0)), (1, vR (some p18_1)), (3, vI u18_3), (5, vR p18_5), (7, vI u18_7)]) C dX8_endOfLongest_157 (by decide) rfl ?_
                  refine z_iinc (L' := [(7, vI (u18_7 + 1)), (6, vR (some b11)), (4, vI (u18_4 + x9)), (8, vR (some b11)), (0, vR (some p18_0)), (1, vR (some p18_1)), (3, vI u18_3), (5, vR p18_5)]) C dX8_endOfLongest_159 7 rfl (v := u18_7 + 1) rfl (by decide) rfl ?_
                  refine z_goto C dX8_endOfLongest_162 (tgt := 18) rfl ?_
                  refine z_lsub [4, 5, 6, 2, 7, 1, 0] rfl ?_
                  exact ih u18_3 (u18_4 + x9) (some b11) (u18_7 + 1)
              · refine z_iload C dX8_endOfLongest_152 7 rfl ?_
                refine z_istore_n (L' := [(3, vI u18_7), (4, vI (u18_4 + x9)), (8, vR (some b11)), (0, vR (some p18_0)), (1, vR (some p18_1)), (5, vR p18_5), (6, vR u18_6), (7, vI u18_7)]) C dX8_endOfLongest_154 rfl (by decide) rfl ?_
                refine z_aload C dX8_endOfLongest_155 2 rfl ?_
                refine z_astore (L' := [(6, vR (some b11)), (3, vI u18_7), (4, vI (u18_4 + x9)), (8, vR (some b11)), (0, vR (some p18_0)), (1, vR (some p18_1)), (5, vR p18_5), (7, vI u18_7)]) C dX8_endOfLongest_157 (by decide) rfl ?_
                refine z_iinc (L' := [(7, vI (u18_7 + 1)), (6, vR (some b11)), (3, vI u18_7), (4, vI (u18_4 + x9)), (8, vR (some b11)), (0, vR (some p18_0)), (1, vR (some p18_1)), (5, vR p18_5)]) C dX8_endOfLongest_159 7 rfl (v := u18_7 + 1) rfl (by decide) rfl ?_
                refine z_goto C dX8_endOfLongest_162 (tgt := 18) rfl ?_
                refine z_lsub [5, 6, 2, 3, 7, 1, 0] rfl ?_
                exact ih u18_7 (u18_4 + x9) (some b11) (u18_7 + 1)
            · refine z_goto C dX8_endOfLongest_127 (tgt := 165) rfl ?_
              refine z_lsub [4] rfl ?_
              exact hexit u18_3
        · refine z_iload C dX8_endOfLongest_51 4 rfl ?_
          refine z_aload C dX8_endOfLongest_53 6 rfl ?_
          refine z_aload C dX8_endOfLongest_55 0 rfl ?_
          refine X.conv bb ?_
          refine z_rcv bd (fun b19 hbb19 htb19 => ?_)
          subst hbb19
          refine X.conv bb ?_
          refine z_callV C cf8 mf_X7_emptyTo kt645 kt646 kt980 (k_X7_emptyTo (gL Γ) b19 r8 w18 (gK Γ)) htb19 rfl ⟨Nat.le_of_ble_eq_true rfl, Nat.le_of_ble_eq_true rfl⟩ (rest := [vI u18_4]) rfl (Nat.le_of_ble_eq_true rfl) dX8_endOfLongest_57 (bdI) (contI fun x20 => ?_)
          refine z_iadd C dX8_endOfLongest_60 ?_
          refine z_istore (L' := [(4, vI (u18_4 + x20)), (8, vR r8), (0, vR (some p18_0)), (1, vR (some p18_1)), (3, vI u18_3), (5, vR p18_5), (6, vR (some b19)), (7, vI u18_7)]) C dX8_endOfLongest_61 (by decide) rfl ?_
          refine z_iload C dX8_endOfLongest_63 0 rfl ?_
          refine z_aload_n C dX8_endOfLongest_65 rfl 2 rfl ?_
          refine X.conv bb ?_
          refine z_gfI C cf9 1 (by decide) rfl rfl dX8_endOfLongest_66 kt67 (fun _ h => h) bd (fun x21 => ?_)
          refine X.conv bi ?_
          refine z_icmp_le C dX8_endOfLongest_69 (tgt := 75) rfl it jf ?_ ?_
          · refine z_aload C dX8_endOfLongest_75 1 rfl ?_
            refine z_aload C dX8_endOfLongest_77 6 rfl ?_
            refine X.conv bb ?_
            refine z_rcv bd (fun b22 hbb22 htb22 => ?_)
            subst hbb22
            refine X.conv bb ?_
            refine z_callV C cf8 mf_X7_waitBehind kt982 kt983 kt981 (k_X7_waitBehind (gL Γ) b22 (some b19) w18 (gK Γ)) htb22 rfl ⟨Nat.le_of_ble_eq_true rfl, Nat.le_of_ble_eq_true rfl⟩ (rest := []) rfl (Nat.le_of_ble_eq_true rfl) dX8_endOfLongest_79 (bdI) (contI fun x23 => ?_)
            refine z_bipush C dX8_endOfLongest_82 (v := 20) (by decide) ?_
            refine X.conv bb ?_
            refine X.join (τ := Int32) 90 (fun q24 => [(0, vR (some p18_0)), (1, vR (some p18_1)), (3, vI u18_3), (4, vI q24), (5, vR p18_5), (7, vI u18_7), (8, vR (some b22))]) (fun q24 => []) (fun q24 => w18) (fun q24 => ?_) (fun hj90 => ?_)
            · refine z_iload C dX8_endOfLongest_90 3 rfl ?_
              refine z_aload C dX8_endOfLongest_92 6 rfl ?_
              refine X.conv bb ?_
              refine z_gfI C cf8 5 (by decide) rfl rfl dX8_endOfLongest_94 kt426 (fun _ h => h) bd (fun x25 => ?_)
              refine z_iadd C dX8_endOfLongest_97 ?_
              refine z_istore (L' := [(4, vI (q24 + x25)), (0, vR (some p18_0)), (1, vR (some p18_1)), (3, vI u18_3), (5, vR p18_5), (7, vI u18_7), (8, vR (some b22))]) C dX8_endOfLongest_98 (by decide) rfl ?_
              refine z_iload C dX8_endOfLongest_100 0 rfl ?_
              refine z_aload_n C dX8_endOfLongest_102 rfl 1 rfl ?_
              refine X.conv bb ?_
              refine z_gfI C cf9 1 (by decide) rfl rfl dX8_endOfLongest_103 kt67 (fun _ h => h) bd (fun x26 => ?_)
              refine X.conv bi ?_
              refine z_icmp_gt C dX8_endOfLongest_106 (tgt := 165) rfl it jf ?_ ?_
              · refine z_lsub [3] rfl ?_
                exact hexit u18_3
              · refine z_aload C dX8_endOfLongest_109 6 rfl ?_
                refine X.conv bb ?_
                refine z_rcv bd (fun b27 hbb27 htb27 => ?_)
                have heb27 := Option.some.inj hbb27
                subst heb27
                refine X.conv bb ?_
                refine z_callV C cf8 mf_X7_end kt666 kt667 kt985 (k_X7_end (gL Γ) b22 w18 (gK Γ)) htb27 rfl ⟨Nat.le_of_ble_eq_true rfl, Nat.le_of_ble_eq_true rfl⟩ (rest := []) rfl (Nat.le_of_ble_eq_true rfl) dX8_endOfLongest_111 (bdI) (contI fun x28 => ?_)
                refine z_aload C dX8_endOfLongest_114 4 rfl ?_
                refine X.conv bb ?_
                refine z_gfI C cf8 4 (by decide) rfl rfl dX8_endOfLongest_116 kt421 (fun _ h => h) bd (fun x29 => ?_)
                refine z_isub C dX8_endOfLongest_119 ?_
                refine z_aload_n C dX8_endOfLongest_120 rfl 1 rfl ?_
                refine X.conv bb ?_
                refine z_gfI C cf9 0 (by decide) rfl rfl dX8_endOfLongest_121 kt66 (fun _ h => h) bd (fun x30 => ?_)
                refine X.conv bi ?_
                refine z_icmp_le C dX8_endOfLongest_124 (tgt := 130) rfl it jf ?_ ?_
                · refine z_aload C dX8_endOfLongest_130 6 rfl ?_
                  refine X.conv bb ?_
                  refine z_gfR C cf8 3 (by decide) rfl rfl dX8_endOfLongest_132 kt416 (fun _ h => h) bd (fun r31 => ?_)
                  refine X.conv bb ?_
                  refine z_gfI C cf6 3 (by decide) rfl rfl dX8_endOfLongest_135 kt118 (fun _ h => h) bd (fun x32 => ?_)
                  refine X.conv bi ?_
                  refine z_if_ne C dX8_endOfLongest_138 (tgt := 152) rfl it jf ?_ ?_
                  · refine z_iload C dX8_endOfLongest_141 5 rfl ?_
                    refine z_aload_n C dX8_endOfLongest_143 rfl 2 rfl ?_
                    refine X.conv bb ?_
                    refine z_rcv bd (fun b33 hbb33 htb33 => ?_)
                    have heb33 := Option.some.inj hbb33
                    subst heb33
                    refine X.conv bb ?_
                    refine z_callV C cf7 mf_X6_count kt606 kt607 kt972 (k_X6_count (gL Γ) p18_1 w18 (gK Γ)) htb33 rfl ⟨Nat.le_of_ble_eq_true rfl, Nat.le_of_ble_eq_true rfl⟩ (rest := [vI u18_7]) rfl (Nat.le_of_ble_eq_true rfl) dX8_endOfLongest_144 (bdI) (contI fun x34 => ?_)
                    refine z_iconst C dX8_endOfLongest_147 (v := 1) (by decide) ?_
                    refine z_isub C dX8_endOfLongest_148 ?_
                    refine X.conv bi ?_
                    refine z_icmp_ne C dX8_endOfLongest_149 (tgt := 155) rfl it jf ?_ ?_
                    · refine z_iload C dX8_endOfLongest_152 5 rfl ?_
                      refine z_istore_n (L' := [(3, vI u18_7), (4, vI (q24 + x25)), (0, vR (some p18_0)), (1, vR (some p18_1)), (5, vR p18_5), (7, vI u18_7), (8, vR (some b22))]) C dX8_endOfLongest_154 rfl (by decide) rfl ?_
                      refine z_aload C dX8_endOfLongest_155 6 rfl ?_
                      refine z_astore (L' := [(6, vR (some b22)), (3, vI u18_7), (4, vI (q24 + x25)), (0, vR (some p18_0)), (1, vR (some p18_1)), (5, vR p18_5), (7, vI u18_7), (8, vR (some b22))]) C dX8_endOfLongest_157 (by decide) rfl ?_
                      refine z_iinc (L' := [(7, vI (u18_7 + 1)), (6, vR (some b22)), (3, vI u18_7), (4, vI (q24 + x25)), (0, vR (some p18_0)), (1, vR (some p18_1)), (5, vR p18_5), (8, vR (some b22))]) C dX8_endOfLongest_159 6 rfl (v := u18_7 + 1) rfl (by decide) rfl ?_
                      refine z_goto C dX8_endOfLongest_162 (tgt := 18) rfl ?_
                      refine z_lsub [4, 5, 2, 3, 6, 1, 0] rfl ?_
                      exact ih u18_7 (q24 + x25) (some b22) (u18_7 + 1)
                    · refine z_aload C dX8_endOfLongest_155 6 rfl ?_
                      refine z_astore (L' := [(6, vR (some b22)), (4, vI (q24 + x25)), (0, vR (some p18_0)), (1, vR (some p18_1)), (3, vI u18_3), (5, vR p18_5), (7, vI u18_7), (8, vR (some b22))]) C dX8_endOfLongest_157 (by decide) rfl ?_
                      refine z_iinc (L' := [(7, vI (u18_7 + 1)), (6, vR (some b22)), (4, vI (q24 + x25)), (0, vR (some p18_0)), (1, vR (some p18_1)), (3, vI u18_3), (5, vR p18_5), (8, vR (some b22))]) C dX8_endOfLongest_159 6 rfl (v := u18_7 + 1) rfl (by decide) rfl ?_
                      refine z_goto C dX8_endOfLongest_162 (tgt := 18) rfl ?_
                      refine z_lsub [3, 4, 5, 2, 6, 1, 0] rfl ?_
                      exact ih u18_3 (q24 + x25) (some b22) (u18_7 + 1)
                  · refine z_iload C dX8_endOfLongest_152 5 rfl ?_
                    refine z_istore_n (L' := [(3, vI u18_7), (4, vI (q24 + x25)), (0, vR (some p18_0)), (1, vR (some p18_1)), (5, vR p18_5), (7, vI u18_7), (8, vR (some b22))]) C dX8_endOfLongest_154 rfl (by decide) rfl ?_
                    refine z_aload C dX8_endOfLongest_155 6 rfl ?_
                    refine z_astore (L' := [(6, vR (some b22)), (3, vI u18_7), (4, vI (q24 + x25)), (0, vR (some p18_0)), (1, vR (some p18_1)), (5, vR p18_5), (7, vI u18_7), (8, vR (some b22))]) C dX8_endOfLongest_157 (by decide) rfl ?_
                    refine z_iinc (L' := [(7, vI (u18_7 + 1)), (6, vR (some b22)), (3, vI u18_7), (4, vI (q24 + x25)), (0, vR (some p18_0)), (1, vR (some p18_1)), (5, vR p18_5), (8, vR (some b22))]) C dX8_endOfLongest_159 6 rfl (v := u18_7 + 1) rfl (by decide) rfl ?_
                    refine z_goto C dX8_endOfLongest_162 (tgt := 18) rfl ?_
                    refine z_lsub [4, 5, 2, 3, 6, 1, 0] rfl ?_
                    exact ih u18_7 (q24 + x25) (some b22) (u18_7 + 1)
                · refine z_goto C dX8_endOfLongest_127 (tgt := 165) rfl ?_
                  refine z_lsub [3] rfl ?_
                  exact hexit u18_3
            · refine X.conv bi ?_
              refine z_icmp_lt C dX8_endOfLongest_84 (tgt := 90) rfl it jf ?_ ?_
              · refine z_lsub [2, 3, 4, 0, 5, 7, 1] rfl ?_
                exact hj90 (u18_4 + x20)
              · refine z_iconst C dX8_endOfLongest_87 (v := 0) (by decide) ?_
                refine z_istore (L' := [(4, vI 0), (8, vR (some b22)), (0, vR (some p18_0)), (1, vR (some p18_1)), (3, vI u18_3), (5, vR p18_5), (6, vR (some b19)), (7, vI u18_7)]) C dX8_endOfLongest_88 (by decide) rfl ?_
                refine z_lsub [2, 3, 4, 0, 5, 7, 1] rfl ?_
                exact hj90 (0 : Int32)
          · refine z_goto C dX8_endOfLongest_72 (tgt := 165) rfl ?_
            refine z_lsub [4] rfl ?_
            exact hexit u18_3
theorem k_X8_endOfLongest (l : Launch) (b : Nat) (s1 : Option Nat) (s2 : Int32) (g : HP) : MM l Pi2 yX8_endOfLongest cX8_endOfLongest 9 (some .int) 4 85 [vR (some b), vR s1, vI s2] g (wI g (f_X8_endOfLongest b s1 s2 g)) := by
  refine MM_of PO_Pi2 mf_X8_endOfLongest (fun a ha => wI_same a ha) (Nat.le_of_ble_eq_true rfl) ?_
  intro Γ fin hfin hl hin C0 Z0
  subst hl
  obtain ⟨v0, hv, rfl⟩ := wI_some hfin
  have C : CX Γ cX8_endOfLongest 9 "Blockduty$WorkRules" Pi2 ok2 4 85 := C0
  have Z : RX Γ Pi2 (some .int) (some (vI v0), g) := Z0
  refine X.conv (fun _ => hv) ?_
  unfold f_X8_endOfLongest
  show X Γ 0 [(0, vR (some b)), (1, vR s1), (2, vI s2)] [] g _
  refine z_iconst C dX8_endOfLongest_0 (v := (-1)) (by decide) ?_
  refine z_istore_n (L' := [(3, vI (-1)), (0, vR (some b)), (1, vR s1), (2, vI s2)]) C dX8_endOfLongest_1 rfl (by decide) rfl ?_
  refine z_iconst C dX8_endOfLongest_2 (v := 0) (by decide) ?_
  refine z_istore (L' := [(4, vI 0), (3, vI (-1)), (0, vR (some b)), (1, vR s1), (2, vI s2)]) C dX8_endOfLongest_3 (by decide) rfl ?_
  refine z_aload_n C dX8_endOfLongest_5 rfl 3 rfl ?_
  refine z_iload_n C dX8_endOfLongest_6 rfl 4 rfl ?_
  refine z_rcv bd (fun b1 hbb1 htb1 => ?_)
  subst hbb1
  refine z_callV C cf7 mf_X6_get kt571 kt572 kt977 (k_X6_get (gL Γ) b1 s2 g (gK Γ)) htb1 rfl ⟨Nat.le_of_ble_eq_true rfl, Nat.le_of_ble_eq_true rfl⟩ (rest := []) rfl (Nat.le_of_ble_eq_true rfl) dX8_endOfLongest_7 (bdR) (contR fun r2 => ?_)
  refine z_astore (L' := [(5, vR r2), (4, vI 0), (3, vI (-1)), (0, vR (some b)), (1, vR (some b1)), (2, vI s2)]) C dX8_endOfLongest_10 (by decide) rfl ?_
  refine z_null C dX8_endOfLongest_12 ?_
  refine z_astore (L' := [(6, vR none), (5, vR r2), (4, vI 0), (3, vI (-1)), (0, vR (some b)), (1, vR (some b1)), (2, vI s2)]) C dX8_endOfLongest_13 (by decide) rfl ?_
  refine z_iload_n C dX8_endOfLongest_15 rfl 6 rfl ?_
  refine z_istore (L' := [(7, vI s2), (6, vR none), (5, vR r2), (4, vI 0), (3, vI (-1)), (0, vR (some b)), (1, vR (some b1)), (2, vI s2)]) C dX8_endOfLongest_16 (by decide) rfl ?_
  refine z_lsub [5, 6, 4, 3, 2, 1, 0] rfl ?_
  refine k_X8_endOfLongest_L18 C b b1 r2 g (fun q35 => ?_) FU (-1) 0 none s2
  refine z_iload_n C dX8_endOfLongest_165 rfl 0 rfl ?_
  exact z_iret C Z rfl dX8_endOfLongest_166 (fun h => by cases h; rfl)
theorem k_X8_planPieces_L5 {Γ : GG} {v0 : (Int32 × HP)} (C : CX Γ cX8_planPieces 6 "Blockduty$WorkRules" Pi2 ok2 5 113) (p5_0 : Nat) (p5_1 : Option Nat) (p5_2 : Option Nat) (Z : RX Γ Pi2 (some .int) (some (vI v0.1), v0.2)) : ∀ (m5 : Nat) (u5_3 : Int32) (u5_4 : Int32) (w5 : HP), X Γ 5 [(0, vR (some p5_0)), (1, vR p5_1), (2, vR p5_2), (3, vI u5_3), (4, vI u5_4)] [] w5 (f_X8_planPieces_L5 p5_0 p5_1 p5_2 m5 u5_3 u5_4 w5 = some v0) := by
  intro m5
  induction m5 with
  | zero =>
    intro u5_3 u5_4 w5
    exact X.no no0
  | succ m5 ih =>
    intro u5_3 u5_4 w5
    unfold f_X8_planPieces_L5
    refine z_iload_n C dX8_planPieces_5 rfl 3 rfl ?_
    refine z_aload_n C dX8_planPieces_6 rfl 1 rfl ?_
    refine z_rcv bd (fun b1 hbb1 htb1 => ?_)
    subst hbb1
    refine z_callV C cf7 mf_X6_count kt606 kt607 kt972 (k_X6_count (gL Γ) b1 w5 (gK Γ)) htb1 rfl ⟨Nat.le_of_ble_eq_true rfl, Nat.le_of_ble_eq_true rfl⟩ (rest := [vI u5_3]) rfl (Nat.le_of_ble_eq_true rfl) dX8_planPieces_7 (bdI) (contI fun x2 => ?_)
    refine z_icmp_ge C dX8_planPieces_10 (tgt := 53) rfl it jf ?_ ?_
    · refine z_iload C dX8_planPieces_53 4 rfl ?_
      exact z_iret C Z rfl dX8_planPieces_55 (fun h => by cases h; rfl)
    · refine z_iload C dX8_planPieces_13 4 rfl ?_
      refine z_aload_n C dX8_planPieces_15 rfl 2 rfl ?_
      refine z_lnI C dX8_planPieces_16 bd (fun x3 => ?_)
      refine z_icmp_ge C dX8_planPieces_17 (tgt := 53) rfl it jf ?_ ?_
      · refine z_iload C dX8_planPieces_53 4 rfl ?_
        exact z_iret C Z rfl dX8_planPieces_55 (fun h => by cases h; rfl)
      · refine z_aload_n C dX8_planPieces_20 rfl 0 rfl ?_
        refine z_aload_n C dX8_planPieces_21 rfl 1 rfl ?_
        refine z_iload_n C dX8_planPieces_22 rfl 3 rfl ?_
        refine z_rcv bd (fun b4 hbb4 htb4 => ?_)
        have heb4 := Option.some.inj hbb4
        subst heb4
        refine z_callV C cf9 mf_X8_endOfLongest kt975 (gtbl_priv (j := 32) rfl rfl) kt973 (k_X8_endOfLongest (gL Γ) p5_0 (some b1) u5_3 w5 (gK Γ)) htb4 rfl ⟨Nat.le_of_ble_eq_true rfl, Nat.le_of_ble_eq_true rfl⟩ (rest := []) rfl (Nat.le_of_ble_eq_true rfl) dX8_planPieces_23 (bdI) (contI fun x5 => ?_)
        refine z_istore (L' := [(5, vI x5), (0, vR (some p5_0)), (1, vR (some b1)), (2, vR p5_2), (3, vI u5_3), (4, vI u5_4)]) C dX8_planPieces_26 (by decide) rfl ?_
        refine z_iload C dX8_planPieces_28 0 rfl ?_
        refine z_iload_n C dX8_planPieces_30 rfl 4 rfl ?_
        refine z_icmp_ge C dX8_planPieces_31 (tgt := 36) rfl it jf ?_ ?_
        · refine z_aload_n C dX8_planPieces_36 rfl 3 rfl ?_
          refine z_iload C dX8_planPieces_37 5 rfl ?_
          refine z_iload C dX8_planPieces_39 0 rfl ?_
          refine z_stI C dX8_planPieces_41 bd (fun g6 => ?_)
          refine z_iinc (L' := [(4, vI (u5_4 + 1)), (5, vI x5), (0, vR (some p5_0)), (1, vR (some b1)), (2, vR p5_2), (3, vI u5_3)]) C dX8_planPieces_42 5 rfl (v := u5_4 + 1) rfl (by decide) rfl ?_
          refine z_iload C dX8_planPieces_45 1 rfl ?_
          refine z_iconst C dX8_planPieces_47 (v := 1) (by decide) ?_
          refine z_iadd C dX8_planPieces_48 ?_
          refine z_istore_n (L' := [(3, vI (x5 + 1)), (4, vI (u5_4 + 1)), (5, vI x5), (0, vR (some p5_0)), (1, vR (some b1)), (2, vR p5_2)]) C dX8_planPieces_49 rfl (by decide) rfl ?_
          refine z_goto C dX8_planPieces_50 (tgt := 5) rfl ?_
          refine z_lsub [3, 4, 5, 0, 1] rfl ?_
          exact ih (x5 + 1) (u5_4 + 1) g6
        · refine z_iconst C dX8_planPieces_34 (v := 0) (by decide) ?_
          exact z_iret C Z rfl dX8_planPieces_35 (fun h => by cases h; rfl)
theorem k_X8_planPieces (l : Launch) (b : Nat) (s1 : Option Nat) (s2 : Option Nat) (g : HP) : MM l Pi2 yX8_planPieces cX8_planPieces 6 (some .int) 5 113 [vR (some b), vR s1, vR s2] g (wIg (f_X8_planPieces b s1 s2 g)) := by
  refine MM_of PO_Pi2 mf_X8_planPieces (fun a ha => wIg_mono (f_X8_planPieces_mono b s1 s2 g) a ha) (Nat.le_of_ble_eq_true rfl) ?_
  intro Γ fin hfin hl hin C0 Z0
  subst hl
  obtain ⟨v0, hv, rfl⟩ := wIg_some hfin
  have C : CX Γ cX8_planPieces 6 "Blockduty$WorkRules" Pi2 ok2 5 113 := C0
  have Z : RX Γ Pi2 (some .int) (some (vI v0.1), v0.2) := Z0
  refine X.conv (fun _ => hv) ?_
  unfold f_X8_planPieces
  show X Γ 0 [(0, vR (some b)), (1, vR s1), (2, vR s2)] [] g _
  refine z_iconst C dX8_planPieces_0 (v := 0) (by decide) ?_
  refine z_istore_n (L' := [(3, vI 0), (0, vR (some b)), (1, vR s1), (2, vR s2)]) C dX8_planPieces_1 rfl (by decide) rfl ?_
  refine z_iconst C dX8_planPieces_2 (v := 0) (by decide) ?_
  refine z_istore (L' := [(4, vI 0), (3, vI 0), (0, vR (some b)), (1, vR s1), (2, vR s2)]) C dX8_planPieces_3 (by decide) rfl ?_
  refine z_lsub [2, 3, 4, 1, 0] rfl ?_
  exact k_X8_planPieces_L5 C b s1 s2 Z FU 0 0 g
theorem k_X9_init_L153 {Γ : GG} {β : Type} {fin0 : β} {F0 : HP → Option β} (C : CX Γ cX9_init 2 "Blockduty" Pi2 ok2 7 191) (hin : (gMe Γ).name = "<init>") (p153_0 : Nat) (hexit : ∀ q153 : HP, X Γ 181 [(0, vR (some p153_0))] [] q153 (F0 q153 = some fin0)) : ∀ (m153 : Nat) (u153_1 : Int32) (w153 : HP), X Γ 153 [(0, vR (some p153_0)), (1, vI u153_1)] [] w153 ((f_X9_init_L153 p153_0 m153 u153_1 w153).bind F0 = some fin0) := by
  intro m153
  induction m153 with
  | zero =>
    intro u153_1 w153
    exact X.no no1
  | succ m153 ih =>
    intro u153_1 w153
    unfold f_X9_init_L153
    refine z_iload_n C dX9_init_153 rfl 1 rfl ?_
    refine z_bipush C dX9_init_154 (v := 8) (by decide) ?_
    refine X.conv bi ?_
    refine z_icmp_ge C dX9_init_156 (tgt := 181) rfl it jf ?_ ?_
    · refine z_lsub [0] rfl ?_
      exact hexit w153
    · refine z_aload_n C dX9_init_159 rfl 0 rfl ?_
      refine X.conv bb ?_
      refine z_gfR C cf10 0 (by decide) rfl rfl dX9_init_160 kt209 (fun _ h => h) bd (fun r30 => ?_)
      refine z_new C cf6 rfl dX9_init_163 kt104 kt105 kt8 def6 ?_
      refine z_dup C dX9_init_166 rfl ?_
      refine z_iload_n C dX9_init_167 rfl 1 rfl ?_
      refine X.conv bb ?_
      refine z_callI C mf_X5_init kt107 rfl kt106 (k_X5_init (gL Γ) (nx w153) u153_1 (newG w153 7 4 [] []) (gK Γ)) rfl ⟨Nat.le_of_ble_eq_true rfl, Nat.le_of_ble_eq_true rfl⟩ (rest := [vR (some (nx w153)), vR r30]) rfl (Nat.le_of_ble_eq_true rfl) dX9_init_168 (bdVg) (contVg fun g31 => ?_)
      refine X.conv bb ?_
      refine z_rcv bd (fun b32 hbb32 htb32 => ?_)
      subst hbb32
      refine X.conv bb ?_
      refine z_callV C cf0 mf_Jx4a65c_add_9ea2d kt129 kt130 kt128 (k_al_add (gL Γ) b32 (some (nx w153)) g31 (gK Γ)) htb32 rfl ⟨Nat.le_of_ble_eq_true rfl, Nat.le_of_ble_eq_true rfl⟩ (rest := []) rfl (Nat.le_of_ble_eq_true rfl) dX9_init_171 (bdIg) (contIg fun v33 => ?_)
      refine z_pop C dX9_init_174 rfl ?_
      refine z_iinc (L' := [(1, vI (u153_1 + 1)), (0, vR (some p153_0))]) C dX9_init_175 1 rfl (v := u153_1 + 1) rfl (by decide) rfl ?_
      refine z_goto C dX9_init_178 (tgt := 153) rfl ?_
      refine z_lsub [1, 0] rfl ?_
      exact ih (u153_1 + 1) v33.2
theorem k_X9_init_L183 {Γ : GG} {β : Type} {fin0 : β} {F0 : HP → Option β} (C : CX Γ cX9_init 2 "Blockduty" Pi2 ok2 7 191) (hin : (gMe Γ).name = "<init>") (p183_0 : Nat) (hexit : ∀ q183 : HP, X Γ 210 [] [] q183 (F0 q183 = some fin0)) : ∀ (m183 : Nat) (u183_1 : Int32) (w183 : HP), X Γ 183 [(0, vR (some p183_0)), (1, vI u183_1)] [] w183 ((f_X9_init_L183 p183_0 m183 u183_1 w183).bind F0 = some fin0) := by
  intro m183
  induction m183 with
  | zero =>
    intro u183_1 w183
    exact X.no no1
  | succ m183 ih =>
    intro u183_1 w183
    unfold f_X9_init_L183
    refine z_iload_n C dX9_init_183 rfl 1 rfl ?_
    refine z_iconst C dX9_init_184 (v := 4) (by decide) ?_
    refine X.conv bi ?_
    refine z_icmp_ge C dX9_init_185 (tgt := 210) rfl it jf ?_ ?_
    · refine z_lsub [] rfl ?_
      exact hexit w183
    · refine z_aload_n C dX9_init_188 rfl 0 rfl ?_
      refine X.conv bb ?_
      refine z_gfR C cf10 1 (by decide) rfl rfl dX9_init_189 kt210 (fun _ h => h) bd (fun r35 => ?_)
      refine z_new C cf4 rfl dX9_init_192 kt189 kt190 kt13 def4 ?_
      refine z_dup C dX9_init_195 rfl ?_
      refine z_iload_n C dX9_init_196 rfl 1 rfl ?_
      refine X.conv bb ?_
      refine z_callI C mf_X3_init kt192 rfl kt191 (k_X3_init (gL Γ) (nx w183) u183_1 (newG w183 5 3 [] []) (gK Γ)) rfl ⟨Nat.le_of_ble_eq_true rfl, Nat.le_of_ble_eq_true rfl⟩ (rest := [vR (some (nx w183)), vR r35]) rfl (Nat.le_of_ble_eq_true rfl) dX9_init_197 (bdVg) (contVg fun g36 => ?_)
      refine X.conv bb ?_
      refine z_rcv bd (fun b37 hbb37 htb37 => ?_)
      subst hbb37
      refine X.conv bb ?_
      refine z_callV C cf0 mf_Jx4a65c_add_9ea2d kt129 kt130 kt128 (k_al_add (gL Γ) b37 (some (nx w183)) g36 (gK Γ)) htb37 rfl ⟨Nat.le_of_ble_eq_true rfl, Nat.le_of_ble_eq_true rfl⟩ (rest := []) rfl (Nat.le_of_ble_eq_true rfl) dX9_init_200 (bdIg) (contIg fun v38 => ?_)
      refine z_pop C dX9_init_203 rfl ?_
      refine z_iinc (L' := [(1, vI (u183_1 + 1)), (0, vR (some p183_0))]) C dX9_init_204 1 rfl (v := u183_1 + 1) rfl (by decide) rfl ?_
      refine z_goto C dX9_init_207 (tgt := 183) rfl ?_
      refine z_lsub [1, 0] rfl ?_
      exact ih (u183_1 + 1) v38.2
theorem k_X9_init (l : Launch) (b : Nat) (g : HP) : MM l Pi2 yX9_init cX9_init 2 none 7 191 [vR (some b)] g (wVg (f_X9_init b g)) := by
  refine MM_of PO_Pi2 mf_X9_init (fun a ha => wVg_mono (f_X9_init_mono b g) a ha) (Nat.le_of_ble_eq_true rfl) ?_
  intro Γ fin hfin hl hin C0 Z0
  subst hl
  obtain ⟨v0, hv, rfl⟩ := wVg_some hfin
  have C : CX Γ cX9_init 2 "Blockduty" Pi2 ok2 7 191 := C0
  have Z : RX Γ Pi2 none (none, v0) := Z0
  refine X.conv (fun _ => hv) ?_
  unfold f_X9_init
  show X Γ 0 [(0, vR (some b))] [] g _
  refine z_aload_n C dX9_init_0 rfl 0 rfl ?_
  refine z_objInit C kt31 kwOI kwOC dX9_init_1 (by decide) (Nat.le_of_ble_eq_true rfl) ?_
  refine z_aload_n C dX9_init_4 rfl 0 rfl ?_
  refine z_newAL C dX9_init_5 kt34 ?_
  refine z_dup C dX9_init_8 rfl ?_
  refine z_callI C mf_Jx4a65c_init_da8c8 kt37 rfl kt36 (k_al_init (gL Γ) (nx g) (newG g 31 3 [] []) (gK Γ)) rfl ⟨Nat.le_of_ble_eq_true rfl, Nat.le_of_ble_eq_true rfl⟩ (rest := [vR (some (nx g)), vR (some b)]) rfl (Nat.le_of_ble_eq_true rfl) dX9_init_9 (bdVg) (contVg fun g1 => ?_)
  refine z_pfR C cf10 0 (by decide) rfl rfl (isRefTy_o _) (Or.inr ⟨rfl, hin, rfl⟩) dX9_init_12 kt209 (fun _ h => h) bd (fun g2 => ?_)
  refine z_aload_n C dX9_init_15 rfl 0 rfl ?_
  refine z_newAL C dX9_init_16 kt34 ?_
  refine z_dup C dX9_init_19 rfl ?_
  refine z_callI C mf_Jx4a65c_init_da8c8 kt37 rfl kt36 (k_al_init (gL Γ) (nx g2) (newG g2 31 3 [] []) (gK Γ)) rfl ⟨Nat.le_of_ble_eq_true rfl, Nat.le_of_ble_eq_true rfl⟩ (rest := [vR (some (nx g2)), vR (some b)]) rfl (Nat.le_of_ble_eq_true rfl) dX9_init_20 (bdVg) (contVg fun g3 => ?_)
  refine z_pfR C cf10 1 (by decide) rfl rfl (isRefTy_o _) (Or.inr ⟨rfl, hin, rfl⟩) dX9_init_23 kt210 (fun _ h => h) bd (fun g4 => ?_)
  refine z_aload_n C dX9_init_26 rfl 0 rfl ?_
  refine z_newAL C dX9_init_27 kt34 ?_
  refine z_dup C dX9_init_30 rfl ?_
  refine z_callI C mf_Jx4a65c_init_da8c8 kt37 rfl kt36 (k_al_init (gL Γ) (nx g4) (newG g4 31 3 [] []) (gK Γ)) rfl ⟨Nat.le_of_ble_eq_true rfl, Nat.le_of_ble_eq_true rfl⟩ (rest := [vR (some (nx g4)), vR (some b)]) rfl (Nat.le_of_ble_eq_true rfl) dX9_init_31 (bdVg) (contVg fun g5 => ?_)
  refine z_pfR C cf10 2 (by decide) rfl rfl (isRefTy_o _) (Or.inr ⟨rfl, hin, rfl⟩) dX9_init_34 kt211 (fun _ h => h) bd (fun g6 => ?_)
  refine z_aload_n C dX9_init_37 rfl 0 rfl ?_
  refine z_newAL C dX9_init_38 kt34 ?_
  refine z_dup C dX9_init_41 rfl ?_
  refine z_callI C mf_Jx4a65c_init_da8c8 kt37 rfl kt36 (k_al_init (gL Γ) (nx g6) (newG g6 31 3 [] []) (gK Γ)) rfl ⟨Nat.le_of_ble_eq_true rfl, Nat.le_of_ble_eq_true rfl⟩ (rest := [vR (some (nx g6)), vR (some b)]) rfl (Nat.le_of_ble_eq_true rfl) dX9_init_42 (bdVg) (contVg fun g7 => ?_)
  refine z_pfR C cf10 3 (by decide) rfl rfl (isRefTy_o _) (Or.inr ⟨rfl, hin, rfl⟩) dX9_init_45 kt212 (fun _ h => h) bd (fun g8 => ?_)
  refine z_aload_n C dX9_init_48 rfl 0 rfl ?_
  refine z_newAL C dX9_init_49 kt34 ?_
  refine z_dup C dX9_init_52 rfl ?_
  refine z_callI C mf_Jx4a65c_init_da8c8 kt37 rfl kt36 (k_al_init (gL Γ) (nx g8) (newG g8 31 3 [] []) (gK Γ)) rfl ⟨Nat.le_of_ble_eq_true rfl, Nat.le_of_ble_eq_true rfl⟩ (rest := [vR (some (nx g8)), vR (some b)]) rfl (Nat.le_of_ble_eq_true rfl) dX9_init_53 (bdVg) (contVg fun g9 => ?_)
  refine z_pfR C cf10 4 (by decide) rfl rfl (isRefTy_o _) (Or.inr ⟨rfl, hin, rfl⟩) dX9_init_56 kt213 (fun _ h => h) bd (fun g10 => ?_)
  refine z_aload_n C dX9_init_59 rfl 0 rfl ?_
  refine z_newAL C dX9_init_60 kt34 ?_
  refine z_dup C dX9_init_63 rfl ?_
  refine z_callI C mf_Jx4a65c_init_da8c8 kt37 rfl kt36 (k_al_init (gL Γ) (nx g10) (newG g10 31 3 [] []) (gK Γ)) rfl ⟨Nat.le_of_ble_eq_true rfl, Nat.le_of_ble_eq_true rfl⟩ (rest := [vR (some (nx g10)), vR (some b)]) rfl (Nat.le_of_ble_eq_true rfl) dX9_init_64 (bdVg) (contVg fun g11 => ?_)
  refine z_pfR C cf10 5 (by decide) rfl rfl (isRefTy_o _) (Or.inr ⟨rfl, hin, rfl⟩) dX9_init_67 kt214 (fun _ h => h) bd (fun g12 => ?_)
  refine z_aload_n C dX9_init_70 rfl 0 rfl ?_
  refine z_new C cf9 rfl dX9_init_71 kt60 kt61 kt5 def9 ?_
  refine z_dup C dX9_init_74 rfl ?_
  refine z_callIN (host := "Blockduty") C mf_X8_init kt63 rfl (List.mem_of_getElem? (i := 0) rfl) (k_X8_init (gL Γ) (nx g12) (newG g12 10 2 [] []) (gK Γ)) rfl ⟨Nat.le_of_ble_eq_true rfl, Nat.le_of_ble_eq_true rfl⟩ (rest := [vR (some (nx g12)), vR (some b)]) rfl (Nat.le_of_ble_eq_true rfl) dX9_init_75 (bdVg) (contVg fun g13 => ?_)
  refine z_pfR C cf10 7 (by decide) rfl rfl (isRefTy_o _) (Or.inr ⟨rfl, hin, rfl⟩) dX9_init_78 kt216 (fun _ h => h) bd (fun g14 => ?_)
  refine z_aload_n C dX9_init_81 rfl 0 rfl ?_
  refine z_iconst C dX9_init_82 (v := 5) (by decide) ?_
  refine z_pfI C cf10 9 (by decide) rfl rfl rfl (Or.inl rfl) dX9_init_83 kt218 (fun _ h => h) bd (fun g15 => ?_)
  refine z_aload_n C dX9_init_86 rfl 0 rfl ?_
  refine z_new C cf7 rfl dX9_init_87 kt73 kt74 kt6 def7 ?_
  refine z_dup C dX9_init_90 rfl ?_
  refine z_callIN (host := "Blockduty") C mf_X6_init kt76 rfl (List.mem_of_getElem? (i := 1) rfl) (k_X6_init (gL Γ) (nx g15) (newG g15 8 1 [] []) (gK Γ)) rfl ⟨Nat.le_of_ble_eq_true rfl, Nat.le_of_ble_eq_true rfl⟩ (rest := [vR (some (nx g15)), vR (some b)]) rfl (Nat.le_of_ble_eq_true rfl) dX9_init_91 (bdVg) (contVg fun g16 => ?_)
  refine z_pfR C cf10 10 (by decide) rfl rfl (isRefTy_o _) (Or.inr ⟨rfl, hin, rfl⟩) dX9_init_94 kt219 (fun _ h => h) bd (fun g17 => ?_)
  refine z_aload_n C dX9_init_97 rfl 0 rfl ?_
  refine z_new C cf7 rfl dX9_init_98 kt73 kt74 kt6 def7 ?_
  refine z_dup C dX9_init_101 rfl ?_
  refine z_callIN (host := "Blockduty") C mf_X6_init kt76 rfl (List.mem_of_getElem? (i := 1) rfl) (k_X6_init (gL Γ) (nx g17) (newG g17 8 1 [] []) (gK Γ)) rfl ⟨Nat.le_of_ble_eq_true rfl, Nat.le_of_ble_eq_true rfl⟩ (rest := [vR (some (nx g17)), vR (some b)]) rfl (Nat.le_of_ble_eq_true rfl) dX9_init_102 (bdVg) (contVg fun g18 => ?_)
  refine z_pfR C cf10 11 (by decide) rfl rfl (isRefTy_o _) (Or.inr ⟨rfl, hin, rfl⟩) dX9_init_105 kt220 (fun _ h => h) bd (fun g19 => ?_)
  refine z_aload_n C dX9_init_108 rfl 0 rfl ?_
  refine z_bipush C dX9_init_109 (v := 16) (by decide) ?_
  refine z_nwI (t := 20) C rfl (by decide) dX9_init_111 arr20 bd (fun a20 => ?_)
  refine z_pfR C cf10 12 (by decide) rfl rfl (isRefTy_a _) (Or.inr ⟨rfl, hin, rfl⟩) dX9_init_113 kt221 (fun _ h => h) bd (fun g21 => ?_)
  refine z_aload_n C dX9_init_116 rfl 0 rfl ?_
  refine z_new C cf3 rfl dX9_init_117 kt89 kt90 kt7 def3 ?_
  refine z_dup C dX9_init_120 rfl ?_
  refine z_callIN (host := "Blockduty") C mf_X2_init kt92 rfl (List.mem_of_getElem? (i := 2) rfl) (k_X2_init (gL Γ) (nx g21) (newG g21 4 2 [] []) (gK Γ)) rfl ⟨Nat.le_of_ble_eq_true rfl, Nat.le_of_ble_eq_true rfl⟩ (rest := [vR (some (nx g21)), vR (some b)]) rfl (Nat.le_of_ble_eq_true rfl) dX9_init_121 (bdVg) (contVg fun g22 => ?_)
  refine z_pfR C cf10 13 (by decide) rfl rfl (isRefTy_o _) (Or.inr ⟨rfl, hin, rfl⟩) dX9_init_124 kt222 (fun _ h => h) bd (fun g23 => ?_)
  refine z_aload_n C dX9_init_127 rfl 0 rfl ?_
  refine z_new C cf6 rfl dX9_init_128 kt104 kt105 kt8 def6 ?_
  refine z_dup C dX9_init_131 rfl ?_
  refine z_iconst C dX9_init_132 (v := 0) (by decide) ?_
  refine z_callI C mf_X5_init kt107 rfl kt106 (k_X5_init (gL Γ) (nx g23) 0 (newG g23 7 4 [] []) (gK Γ)) rfl ⟨Nat.le_of_ble_eq_true rfl, Nat.le_of_ble_eq_true rfl⟩ (rest := [vR (some (nx g23)), vR (some b)]) rfl (Nat.le_of_ble_eq_true rfl) dX9_init_133 (bdVg) (contVg fun g24 => ?_)
  refine z_pfR C cf10 6 (by decide) rfl rfl (isRefTy_o _) (Or.inr ⟨rfl, hin, rfl⟩) dX9_init_136 kt215 (fun _ h => h) bd (fun g25 => ?_)
  refine z_aload_n C dX9_init_139 rfl 0 rfl ?_
  refine z_gfR C cf10 0 (by decide) rfl rfl dX9_init_140 kt209 (fun _ h => h) bd (fun r26 => ?_)
  refine z_aload_n C dX9_init_143 rfl 0 rfl ?_
  refine z_gfR C cf10 6 (by decide) rfl rfl dX9_init_144 kt215 (fun _ h => h) bd (fun r27 => ?_)
  refine z_rcv bd (fun b28 hbb28 htb28 => ?_)
  subst hbb28
  refine z_callV C cf0 mf_Jx4a65c_add_9ea2d kt129 kt130 kt128 (k_al_add (gL Γ) b28 r27 g25 (gK Γ)) htb28 rfl ⟨Nat.le_of_ble_eq_true rfl, Nat.le_of_ble_eq_true rfl⟩ (rest := []) rfl (Nat.le_of_ble_eq_true rfl) dX9_init_147 (bdIg) (contIg fun v29 => ?_)
  refine z_pop C dX9_init_150 rfl ?_
  refine z_iconst C dX9_init_151 (v := 1) (by decide) ?_
  refine z_istore_n (L' := [(1, vI 1), (0, vR (some b))]) C dX9_init_152 rfl (by decide) rfl ?_
  refine z_lsub [1, 0] rfl ?_
  refine k_X9_init_L153 C hin b (fun q34 => ?_) FU 1 v29.2
  refine z_iconst C dX9_init_181 (v := 0) (by decide) ?_
  refine z_istore_n (L' := [(1, vI 0), (0, vR (some b))]) C dX9_init_182 rfl (by decide) rfl ?_
  refine z_lsub [1, 0] rfl ?_
  refine k_X9_init_L183 C hin b (fun q39 => ?_) FU 0 q34
  exact z_vret C Z rfl dX9_init_210 (fun h => by cases h; rfl)
