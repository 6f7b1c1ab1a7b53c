/-! the methods of the lists, as functions of the heap, and that the machine follows them: printed by a program of ours -/
def f_Jxa1e45_init_da8c8 (e mi : Nat) (b : Nat) (g : HP) : Option HP :=
  some g
def f_Jxc12de_init_da8c8 (e mi : Nat) (b : Nat) (g : HP) : Option HP :=
  (f_Jxa1e45_init_da8c8 e mi b g).bind fun g1 =>
  (pfI 0 0 (some b) 0 g1).bind fun g2 =>
  some g2
def f_Jx4a65c_init_da8c8 (e mi : Nat) (b : Nat) (g : HP) : Option HP :=
  (f_Jxc12de_init_da8c8 e mi b g).bind fun g1 =>
  (pfR 0 1 (some b) (some e) g1).bind fun g2 =>
  some g2
def f_Jx4a65c_size_8abf5 (e mi : Nat) (b : Nat) (g : HP) : Option Int32 :=
  (gfI 0 2 (some b) g).bind fun x1 =>
  some x1
def f_Jx4a65c_isEmpty_aae02 (e mi : Nat) (b : Nat) (g : HP) : Option Int32 :=
  (gfI 0 2 (some b) g).bind fun x1 =>
  (if x1 = 0 then
  some 1
  else
  some 0)
def f_Jx4a65c_elementData_915e3 (e mi : Nat) (b : Nat) (s1 : Int32) (g : HP) : Option (Option Nat) :=
  (gfR 0 1 (some b) g).bind fun r1 =>
  (ldA r1 s1 g).bind fun r2 =>
  some r2
def f_J3_checkIndex_8e157 (e mi : Nat) (s1 : Int32) (s2 : Int32) (s3 : Option Nat) (g : HP) : Option Int32 :=
  (if s1 < 0 then
  none
  else
  (if s1 < s2 then
  some s1
  else
  none))
def f_J15_checkIndex_7cf53 (e mi : Nat) (s1 : Int32) (s2 : Int32) (g : HP) : Option Int32 :=
  (f_J3_checkIndex_8e157 e mi s1 s2 none g).bind fun x1 =>
  some x1
def f_Jx4a65c_get_915e3 (e mi : Nat) (b : Nat) (s1 : Int32) (g : HP) : Option (Option Nat) :=
  (gfI 0 2 (some b) g).bind fun x1 =>
  (f_J15_checkIndex_7cf53 e mi s1 x1 g).bind fun x2 =>
  (rcv 0 (some b) g).bind fun b3 =>
  (f_Jx4a65c_elementData_915e3 e mi b3 s1 g).bind fun r4 =>
  some r4
def f_J8_newLength_cabcc (e mi : Nat) (s1 : Int32) (s2 : Int32) (s3 : Int32) (g : HP) : Option Int32 :=
  (if s1 + (if s2 < s3 then s3 else s2) ≤ 0 then
  none
  else
  (if 2147483639 < s1 + (if s2 < s3 then s3 else s2) then
  none
  else
  some (s1 + (if s2 < s3 then s3 else s2))))
def f_J7_copyOf_6403c (e mi : Nat) (s1 : Option Nat) (s2 : Int32) (s3 : Option Nat) (g : HP) : Option (Option Nat × HP) :=
  (if s3 = (some mi) then
  (nwA 22 s2 g).bind fun a1 =>
  (lnA s1 a1.2).bind fun x2 =>
  (cpA s1 0 (some a1.1) 0 (if s2 < x2 then s2 else x2) a1.2).bind fun g3 =>
  some ((some a1.1), g3)
  else
  none)
def f_J7_copyOf_1904c (e mi : Nat) (s1 : Option Nat) (s2 : Int32) (g : HP) : Option (Option Nat × HP) :=
  (gtC s1 mi g).bind fun r1 =>
  (f_J7_copyOf_6403c e mi s1 s2 r1 g).bind fun v2 =>
  some (v2.1, v2.2)
def f_Jx4a65c_grow_92f84 (e mi : Nat) (b : Nat) (s1 : Int32) (g : HP) : Option (Option Nat × HP) :=
  (gfR 0 1 (some b) g).bind fun r1 =>
  (lnA r1 g).bind fun x2 =>
  (if 0 < x2 then
  (f_J8_newLength_cabcc e mi x2 (s1 - x2) (x2 >>> (1 &&& 31)) g).bind fun x3 =>
  (gfR 0 1 (some b) g).bind fun r4 =>
  (f_J7_copyOf_1904c e mi r4 x3 g).bind fun v5 =>
  (pfR 0 1 (some b) v5.1 v5.2).bind fun g6 =>
  some (v5.1, g6)
  else
  (gfR 0 1 (some b) g).bind fun r7 =>
  (if r7 = (some e) then
  (nwA 22 (if 10 < s1 then s1 else 10) g).bind fun a8 =>
  (pfR 0 1 (some b) (some a8.1) a8.2).bind fun g9 =>
  some ((some a8.1), g9)
  else
  (f_J8_newLength_cabcc e mi x2 (s1 - x2) (x2 >>> (1 &&& 31)) g).bind fun x10 =>
  (gfR 0 1 (some b) g).bind fun r11 =>
  (f_J7_copyOf_1904c e mi r11 x10 g).bind fun v12 =>
  (pfR 0 1 (some b) v12.1 v12.2).bind fun g13 =>
  some (v12.1, g13)))
def f_Jx4a65c_grow_d5877 (e mi : Nat) (b : Nat) (g : HP) : Option (Option Nat × HP) :=
  (gfI 0 2 (some b) g).bind fun x1 =>
  (rcv 0 (some b) g).bind fun b2 =>
  (f_Jx4a65c_grow_92f84 e mi b2 (x1 + 1) g).bind fun v3 =>
  some (v3.1, v3.2)
def f_Jx4a65c_add_72be8 (e mi : Nat) (b : Nat) (s1 : Option Nat) (s2 : Option Nat) (s3 : Int32) (g : HP) : Option HP :=
  (lnA s2 g).bind fun x1 =>
  ((if s3 = x1 then
  (rcv 0 (some b) g).bind fun b2 =>
  (f_Jx4a65c_grow_d5877 e mi b2 g).bind fun v3 =>
  some (v3.1, v3.2)
  else
  some (s2, g))).bind fun q4 =>
  (stA q4.1 s3 s1 q4.2).bind fun g5 =>
  (pfI 0 2 (some b) (s3 + 1) g5).bind fun g6 =>
  some g6
def f_Jx4a65c_add_9ea2d (e mi : Nat) (b : Nat) (s1 : Option Nat) (g : HP) : Option (Int32 × HP) :=
  (gfI 0 0 (some b) g).bind fun x1 =>
  (pfI 0 0 (some b) (x1 + 1) g).bind fun g2 =>
  (gfR 0 1 (some b) g2).bind fun r3 =>
  (gfI 0 2 (some b) g2).bind fun x4 =>
  (rcv 0 (some b) g2).bind fun b5 =>
  (f_Jx4a65c_add_72be8 e mi b5 s1 r3 x4 g2).bind fun g6 =>
  some (1, g6)
def f_Jx4a65c_rangeCheckForAdd_d00df (e mi : Nat) (b : Nat) (s1 : Int32) (g : HP) : Option HP :=
  (gfI 0 2 (some b) g).bind fun x1 =>
  (if x1 < s1 then
  none
  else
  (if 0 ≤ s1 then
  some g
  else
  none))
def f_Jx4a65c_add_7a177 (e mi : Nat) (b : Nat) (s1 : Int32) (s2 : Option Nat) (g : HP) : Option HP :=
  (rcv 0 (some b) g).bind fun b1 =>
  (f_Jx4a65c_rangeCheckForAdd_d00df e mi b1 s1 g).bind fun g2 =>
  (gfI 0 0 (some b) g2).bind fun x3 =>
  (pfI 0 0 (some b) (x3 + 1) g2).bind fun g4 =>
  (gfI 0 2 (some b) g4).bind fun x5 =>
  (gfR 0 1 (some b) g4).bind fun r6 =>
  (lnA r6 g4).bind fun x7 =>
  ((if x5 = x7 then
  (rcv 0 (some b) g4).bind fun b8 =>
  (f_Jx4a65c_grow_d5877 e mi b8 g4).bind fun v9 =>
  some (v9.1, v9.2)
  else
  some (r6, g4))).bind fun q10 =>
  (cpA q10.1 s1 q10.1 (s1 + 1) (x5 - s1) q10.2).bind fun g11 =>
  (stA q10.1 s1 s2 g11).bind fun g12 =>
  (pfI 0 2 (some b) (x5 + 1) g12).bind fun g13 =>
  some g13
def f_Jx4a65c_fastRemove_b59b0 (e mi : Nat) (b : Nat) (s1 : Option Nat) (s2 : Int32) (g : HP) : Option HP :=
  (gfI 0 0 (some b) g).bind fun x1 =>
  (pfI 0 0 (some b) (x1 + 1) g).bind fun g2 =>
  (gfI 0 2 (some b) g2).bind fun x3 =>
  ((if x3 - 1 ≤ s2 then
  some g2
  else
  (cpA s1 (s2 + 1) s1 s2 ((x3 - 1) - s2) g2).bind fun g4 =>
  some g4)).bind fun q5 =>
  (pfI 0 2 (some b) (x3 - 1) q5).bind fun g6 =>
  (stA s1 (x3 - 1) none g6).bind fun g7 =>
  some g7
def f_Jx4a65c_remove_915e3 (e mi : Nat) (b : Nat) (s1 : Int32) (g : HP) : Option (Option Nat × HP) :=
  (gfI 0 2 (some b) g).bind fun x1 =>
  (f_J15_checkIndex_7cf53 e mi s1 x1 g).bind fun x2 =>
  (gfR 0 1 (some b) g).bind fun r3 =>
  (ldA r3 s1 g).bind fun r4 =>
  (rcv 0 (some b) g).bind fun b5 =>
  (f_Jx4a65c_fastRemove_b59b0 e mi b5 r3 s1 g).bind fun g6 =>
  some (r4, g6)
def f_Jx4a65c_clear_da8c8_L27 (p27_1 : Option Nat) (p27_2 : Int32) : Nat → Int32 → HP → Option HP
  | 0, _, _ => none
  | m27 + 1, u27_3, w27 =>
  (if p27_2 ≤ u27_3 then
  some w27
  else
  (stA p27_1 u27_3 none w27).bind fun g6 =>
  f_Jx4a65c_clear_da8c8_L27 p27_1 p27_2 m27 (u27_3 + 1) g6)
def f_Jx4a65c_clear_da8c8 (e mi : Nat) (b : Nat) (g : HP) : Option HP :=
  (gfI 0 0 (some b) g).bind fun x1 =>
  (pfI 0 0 (some b) (x1 + 1) g).bind fun g2 =>
  (gfR 0 1 (some b) g2).bind fun r3 =>
  (gfI 0 2 (some b) g2).bind fun x4 =>
  (pfI 0 2 (some b) 0 g2).bind fun g5 =>
  (f_Jx4a65c_clear_da8c8_L27 r3 x4 FU 0 g5).bind fun q7 =>
  some q7
theorem f_Jxa1e45_init_da8c8_mono (e mi : Nat) (b : Nat) (g : HP) : Mono g id (f_Jxa1e45_init_da8c8 e mi b g) := by
  unfold f_Jxa1e45_init_da8c8
  exact mo_some rfl
theorem f_Jxc12de_init_da8c8_mono (e mi : Nat) (b : Nat) (g : HP) : Mono g id (f_Jxc12de_init_da8c8 e mi b g) := by
  unfold f_Jxc12de_init_da8c8
  refine mo_h (h0 := id) (f_Jxa1e45_init_da8c8_mono _ _ _ _) (fun g1 => ?_)
  refine mo_h mo_pfI (fun g2 => ?_)
  exact mo_some rfl
theorem f_Jx4a65c_init_da8c8_mono (e mi : Nat) (b : Nat) (g : HP) : Mono g id (f_Jx4a65c_init_da8c8 e mi b g) := by
  unfold f_Jx4a65c_init_da8c8
  refine mo_h (h0 := id) (f_Jxc12de_init_da8c8_mono _ _ _ _) (fun g1 => ?_)
  refine mo_h mo_pfR (fun g2 => ?_)
  exact mo_some rfl
theorem f_J7_copyOf_6403c_mono (e mi : Nat) (s1 : Option Nat) (s2 : Int32) (s3 : Option Nat) (g : HP) : Mono g (fun v => v.2) (f_J7_copyOf_6403c e mi s1 s2 s3 g) := by
  unfold f_J7_copyOf_6403c
  refine mo_ite ?_ ?_
  · refine mo_h mo_nwA (fun a1 => ?_)
    refine mo_p (fun x2 => ?_)
    refine mo_h mo_cpA (fun g3 => ?_)
    exact mo_some rfl
  · exact mo_none
theorem f_J7_copyOf_1904c_mono (e mi : Nat) (s1 : Option Nat) (s2 : Int32) (g : HP) : Mono g (fun v => v.2) (f_J7_copyOf_1904c e mi s1 s2 g) := by
  unfold f_J7_copyOf_1904c
  refine mo_p (fun r1 => ?_)
  refine mo_h (h0 := (fun v => v.2)) (f_J7_copyOf_6403c_mono _ _ _ _ _ _) (fun v2 => ?_)
  exact mo_some rfl
theorem f_Jx4a65c_grow_92f84_mono (e mi : Nat) (b : Nat) (s1 : Int32) (g : HP) : Mono g (fun v => v.2) (f_Jx4a65c_grow_92f84 e mi b s1 g) := by
  unfold f_Jx4a65c_grow_92f84
  refine mo_p (fun r1 => ?_)
  refine mo_p (fun x2 => ?_)
  refine mo_ite ?_ ?_
  · refine mo_p (fun x3 => ?_)
    refine mo_p (fun r4 => ?_)
    refine mo_h (h0 := (fun v => v.2)) (f_J7_copyOf_1904c_mono _ _ _ _ _) (fun v5 => ?_)
    refine mo_h mo_pfR (fun g6 => ?_)
    exact mo_some rfl
  · refine mo_p (fun r7 => ?_)
    refine mo_ite ?_ ?_
    · refine mo_h mo_nwA (fun a8 => ?_)
      refine mo_h mo_pfR (fun g9 => ?_)
      exact mo_some rfl
    · refine mo_p (fun x10 => ?_)
      refine mo_p (fun r11 => ?_)
      refine mo_h (h0 := (fun v => v.2)) (f_J7_copyOf_1904c_mono _ _ _ _ _) (fun v12 => ?_)
      refine mo_h mo_pfR (fun g13 => ?_)
      exact mo_some rfl
theorem f_Jx4a65c_grow_d5877_mono (e mi : Nat) (b : Nat) (g : HP) : Mono g (fun v => v.2) (f_Jx4a65c_grow_d5877 e mi b g) := by
  unfold f_Jx4a65c_grow_d5877
  refine mo_p (fun x1 => ?_)
  refine mo_p (fun b2 => ?_)
  refine mo_h (h0 := (fun v => v.2)) (f_Jx4a65c_grow_92f84_mono _ _ _ _ _) (fun v3 => ?_)
  exact mo_some rfl
theorem f_Jx4a65c_add_72be8_mono (e mi : Nat) (b : Nat) (s1 : Option Nat) (s2 : Option Nat) (s3 : Int32) (g : HP) : Mono g id (f_Jx4a65c_add_72be8 e mi b s1 s2 s3 g) := by
  unfold f_Jx4a65c_add_72be8
  refine mo_p (fun x1 => ?_)
  refine mo_h (h0 := fun v => v.2) ?_ (fun q4 => ?_)
  · refine mo_ite ?_ ?_
    · refine mo_p (fun b2 => ?_)
      refine mo_h (h0 := (fun v => v.2)) (f_Jx4a65c_grow_d5877_mono _ _ _ _) (fun v3 => ?_)
      exact mo_some rfl
    · exact mo_some rfl
  · refine mo_h mo_stA (fun g5 => ?_)
    refine mo_h mo_pfI (fun g6 => ?_)
    exact mo_some rfl
theorem f_Jx4a65c_add_9ea2d_mono (e mi : Nat) (b : Nat) (s1 : Option Nat) (g : HP) : Mono g (fun v => v.2) (f_Jx4a65c_add_9ea2d e mi b s1 g) := by
  unfold f_Jx4a65c_add_9ea2d
  refine mo_p (fun x1 => ?_)
  refine mo_h mo_pfI (fun g2 => ?_)
  refine mo_p (fun r3 => ?_)
  refine mo_p (fun x4 => ?_)
  refine mo_p (fun b5 => ?_)
  refine mo_h (h0 := id) (f_Jx4a65c_add_72be8_mono _ _ _ _ _ _ _) (fun g6 => ?_)
  exact mo_some rfl
theorem f_Jx4a65c_rangeCheckForAdd_d00df_mono (e mi : Nat) (b : Nat) (s1 : Int32) (g : HP) : Mono g id (f_Jx4a65c_rangeCheckForAdd_d00df e mi b s1 g) := by
  unfold f_Jx4a65c_rangeCheckForAdd_d00df
  refine mo_p (fun x1 => ?_)
  refine mo_ite ?_ ?_
  · exact mo_none
  · refine mo_ite ?_ ?_
    · exact mo_some rfl
    · exact mo_none
theorem f_Jx4a65c_add_7a177_mono (e mi : Nat) (b : Nat) (s1 : Int32) (s2 : Option Nat) (g : HP) : Mono g id (f_Jx4a65c_add_7a177 e mi b s1 s2 g) := by
  unfold f_Jx4a65c_add_7a177
  refine mo_p (fun b1 => ?_)
  refine mo_h (h0 := id) (f_Jx4a65c_rangeCheckForAdd_d00df_mono _ _ _ _ _) (fun g2 => ?_)
  refine mo_p (fun x3 => ?_)
  refine mo_h mo_pfI (fun g4 => ?_)
  refine mo_p (fun x5 => ?_)
  refine mo_p (fun r6 => ?_)
  refine mo_p (fun x7 => ?_)
  refine mo_h (h0 := fun v => v.2) ?_ (fun q10 => ?_)
  · refine mo_ite ?_ ?_
    · refine mo_p (fun b8 => ?_)
      refine mo_h (h0 := (fun v => v.2)) (f_Jx4a65c_grow_d5877_mono _ _ _ _) (fun v9 => ?_)
      exact mo_some rfl
    · exact mo_some rfl
  · refine mo_h mo_cpA (fun g11 => ?_)
    refine mo_h mo_stA (fun g12 => ?_)
    refine mo_h mo_pfI (fun g13 => ?_)
    exact mo_some rfl
theorem f_Jx4a65c_fastRemove_b59b0_mono (e mi : Nat) (b : Nat) (s1 : Option Nat) (s2 : Int32) (g : HP) : Mono g id (f_Jx4a65c_fastRemove_b59b0 e mi b s1 s2 g) := by
  unfold f_Jx4a65c_fastRemove_b59b0
  refine mo_p (fun x1 => ?_)
  refine mo_h mo_pfI (fun g2 => ?_)
  refine mo_p (fun x3 => ?_)
  refine mo_h (h0 := fun v => v) ?_ (fun q5 => ?_)
  · refine mo_ite ?_ ?_
    · exact mo_some rfl
    · refine mo_h mo_cpA (fun g4 => ?_)
      exact mo_some rfl
  · refine mo_h mo_pfI (fun g6 => ?_)
    refine mo_h mo_stA (fun g7 => ?_)
    exact mo_some rfl
theorem f_Jx4a65c_remove_915e3_mono (e mi : Nat) (b : Nat) (s1 : Int32) (g : HP) : Mono g (fun v => v.2) (f_Jx4a65c_remove_915e3 e mi b s1 g) := by
  unfold f_Jx4a65c_remove_915e3
  refine mo_p (fun x1 => ?_)
  refine mo_p (fun x2 => ?_)
  refine mo_p (fun r3 => ?_)
  refine mo_p (fun r4 => ?_)
  refine mo_p (fun b5 => ?_)
  refine mo_h (h0 := id) (f_Jx4a65c_fastRemove_b59b0_mono _ _ _ _ _ _) (fun g6 => ?_)
  exact mo_some rfl
theorem f_Jx4a65c_clear_da8c8_L27_mono (p27_1 : Option Nat) (p27_2 : Int32) : ∀ (m27 : Nat) (u27_3 : Int32) (w27 : HP), Mono w27 (fun v => v) (f_Jx4a65c_clear_da8c8_L27 p27_1 p27_2 m27 u27_3 w27) := by
  intro m27
  induction m27 with
  | zero =>
    intro u27_3 w27
    exact mo_none
  | succ m27 ih =>
    intro u27_3 w27
    unfold f_Jx4a65c_clear_da8c8_L27
    refine mo_ite ?_ ?_
    · exact mo_some rfl
    · refine mo_h mo_stA (fun g6 => ?_)
      exact ih _ _
theorem f_Jx4a65c_clear_da8c8_mono (e mi : Nat) (b : Nat) (g : HP) : Mono g id (f_Jx4a65c_clear_da8c8 e mi b g) := by
  unfold f_Jx4a65c_clear_da8c8
  refine mo_p (fun x1 => ?_)
  refine mo_h mo_pfI (fun g2 => ?_)
  refine mo_p (fun r3 => ?_)
  refine mo_p (fun x4 => ?_)
  refine mo_h mo_pfI (fun g5 => ?_)
  refine mo_h (h0 := fun v => v) (f_Jx4a65c_clear_da8c8_L27_mono _ _ _ _ _) (fun q7 => ?_)
  exact mo_some rfl
theorem k_Jxa1e45_init_da8c8 (l : Launch) (κ : KK) (b : Nat) (g : HP) : MA l κ Pi1 yJxa1e45_init_da8c8 cJxa1e45_init_da8c8 1 none 1 40 [vR (some b)] g (wVg (f_Jxa1e45_init_da8c8 (kE κ) (kM κ) b g)) := by
  refine MA_of (PO_Pic1 κ) mf_Jxa1e45_init_da8c8 (fun a ha => wVg_mono (f_Jxa1e45_init_da8c8_mono (kE κ) (kM κ) b g) a ha) (Nat.le_of_ble_eq_true rfl) ?_
  intro Γ fin hfin hl hk hin C0 Z0
  subst hl
  subst hk
  obtain ⟨v0, hv, rfl⟩ := wVg_some hfin
  have C : CX Γ cJxa1e45_init_da8c8 1 "java/util/AbstractCollection" Pi1 okAll 1 40 := C0
  have Z : RX Γ Pi1 none (none, v0) := Z0
  refine X.conv (fun _ => hv) ?_
  unfold f_Jxa1e45_init_da8c8
  show X Γ 0 [(0, vR (some b))] [] g _
  refine z_aload_n C dJxa1e45_init_da8c8_0 rfl 0 rfl ?_
  refine z_objInit C kt45 kwOI kwOC dJxa1e45_init_da8c8_1 (by decide) (Nat.le_of_ble_eq_true rfl) ?_
  exact z_vret C Z rfl dJxa1e45_init_da8c8_4 (fun h => by cases h; rfl)
theorem k_Jxc12de_init_da8c8 (l : Launch) (κ : KK) (b : Nat) (g : HP) : MA l κ Pi1 yJxc12de_init_da8c8 cJxc12de_init_da8c8 1 none 2 60 [vR (some b)] g (wVg (f_Jxc12de_init_da8c8 (kE κ) (kM κ) b g)) := by
  refine MA_of (PO_Pic1 κ) mf_Jxc12de_init_da8c8 (fun a ha => wVg_mono (f_Jxc12de_init_da8c8_mono (kE κ) (kM κ) b g) a ha) (Nat.le_of_ble_eq_true rfl) ?_
  intro Γ fin hfin hl hk hin C0 Z0
  subst hl
  subst hk
  obtain ⟨v0, hv, rfl⟩ := wVg_some hfin
  have C : CX Γ cJxc12de_init_da8c8 1 "java/util/AbstractList" Pi1 okAll 2 60 := C0
  have Z : RX Γ Pi1 none (none, v0) := Z0
  refine X.conv (fun _ => hv) ?_
  unfold f_Jxc12de_init_da8c8
  show X Γ 0 [(0, vR (some b))] [] g _
  refine z_aload_n C dJxc12de_init_da8c8_0 rfl 0 rfl ?_
  refine z_callI C mf_Jxa1e45_init_da8c8 kt43 rfl kt42 (k_Jxa1e45_init_da8c8 (gL Γ) (gK Γ) b g) rfl ⟨Nat.le_of_ble_eq_true rfl, Nat.le_of_ble_eq_true rfl⟩ (rest := []) rfl (Nat.le_of_ble_eq_true rfl) dJxc12de_init_da8c8_1 (bdVg) (contVg fun g1 => ?_)
  refine z_aload_n C dJxc12de_init_da8c8_4 rfl 0 rfl ?_
  refine z_iconst C dJxc12de_init_da8c8_5 (v := 0) (by decide) ?_
  refine z_pfI C cf0 0 (by decide) rfl rfl rfl (Or.inl rfl) dJxc12de_init_da8c8_6 kt50 (fun _ h => h) bd (fun g2 => ?_)
  exact z_vret C Z rfl dJxc12de_init_da8c8_9 (fun h => by cases h; rfl)
theorem k_Jx4a65c_init_da8c8 (l : Launch) (κ : KK) (b : Nat) (g : HP) : MA l κ Pi1 yJx4a65c_init_da8c8 cJx4a65c_init_da8c8 1 none 3 80 [vR (some b)] g (wVg (f_Jx4a65c_init_da8c8 (kE κ) (kM κ) b g)) := by
  refine MA_of (PO_Pic1 κ) mf_Jx4a65c_init_da8c8 (fun a ha => wVg_mono (f_Jx4a65c_init_da8c8_mono (kE κ) (kM κ) b g) a ha) (Nat.le_of_ble_eq_true rfl) ?_
  intro Γ fin hfin hl hk hin C0 Z0
  subst hl
  subst hk
  obtain ⟨v0, hv, rfl⟩ := wVg_some hfin
  have C : CX Γ cJx4a65c_init_da8c8 1 "java/util/ArrayList" Pi1 okAll 3 80 := C0
  have Z : RX Γ Pi1 none (none, v0) := Z0
  refine X.conv (fun _ => hv) ?_
  unfold f_Jx4a65c_init_da8c8
  show X Γ 0 [(0, vR (some b))] [] g _
  refine z_aload_n C dJx4a65c_init_da8c8_0 rfl 0 rfl ?_
  refine z_callI C mf_Jxc12de_init_da8c8 kt40 rfl kt39 (k_Jxc12de_init_da8c8 (gL Γ) (gK Γ) b g) rfl ⟨Nat.le_of_ble_eq_true rfl, Nat.le_of_ble_eq_true rfl⟩ (rest := []) rfl (Nat.le_of_ble_eq_true rfl) dJx4a65c_init_da8c8_1 (bdVg) (contVg fun g1 => ?_)
  refine z_aload_n C dJx4a65c_init_da8c8_4 rfl 0 rfl ?_
  refine z_gets C dJx4a65c_init_da8c8_5 kt46 ?_
  refine z_pfR C cf0 1 (by decide) rfl rfl (isRefTy_a _) (Or.inl rfl) dJx4a65c_init_da8c8_8 kt48 (fun _ h => h) bd (fun g2 => ?_)
  exact z_vret C Z rfl dJx4a65c_init_da8c8_11 (fun h => by cases h; rfl)
theorem k_Jx4a65c_size_8abf5 (l : Launch) (κ : KK) (b : Nat) (g : HP) : MA l κ Pi1 yJx4a65c_size_8abf5 cJx4a65c_size_8abf5 1 (some .int) 0 0 [vR (some b)] g (wI g (f_Jx4a65c_size_8abf5 (kE κ) (kM κ) b g)) := by
  refine MA_of (PO_Pic1 κ) mf_Jx4a65c_size_8abf5 (fun a ha => wI_same a ha) (Nat.le_of_ble_eq_true rfl) ?_
  intro Γ fin hfin hl hk hin C0 Z0
  subst hl
  subst hk
  obtain ⟨v0, hv, rfl⟩ := wI_some hfin
  have C : CX Γ cJx4a65c_size_8abf5 1 "java/util/ArrayList" Pi1 okAll 0 0 := C0
  have Z : RX Γ Pi1 (some .int) (some (vI v0), g) := Z0
  refine X.conv (fun _ => hv) ?_
  unfold f_Jx4a65c_size_8abf5
  show X Γ 0 [(0, vR (some b))] [] g _
  refine z_aload_n C dJx4a65c_size_8abf5_0 rfl 0 rfl ?_
  refine z_gfI C cf0 2 (by decide) rfl rfl dJx4a65c_size_8abf5_1 kt49 (fun _ h => h) bd (fun x1 => ?_)
  exact z_iret C Z rfl dJx4a65c_size_8abf5_4 (fun h => by cases h; rfl)
theorem k_Jx4a65c_isEmpty_aae02 (l : Launch) (κ : KK) (b : Nat) (g : HP) : MA l κ Pi1 yJx4a65c_isEmpty_aae02 cJx4a65c_isEmpty_aae02 1 (some .boolean) 0 0 [vR (some b)] g (wI g (f_Jx4a65c_isEmpty_aae02 (kE κ) (kM κ) b g)) := by
  refine MA_of (PO_Pic1 κ) mf_Jx4a65c_isEmpty_aae02 (fun a ha => wI_same a ha) (Nat.le_of_ble_eq_true rfl) ?_
  intro Γ fin hfin hl hk hin C0 Z0
  subst hl
  subst hk
  obtain ⟨v0, hv, rfl⟩ := wI_some hfin
  have C : CX Γ cJx4a65c_isEmpty_aae02 1 "java/util/ArrayList" Pi1 okAll 0 0 := C0
  have Z : RX Γ Pi1 (some .boolean) (some (vI v0), g) := Z0
  refine X.conv (fun _ => hv) ?_
  unfold f_Jx4a65c_isEmpty_aae02
  show X Γ 0 [(0, vR (some b))] [] g _
  refine z_aload_n C dJx4a65c_isEmpty_aae02_0 rfl 0 rfl ?_
  refine z_gfI C cf0 2 (by decide) rfl rfl dJx4a65c_isEmpty_aae02_1 kt49 (fun _ h => h) bd (fun x1 => ?_)
  refine z_if_ne C dJx4a65c_isEmpty_aae02_4 (tgt := 11) rfl it jf ?_ ?_
  · refine z_iconst C dJx4a65c_isEmpty_aae02_7 (v := 1) (by decide) ?_
    refine z_goto C dJx4a65c_isEmpty_aae02_8 (tgt := 12) rfl ?_
    exact z_zret C Z rfl dJx4a65c_isEmpty_aae02_12 (fun _ => Or.inr rfl) (fun h => by cases h; rfl)
  · refine z_iconst C dJx4a65c_isEmpty_aae02_11 (v := 0) (by decide) ?_
    exact z_zret C Z rfl dJx4a65c_isEmpty_aae02_12 (fun _ => Or.inl rfl) (fun h => by cases h; rfl)
theorem k_Jx4a65c_elementData_915e3 (l : Launch) (κ : KK) (b : Nat) (s1 : Int32) (g : HP) : MA l κ Pi1 yJx4a65c_elementData_915e3 cJx4a65c_elementData_915e3 2 (some (.object "java/lang/Object")) 0 0 [vR (some b), vI s1] g (wR g (f_Jx4a65c_elementData_915e3 (kE κ) (kM κ) b s1 g)) := by
  refine MA_of (PO_Pic1 κ) mf_Jx4a65c_elementData_915e3 (fun a ha => wR_same a ha) (Nat.le_of_ble_eq_true rfl) ?_
  intro Γ fin hfin hl hk hin C0 Z0
  subst hl
  subst hk
  obtain ⟨v0, hv, rfl⟩ := wR_some hfin
  have C : CX Γ cJx4a65c_elementData_915e3 2 "java/util/ArrayList" Pi1 okAll 0 0 := C0
  have Z : RX Γ Pi1 (some (.object "java/lang/Object")) (some (vR v0), g) := Z0
  refine X.conv (fun _ => hv) ?_
  unfold f_Jx4a65c_elementData_915e3
  show X Γ 0 [(0, vR (some b)), (1, vI s1)] [] g _
  refine z_aload_n C dJx4a65c_elementData_915e3_0 rfl 0 rfl ?_
  refine z_gfR C cf0 1 (by decide) rfl rfl dJx4a65c_elementData_915e3_1 kt48 (fun _ h => h) bd (fun r1 => ?_)
  refine z_iload_n C dJx4a65c_elementData_915e3_4 rfl 1 rfl ?_
  refine z_ldA C okA_okAll dJx4a65c_elementData_915e3_5 bd (fun r2 => ?_)
  exact z_aret C Z rfl (Or.inl ⟨_, rfl⟩) dJx4a65c_elementData_915e3_6 (fun h => by cases h; rfl)
theorem k_J3_checkIndex_8e157 (l : Launch) (κ : KK) (s1 : Int32) (s2 : Int32) (s3 : Option Nat) (g : HP) : MA l κ Pi1 yJ3_checkIndex_8e157 cJ3_checkIndex_8e157 3 (some .int) 0 0 [vI s1, vI s2, vR s3] g (wI g (f_J3_checkIndex_8e157 (kE κ) (kM κ) s1 s2 s3 g)) := by
  refine MA_of (PO_Pic1 κ) mf_J3_checkIndex_8e157 (fun a ha => wI_same a ha) (Nat.le_of_ble_eq_true rfl) ?_
  intro Γ fin hfin hl hk hin C0 Z0
  subst hl
  subst hk
  obtain ⟨v0, hv, rfl⟩ := wI_some hfin
  have C : CX Γ cJ3_checkIndex_8e157 3 "jdk/internal/util/Preconditions" Pi1 okAll 0 0 := C0
  have Z : RX Γ Pi1 (some .int) (some (vI v0), g) := Z0
  refine X.conv (fun _ => hv) ?_
  unfold f_J3_checkIndex_8e157
  show X Γ 0 [(0, vI s1), (1, vI s2), (2, vR s3)] [] g _
  refine z_iload_n C dJ3_checkIndex_8e157_0 rfl 0 rfl ?_
  refine z_if_lt C dJ3_checkIndex_8e157_1 (tgt := 9) rfl it jf ?_ ?_
  · exact X.no no0
  · refine z_iload_n C dJ3_checkIndex_8e157_4 rfl 0 rfl ?_
    refine z_iload_n C dJ3_checkIndex_8e157_5 rfl 1 rfl ?_
    refine z_icmp_lt C dJ3_checkIndex_8e157_6 (tgt := 16) rfl it jf ?_ ?_
    · refine z_iload_n C dJ3_checkIndex_8e157_16 rfl 0 rfl ?_
      exact z_iret C Z rfl dJ3_checkIndex_8e157_17 (fun h => by cases h; rfl)
    · exact X.no no0
theorem k_J15_checkIndex_7cf53 (l : Launch) (κ : KK) (s1 : Int32) (s2 : Int32) (g : HP) : MA l κ Pi1 yJ15_checkIndex_7cf53 cJ15_checkIndex_7cf53 2 (some .int) 1 22 [vI s1, vI s2] g (wI g (f_J15_checkIndex_7cf53 (kE κ) (kM κ) s1 s2 g)) := by
  refine MA_of (PO_Pic1 κ) mf_J15_checkIndex_7cf53 (fun a ha => wI_same a ha) (Nat.le_of_ble_eq_true rfl) ?_
  intro Γ fin hfin hl hk hin C0 Z0
  subst hl
  subst hk
  obtain ⟨v0, hv, rfl⟩ := wI_some hfin
  have C : CX Γ cJ15_checkIndex_7cf53 2 "java/util/Objects" Pi1 okAll 1 22 := C0
  have Z : RX Γ Pi1 (some .int) (some (vI v0), g) := Z0
  refine X.conv (fun _ => hv) ?_
  unfold f_J15_checkIndex_7cf53
  show X Γ 0 [(0, vI s1), (1, vI s2)] [] g _
  refine z_iload_n C dJ15_checkIndex_7cf53_0 rfl 0 rfl ?_
  refine z_iload_n C dJ15_checkIndex_7cf53_1 rfl 1 rfl ?_
  refine z_null C dJ15_checkIndex_7cf53_2 ?_
  refine z_callSX C mf_J3_checkIndex_8e157 kt272 kt271 (k_J3_checkIndex_8e157 (gL Γ) (gK Γ) s1 s2 none g) rfl ⟨Nat.le_of_ble_eq_true rfl, Nat.le_of_ble_eq_true rfl⟩ (rest := []) rfl (Nat.le_of_ble_eq_true rfl) dJ15_checkIndex_7cf53_3 (bdI) (contI fun x1 => ?_)
  exact z_iret C Z rfl dJ15_checkIndex_7cf53_6 (fun h => by cases h; rfl)
theorem k_Jx4a65c_get_915e3 (l : Launch) (κ : KK) (b : Nat) (s1 : Int32) (g : HP) : MA l κ Pi1 yJx4a65c_get_915e3 cJx4a65c_get_915e3 2 (some (.object "java/lang/Object")) 2 43 [vR (some b), vI s1] g (wR g (f_Jx4a65c_get_915e3 (kE κ) (kM κ) b s1 g)) := by
  refine MA_of (PO_Pic1 κ) mf_Jx4a65c_get_915e3 (fun a ha => wR_same a ha) (Nat.le_of_ble_eq_true rfl) ?_
  intro Γ fin hfin hl hk hin C0 Z0
  subst hl
  subst hk
  obtain ⟨v0, hv, rfl⟩ := wR_some hfin
  have C : CX Γ cJx4a65c_get_915e3 2 "java/util/ArrayList" Pi1 okAll 2 43 := C0
  have Z : RX Γ Pi1 (some (.object "java/lang/Object")) (some (vR v0), g) := Z0
  refine X.conv (fun _ => hv) ?_
  unfold f_Jx4a65c_get_915e3
  show X Γ 0 [(0, vR (some b)), (1, vI s1)] [] g _
  refine z_iload_n C dJx4a65c_get_915e3_0 rfl 1 rfl ?_
  refine z_aload_n C dJx4a65c_get_915e3_1 rfl 0 rfl ?_
  refine z_gfI C cf0 2 (by decide) rfl rfl dJx4a65c_get_915e3_2 kt49 (fun _ h => h) bd (fun x1 => ?_)
  refine z_callSX C mf_J15_checkIndex_7cf53 kt269 kt268 (k_J15_checkIndex_7cf53 (gL Γ) (gK Γ) s1 x1 g) rfl ⟨Nat.le_of_ble_eq_true rfl, Nat.le_of_ble_eq_true rfl⟩ (rest := []) rfl (Nat.le_of_ble_eq_true rfl) dJx4a65c_get_915e3_5 (bdI) (contI fun x2 => ?_)
  refine z_pop C dJx4a65c_get_915e3_8 rfl ?_
  refine z_aload_n C dJx4a65c_get_915e3_9 rfl 0 rfl ?_
  refine z_iload_n C dJx4a65c_get_915e3_10 rfl 1 rfl ?_
  refine z_rcv bd (fun b3 hbb3 htb3 => ?_)
  have heb3 := Option.some.inj hbb3
  subst heb3
  refine z_callV C cf0 mf_Jx4a65c_elementData_915e3 kt275 kt276 kt274 (k_Jx4a65c_elementData_915e3 (gL Γ) (gK Γ) b s1 g) htb3 rfl ⟨Nat.le_of_ble_eq_true rfl, Nat.le_of_ble_eq_true rfl⟩ (rest := []) rfl (Nat.le_of_ble_eq_true rfl) dJx4a65c_get_915e3_11 (bdR) (contR fun r4 => ?_)
  exact z_aret C Z rfl (Or.inl ⟨_, rfl⟩) dJx4a65c_get_915e3_14 (fun h => by cases h; rfl)
theorem k_J8_newLength_cabcc (l : Launch) (κ : KK) (s1 : Int32) (s2 : Int32) (s3 : Int32) (g : HP) : MA l κ Pi1 yJ8_newLength_cabcc cJ8_newLength_cabcc 4 (some .int) 1 40 [vI s1, vI s2, vI s3] g (wI g (f_J8_newLength_cabcc (kE κ) (kM κ) s1 s2 s3 g)) := by
  refine MA_of (PO_Pic1 κ) mf_J8_newLength_cabcc (fun a ha => wI_same a ha) (Nat.le_of_ble_eq_true rfl) ?_
  intro Γ fin hfin hl hk hin C0 Z0
  subst hl
  subst hk
  obtain ⟨v0, hv, rfl⟩ := wI_some hfin
  have C : CX Γ cJ8_newLength_cabcc 4 "jdk/internal/util/ArraysSupport" Pi1 okAll 1 40 := C0
  have Z : RX Γ Pi1 (some .int) (some (vI v0), g) := Z0
  refine X.conv (fun _ => hv) ?_
  unfold f_J8_newLength_cabcc
  show X Γ 0 [(0, vI s1), (1, vI s2), (2, vI s3)] [] g _
  refine z_iload_n C dJ8_newLength_cabcc_0 rfl 0 rfl ?_
  refine z_iload_n C dJ8_newLength_cabcc_1 rfl 1 rfl ?_
  refine z_iload_n C dJ8_newLength_cabcc_2 rfl 2 rfl ?_
  refine z_mmax C kt147 kw_mmax_s kw_math kw_mmax_c dJ8_newLength_cabcc_3 (by decide) (Nat.le_of_ble_eq_true rfl) ?_
  refine z_iadd C dJ8_newLength_cabcc_6 ?_
  refine z_istore_n (L' := [(3, vI (s1 + (if s2 < s3 then s3 else s2))), (0, vI s1), (1, vI s2), (2, vI s3)]) C dJ8_newLength_cabcc_7 rfl (by decide) rfl ?_
  refine z_iconst C dJ8_newLength_cabcc_8 (v := 0) (by decide) ?_
  refine z_iload_n C dJ8_newLength_cabcc_9 rfl 0 rfl ?_
  refine z_icmp_ge C dJ8_newLength_cabcc_10 (tgt := 21) rfl it jf ?_ ?_
  · exact X.no no0
  · refine z_iload_n C dJ8_newLength_cabcc_13 rfl 0 rfl ?_
    refine z_ldc C dJ8_newLength_cabcc_14 kt150 ?_
    refine z_icmp_gt C dJ8_newLength_cabcc_16 (tgt := 21) rfl it jf ?_ ?_
    · exact X.no no0
    · refine z_iload_n C dJ8_newLength_cabcc_19 rfl 0 rfl ?_
      exact z_iret C Z rfl dJ8_newLength_cabcc_20 (fun h => by cases h; rfl)
theorem k_J7_copyOf_6403c (l : Launch) (κ : KK) (s1 : Option Nat) (s2 : Int32) (s3 : Option Nat) (g : HP) : MA l κ Pi1 yJ7_copyOf_6403c cJ7_copyOf_6403c 4 (some (.array (.object "java/lang/Object"))) 1 60 [vR s1, vI s2, vR s3] g (wRg (f_J7_copyOf_6403c (kE κ) (kM κ) s1 s2 s3 g)) := by
  refine MA_of (PO_Pic1 κ) mf_J7_copyOf_6403c (fun a ha => wRg_mono (f_J7_copyOf_6403c_mono (kE κ) (kM κ) s1 s2 s3 g) a ha) (Nat.le_of_ble_eq_true rfl) ?_
  intro Γ fin hfin hl hk hin C0 Z0
  subst hl
  subst hk
  obtain ⟨v0, hv, rfl⟩ := wRg_some hfin
  have C : CX Γ cJ7_copyOf_6403c 4 "java/util/Arrays" Pi1 okAll 1 60 := C0
  have Z : RX Γ Pi1 (some (.array (.object "java/lang/Object"))) (some (vR v0.1), v0.2) := Z0
  refine X.conv (fun _ => hv) ?_
  unfold f_J7_copyOf_6403c
  show X Γ 0 [(0, vR s1), (1, vI s2), (2, vR s3)] [] g _
  refine z_aload_n C dJ7_copyOf_6403c_0 rfl 2 rfl ?_
  refine z_ldcM C dJ7_copyOf_6403c_1 kt178 ?_
  refine z_acmp_ne C dJ7_copyOf_6403c_3 (tgt := 13) rfl it jf ?_ ?_
  · refine z_iload_n C dJ7_copyOf_6403c_6 rfl 1 rfl ?_
    refine z_nwA C rfl dJ7_copyOf_6403c_7 kt180 bd (fun a1 => ?_)
    refine z_goto C dJ7_copyOf_6403c_10 (tgt := 24) rfl ?_
    refine z_astore_n (L' := [(3, vR (some a1.1)), (0, vR s1), (1, vI s2), (2, vR s3)]) C dJ7_copyOf_6403c_24 rfl (by decide) rfl ?_
    refine z_aload_n C dJ7_copyOf_6403c_25 rfl 1 rfl ?_
    refine z_iconst C dJ7_copyOf_6403c_26 (v := 0) (by decide) ?_
    refine z_aload_n C dJ7_copyOf_6403c_27 rfl 0 rfl ?_
    refine z_iconst C dJ7_copyOf_6403c_28 (v := 0) (by decide) ?_
    refine z_aload_n C dJ7_copyOf_6403c_29 rfl 1 rfl ?_
    refine z_lnA C okL_ok1 dJ7_copyOf_6403c_30 bd (fun x2 => ?_)
    refine z_iload_n C dJ7_copyOf_6403c_31 rfl 2 rfl ?_
    refine z_mmin C kt181 kw_mmin_s kw_math kw_mmin_c dJ7_copyOf_6403c_32 (by decide) (Nat.le_of_ble_eq_true rfl) ?_
    refine z_cpA C rfl kt184 kwCn kwCs kwCi (by decide) (by show _ + (nativeFrameWords "java/lang/System" "arraycopy" 5 + 11) ≤ _; exact Nat.le_of_ble_eq_true (by rfl)) dJ7_copyOf_6403c_35 bd (fun g3 => ?_)
    refine z_aload_n C dJ7_copyOf_6403c_38 rfl 0 rfl ?_
    exact z_aret C Z rfl (Or.inr ⟨_, rfl⟩) dJ7_copyOf_6403c_39 (fun h => by cases h; rfl)
  · exact X.no no0
theorem k_J7_copyOf_1904c (l : Launch) (κ : KK) (s1 : Option Nat) (s2 : Int32) (g : HP) : MA l κ Pi1 yJ7_copyOf_1904c cJ7_copyOf_1904c 2 (some (.array (.object "java/lang/Object"))) 2 83 [vR s1, vI s2] g (wRg (f_J7_copyOf_1904c (kE κ) (kM κ) s1 s2 g)) := by
  refine MA_of (PO_Pic1 κ) mf_J7_copyOf_1904c (fun a ha => wRg_mono (f_J7_copyOf_1904c_mono (kE κ) (kM κ) s1 s2 g) a ha) (Nat.le_of_ble_eq_true rfl) ?_
  intro Γ fin hfin hl hk hin C0 Z0
  subst hl
  subst hk
  obtain ⟨v0, hv, rfl⟩ := wRg_some hfin
  have C : CX Γ cJ7_copyOf_1904c 2 "java/util/Arrays" Pi1 okAll 2 83 := C0
  have Z : RX Γ Pi1 (some (.array (.object "java/lang/Object"))) (some (vR v0.1), v0.2) := Z0
  refine X.conv (fun _ => hv) ?_
  unfold f_J7_copyOf_1904c
  show X Γ 0 [(0, vR s1), (1, vI s2)] [] g _
  refine z_aload_n C dJ7_copyOf_1904c_0 rfl 0 rfl ?_
  refine z_iload_n C dJ7_copyOf_1904c_1 rfl 1 rfl ?_
  refine z_aload_n C dJ7_copyOf_1904c_2 rfl 0 rfl ?_
  refine z_gtC C kt157 kwGs kwGi kwGn (by decide) (Nat.le_of_ble_eq_true rfl) dJ7_copyOf_1904c_3 bd (fun r1 => ?_)
  refine z_callS C rfl mf_J7_copyOf_6403c kt176 kt175 (k_J7_copyOf_6403c (gL Γ) (gK Γ) s1 s2 r1 g) rfl ⟨Nat.le_of_ble_eq_true rfl, Nat.le_of_ble_eq_true rfl⟩ (rest := []) rfl (Nat.le_of_ble_eq_true rfl) dJ7_copyOf_1904c_6 (bdRg) (contRg fun v2 => ?_)
  exact z_aret C Z rfl (Or.inr ⟨_, rfl⟩) dJ7_copyOf_1904c_9 (fun h => by cases h; rfl)
theorem k_Jx4a65c_grow_92f84 (l : Launch) (κ : KK) (b : Nat) (s1 : Int32) (g : HP) : MA l κ Pi1 yJx4a65c_grow_92f84 cJx4a65c_grow_92f84 4 (some (.array (.object "java/lang/Object"))) 3 104 [vR (some b), vI s1] g (wRg (f_Jx4a65c_grow_92f84 (kE κ) (kM κ) b s1 g)) := by
  refine MA_of (PO_Pic1 κ) mf_Jx4a65c_grow_92f84 (fun a ha => wRg_mono (f_Jx4a65c_grow_92f84_mono (kE κ) (kM κ) b s1 g) a ha) (Nat.le_of_ble_eq_true rfl) ?_
  intro Γ fin hfin hl hk hin C0 Z0
  subst hl
  subst hk
  obtain ⟨v0, hv, rfl⟩ := wRg_some hfin
  have C : CX Γ cJx4a65c_grow_92f84 4 "java/util/ArrayList" Pi1 okAll 3 104 := C0
  have Z : RX Γ Pi1 (some (.array (.object "java/lang/Object"))) (some (vR v0.1), v0.2) := Z0
  refine X.conv (fun _ => hv) ?_
  unfold f_Jx4a65c_grow_92f84
  show X Γ 0 [(0, vR (some b)), (1, vI s1)] [] g _
  refine z_aload_n C dJx4a65c_grow_92f84_0 rfl 0 rfl ?_
  refine z_gfR C cf0 1 (by decide) rfl rfl dJx4a65c_grow_92f84_1 kt48 (fun _ h => h) bd (fun r1 => ?_)
  refine z_lnA C okL_ok1 dJx4a65c_grow_92f84_4 bd (fun x2 => ?_)
  refine z_istore_n (L' := [(2, vI x2), (0, vR (some b)), (1, vI s1)]) C dJx4a65c_grow_92f84_5 rfl (by decide) rfl ?_
  refine z_iload_n C dJx4a65c_grow_92f84_6 rfl 0 rfl ?_
  refine z_if_gt C dJx4a65c_grow_92f84_7 (tgt := 20) rfl it jf ?_ ?_
  · refine z_iload_n C dJx4a65c_grow_92f84_20 rfl 0 rfl ?_
    refine z_iload_n C dJx4a65c_grow_92f84_21 rfl 2 rfl ?_
    refine z_iload_n C dJx4a65c_grow_92f84_22 rfl 0 rfl ?_
    refine z_isub C dJx4a65c_grow_92f84_23 ?_
    refine z_iload_n C dJx4a65c_grow_92f84_24 rfl 0 rfl ?_
    refine z_iconst C dJx4a65c_grow_92f84_25 (v := 1) (by decide) ?_
    refine z_ishr C dJx4a65c_grow_92f84_26 ?_
    refine z_callSX C mf_J8_newLength_cabcc kt145 kt144 (k_J8_newLength_cabcc (gL Γ) (gK Γ) x2 (s1 - x2) (x2 >>> (1 &&& 31)) g) rfl ⟨Nat.le_of_ble_eq_true rfl, Nat.le_of_ble_eq_true rfl⟩ (rest := []) rfl (Nat.le_of_ble_eq_true rfl) dJx4a65c_grow_92f84_27 (bdI) (contI fun x3 => ?_)
    refine z_istore_n (L' := [(3, vI x3), (2, vI x2), (0, vR (some b)), (1, vI s1)]) C dJx4a65c_grow_92f84_30 rfl (by decide) rfl ?_
    refine z_aload_n C dJx4a65c_grow_92f84_31 rfl 2 rfl ?_
    refine z_aload_n C dJx4a65c_grow_92f84_32 rfl 2 rfl ?_
    refine z_gfR C cf0 1 (by decide) rfl rfl dJx4a65c_grow_92f84_33 kt48 (fun _ h => h) bd (fun r4 => ?_)
    refine z_iload_n C dJx4a65c_grow_92f84_36 rfl 0 rfl ?_
    refine z_callSX C mf_J7_copyOf_1904c kt155 kt154 (k_J7_copyOf_1904c (gL Γ) (gK Γ) r4 x3 g) rfl ⟨Nat.le_of_ble_eq_true rfl, Nat.le_of_ble_eq_true rfl⟩ (rest := [vR (some b)]) rfl (Nat.le_of_ble_eq_true rfl) dJx4a65c_grow_92f84_37 (bdRg) (contRg fun v5 => ?_)
    refine z_dup_x1 C dJx4a65c_grow_92f84_40 rfl rfl ?_
    refine z_pfR C cf0 1 (by decide) rfl rfl (isRefTy_a _) (Or.inl rfl) dJx4a65c_grow_92f84_41 kt48 (fun _ h => h) bd (fun g6 => ?_)
    exact z_aret C Z rfl (Or.inr ⟨_, rfl⟩) dJx4a65c_grow_92f84_44 (fun h => by cases h; rfl)
  · refine z_aload_n C dJx4a65c_grow_92f84_10 rfl 1 rfl ?_
    refine z_gfR C cf0 1 (by decide) rfl rfl dJx4a65c_grow_92f84_11 kt48 (fun _ h => h) bd (fun r7 => ?_)
    refine z_gets C dJx4a65c_grow_92f84_14 kt46 ?_
    refine z_acmp_eq C dJx4a65c_grow_92f84_17 (tgt := 45) rfl it jf ?_ ?_
    · refine z_aload_n C dJx4a65c_grow_92f84_45 rfl 1 rfl ?_
      refine z_bipush C dJx4a65c_grow_92f84_46 (v := 10) (by decide) ?_
      refine z_iload_n C dJx4a65c_grow_92f84_48 rfl 2 rfl ?_
      refine z_mmax C kt187 kw_mmax_s kw_math kw_mmax_c dJx4a65c_grow_92f84_49 (by decide) (Nat.le_of_ble_eq_true rfl) ?_
      refine z_nwA C rfl dJx4a65c_grow_92f84_52 kt188 bd (fun a8 => ?_)
      refine z_dup_x1 C dJx4a65c_grow_92f84_55 rfl rfl ?_
      refine z_pfR C cf0 1 (by decide) rfl rfl (isRefTy_a _) (Or.inl rfl) dJx4a65c_grow_92f84_56 kt48 (fun _ h => h) bd (fun g9 => ?_)
      exact z_aret C Z rfl (Or.inr ⟨_, rfl⟩) dJx4a65c_grow_92f84_59 (fun h => by cases h; rfl)
    · refine z_iload_n C dJx4a65c_grow_92f84_20 rfl 0 rfl ?_
      refine z_iload_n C dJx4a65c_grow_92f84_21 rfl 2 rfl ?_
      refine z_iload_n C dJx4a65c_grow_92f84_22 rfl 0 rfl ?_
      refine z_isub C dJx4a65c_grow_92f84_23 ?_
      refine z_iload_n C dJx4a65c_grow_92f84_24 rfl 0 rfl ?_
      refine z_iconst C dJx4a65c_grow_92f84_25 (v := 1) (by decide) ?_
      refine z_ishr C dJx4a65c_grow_92f84_26 ?_
      refine z_callSX C mf_J8_newLength_cabcc kt145 kt144 (k_J8_newLength_cabcc (gL Γ) (gK Γ) x2 (s1 - x2) (x2 >>> (1 &&& 31)) g) rfl ⟨Nat.le_of_ble_eq_true rfl, Nat.le_of_ble_eq_true rfl⟩ (rest := []) rfl (Nat.le_of_ble_eq_true rfl) dJx4a65c_grow_92f84_27 (bdI) (contI fun x10 => ?_)
      refine z_istore_n (L' := [(3, vI x10), (2, vI x2), (0, vR (some b)), (1, vI s1)]) C dJx4a65c_grow_92f84_30 rfl (by decide) rfl ?_
      refine z_aload_n C dJx4a65c_grow_92f84_31 rfl 2 rfl ?_
      refine z_aload_n C dJx4a65c_grow_92f84_32 rfl 2 rfl ?_
      refine z_gfR C cf0 1 (by decide) rfl rfl dJx4a65c_grow_92f84_33 kt48 (fun _ h => h) bd (fun r11 => ?_)
      refine z_iload_n C dJx4a65c_grow_92f84_36 rfl 0 rfl ?_
      refine z_callSX C mf_J7_copyOf_1904c kt155 kt154 (k_J7_copyOf_1904c (gL Γ) (gK Γ) r11 x10 g) rfl ⟨Nat.le_of_ble_eq_true rfl, Nat.le_of_ble_eq_true rfl⟩ (rest := [vR (some b)]) rfl (Nat.le_of_ble_eq_true rfl) dJx4a65c_grow_92f84_37 (bdRg) (contRg fun v12 => ?_)
      refine z_dup_x1 C dJx4a65c_grow_92f84_40 rfl rfl ?_
      refine z_pfR C cf0 1 (by decide) rfl rfl (isRefTy_a _) (Or.inl rfl) dJx4a65c_grow_92f84_41 kt48 (fun _ h => h) bd (fun g13 => ?_)
      exact z_aret C Z rfl (Or.inr ⟨_, rfl⟩) dJx4a65c_grow_92f84_44 (fun h => by cases h; rfl)
theorem k_Jx4a65c_grow_d5877 (l : Launch) (κ : KK) (b : Nat) (g : HP) : MA l κ Pi1 yJx4a65c_grow_d5877 cJx4a65c_grow_d5877 1 (some (.array (.object "java/lang/Object"))) 4 127 [vR (some b)] g (wRg (f_Jx4a65c_grow_d5877 (kE κ) (kM κ) b g)) := by
  refine MA_of (PO_Pic1 κ) mf_Jx4a65c_grow_d5877 (fun a ha => wRg_mono (f_Jx4a65c_grow_d5877_mono (kE κ) (kM κ) b g) a ha) (Nat.le_of_ble_eq_true rfl) ?_
  intro Γ fin hfin hl hk hin C0 Z0
  subst hl
  subst hk
  obtain ⟨v0, hv, rfl⟩ := wRg_some hfin
  have C : CX Γ cJx4a65c_grow_d5877 1 "java/util/ArrayList" Pi1 okAll 4 127 := C0
  have Z : RX Γ Pi1 (some (.array (.object "java/lang/Object"))) (some (vR v0.1), v0.2) := Z0
  refine X.conv (fun _ => hv) ?_
  unfold f_Jx4a65c_grow_d5877
  show X Γ 0 [(0, vR (some b))] [] g _
  refine z_aload_n C dJx4a65c_grow_d5877_0 rfl 0 rfl ?_
  refine z_aload_n C dJx4a65c_grow_d5877_1 rfl 0 rfl ?_
  refine z_gfI C cf0 2 (by decide) rfl rfl dJx4a65c_grow_d5877_2 kt49 (fun _ h => h) bd (fun x1 => ?_)
  refine z_iconst C dJx4a65c_grow_d5877_5 (v := 1) (by decide) ?_
  refine z_iadd C dJx4a65c_grow_d5877_6 ?_
  refine z_rcv bd (fun b2 hbb2 htb2 => ?_)
  have heb2 := Option.some.inj hbb2
  subst heb2
  refine z_callV C cf0 mf_Jx4a65c_grow_92f84 kt142 (gtbl_priv (j := 2) rfl rfl) kt140 (k_Jx4a65c_grow_92f84 (gL Γ) (gK Γ) b (x1 + 1) g) htb2 rfl ⟨Nat.le_of_ble_eq_true rfl, Nat.le_of_ble_eq_true rfl⟩ (rest := []) rfl (Nat.le_of_ble_eq_true rfl) dJx4a65c_grow_d5877_7 (bdRg) (contRg fun v3 => ?_)
  exact z_aret C Z rfl (Or.inr ⟨_, rfl⟩) dJx4a65c_grow_d5877_10 (fun h => by cases h; rfl)
theorem k_Jx4a65c_add_72be8 (l : Launch) (κ : KK) (b : Nat) (s1 : Option Nat) (s2 : Option Nat) (s3 : Int32) (g : HP) : MA l κ Pi1 yJx4a65c_add_72be8 cJx4a65c_add_72be8 4 none 5 147 [vR (some b), vR s1, vR s2, vI s3] g (wVg (f_Jx4a65c_add_72be8 (kE κ) (kM κ) b s1 s2 s3 g)) := by
  refine MA_of (PO_Pic1 κ) mf_Jx4a65c_add_72be8 (fun a ha => wVg_mono (f_Jx4a65c_add_72be8_mono (kE κ) (kM κ) b s1 s2 s3 g) a ha) (Nat.le_of_ble_eq_true rfl) ?_
  intro Γ fin hfin hl hk hin C0 Z0
  subst hl
  subst hk
  obtain ⟨v0, hv, rfl⟩ := wVg_some hfin
  have C : CX Γ cJx4a65c_add_72be8 4 "java/util/ArrayList" Pi1 okAll 5 147 := C0
  have Z : RX Γ Pi1 none (none, v0) := Z0
  refine X.conv (fun _ => hv) ?_
  unfold f_Jx4a65c_add_72be8
  show X Γ 0 [(0, vR (some b)), (1, vR s1), (2, vR s2), (3, vI s3)] [] g _
  refine z_iload_n C dJx4a65c_add_72be8_0 rfl 3 rfl ?_
  refine z_aload_n C dJx4a65c_add_72be8_1 rfl 2 rfl ?_
  refine z_lnA C okL_ok1 dJx4a65c_add_72be8_2 bd (fun x1 => ?_)
  refine X.join (τ := ((Option Nat) × HP)) 11 (fun q4 => [(0, vR (some b)), (1, vR s1), (2, vR q4.1), (3, vI s3)]) (fun q4 => []) (fun q4 => q4.2) (fun q4 => ?_) (fun hj11 => ?_)
  · refine z_aload_n C dJx4a65c_add_72be8_11 rfl 2 rfl ?_
    refine z_iload_n C dJx4a65c_add_72be8_12 rfl 3 rfl ?_
    refine z_aload_n C dJx4a65c_add_72be8_13 rfl 1 rfl ?_
    refine z_stA C rfl dJx4a65c_add_72be8_14 bd (fun g5 => ?_)
    refine z_aload_n C dJx4a65c_add_72be8_15 rfl 0 rfl ?_
    refine z_iload_n C dJx4a65c_add_72be8_16 rfl 3 rfl ?_
    refine z_iconst C dJx4a65c_add_72be8_17 (v := 1) (by decide) ?_
    refine z_iadd C dJx4a65c_add_72be8_18 ?_
    refine z_pfI C cf0 2 (by decide) rfl rfl rfl (Or.inl rfl) dJx4a65c_add_72be8_19 kt49 (fun _ h => h) bd (fun g6 => ?_)
    exact z_vret C Z rfl dJx4a65c_add_72be8_22 (fun h => by cases h; rfl)
  · refine X.conv bi ?_
    refine z_icmp_ne C dJx4a65c_add_72be8_3 (tgt := 11) rfl it jf ?_ ?_
    · refine z_aload_n C dJx4a65c_add_72be8_6 rfl 0 rfl ?_
      refine X.conv bb ?_
      refine z_rcv bd (fun b2 hbb2 htb2 => ?_)
      have heb2 := Option.some.inj hbb2
      subst heb2
      refine X.conv bb ?_
      refine z_callV C cf0 mf_Jx4a65c_grow_d5877 kt138 (gtbl_priv (j := 1) rfl rfl) kt136 (k_Jx4a65c_grow_d5877 (gL Γ) (gK Γ) b g) htb2 rfl ⟨Nat.le_of_ble_eq_true rfl, Nat.le_of_ble_eq_true rfl⟩ (rest := []) rfl (Nat.le_of_ble_eq_true rfl) dJx4a65c_add_72be8_7 (bdRg) (contRg fun v3 => ?_)
      refine z_astore_n (L' := [(2, vR v3.1), (0, vR (some b)), (1, vR s1), (3, vI s3)]) C dJx4a65c_add_72be8_10 rfl (by decide) rfl ?_
      refine z_lsub [1, 2, 0, 3] rfl ?_
      exact hj11 (v3.1, v3.2)
    · refine z_lsub [0, 1, 2, 3] rfl ?_
      exact hj11 (s2, g)
theorem k_Jx4a65c_add_9ea2d (l : Launch) (κ : KK) (b : Nat) (s1 : Option Nat) (g : HP) : MA l κ Pi1 yJx4a65c_add_9ea2d cJx4a65c_add_9ea2d 2 (some .boolean) 6 170 [vR (some b), vR s1] g (wIg (f_Jx4a65c_add_9ea2d (kE κ) (kM κ) b s1 g)) := by
  refine MA_of (PO_Pic1 κ) mf_Jx4a65c_add_9ea2d (fun a ha => wIg_mono (f_Jx4a65c_add_9ea2d_mono (kE κ) (kM κ) b s1 g) a ha) (Nat.le_of_ble_eq_true rfl) ?_
  intro Γ fin hfin hl hk hin C0 Z0
  subst hl
  subst hk
  obtain ⟨v0, hv, rfl⟩ := wIg_some hfin
  have C : CX Γ cJx4a65c_add_9ea2d 2 "java/util/ArrayList" Pi1 okAll 6 170 := C0
  have Z : RX Γ Pi1 (some .boolean) (some (vI v0.1), v0.2) := Z0
  refine X.conv (fun _ => hv) ?_
  unfold f_Jx4a65c_add_9ea2d
  show X Γ 0 [(0, vR (some b)), (1, vR s1)] [] g _
  refine z_aload_n C dJx4a65c_add_9ea2d_0 rfl 0 rfl ?_
  refine z_dup C dJx4a65c_add_9ea2d_1 rfl ?_
  refine z_gfI C cf0 0 (by decide) rfl rfl dJx4a65c_add_9ea2d_2 kt51 (fun x9 h9 => u_same (C.hts _ kt52) x9 h9) bd (fun x1 => ?_)
  refine z_iconst C dJx4a65c_add_9ea2d_5 (v := 1) (by decide) ?_
  refine z_iadd C dJx4a65c_add_9ea2d_6 ?_
  refine z_pfI C cf0 0 (by decide) rfl rfl rfl (Or.inl rfl) dJx4a65c_add_9ea2d_7 kt51 (fun x9 h9 => u_same (C.hts _ kt52) x9 h9) bd (fun g2 => ?_)
  refine z_aload_n C dJx4a65c_add_9ea2d_10 rfl 0 rfl ?_
  refine z_aload_n C dJx4a65c_add_9ea2d_11 rfl 1 rfl ?_
  refine z_aload_n C dJx4a65c_add_9ea2d_12 rfl 0 rfl ?_
  refine z_gfR C cf0 1 (by decide) rfl rfl dJx4a65c_add_9ea2d_13 kt48 (fun _ h => h) bd (fun r3 => ?_)
  refine z_aload_n C dJx4a65c_add_9ea2d_16 rfl 0 rfl ?_
  refine z_gfI C cf0 2 (by decide) rfl rfl dJx4a65c_add_9ea2d_17 kt49 (fun _ h => h) bd (fun x4 => ?_)
  refine z_rcv bd (fun b5 hbb5 htb5 => ?_)
  have heb5 := Option.some.inj hbb5
  subst heb5
  refine z_callV C cf0 mf_Jx4a65c_add_72be8 kt134 (gtbl_priv (j := 0) rfl rfl) kt132 (k_Jx4a65c_add_72be8 (gL Γ) (gK Γ) b s1 r3 x4 g2) htb5 rfl ⟨Nat.le_of_ble_eq_true rfl, Nat.le_of_ble_eq_true rfl⟩ (rest := []) rfl (Nat.le_of_ble_eq_true rfl) dJx4a65c_add_9ea2d_20 (bdVg) (contVg fun g6 => ?_)
  refine z_iconst C dJx4a65c_add_9ea2d_23 (v := 1) (by decide) ?_
  exact z_zret C Z rfl dJx4a65c_add_9ea2d_24 (fun _ => Or.inr rfl) (fun h => by cases h; rfl)
theorem k_Jx4a65c_rangeCheckForAdd_d00df (l : Launch) (κ : KK) (b : Nat) (s1 : Int32) (g : HP) : MA l κ Pi1 yJx4a65c_rangeCheckForAdd_d00df cJx4a65c_rangeCheckForAdd_d00df 2 none 0 0 [vR (some b), vI s1] g (wVg (f_Jx4a65c_rangeCheckForAdd_d00df (kE κ) (kM κ) b s1 g)) := by
  refine MA_of (PO_Pic1 κ) mf_Jx4a65c_rangeCheckForAdd_d00df (fun a ha => wVg_mono (f_Jx4a65c_rangeCheckForAdd_d00df_mono (kE κ) (kM κ) b s1 g) a ha) (Nat.le_of_ble_eq_true rfl) ?_
  intro Γ fin hfin hl hk hin C0 Z0
  subst hl
  subst hk
  obtain ⟨v0, hv, rfl⟩ := wVg_some hfin
  have C : CX Γ cJx4a65c_rangeCheckForAdd_d00df 2 "java/util/ArrayList" Pi1 okAll 0 0 := C0
  have Z : RX Γ Pi1 none (none, v0) := Z0
  refine X.conv (fun _ => hv) ?_
  unfold f_Jx4a65c_rangeCheckForAdd_d00df
  show X Γ 0 [(0, vR (some b)), (1, vI s1)] [] g _
  refine z_iload_n C dJx4a65c_rangeCheckForAdd_d00df_0 rfl 1 rfl ?_
  refine z_aload_n C dJx4a65c_rangeCheckForAdd_d00df_1 rfl 0 rfl ?_
  refine z_gfI C cf0 2 (by decide) rfl rfl dJx4a65c_rangeCheckForAdd_d00df_2 kt49 (fun _ h => h) bd (fun x1 => ?_)
  refine z_icmp_gt C dJx4a65c_rangeCheckForAdd_d00df_5 (tgt := 12) rfl it jf ?_ ?_
  · exact X.no no0
  · refine z_iload_n C dJx4a65c_rangeCheckForAdd_d00df_8 rfl 1 rfl ?_
    refine z_if_ge C dJx4a65c_rangeCheckForAdd_d00df_9 (tgt := 25) rfl it jf ?_ ?_
    · exact z_vret C Z rfl dJx4a65c_rangeCheckForAdd_d00df_25 (fun h => by cases h; rfl)
    · exact X.no no0
theorem k_Jx4a65c_add_7a177 (l : Launch) (κ : KK) (b : Nat) (s1 : Int32) (s2 : Option Nat) (g : HP) : MA l κ Pi1 yJx4a65c_add_7a177 cJx4a65c_add_7a177 5 none 5 147 [vR (some b), vI s1, vR s2] g (wVg (f_Jx4a65c_add_7a177 (kE κ) (kM κ) b s1 s2 g)) := by
  refine MA_of (PO_Pic1 κ) mf_Jx4a65c_add_7a177 (fun a ha => wVg_mono (f_Jx4a65c_add_7a177_mono (kE κ) (kM κ) b s1 s2 g) a ha) (Nat.le_of_ble_eq_true rfl) ?_
  intro Γ fin hfin hl hk hin C0 Z0
  subst hl
  subst hk
  obtain ⟨v0, hv, rfl⟩ := wVg_some hfin
  have C : CX Γ cJx4a65c_add_7a177 5 "java/util/ArrayList" Pi1 okAll 5 147 := C0
  have Z : RX Γ Pi1 none (none, v0) := Z0
  refine X.conv (fun _ => hv) ?_
  unfold f_Jx4a65c_add_7a177
  show X Γ 0 [(0, vR (some b)), (1, vI s1), (2, vR s2)] [] g _
  refine z_aload_n C dJx4a65c_add_7a177_0 rfl 0 rfl ?_
  refine z_iload_n C dJx4a65c_add_7a177_1 rfl 1 rfl ?_
  refine z_rcv bd (fun b1 hbb1 htb1 => ?_)
  have heb1 := Option.some.inj hbb1
  subst heb1
  refine z_callV C cf0 mf_Jx4a65c_rangeCheckForAdd_d00df kt480 (gtbl_priv (j := 7) rfl rfl) kt478 (k_Jx4a65c_rangeCheckForAdd_d00df (gL Γ) (gK Γ) b s1 g) htb1 rfl ⟨Nat.le_of_ble_eq_true rfl, Nat.le_of_ble_eq_true rfl⟩ (rest := []) rfl (Nat.le_of_ble_eq_true rfl) dJx4a65c_add_7a177_2 (bdVg) (contVg fun g2 => ?_)
  refine z_aload_n C dJx4a65c_add_7a177_5 rfl 0 rfl ?_
  refine z_dup C dJx4a65c_add_7a177_6 rfl ?_
  refine z_gfI C cf0 0 (by decide) rfl rfl dJx4a65c_add_7a177_7 kt51 (fun x9 h9 => u_same (C.hts _ kt52) x9 h9) bd (fun x3 => ?_)
  refine z_iconst C dJx4a65c_add_7a177_10 (v := 1) (by decide) ?_
  refine z_iadd C dJx4a65c_add_7a177_11 ?_
  refine z_pfI C cf0 0 (by decide) rfl rfl rfl (Or.inl rfl) dJx4a65c_add_7a177_12 kt51 (fun x9 h9 => u_same (C.hts _ kt52) x9 h9) bd (fun g4 => ?_)
  refine z_aload_n C dJx4a65c_add_7a177_15 rfl 0 rfl ?_
  refine z_gfI C cf0 2 (by decide) rfl rfl dJx4a65c_add_7a177_16 kt49 (fun _ h => h) bd (fun x5 => ?_)
  refine z_dup C dJx4a65c_add_7a177_19 rfl ?_
  refine z_istore_n (L' := [(3, vI x5), (0, vR (some b)), (1, vI s1), (2, vR s2)]) C dJx4a65c_add_7a177_20 rfl (by decide) rfl ?_
  refine z_aload_n C dJx4a65c_add_7a177_21 rfl 1 rfl ?_
  refine z_gfR C cf0 1 (by decide) rfl rfl dJx4a65c_add_7a177_22 kt48 (fun _ h => h) bd (fun r6 => ?_)
  refine z_dup C dJx4a65c_add_7a177_25 rfl ?_
  refine z_astore (L' := [(4, vR r6), (3, vI x5), (0, vR (some b)), (1, vI s1), (2, vR s2)]) C dJx4a65c_add_7a177_26 (by decide) rfl ?_
  refine z_lnA C okL_ok1 dJx4a65c_add_7a177_28 bd (fun x7 => ?_)
  refine X.join (τ := ((Option Nat) × HP)) 38 (fun q10 => [(0, vR (some b)), (1, vI s1), (2, vR s2), (3, vI x5), (4, vR q10.1)]) (fun q10 => []) (fun q10 => q10.2) (fun q10 => ?_) (fun hj38 => ?_)
  · refine z_aload C dJx4a65c_add_7a177_38 4 rfl ?_
    refine z_iload_n C dJx4a65c_add_7a177_40 rfl 1 rfl ?_
    refine z_aload C dJx4a65c_add_7a177_41 4 rfl ?_
    refine z_iload_n C dJx4a65c_add_7a177_43 rfl 1 rfl ?_
    refine z_iconst C dJx4a65c_add_7a177_44 (v := 1) (by decide) ?_
    refine z_iadd C dJx4a65c_add_7a177_45 ?_
    refine z_iload_n C dJx4a65c_add_7a177_46 rfl 3 rfl ?_
    refine z_iload_n C dJx4a65c_add_7a177_47 rfl 1 rfl ?_
    refine z_isub C dJx4a65c_add_7a177_48 ?_
    refine z_cpA C rfl kt482 kwCn kwCs kwCi (by decide) (by show _ + (nativeFrameWords "java/lang/System" "arraycopy" 5 + 11) ≤ _; exact Nat.le_of_ble_eq_true (by rfl)) dJx4a65c_add_7a177_49 bd (fun g11 => ?_)
    refine z_aload C dJx4a65c_add_7a177_52 4 rfl ?_
    refine z_iload_n C dJx4a65c_add_7a177_54 rfl 1 rfl ?_
    refine z_aload_n C dJx4a65c_add_7a177_55 rfl 2 rfl ?_
    refine z_stA C rfl dJx4a65c_add_7a177_56 bd (fun g12 => ?_)
    refine z_aload_n C dJx4a65c_add_7a177_57 rfl 0 rfl ?_
    refine z_iload_n C dJx4a65c_add_7a177_58 rfl 3 rfl ?_
    refine z_iconst C dJx4a65c_add_7a177_59 (v := 1) (by decide) ?_
    refine z_iadd C dJx4a65c_add_7a177_60 ?_
    refine z_pfI C cf0 2 (by decide) rfl rfl rfl (Or.inl rfl) dJx4a65c_add_7a177_61 kt49 (fun _ h => h) bd (fun g13 => ?_)
    exact z_vret C Z rfl dJx4a65c_add_7a177_64 (fun h => by cases h; rfl)
  · refine X.conv bi ?_
    refine z_icmp_ne C dJx4a65c_add_7a177_29 (tgt := 38) rfl it jf ?_ ?_
    · refine z_aload_n C dJx4a65c_add_7a177_32 rfl 2 rfl ?_
      refine X.conv bb ?_
      refine z_rcv bd (fun b8 hbb8 htb8 => ?_)
      have heb8 := Option.some.inj hbb8
      subst heb8
      refine X.conv bb ?_
      refine z_callV C cf0 mf_Jx4a65c_grow_d5877 kt138 (gtbl_priv (j := 1) rfl rfl) kt136 (k_Jx4a65c_grow_d5877 (gL Γ) (gK Γ) b g4) htb8 rfl ⟨Nat.le_of_ble_eq_true rfl, Nat.le_of_ble_eq_true rfl⟩ (rest := []) rfl (Nat.le_of_ble_eq_true rfl) dJx4a65c_add_7a177_33 (bdRg) (contRg fun v9 => ?_)
      refine z_astore (L' := [(4, vR v9.1), (3, vI x5), (0, vR (some b)), (1, vI s1), (2, vR s2)]) C dJx4a65c_add_7a177_36 (by decide) rfl ?_
      refine z_lsub [2, 3, 4, 1, 0] rfl ?_
      exact hj38 (v9.1, v9.2)
    · refine z_lsub [2, 3, 4, 1, 0] rfl ?_
      exact hj38 (r6, g4)
theorem k_Jx4a65c_fastRemove_b59b0 (l : Launch) (κ : KK) (b : Nat) (s1 : Option Nat) (s2 : Int32) (g : HP) : MA l κ Pi1 yJx4a65c_fastRemove_b59b0 cJx4a65c_fastRemove_b59b0 4 none 1 60 [vR (some b), vR s1, vI s2] g (wVg (f_Jx4a65c_fastRemove_b59b0 (kE κ) (kM κ) b s1 s2 g)) := by
  refine MA_of (PO_Pic1 κ) mf_Jx4a65c_fastRemove_b59b0 (fun a ha => wVg_mono (f_Jx4a65c_fastRemove_b59b0_mono (kE κ) (kM κ) b s1 s2 g) a ha) (Nat.le_of_ble_eq_true rfl) ?_
  intro Γ fin hfin hl hk hin C0 Z0
  subst hl
  subst hk
  obtain ⟨v0, hv, rfl⟩ := wVg_some hfin
  have C : CX Γ cJx4a65c_fastRemove_b59b0 4 "java/util/ArrayList" Pi1 okAll 1 60 := C0
  have Z : RX Γ Pi1 none (none, v0) := Z0
  refine X.conv (fun _ => hv) ?_
  unfold f_Jx4a65c_fastRemove_b59b0
  show X Γ 0 [(0, vR (some b)), (1, vR s1), (2, vI s2)] [] g _
  refine z_aload_n C dJx4a65c_fastRemove_b59b0_0 rfl 0 rfl ?_
  refine z_dup C dJx4a65c_fastRemove_b59b0_1 rfl ?_
  refine z_gfI C cf0 0 (by decide) rfl rfl dJx4a65c_fastRemove_b59b0_2 kt51 (fun x9 h9 => u_same (C.hts _ kt52) x9 h9) bd (fun x1 => ?_)
  refine z_iconst C dJx4a65c_fastRemove_b59b0_5 (v := 1) (by decide) ?_
  refine z_iadd C dJx4a65c_fastRemove_b59b0_6 ?_
  refine z_pfI C cf0 0 (by decide) rfl rfl rfl (Or.inl rfl) dJx4a65c_fastRemove_b59b0_7 kt51 (fun x9 h9 => u_same (C.hts _ kt52) x9 h9) bd (fun g2 => ?_)
  refine z_aload_n C dJx4a65c_fastRemove_b59b0_10 rfl 0 rfl ?_
  refine z_gfI C cf0 2 (by decide) rfl rfl dJx4a65c_fastRemove_b59b0_11 kt49 (fun _ h => h) bd (fun x3 => ?_)
  refine z_iconst C dJx4a65c_fastRemove_b59b0_14 (v := 1) (by decide) ?_
  refine z_isub C dJx4a65c_fastRemove_b59b0_15 ?_
  refine z_dup C dJx4a65c_fastRemove_b59b0_16 rfl ?_
  refine z_istore_n (L' := [(3, vI (x3 - 1)), (0, vR (some b)), (1, vR s1), (2, vI s2)]) C dJx4a65c_fastRemove_b59b0_17 rfl (by decide) rfl ?_
  refine z_iload_n C dJx4a65c_fastRemove_b59b0_18 rfl 3 rfl ?_
  refine X.join (τ := HP) 34 (fun q5 => [(0, vR (some b)), (1, vR s1), (3, vI (x3 - 1))]) (fun q5 => []) (fun q5 => q5) (fun q5 => ?_) (fun hj34 => ?_)
  · refine z_aload_n C dJx4a65c_fastRemove_b59b0_34 rfl 1 rfl ?_
    refine z_aload_n C dJx4a65c_fastRemove_b59b0_35 rfl 0 rfl ?_
    refine z_iload_n C dJx4a65c_fastRemove_b59b0_36 rfl 2 rfl ?_
    refine z_dup_x1 C dJx4a65c_fastRemove_b59b0_37 rfl rfl ?_
    refine z_pfI C cf0 2 (by decide) rfl rfl rfl (Or.inl rfl) dJx4a65c_fastRemove_b59b0_38 kt49 (fun _ h => h) bd (fun g6 => ?_)
    refine z_null C dJx4a65c_fastRemove_b59b0_41 ?_
    refine z_stA C rfl dJx4a65c_fastRemove_b59b0_42 bd (fun g7 => ?_)
    exact z_vret C Z rfl dJx4a65c_fastRemove_b59b0_43 (fun h => by cases h; rfl)
  · refine X.conv bi ?_
    refine z_icmp_le C dJx4a65c_fastRemove_b59b0_19 (tgt := 34) rfl it jf ?_ ?_
    · refine z_lsub [1, 2, 0] rfl ?_
      exact hj34 g2
    · refine z_aload_n C dJx4a65c_fastRemove_b59b0_22 rfl 2 rfl ?_
      refine z_iload_n C dJx4a65c_fastRemove_b59b0_23 rfl 3 rfl ?_
      refine z_iconst C dJx4a65c_fastRemove_b59b0_24 (v := 1) (by decide) ?_
      refine z_iadd C dJx4a65c_fastRemove_b59b0_25 ?_
      refine z_aload_n C dJx4a65c_fastRemove_b59b0_26 rfl 2 rfl ?_
      refine z_iload_n C dJx4a65c_fastRemove_b59b0_27 rfl 3 rfl ?_
      refine z_iload_n C dJx4a65c_fastRemove_b59b0_28 rfl 0 rfl ?_
      refine z_iload_n C dJx4a65c_fastRemove_b59b0_29 rfl 3 rfl ?_
      refine z_isub C dJx4a65c_fastRemove_b59b0_30 ?_
      refine X.conv bb ?_
      refine z_cpA C rfl kt482 kwCn kwCs kwCi (by decide) (by show _ + (nativeFrameWords "java/lang/System" "arraycopy" 5 + 11) ≤ _; exact Nat.le_of_ble_eq_true (by rfl)) dJx4a65c_fastRemove_b59b0_31 bd (fun g4 => ?_)
      refine z_lsub [1, 2, 0] rfl ?_
      exact hj34 g4
theorem k_Jx4a65c_remove_915e3 (l : Launch) (κ : KK) (b : Nat) (s1 : Int32) (g : HP) : MA l κ Pi1 yJx4a65c_remove_915e3 cJx4a65c_remove_915e3 4 (some (.object "java/lang/Object")) 2 83 [vR (some b), vI s1] g (wRg (f_Jx4a65c_remove_915e3 (kE κ) (kM κ) b s1 g)) := by
  refine MA_of (PO_Pic1 κ) mf_Jx4a65c_remove_915e3 (fun a ha => wRg_mono (f_Jx4a65c_remove_915e3_mono (kE κ) (kM κ) b s1 g) a ha) (Nat.le_of_ble_eq_true rfl) ?_
  intro Γ fin hfin hl hk hin C0 Z0
  subst hl
  subst hk
  obtain ⟨v0, hv, rfl⟩ := wRg_some hfin
  have C : CX Γ cJx4a65c_remove_915e3 4 "java/util/ArrayList" Pi1 okAll 2 83 := C0
  have Z : RX Γ Pi1 (some (.object "java/lang/Object")) (some (vR v0.1), v0.2) := Z0
  refine X.conv (fun _ => hv) ?_
  unfold f_Jx4a65c_remove_915e3
  show X Γ 0 [(0, vR (some b)), (1, vI s1)] [] g _
  refine z_iload_n C dJx4a65c_remove_915e3_0 rfl 1 rfl ?_
  refine z_aload_n C dJx4a65c_remove_915e3_1 rfl 0 rfl ?_
  refine z_gfI C cf0 2 (by decide) rfl rfl dJx4a65c_remove_915e3_2 kt49 (fun _ h => h) bd (fun x1 => ?_)
  refine z_callSX C mf_J15_checkIndex_7cf53 kt269 kt268 (k_J15_checkIndex_7cf53 (gL Γ) (gK Γ) s1 x1 g) rfl ⟨Nat.le_of_ble_eq_true rfl, Nat.le_of_ble_eq_true rfl⟩ (rest := []) rfl (Nat.le_of_ble_eq_true rfl) dJx4a65c_remove_915e3_5 (bdI) (contI fun x2 => ?_)
  refine z_pop C dJx4a65c_remove_915e3_8 rfl ?_
  refine z_aload_n C dJx4a65c_remove_915e3_9 rfl 0 rfl ?_
  refine z_gfR C cf0 1 (by decide) rfl rfl dJx4a65c_remove_915e3_10 kt48 (fun _ h => h) bd (fun r3 => ?_)
  refine z_astore_n (L' := [(2, vR r3), (0, vR (some b)), (1, vI s1)]) C dJx4a65c_remove_915e3_13 rfl (by decide) rfl ?_
  refine z_aload_n C dJx4a65c_remove_915e3_14 rfl 0 rfl ?_
  refine z_iload_n C dJx4a65c_remove_915e3_15 rfl 2 rfl ?_
  refine z_ldA C okA_okAll dJx4a65c_remove_915e3_16 bd (fun r4 => ?_)
  refine z_astore_n (L' := [(3, vR r4), (2, vR r3), (0, vR (some b)), (1, vI s1)]) C dJx4a65c_remove_915e3_17 rfl (by decide) rfl ?_
  refine z_aload_n C dJx4a65c_remove_915e3_18 rfl 2 rfl ?_
  refine z_aload_n C dJx4a65c_remove_915e3_19 rfl 1 rfl ?_
  refine z_iload_n C dJx4a65c_remove_915e3_20 rfl 3 rfl ?_
  refine z_rcv bd (fun b5 hbb5 htb5 => ?_)
  have heb5 := Option.some.inj hbb5
  subst heb5
  refine z_callV C cf0 mf_Jx4a65c_fastRemove_b59b0 kt599 (gtbl_priv (j := 11) rfl rfl) kt597 (k_Jx4a65c_fastRemove_b59b0 (gL Γ) (gK Γ) b r3 s1 g) htb5 rfl ⟨Nat.le_of_ble_eq_true rfl, Nat.le_of_ble_eq_true rfl⟩ (rest := []) rfl (Nat.le_of_ble_eq_true rfl) dJx4a65c_remove_915e3_21 (bdVg) (contVg fun g6 => ?_)
  refine z_aload_n C dJx4a65c_remove_915e3_24 rfl 0 rfl ?_
  exact z_aret C Z rfl (Or.inl ⟨_, rfl⟩) dJx4a65c_remove_915e3_25 (fun h => by cases h; rfl)
theorem k_Jx4a65c_clear_da8c8_L27 {Γ : GG} {β : Type} {fin0 : β} {F0 : HP → Option β} (C : CX Γ cJx4a65c_clear_da8c8 4 "java/util/ArrayList" Pi1 okAll 0 0) (p27_1 : Option Nat) (p27_2 : Int32) (hexit : ∀ q27 : HP, X Γ 42 [] [] q27 (F0 q27 = some fin0)) : ∀ (m27 : Nat) (u27_3 : Int32) (w27 : HP), X Γ 27 [(1, vR p27_1), (2, vI p27_2), (3, vI u27_3)] [] w27 ((f_Jx4a65c_clear_da8c8_L27 p27_1 p27_2 m27 u27_3 w27).bind F0 = some fin0) := by
  intro m27
  induction m27 with
  | zero =>
    intro u27_3 w27
    exact X.no no1
  | succ m27 ih =>
    intro u27_3 w27
    unfold f_Jx4a65c_clear_da8c8_L27
    refine z_iload_n C dJx4a65c_clear_da8c8_27 rfl 2 rfl ?_
    refine z_iload_n C dJx4a65c_clear_da8c8_28 rfl 1 rfl ?_
    refine X.conv bi ?_
    refine z_icmp_ge C dJx4a65c_clear_da8c8_29 (tgt := 42) rfl it jf ?_ ?_
    · refine z_lsub [] rfl ?_
      exact hexit w27
    · refine z_aload_n C dJx4a65c_clear_da8c8_32 rfl 0 rfl ?_
      refine z_iload_n C dJx4a65c_clear_da8c8_33 rfl 2 rfl ?_
      refine z_null C dJx4a65c_clear_da8c8_34 ?_
      refine X.conv bb ?_
      refine z_stA C rfl dJx4a65c_clear_da8c8_35 bd (fun g6 => ?_)
      refine z_iinc (L' := [(3, vI (u27_3 + 1)), (1, vR p27_1), (2, vI p27_2)]) C dJx4a65c_clear_da8c8_36 2 rfl (v := u27_3 + 1) rfl (by decide) rfl ?_
      refine z_goto C dJx4a65c_clear_da8c8_39 (tgt := 27) rfl ?_
      refine z_lsub [1, 2, 0] rfl ?_
      exact ih (u27_3 + 1) g6
theorem k_Jx4a65c_clear_da8c8 (l : Launch) (κ : KK) (b : Nat) (g : HP) : MA l κ Pi1 yJx4a65c_clear_da8c8 cJx4a65c_clear_da8c8 4 none 0 0 [vR (some b)] g (wVg (f_Jx4a65c_clear_da8c8 (kE κ) (kM κ) b g)) := by
  refine MA_of (PO_Pic1 κ) mf_Jx4a65c_clear_da8c8 (fun a ha => wVg_mono (f_Jx4a65c_clear_da8c8_mono (kE κ) (kM κ) b g) a ha) (Nat.le_of_ble_eq_true rfl) ?_
  intro Γ fin hfin hl hk hin C0 Z0
  subst hl
  subst hk
  obtain ⟨v0, hv, rfl⟩ := wVg_some hfin
  have C : CX Γ cJx4a65c_clear_da8c8 4 "java/util/ArrayList" Pi1 okAll 0 0 := C0
  have Z : RX Γ Pi1 none (none, v0) := Z0
  refine X.conv (fun _ => hv) ?_
  unfold f_Jx4a65c_clear_da8c8
  show X Γ 0 [(0, vR (some b))] [] g _
  refine z_aload_n C dJx4a65c_clear_da8c8_0 rfl 0 rfl ?_
  refine z_dup C dJx4a65c_clear_da8c8_1 rfl ?_
  refine z_gfI C cf0 0 (by decide) rfl rfl dJx4a65c_clear_da8c8_2 kt51 (fun x9 h9 => u_same (C.hts _ kt52) x9 h9) bd (fun x1 => ?_)
  refine z_iconst C dJx4a65c_clear_da8c8_5 (v := 1) (by decide) ?_
  refine z_iadd C dJx4a65c_clear_da8c8_6 ?_
  refine z_pfI C cf0 0 (by decide) rfl rfl rfl (Or.inl rfl) dJx4a65c_clear_da8c8_7 kt51 (fun x9 h9 => u_same (C.hts _ kt52) x9 h9) bd (fun g2 => ?_)
  refine z_aload_n C dJx4a65c_clear_da8c8_10 rfl 0 rfl ?_
  refine z_gfR C cf0 1 (by decide) rfl rfl dJx4a65c_clear_da8c8_11 kt48 (fun _ h => h) bd (fun r3 => ?_)
  refine z_astore_n (L' := [(1, vR r3), (0, vR (some b))]) C dJx4a65c_clear_da8c8_14 rfl (by decide) rfl ?_
  refine z_aload_n C dJx4a65c_clear_da8c8_15 rfl 1 rfl ?_
  refine z_gfI C cf0 2 (by decide) rfl rfl dJx4a65c_clear_da8c8_16 kt49 (fun _ h => h) bd (fun x4 => ?_)
  refine z_istore_n (L' := [(2, vI x4), (1, vR r3), (0, vR (some b))]) C dJx4a65c_clear_da8c8_19 rfl (by decide) rfl ?_
  refine z_aload_n C dJx4a65c_clear_da8c8_20 rfl 2 rfl ?_
  refine z_iconst C dJx4a65c_clear_da8c8_21 (v := 0) (by decide) ?_
  refine z_dup_x1 C dJx4a65c_clear_da8c8_22 rfl rfl ?_
  refine z_pfI C cf0 2 (by decide) rfl rfl rfl (Or.inl rfl) dJx4a65c_clear_da8c8_23 kt49 (fun _ h => h) bd (fun g5 => ?_)
  refine z_istore_n (L' := [(3, vI 0), (2, vI x4), (1, vR r3), (0, vR (some b))]) C dJx4a65c_clear_da8c8_26 rfl (by decide) rfl ?_
  refine z_lsub [2, 1, 0] rfl ?_
  refine k_Jx4a65c_clear_da8c8_L27 C r3 x4 (fun q7 => ?_) FU 0 g5
  exact z_vret C Z rfl dJx4a65c_clear_da8c8_42 (fun h => by cases h; rfl)
