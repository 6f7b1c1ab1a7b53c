/-! isSound: the trips. -/
section Sound1
variable {Z : Nat → Nat} {g c c' : HP} {T : Nat} {xs rs fs : List Int32}
/-- of each cause how many -/
def cauL (c : HP) (l : List Nat) : List Int32 := (List.range 7).map fun w => Int32.ofNat ((l.filter fun t => decide (cauT c t = Int32.ofNat w)).length)
theorem cauL_len (c : HP) (l : List Nat) : (cauL c l).length = 7 := by unfold cauL; rw [List.length_map, List.length_range]
theorem cauL_at (c : HP) (l : List Nat) {w : Nat} (h : w < 7) : (cauL c l).getD w 0 = Int32.ofNat ((l.filter fun t => decide (cauT c t = Int32.ofNat w)).length) := by
  unfold cauL
  rw [List.getD_eq_getElem?_getD, List.getElem?_map, List.getElem?_range h]; rfl
theorem cauL_snoc (c : HP) (l : List Nat) {t n : Nat} (hn : n ≤ 6) (h : cauT c t = Int32.ofNat n) : cauL c (l ++ [t]) = (cauL c l).set n ((cauL c l).getD n 0 + 1) := by
  apply List.ext_getElem?
  intro w
  by_cases hw : w < 7
  · rw [List.getElem?_set, cauL_len]
    have e1 : (cauL c (l ++ [t]))[w]? = some (Int32.ofNat (((l ++ [t]).filter fun t => decide (cauT c t = Int32.ofNat w)).length)) := by
      unfold cauL
      rw [List.getElem?_map, List.getElem?_range hw]; rfl
    have e2 : (cauL c l)[w]? = some (Int32.ofNat ((l.filter fun t => decide (cauT c t = Int32.ofNat w)).length)) := by
      unfold cauL
      rw [List.getElem?_map, List.getElem?_range hw]; rfl
    rw [e1, List.filter_append, List.length_append]
    by_cases he : n = w
    · rw [if_pos he, if_pos (by omega), cauL_at c l (by omega), he]
      have : ([t].filter fun t => decide (cauT c t = Int32.ofNat w)).length = 1 := by
        rw [List.filter_cons, decide_eq_true (by rw [h, he])]; rfl
      rw [this]
      exact congrArg some (nAdd _ 1).symm
    · rw [if_neg he, e2]
      have : ([t].filter fun t => decide (cauT c t = Int32.ofNat w)).length = 0 := by
        rw [List.filter_cons, decide_eq_false (by rw [h]; exact fun z => he ((nEq (by omega) (by omega)).mp z))]; rfl
      rw [this, Nat.add_zero]
  · rw [List.getElem?_eq_none (by rw [cauL_len]; omega), List.getElem?_eq_none (by rw [List.length_set, cauL_len]; omega)]
theorem v9_sgn (j : J Z c) {t : Nat} (ht : t ∈ tls Z c) : (0 ≤ (if cauT c t = 0 then lateT c t else (-1 : Int32)) ↔ cauT c t = 0) ∧ (0 ≤ (if cauT c t = 0 then rndT c t else (-1 : Int32)) ↔ cauT c t = 0) ∧ ¬ (30 : Int32) < (if cauT c t = 0 then lateT c t else (-1 : Int32)) := by
  by_cases h : cauT c t = 0
  · obtain ⟨l, h1, h2, h3, h4⟩ := late_nat j ht h
    have s2 := (j_tst j ht).2
    have m3 := (j_tmn j ht).2.2
    have d2 := (j_tdl j ht).2
    have e30 : (30 : Int32) = Int32.ofNat 30 := rfl
    rw [if_pos h, if_pos h, h2, h4]
    refine ⟨⟨fun _ => h, fun _ => n0 (by omega)⟩, ⟨fun _ => h, fun _ => n0 (by omega)⟩, ?_⟩
    rw [e30]
    exact fun z => by have := (nLt (by omega) (by omega)).mp z; omega
  · rw [if_neg h, if_neg h]
    exact ⟨⟨fun z => absurd z (by decide), fun z => absurd z h⟩, ⟨fun z => absurd z (by decide), fun z => absurd z h⟩, by decide⟩
theorem cau_sgn (j : J Z c) {t : Nat} (ht : t ∈ tls Z c) : cauT c t ≤ 0 ↔ cauT c t = 0 := by
  obtain ⟨n, h1, h2⟩ := cau_ok j ht
  rw [h1]
  constructor
  · intro z
    have := (nLe (a := n) (b := 0) (by omega) (by decide)).mp z
    rw [show n = 0 by omega]; rfl
  · intro z; rw [z]; decide
theorem j_line (j : J Z c) {l : Nat} (h : l ∈ lns Z c) : ∃ i, i < 4 ∧ (lns Z c)[i]? = some l ∧ fi c 64 l = Int32.ofNat i := by
  obtain ⟨i, hi⟩ := mem_at h
  exact ⟨i, by have := (List.getElem?_eq_some_iff.mp hi).1; have := j.n.1.2.1; omega, hi, j.n.2.2 i l hi⟩
theorem ite_01 {P Q : Prop} [Decidable P] [Decidable Q] (h : P ↔ Q) : (if P then some (0 : Int32) else some (1 : Int32)) = some (if Q then 0 else 1) := by
  by_cases hp : P
  · rw [if_pos hp, if_pos (h.mp hp)]
  · rw [if_neg hp, if_neg (fun z => hp (h.mpr z))]
theorem ite_10 {P Q : Prop} [Decidable P] [Decidable Q] (h : P ↔ Q) : (if P then some (1 : Int32) else some (0 : Int32)) = some (if Q then 1 else 0) := by
  by_cases hp : P
  · rw [if_pos hp, if_pos (h.mp hp)]
  · rw [if_neg hp, if_neg (fun z => hp (h.mpr z))]
/-- one trip is looked at -/
theorem s15_step (S : Sim Z g c) (h : LI Z c T xs rs fs) {n0' : Nat} {fA lA0 : Nat} (Fa : Arr Z g 20 fA fs) {l : List Nat} (La : Arr Z g 20 lA0 (cauL c l)) (hne : fA ≠ lA0) (hn : n0' ≤ lA0) {i t : Nat} (hi : (tls Z c)[i]? = some t) {s2 s3 : Option Nat} (m : Nat) (u6 u8 : Int32) :
    ∃ w, f_L_isSound_L15 (some (Z 0)) s2 s3 (Int32.ofNat T) (some fA) 5 lA0 (m + 1) u6 u8 (Int32.ofNat i) g = f_L_isSound_L15 (some (Z 0)) s2 s3 (Int32.ofNat T) (some fA) 5 lA0 m (u6 + payT c t) (u8 + (if fr c 135 t = none then 1 else 0)) (Int32.ofNat (i + 1)) w ∧ Sim Z w c ∧ SL n0' Z 0 0 g w ∧ Arr Z w 20 fA fs ∧ Arr Z w 20 lA0 (cauL c (l ++ [t])) := by
  have j := h.1
  have ht := List.mem_of_getElem? hi
  have hi16 := ti31 j hi
  have hlt := (List.getElem?_eq_some_iff.mp hi).1
  have hT := h.2.1.1
  have hT16 := j.t.1
  obtain ⟨n, hn1, hn2⟩ := cau_ok j ht
  obtain ⟨p1, p2, p3⟩ := v9_sgn j ht
  have p4 := cau_sgn j ht
  have p5 := bn_sgn j ht
  have p6 := cau_1 j ht
  obtain ⟨w1, e1, S1, s1⟩ := q_ofTrip j hi (w := 6) (by decide) (by decide) g S
  obtain ⟨w2, e2, S2, s2'⟩ := q_ofTrip j hi (w := 8) (by decide) (by decide) w1 S1
  obtain ⟨w3, e3, S3, s3'⟩ := q_ofTrip j hi (w := 9) (by decide) (by decide) w2 S2
  rw [vT6] at e1
  rw [vT8] at e2
  rw [vT9] at e3
  have L3 := ((La.sp s1 (Or.inl rfl)).sp s2' (Or.inl rfl)).sp s3' (Or.inl rfl)
  have F3 := ((Fa.sp s1 (Or.inl rfl)).sp s2' (Or.inl rfl)).sp s3' (Or.inl rfl)
  have ld := L3.ld (Or.inl rfl) (i := n) (by rw [cauL_len]; omega) (by omega)
  have st := L3.st (i := n) (by rw [cauL_len]; omega) (by omega) ((cauL c l).getD n 0 + 1)
  rw [← cauL_snoc c l hn2 hn1] at st
  have L4 := L3.set (cauL c (l ++ [t]))
  have F4 := F3.set' hne (cauL c (l ++ [t]))
  have S4 := S3.st L3.2.2.1 L3.2.2.2.1 L3.2.2.2.2 (cauL c (l ++ [t]))
  have sl4 : SL n0' Z 0 0 g (setA w3 lA0 (cauL c (l ++ [t]))) := ((((s1.tr s2').tr s3').sl).tr (SL.st hn _)).up (by omega) (by omega)
  generalize hg4 : setA w3 lA0 (cauL c (l ++ [t])) = w4 at st L4 F4 S4 sl4
  obtain ⟨w5, e5, S5, s5⟩ := q_ofTrip j hi (w := 10) (by decide) (by decide) w4 S4
  rw [vT10] at e5
  have L5 := L4.sp s5 (Or.inl rfl)
  have F5 := F4.sp s5 (Or.inl rfl)
  -- the piece of a trip without a block
  obtain ⟨w6, e6, S6, s6⟩ : ∃ w6, (if 0 ≤ bnT c t then some w5 else (rcv 10 (some (Z 0)) w5).bind fun b19 => (f_X9_ofTrip b19 (Int32.ofNat i) 7 w5).bind fun v20 => (if v20.1 < 0 then some v20.2 else none)) = some w6 ∧ Sim Z w6 c ∧ Spd Z 0 0 w5 w6 := by
    by_cases hb : fr c 135 t = none
    · obtain ⟨w6, e6, S6, s6⟩ := q_ofTrip j hi (w := 7) (by decide) (by decide) w5 S5
      have hp : fr c 136 t = none := by
        obtain ⟨_, _, _, k⟩ := j.tok ht
        cases hp : fr c 136 t with
        | none => rfl
        | some p => obtain ⟨b, q⟩ := (k.2.2.2 p hp).2; rw [hb] at q; cases q
      rw [vT7, show pnT c t = -1 by unfold pnT; rw [hp]] at e6
      refine ⟨w6, ?_, S6, s6⟩
      rw [if_neg (fun z => p5.mp z hb), rMv S5 j, Option.bind_some, e6, Option.bind_some]
      exact if_pos (show (-1 : Int32) < 0 by decide)
    · exact ⟨w5, if_pos (p5.mpr hb), S5, Spd.rf⟩
  have L6 := L5.sp s6 (Or.inl rfl)
  have F6 := F5.sp s6 (Or.inl rfl)
  have hd : f_L_isSound_L15 (some (Z 0)) s2 s3 (Int32.ofNat T) (some fA) 5 lA0 (m + 1) u6 u8 (Int32.ofNat i) g =
      ((if cauT c t = 0 then (rcv 10 (some (Z 0)) w6).bind fun b22 => (f_X9_ofTrip b22 (Int32.ofNat i) 0 w6).bind fun v23 => (ldI (some fA) v23.1 v23.2).bind fun x24 => some (x24 - ((if cauT c t = 0 then lateT c t else (-1 : Int32)) / 2), v23.2) else (if cauT c t = 2 then some ((0 : Int32), w6) else some (-5, w6)))).bind fun q25 =>
      (if cauT c t = 0 then (rcv 10 (some (Z 0)) q25.2).bind fun b26 => (f_X9_ofTrip b26 (Int32.ofNat i) 10 q25.2).bind fun v27 => (rcv 10 (some (Z 0)) v27.2).bind fun b28 => (f_X9_ofTrip b28 (Int32.ofNat i) 4 v27.2).bind fun v29 => (rcv 10 (some (Z 0)) v29.2).bind fun b30 => (f_X9_ofTrip b30 (Int32.ofNat i) 5 v29.2).bind fun v31 =>
        (if v27.1 = (v29.1 + (if cauT c t = 0 then lateT c t else (-1 : Int32))) + v31.1 then f_L_isSound_L15 (some (Z 0)) s2 s3 (Int32.ofNat T) (some fA) 5 lA0 m (u6 + q25.1) (u8 + (if fr c 135 t ≠ none then 0 else 1)) (Int32.ofNat i + 1) v31.2 else none)
      else f_L_isSound_L15 (some (Z 0)) s2 s3 (Int32.ofNat T) (some fA) 5 lA0 m (u6 + q25.1) (u8 + (if fr c 135 t ≠ none then 0 else 1)) (Int32.ofNat i + 1) q25.2) := by
    rw [f_L_isSound_L15, if_neg (fun z => by have := (nLe (by omega) (by omega)).mp z; omega), rMv S j, Option.bind_some, e1, Option.bind_some]
    show (rcv 10 (some (Z 0)) w1).bind _ = _
    rw [rMv S1 j, Option.bind_some, e2, Option.bind_some]
    show (rcv 10 (some (Z 0)) w2).bind _ = _
    rw [rMv S2 j, Option.bind_some, e3, Option.bind_some]
    show ((ldI (some lA0) (cauT c t) w3).bind fun x8 => (stI (some lA0) (cauT c t) (x8 + 1) w3).bind fun g9 => ((if 0 ≤ bnT c t then some (0 : Int32) else some (1 : Int32))).bind fun q10 => ((if 0 ≤ bnT c t then some (0 : Int32) else some (1 : Int32))).bind fun q11 => ((if cauT c t = 1 then some (1 : Int32) else some (0 : Int32))).bind _) = _
    rw [hn1, ld, Option.bind_some, st, Option.bind_some, ← hn1, ite_01 p5, Option.bind_some, Option.bind_some, ite_10 p6, Option.bind_some,
      if_pos (show (if fr c 135 t ≠ none then (0 : Int32) else 1) = (if fr c 135 t = none then 1 else 0) by
        by_cases hb : fr c 135 t = none
        · rw [if_neg (fun z => z hb), if_pos hb]
        · rw [if_pos hb, if_neg hb]), ite_01 p4, Option.bind_some]
    show ((if 0 ≤ (if cauT c t = 0 then lateT c t else (-1 : Int32)) then some (0 : Int32) else some (1 : Int32))).bind _ = _
    rw [ite_01 p1, Option.bind_some, if_pos rfl]
    rw [Option.bind_some, rMv S4 j, Option.bind_some, e5, Option.bind_some]
    show ((if 0 ≤ (if cauT c t = 0 then rndT c t else (-1 : Int32)) then some (0 : Int32) else some (1 : Int32))).bind _ = _
    rw [ite_01 p2, Option.bind_some, if_pos rfl]
    show (if (30 : Int32) < (if cauT c t = 0 then lateT c t else (-1 : Int32)) then none else Option.bind (if 0 ≤ bnT c t then some w5 else (rcv 10 (some (Z 0)) w5).bind fun b19 => (f_X9_ofTrip b19 (Int32.ofNat i) 7 w5).bind fun v20 => (if v20.1 < 0 then some v20.2 else none)) _) = _
    rw [if_neg p3, e6, Option.bind_some]
  have e8 : u8 + (if fr c 135 t ≠ none then 0 else 1) = u8 + (if fr c 135 t = none then 1 else 0) := by
    by_cases hb : fr c 135 t = none
    · rw [if_neg (fun z => z hb), if_pos hb]
    · rw [if_pos hb, if_neg hb]
  rw [hd, e8, show Int32.ofNat i + 1 = Int32.ofNat (i + 1) from nAdd i 1]
  by_cases h0 : cauT c t = 0
  · obtain ⟨lt, q1, q2, q3, q4⟩ := late_nat j ht h0
    obtain ⟨il, r1, r2, r3⟩ := j_line j (j_tpl j ht).2.2
    obtain ⟨w7, e7, S7, s7⟩ := q_ofTrip j hi (w := 0) (by decide) (by decide) w6 S6
    obtain ⟨w8, e9, S8, s8⟩ := q_ofTrip j hi (w := 10) (by decide) (by decide) w7 S7
    obtain ⟨w9, e10, S9, s9⟩ := q_ofTrip j hi (w := 4) (by decide) (by decide) w8 S8
    obtain ⟨w10, e11, S10, s10⟩ := q_ofTrip j hi (w := 5) (by decide) (by decide) w9 S9
    rw [vT0, r3] at e7
    rw [vT10, if_pos h0, q4] at e9
    rw [vT4, j_tend j ht] at e10
    rw [vT5, (j_tdl j ht).1] at e11
    have F7 := F6.sp s7 (Or.inl rfl)
    have lf := F7.ld (Or.inl rfl) (i := il) (by rw [h.2.2.2.1.1]; exact r1) (by omega)
    rw [← (h.2.2.2.1.2 il _ r2).1] at lf
    have S4' := ((s7.tr s8).tr s9).tr s10
    refine ⟨w10, ?_, S10, ((sl4.tr ((s5.tr s6).tr S4').sl)).up (by omega) (by omega), ((F7.sp s8 (Or.inl rfl)).sp s9 (Or.inl rfl)).sp s10 (Or.inl rfl), (L6.sp S4' (Or.inl rfl))⟩
    rw [if_pos h0, rMv S6 j, Option.bind_some, e7, Option.bind_some]
    show Option.bind ((ldI (some fA) (Int32.ofNat il) w7).bind _) _ = _
    rw [lf, Option.bind_some, Option.bind_some, if_pos h0]
    show (rcv 10 (some (Z 0)) w7).bind _ = _
    rw [rMv S7 j, Option.bind_some, e9, Option.bind_some]
    show (rcv 10 (some (Z 0)) w8).bind _ = _
    rw [rMv S8 j, Option.bind_some, e10, Option.bind_some]
    show (rcv 10 (some (Z 0)) w9).bind _ = _
    rw [rMv S9 j, Option.bind_some, e11, Option.bind_some]
    show (if Int32.ofNat (nst c t + lt + nmn c t + ndl c t) = (Int32.ofNat (nen c t) + (if cauT c t = 0 then lateT c t else (-1 : Int32))) + Int32.ofNat (ndl c t) then _ else none) = _
    rw [if_pos h0, q2, nAdd, nAdd, if_pos (by rw [show nen c t + lt + ndl c t = nst c t + lt + nmn c t + ndl c t by unfold nen; omega])]
    have ep : payT c t = fi c 65 (lA c t) - (lateT c t / 2) := by unfold payT; rw [if_pos h0]
    rw [ep, q2]
  · have ep : payT c t = if cauT c t = 2 then 0 else -5 := by unfold payT; rw [if_neg h0]
    refine ⟨w6, ?_, S6, ((sl4.tr (s5.tr s6).sl)).up (by omega) (by omega), F6, L6⟩
    rw [if_neg h0, ep]
    by_cases h2 : cauT c t = 2
    · rw [if_pos h2, if_pos h2, Option.bind_some, if_neg h0]
    · rw [if_neg h2, if_neg h2, Option.bind_some, if_neg h0]
end Sound1
