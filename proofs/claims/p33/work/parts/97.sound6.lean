/-! isSound: the drivers; how many blocks are needed. -/
def nxL : List Nat → Nat → Option Nat
  | x :: y :: r, t => if x = t then some y else nxL (y :: r) t
  | _, _ => none
def numT (c : HP) (t : Nat) : Nat := (fi c 128 t).toNatClampNeg
def sgm (Z : Nat → Nat) (c : HP) (a : Nat) : Option Nat := match (tls Z c)[a]? with
  | none => none
  | some t => match fr c 135 t with
    | none => none
    | some b => (nxL (rowB c b) t).map (numT c)
section Sound6
variable {Z : Nat → Nat} {g c c' : HP} {T : Nat} {xs rs fs : List Int32} {mA pA gA rA n0' : Nat}
theorem nxL_at : ∀ {l : List Nat} {t y : Nat}, nxL l t = some y → ∃ k : Nat, l[k]? = some t ∧ l[k + 1]? = some y
  | [], _, _, h => by cases h
  | [x], _, _, h => by cases h
  | x :: z :: r, t, y, h => by
    by_cases hx : x = t
    · rw [nxL, if_pos hx] at h
      exact ⟨0, congrArg some hx, h⟩
    · rw [nxL, if_neg hx] at h
      obtain ⟨k, h1, h2⟩ := nxL_at h
      exact ⟨k + 1, h1, h2⟩
theorem nxL_some : ∀ {l : List Nat} {t : Nat}, t ∈ l.dropLast → nxL l t ≠ none
  | [], _, h => by cases h
  | [x], _, h => by cases h
  | x :: z :: r, t, h => by
    rw [nxL]
    by_cases hx : x = t
    · rw [if_pos hx]; exact sn'
    · rw [if_neg hx]
      refine nxL_some (l := z :: r) ?_
      rcases List.mem_cons.mp h with q | q
      · exact absurd q.symm hx
      · exact q
theorem numT_at (j : J Z c) {i t : Nat} (h : (tls Z c)[i]? = some t) : numT c t = i := by
  unfold numT
  rw [t128 j h, nN (by have := ti31 j h; omega)]
theorem tl_num (j : J Z c) {t : Nat} (h : t ∈ tls Z c) : (tls Z c)[numT c t]? = some t := by
  obtain ⟨i, hi⟩ := mem_at h
  rw [numT_at j hi]; exact hi
theorem sgm_at (j : J Z c) {a z : Nat} (h : sgm Z c a = some z) : ∃ t b y k, (tls Z c)[a]? = some t ∧ b ∈ bks Z c ∧ (rowB c b)[k]? = some t ∧ (rowB c b)[k + 1]? = some y ∧ (tls Z c)[z]? = some y := by
  unfold sgm at h
  cases ht : (tls Z c)[a]? with
  | none => rw [ht] at h; cases h
  | some t =>
    rw [ht] at h
    cases hb : fr c 135 t with
    | none => simp only [hb] at h; cases h
    | some b =>
      simp only [hb] at h
      obtain ⟨y, hy, hz⟩ := Option.map_eq_some_iff.mp h
      obtain ⟨k, k1, k2⟩ := nxL_at hy
      obtain ⟨hbm, _⟩ := j.inB (List.mem_of_getElem? ht) hb
      refine ⟨t, b, y, k, rfl, hbm, k1, k2, ?_⟩
      rw [← hz]
      exact tl_num j (j.rT hbm (List.mem_of_getElem? k2)).1
theorem nodup_at {l : List Nat} (h : l.Nodup) {i k x : Nat} (h1 : l[i]? = some x) (h2 : l[k]? = some x) : i = k := by
  obtain ⟨a1, a2⟩ := List.getElem?_eq_some_iff.mp h1
  obtain ⟨b1, b2⟩ := List.getElem?_eq_some_iff.mp h2
  have hp := List.pairwise_iff_getElem.mp h
  rcases Nat.lt_trichotomy i k with q | q | q
  · exact absurd (a2.trans b2.symm) (hp i k a1 b1 q)
  · exact q
  · exact absurd (b2.trans a2.symm) (hp k i b1 a1 q)
/-- as many trips stand in blocks as are not without one -/
theorem rows_cnt (j : J Z c) : ((bks Z c).flatMap (rowB c)).length + wN Z c = (tls Z c).length := by
  have hn : ((bks Z c).flatMap (rowB c)).Nodup := nodup_fm j.bN (fun b hb => j.rN hb) fun x hx y hy z h1 h2 => j_rows1 j hx hy h1 h2
  have hp : ((bks Z c).flatMap (rowB c)).Perm ((tls Z c).filter fun t => !decide (fr c 135 t = none)) := by
    refine (List.perm_ext_iff_of_nodup hn ((List.filter_sublist).nodup j.tN)).mpr fun t => ?_
    rw [List.mem_flatMap, List.mem_filter]
    constructor
    · rintro ⟨b, hb, ht⟩
      obtain ⟨h1, h2⟩ := j.rT hb ht
      refine ⟨h1, ?_⟩
      rw [h2, decide_eq_false sn']; rfl
    · rintro ⟨h1, h2⟩
      cases hb : fr c 135 t with
      | none => rw [hb] at h2; cases h2
      | some b => obtain ⟨h3, h4⟩ := j.inB h1 hb; exact ⟨b, h3, h4⟩
  rw [hp.length_eq]
  have key : ∀ (q : Nat → Bool) (l : List Nat), (l.filter fun t => !q t).length + (l.filter q).length = l.length := fun q l => by
    induction l with
    | nil => rfl
    | cons x l ih =>
      rw [List.filter_cons, List.filter_cons]
      cases q x
      · show (if (true : Bool) = true then _ else _ : List Nat).length + (if false = true then _ else _ : List Nat).length = _
        rw [if_pos rfl, if_neg (by decide), List.length_cons, List.length_cons]; omega
      · show (if (false : Bool) = true then _ else _ : List Nat).length + (if true = true then _ else _ : List Nat).length = _
        rw [if_pos rfl, if_neg (by decide), List.length_cons, List.length_cons]; omega
  exact key _ _
theorem drop_cnt (c : HP) : ∀ l : List Nat, (l.flatMap fun b => (rowB c b).dropLast).length + nonE c l = (l.flatMap (rowB c)).length
  | [] => rfl
  | b :: l => by
    have ih := drop_cnt c l
    unfold nonE at ih ⊢
    rw [List.flatMap_cons, List.flatMap_cons, List.length_append, List.length_append, List.length_dropLast, List.filter_cons]
    by_cases hr : rowB c b = []
    · rw [decide_eq_false (fun z => z hr), if_neg (by decide), hr]
      show 0 - 1 + _ + _ = 0 + _
      omega
    · have := List.length_pos_iff.mpr hr
      rw [decide_eq_true hr, if_pos rfl, List.length_cons]
      omega
theorem least_ok (j : J Z c) (hw : wN Z c = 0) {p : Nat} (hp : ∀ σ : Nat → Option Nat, (∀ a z, σ a = some z → a < (tls Z c).length ∧ fE Z c a z) → (∀ a b z, σ a = some z → σ b = some z → a = b) → ((List.range (tls Z c).length).filter fun a => decide (σ a ≠ none)).length ≤ p) : (tls Z c).length - p ≤ nonE c (bks Z c) := by
  have h1 := hp (sgm Z c) (fun a z h => by
    obtain ⟨t, b, y, k, q1, q2, q3, q4, q5⟩ := sgm_at j h
    refine ⟨(List.getElem?_eq_some_iff.mp q1).1, t, y, q1, q5, ?_⟩
    obtain ⟨_, _, _, _, _, ⟨_, _, hcn⟩, _⟩ := j.bok q2
    exact hcn k t y q3 q4) (fun a b z ha hb => by
    obtain ⟨t, bb, y, k, q1, q2, q3, q4, q5⟩ := sgm_at j ha
    obtain ⟨t', bb', y', k', r1, r2, r3, r4, r5⟩ := sgm_at j hb
    rw [q5] at r5
    have ey : y = y' := Option.some.inj r5
    rw [← ey] at r4
    have eb := j_rows1 j q2 r2 (List.mem_of_getElem? q4) (List.mem_of_getElem? r4)
    rw [← eb] at r3 r4
    have ek := nodup_at (j.rN q2) q4 r4
    rw [show k' = k by omega, q3] at r3
    have et : t = t' := Option.some.inj r3
    rw [← et] at r1
    exact nodup_at j.tN q1 r1)
  have hd : ∀ b ∈ bks Z c, ∀ t ∈ (rowB c b).dropLast, t ∈ rowB c b := fun b _ t ht => (List.dropLast_sublist _).subset ht
  have hn : ((bks Z c).flatMap fun b => (rowB c b).dropLast).Nodup := nodup_fm j.bN (fun b hb => (List.dropLast_sublist _).nodup (j.rN hb)) fun x hx y hy z h1 h2 => j_rows1 j hx hy (hd x hx z h1) (hd y hy z h2)
  have hm : (((bks Z c).flatMap fun b => (rowB c b).dropLast).map (numT c)).Nodup := nodup_map_on (fun x hx y hy he => by
    obtain ⟨b1, q1, q2⟩ := List.mem_flatMap.mp hx
    obtain ⟨b2, q3, q4⟩ := List.mem_flatMap.mp hy
    have e1 := tl_num j (j.rT q1 (hd b1 q1 x q2)).1
    have e2 := tl_num j (j.rT q3 (hd b2 q3 y q4)).1
    rw [he, e2] at e1
    exact (Option.some.inj e1).symm) hn
  have h2 := subset_len hm (m := (List.range (tls Z c).length).filter fun a => decide (sgm Z c a ≠ none)) (fun a ha => by
    obtain ⟨x, hx, rfl⟩ := List.mem_map.mp ha
    obtain ⟨b1, q1, q2⟩ := List.mem_flatMap.mp hx
    obtain ⟨r1, r2⟩ := j.rT q1 (hd b1 q1 x q2)
    have e1 := tl_num j r1
    refine List.mem_filter.mpr ⟨List.mem_range.mpr (List.getElem?_eq_some_iff.mp e1).1, ?_⟩
    rw [decide_eq_true_iff]
    unfold sgm
    simp only [e1, r2]
    have := nxL_some q2
    cases hq : nxL (rowB c b1) x with
    | none => exact absurd hq this
    | some y => exact sn')
  rw [List.length_map] at h2
  have h3 := drop_cnt c (bks Z c)
  have h4 := rows_cnt j
  omega
theorem dps_perm (j : J Z c) {d : Nat} (hd : d ∈ dvs Z c) : (((bks Z c).flatMap (pcs c)).filter fun p => decide (fr c 85 p = some d)).Perm (dps c d) := by
  obtain ⟨hn, hi⟩ := j_allP j j.bN (fun b hb => hb)
  obtain ⟨_, _, _, _, _, ⟨h1, h2⟩, _⟩ := j.dok hd
  refine (List.perm_ext_iff_of_nodup ((List.filter_sublist).nodup hn) h1).mpr fun p => ?_
  rw [List.mem_filter, decide_eq_true_iff]
  constructor
  · rintro ⟨q1, q2⟩
    obtain ⟨b, hb, hpb⟩ := hi p q1
    exact (j.q p d (j.pk hb hpb).1 q2).2
  · intro q
    obtain ⟨q1, b, q2, q3⟩ := h2 p q
    exact ⟨List.mem_flatMap.mpr ⟨b, q2, q3⟩, q1⟩
theorem wk_sick {d : Nat} (j : J Z c) (hd : d ∈ dvs Z c) (h : fi c 33 d ≠ 0) : wkD c d = 0 := by
  unfold wkD
  have key : ∀ l : List Nat, (∀ p ∈ l, fr c 85 p = some d) → sumI (wkP c) l = 0 := fun l => by
    induction l with
    | nil => intro _; rfl
    | cons p l ih =>
      intro hl
      show wkP c p + sumI (wkP c) l = 0
      rw [ih (fun q hq => hl q (List.mem_cons_of_mem _ hq)), Int32.add_zero]
      unfold wkP
      rw [hl p List.mem_cons_self]
      exact if_neg h
  exact key _ fun p hp => (j.dp hd hp).2.1
theorem s873_loop (h : LI Z c T xs rs fs) {p3 p8 p9 p10 : Int32} : ∀ (m i : Nat) (w : HP), 4 - i < m → i ≤ 4 → Sim Z w c → Arr Z w 20 mA (mL Z c ((bks Z c).flatMap (pcs c))) → Arr Z w 20 pA (pL Z c ((bks Z c).flatMap (pcs c))) →
    ∃ w', f_L_isSound_L873 (Z 0) p3 p8 p9 p10 mA pA m (sumI (payD c) ((dvs Z c).take i)) (Int32.ofNat i) w = some (sumI (payD c) (dvs Z c), w') ∧ Sim Z w' c ∧ Spd Z 0 0 w w' := by
  intro m
  induction m with
  | zero => intro i w hm; omega
  | succ m ih =>
    intro i w hm h4 S Am Ap
    have j := h.1
    have ldv : (dvs Z c).length = 4 := h.2.1.2.1
    have e4 : (4 : Int32) ≤ Int32.ofNat i ↔ 4 ≤ i := nLe (a := 4) (by decide) (by omega)
    rw [f_L_isSound_L873]
    by_cases hc : 4 ≤ i
    · rw [if_pos (e4.mpr hc), List.take_of_length_le (by omega)]; exact ⟨w, rfl, S, Spd.rf⟩
    · obtain ⟨d, hd⟩ : ∃ d, (dvs Z c)[i]? = some d := ⟨_, List.getElem?_eq_getElem (by omega)⟩
      have hdm := List.mem_of_getElem? hd
      have hpm := dps_perm j hdm
      obtain ⟨_, _, _, hs, _, _, _, h600⟩ := j.dok hdm
      obtain ⟨w1, e1, S1, s1⟩ := q_ofDriver j hd (w := 0) (by decide) (by decide) w S
      obtain ⟨w2, e2, S2, s2⟩ := q_ofDriver j hd (w := 1) (by decide) (by decide) w1 S1
      obtain ⟨w3, e3, S3, s3⟩ := q_ofDriver j hd (w := 2) (by decide) (by decide) w2 S2
      rw [vD0] at e1
      rw [vD1] at e2
      rw [vD2] at e3
      have Ap1 := Ap.sp s1 (Or.inl rfl)
      have Am2 := Am.sp (s1.tr s2) (Or.inl rfl)
      have lp := Ap1.ld (Or.inl rfl) (i := i) (by unfold pL; rw [List.length_map]; omega) (by omega)
      have lm := Am2.ld (Or.inl rfl) (i := i) (by unfold mL; rw [List.length_map]; omega) (by omega)
      have ep : (pL Z c ((bks Z c).flatMap (pcs c))).getD i 0 = Int32.ofNat (dps c d).length := by
        unfold pL
        rw [List.getD_eq_getElem?_getD, List.getElem?_map, hd, ← hpm.length_eq]; rfl
      have em : (mL Z c ((bks Z c).flatMap (pcs c))).getD i 0 = sumI (minP c) (dps c d) := by
        unfold mL
        rw [List.getD_eq_getElem?_getD, List.getElem?_map, hd, ← sumI_perm hpm]; rfl
      rw [ep] at lp
      rw [em] at lm
      obtain ⟨w4, e5, S4, s4⟩ : ∃ w4, (if (if fi c 33 d = 0 then (0 : Int32) else 1) = 1 then (rcv 10 (some (Z 0)) w3).bind fun b143 => (f_X9_ofDriver b143 (Int32.ofNat i) 3 w3).bind fun v144 => (if v144.1 ≤ 0 then some v144.2 else none) else some w3) = some w4 ∧ Sim Z w4 c ∧ Spd Z 0 0 w3 w4 := by
        by_cases hk : fi c 33 d = 0
        · exact ⟨w3, by rw [if_pos hk, if_neg (by decide)], S3, Spd.rf⟩
        · obtain ⟨w4, e5, S4, s4⟩ := q_ofDriver j hd (w := 3) (by decide) (by decide) w3 S3
          rw [vD3, wk_sick j hdm hk] at e5
          refine ⟨w4, ?_, S4, s4⟩
          rw [if_neg hk, if_pos rfl, rMv S3 j, Option.bind_some, e5, Option.bind_some]
          exact if_pos (show (0 : Int32) ≤ 0 by decide)
      obtain ⟨w5, e6, S5, s5⟩ := q_ofDriver j hd (w := 4) (by decide) (by decide) w4 S4
      rw [vD4] at e6
      have t5 := (((s1.tr s2).tr s3).tr s4).tr s5
      obtain ⟨w6, e7, S6, s6⟩ := ih (i + 1) w5 (by omega) (by omega) S5 (Am.sp t5 (Or.inl rfl)) (Ap.sp t5 (Or.inl rfl))
      refine ⟨w6, ?_, S6, t5.tr s6⟩
      rw [if_neg (fun z => hc (e4.mp z)), rMv S j, Option.bind_some, e1, Option.bind_some]
      show ((ldI (some pA) (Int32.ofNat i) w1).bind _) = _
      rw [lp, Option.bind_some]
      show (if Int32.ofNat (dps c d).length = Int32.ofNat (dps c d).length then (rcv 10 (some (Z 0)) w1).bind _ else none) = _
      rw [if_pos rfl, rMv S1 j, Option.bind_some, e2, Option.bind_some]
      show ((ldI (some mA) (Int32.ofNat i) w2).bind _) = _
      rw [lm, Option.bind_some]
      show (if sumI (minP c) (dps c d) = sumI (minP c) (dps c d) then _ else none) = _
      rw [if_pos rfl, Option.bind_some, if_neg (Int32.not_lt.mpr h600)]
      show ((rcv 10 (some (Z 0)) w2).bind _) = _
      rw [rMv S2 j, Option.bind_some, e3, Option.bind_some]
      show (Option.bind (if (if fi c 33 d = 0 then (0 : Int32) else 1) = 1 then (rcv 10 (some (Z 0)) w3).bind fun b143 => (f_X9_ofDriver b143 (Int32.ofNat i) 3 w3).bind fun v144 => (if v144.1 ≤ 0 then some v144.2 else none) else some w3) _) = _
      rw [e5, Option.bind_some, rMv S4 j, Option.bind_some, e6, Option.bind_some, ← e7, take_snoc hd, sumI_snoc]
      rw [show Int32.ofNat i + 1 = Int32.ofNat (i + 1) from nAdd i 1]
end Sound6
