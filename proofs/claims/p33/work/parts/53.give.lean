/-! give, as it answers. -/
theorem sub10 {a b : Nat} (ha : a < 100000) (hb : b < 100000) : (Int32.ofNat a - 10 ≤ Int32.ofNat b) ↔ a ≤ b + 10 := by
  by_cases h : 10 ≤ a
  · rw [show (10 : Int32) = Int32.ofNat 10 from rfl, nSub h, nLe (by omega) (by omega)]; omega
  · have h1 : ∀ a, a < 10 → Int32.ofNat a - 10 ≤ 0 := by decide
    exact ⟨fun _ => by omega, fun _ => Int32.le_trans (h1 a (by omega)) (n0 (by omega))⟩
theorem sumI_app (f : Nat → Int32) : ∀ l m : List Nat, sumI f (l ++ m) = sumI f l + sumI f m
  | [], m => by show sumI f m = 0 + sumI f m; rw [Int32.zero_add]
  | x :: xs, m => by
    show f x + sumI f (xs ++ m) = (f x + sumI f xs) + sumI f m
    rw [sumI_app f xs m, Int32.add_assoc]
section Give
variable {Z : Nat → Nat} {g c c' : HP}
theorem near_iff (j : J Z c) {p q : Nat} (hp : InP Z c p) (hq : InP Z c q) : nearP c p q ↔ (nst c (pfA c q) ≤ nen c (pzA c p) + 10 ∧ nst c (pfA c p) ≤ nen c (pzA c q) + 10) := by
  obtain ⟨p1, p2, p3⟩ := ag_InP_t j hp
  obtain ⟨q1, q2, q3⟩ := ag_InP_t j hq
  have a1 := j_tst j p2
  have a2 := j_tst j q2
  have a3 := (j_tst j p3).2
  have a4 := (j_tst j q3).2
  have a5 := (j_tmn j p3).2.2
  have a6 := (j_tmn j q3).2.2
  have e10 : (10 : Int32) = Int32.ofNat 10 := rfl
  unfold nearP
  rw [a1.1, a2.1, j_tend j p3, j_tend j q3, sub10 (by omega) (by unfold nen; omega), e10, nAdd, nLe (by omega) (by unfold nen; omega)]
theorem near_sym (j : J Z c) {p q : Nat} (hp : InP Z c p) (hq : InP Z c q) : nearP c p q ↔ nearP c q p := by
  rw [near_iff j hp hq, near_iff j hq hp]
  exact And.comm
theorem r_near (S : Sim Z g c) (j : J Z c) {p q : Nat} (hp : InP Z c p) (hq : InP Z c q) : (nearP c p q → f_X4_isNear p (some q) g = some 1) ∧ (¬ nearP c p q → f_X4_isNear p (some q) g = some 0) := by
  obtain ⟨b, hb, hp'⟩ := hp
  obtain ⟨b2, hb2, hq'⟩ := hq
  obtain ⟨k1, k2, k3, k4, k5, k6, k7⟩ := j.pk hb hp'
  obtain ⟨l1, l2, l3, l4, l5, l6, l7⟩ := j.pk hb2 hq'
  have e1 : gfR 5 2 (some q) g = some (some (pfA c q)) := by rw [S.rdR (ci := 5) l1 (by decide) (by decide) 2]; exact congrArg some l3
  have e2 : gfR 5 3 (some p) g = some (some (pzA c p)) := by rw [S.rdR (ci := 5) k1 (by decide) (by decide) 3]; exact congrArg some k5
  have e3 : gfR 5 3 (some q) g = some (some (pzA c q)) := by rw [S.rdR (ci := 5) l1 (by decide) (by decide) 3]; exact congrArg some l5
  have e4 : gfR 5 2 (some p) g = some (some (pfA c p)) := by rw [S.rdR (ci := 5) k1 (by decide) (by decide) 2]; exact congrArg some k3
  have t1 := (j.isT (j.rT hb2 l4).1).1
  have t2 := (j.isT (j.rT hb k6).1).1
  have t3 := (j.isT (j.rT hb2 l6).1).1
  have t4 := (j.isT (j.rT hb k4).1).1
  have f1 : gfI 8 4 (some (pfA c q)) g = some (tst c (pfA c q)) := S.rdT t1 4 rfl
  have f2 : gfI 8 4 (some (pfA c p)) g = some (tst c (pfA c p)) := S.rdT t4 4 rfl
  have e : f_X4_isNear p (some q) g = if tend c (pzA c p) + 10 < tst c (pfA c q) then some 0 else if tend c (pzA c q) < tst c (pfA c p) - 10 then some 0 else some 1 := by
    unfold f_X4_isNear
    rw [e1, Option.bind_some, f1, Option.bind_some, e2, Option.bind_some, S.rc (ci := 8) t2, Option.bind_some, r_end S t2, Option.bind_some, e3, Option.bind_some, S.rc (ci := 8) t3, Option.bind_some, r_end S t3, Option.bind_some, e4, Option.bind_some, f2, Option.bind_some]
  rw [e]
  unfold nearP
  constructor
  · rintro ⟨h1, h2⟩
    rw [if_neg (Int32.not_lt.mpr h1), if_neg (Int32.not_lt.mpr h2)]
  · intro h
    by_cases h1 : tend c (pzA c p) + 10 < tst c (pfA c q)
    · rw [if_pos h1]
    · rw [if_neg h1]
      by_cases h2 : tend c (pzA c q) < tst c (pfA c p) - 10
      · rw [if_pos h2]
      · exact absurd ⟨Int32.not_lt.mp h1, Int32.not_lt.mp h2⟩ h
/-- may the driver get the piece -/
def CanG (c : HP) (d p : Nat) : Prop := (∀ q ∈ dps c d, ¬ nearP c p q) ∧ sumI (minP c) (dps c d) + minP c p ≤ 600
theorem cg_loop (S : Sim Z g c) (j : J Z c) {d p : Nat} (hd : d ∈ dvs Z c) (hp : InP Z c p) : ∀ (m u : Nat), (dps c d).length - u < m → u ≤ (dps c d).length → (∀ k q, k < u → (dps c d)[k]? = some q → ¬ nearP c p q) →
    (CanG c d p → f_X1_canGet_L2 d (some p) g m (Int32.ofNat u) = some 1) ∧ (¬ CanG c d p → f_X1_canGet_L2 d (some p) g m (Int32.ofNat u) = some 0) := by
  obtain ⟨eD, hD⟩ := j.rD S hd
  have h40 : (dps c d).length ≤ 40 := hD.1.2.2.2
  have tp := (ag_InP_t j hp).1
  have eZ : al_size (dpA c d) g = some (Int32.ofNat (dps c d).length) := hD.sz S j.gg (by decide) (by decide)
  obtain ⟨b, hb, hpb⟩ := id hp
  intro m
  induction m with
  | zero => intro u hm; omega
  | succ m ih =>
    intro u hm hu hk
    rw [f_X1_canGet_L2, eD, Option.bind_some, hD.rc S, Option.bind_some, eZ, Option.bind_some]
    by_cases hc : (dps c d).length ≤ u
    · rw [if_pos ((nLe (by omega) (by omega)).mpr hc), S.rc (ci := 2) (j.td hd), Option.bind_some, r_dmin S j hd, Option.bind_some, S.rc (ci := 5) tp, Option.bind_some, r_pmin S j hb hpb, Option.bind_some]
      have h1 : ∀ q ∈ dps c d, ¬ nearP c p q := fun q hq => by
        obtain ⟨k, hk'⟩ := mem_at hq
        exact hk k q (by have := (List.getElem?_eq_some_iff.mp hk').1; omega) hk'
      constructor
      · intro h
        rw [if_neg (Int32.not_lt.mpr h.2)]
      · intro h
        rw [if_pos (Int32.not_le.mp fun z => h ⟨h1, z⟩)]
    · obtain ⟨x, hx⟩ : ∃ x, (dps c d)[u]? = some x := ⟨_, List.getElem?_eq_getElem (by omega)⟩
      have hxm := List.mem_of_getElem? hx
      have tx := (j.dp hd hxm).1
      obtain ⟨r1, r2⟩ := r_near S j hp (j_dIn j hd hxm)
      have eG : al_get (dpA c d) (Int32.ofNat u) g = some (some x) := hD.gt S j.gg (by decide) (by decide) hx
      rw [if_neg (fun z => hc ((nLe (by omega) (by omega)).mp z)), Option.bind_some, hD.rc S, Option.bind_some, eG, Option.bind_some, S.cs (ci := 5) tx, Option.bind_some, S.rc (ci := 5) tp, Option.bind_some]
      by_cases hn : nearP c p x
      · rw [r1 hn, Option.bind_some, if_neg (by decide)]
        exact ⟨fun h => absurd hn (h.1 x hxm), fun _ => rfl⟩
      · rw [r2 hn, Option.bind_some, if_pos rfl, show Int32.ofNat u + 1 = Int32.ofNat (u + 1) from nAdd u 1]
        refine ih (u + 1) (by omega) (by omega) fun k q hk1 hk2 => ?_
        by_cases e : k = u
        · rw [e, hx] at hk2
          rw [← Option.some.inj hk2]; exact hn
        · exact hk k q (by omega) hk2
theorem r_canGet (S : Sim Z g c) (j : J Z c) {d p : Nat} (hd : d ∈ dvs Z c) (hp : InP Z c p) : (CanG c d p → f_X1_canGet d (some p) g = some 1) ∧ (¬ CanG c d p → f_X1_canGet d (some p) g = some 0) := by
  have h40 : (dps c d).length ≤ 40 := (j.dz hd).2.1.2.2.2
  exact cg_loop S j hd hp FU 0 (by show _ < 4096; omega) (Nat.zero_le _) (fun k q h => absurd h (Nat.not_lt_zero _))
theorem q_give (S : Sim Z g c) (j : J Z c) {i b k p n d : Nat} (hi : (bks Z c)[i]? = some b) (hk : (pcs c b)[k]? = some p) (hn : (dvs Z c)[n]? = some d) (h0 : fr c 85 p = none) (hG : CanG c d p) :
    ∃ g' c', f_X9_give (Z 0) (Int32.ofNat i) (Int32.ofNat k) (Int32.ofNat n) g = some (sumI (minP c') (dps c' d), g') ∧ Sim Z g' c' ∧ Spd Z 1 100 g g' ∧ J Z c' ∧ Rch Z (rowB c) (pcs c) c c' ∧ fr c' 85 p = some d := by
  have hb := List.mem_of_getElem? hi
  have hp := List.mem_of_getElem? hk
  have hd := List.mem_of_getElem? hn
  have hI : InP Z c p := ⟨b, hb, hp⟩
  have tp := (ag_InP_t j hI).1
  obtain ⟨nd, hD⟩ := j.dz hd
  have h40 : (dps c d).length ≤ 40 := hD.1.2.2.2
  have z1 := hD.z1 j.gg (by decide)
  have z2 := hD.z2 j.gg (by decide)
  have hnp : p ∉ dps c d := fun z => by rw [(j.dp hd z).2.1] at h0; cases h0
  have hdn : (dps c d).Nodup := by
    obtain ⟨_, _, _, _, _, ⟨h, _⟩, _⟩ := j.dok hd
    exact h
  have hall : ∀ q ∈ dps c d ++ [p], InP Z c q := fun q hq => by
    rcases List.mem_append.mp hq with h | h
    · exact j_dIn j hd h
    · rw [List.mem_singleton.mp h]; exact hI
  have hnod : (dps c d ++ [p]).Nodup := nodup_app hdn (List.nodup_cons.mpr ⟨List.not_mem_nil, List.nodup_nil⟩) fun x hx z => hnp ((List.mem_singleton.mp z) ▸ hx)
  have hl17 : (dps c d ++ [p]).length ≤ 16 := by
    -- each piece has a trip of its own
    have := subset_len (l := (dps c d ++ [p]).map (pfA c)) (m := tls Z c) (nodup_map_on (fun x hx y hy he => by
      obtain ⟨b1, q1, q2⟩ := hall x hx
      obtain ⟨b2, q3, q4⟩ := hall y hy
      have e1 := (j.pk q1 q2).2.2.2.2.2.2
      have e2 := (j.pk q3 q4).2.2.2.2.2.2
      rw [he, e2] at e1
      exact (Option.some.inj e1).symm) hnod) (fun t ht => by
      obtain ⟨x, hx, he⟩ := List.mem_map.mp ht
      rw [← he]
      exact (ag_InP_t j (hall x hx)).2.1)
    rw [List.length_map] at this
    exact Nat.le_trans this j.t.1
  have S1 : Sim Z (setR g 85 p (some d)) (setR c 85 p (some d)) := S.wR (by show 2 ≤ tg c p; omega)
  have tD : tg (setR c 85 p (some d)) (dpA c d) = 1 := hD.1.1
  obtain ⟨g2, a1, a2, a3, a4⟩ := S1.add (b := dpA c d) (x := p) tD z1 z2 (by show 1 ≤ tg c p; omega) (by show tg c p ≤ 11; omega) (by show (oa c (dpA c d)).length ≤ 60; rw [hD.oc, List.length_map]; have := hD.1.2.2.2; omega)
  have eo : oa (setR c 85 p (some d)) (dpA c d) ++ [some p] = (dps c d ++ [p]).map some := by
    show oa c (dpA c d) ++ [some p] = _
    rw [hD.oc, List.map_append]; rfl
  rw [eo] at a2
  obtain ⟨c', hc⟩ : ∃ c', c' = setO (setR c 85 p (some d)) (dpA c d) ((dps c d ++ [p]).map some) := ⟨_, rfl⟩
  rw [← hc] at a2
  have eoa : ∀ a, a ≠ dpA c d → oa c' a = oa c a := fun a ha => by rw [hc, oa_setO, if_neg ha, oa_setR]
  have ef : ∀ k x, k ≠ 85 → fr c' k x = fr c k x := fun k x hk => by rw [hc, fr_setO, fr_setR, if_neg fun z => hk z.1]
  have e85 : ∀ q, fr c' 85 q = if q = p then some d else fr c 85 q := fun q => by
    rw [hc, fr_setO, fr_setR]
    by_cases h : q = p
    · rw [if_pos h, if_pos ⟨rfl, h⟩]
    · rw [if_neg h, if_neg fun z => h z.2]
  have ez : ∀ a k o n, LK c a k o n → k ≠ 12 → a ≠ dpA c d := fun a k o n h hk => h.ne hD hk
  have A : Ag Z c c' := ⟨fun a _ => by rw [hc]; rfl, fun k a _ => by rw [hc]; rfl, fun k a _ _ _ h => ef k a h, eoa _ (ez _ _ _ _ j.l.1 (by decide)), eoa _ (ez _ _ _ _ j.l.2.1 (by decide))⟩
  have s : Sl Z c c' := ⟨eoa _ (ez _ _ _ _ j.l.2.2.1 (by decide)), eoa _ (ez _ _ _ _ j.l.2.2.2.1 (by decide)), eoa _ (ez _ _ _ _ j.l.2.2.2.2.1 (by decide)), eoa _ (ez _ _ _ _ j.l.2.2.2.2.2 (by decide))⟩
  have et : tls Z c' = tls Z c := tls_eq s.1
  have eb : bks Z c' = bks Z c := bks_eq s.2.2.1
  have ed : dvs Z c' = dvs Z c := dvs_eq s.2.2.2
  have hB : ∀ i b, (bks Z c)[i]? = some b → BOk Z c' i b ∧ rowB c' b = rowB c b ∧ pcs c' b = pcs c b := fun i b hb => by
    have hm := List.mem_of_getElem? hb
    refine bok_ag A j hb (eoa _ (ez _ _ _ _ (j.bz hm).2.2.1 (by decide))) (eoa _ (ez _ _ _ _ (j.bz hm).2.2.2 (by decide))) (fun t ht => by rw [et]; exact ht) (fun t ht => ?_) (fun q hq => ?_)
    · rw [ef 135 t (by decide)]; exact (j.rT hm ht).2
    · rw [ef 136 _ (by decide)]; exact (j.pk hm hq).2.2.2.2.2.2
  have hin : ∀ q, InP Z c q → InP Z c' q := fun q ⟨b, hb, hq⟩ => by
    obtain ⟨k, hk⟩ := mem_at hb
    exact ⟨b, by rw [eb]; exact hb, by rw [(hB k b hk).2.2]; exact hq⟩
  have hDd : ∀ i' d', (dvs Z c)[i']? = some d' → DOk Z c' i' d' ∧ dps c' d' = if d' = d then dps c d ++ [p] else dps c d' := fun i' d' hd' => by
    have hm' := List.mem_of_getElem? hd'
    by_cases h : d' = d
    · subst h
      rw [if_pos rfl]
      obtain ⟨_, _, ⟨d1, d2⟩, e1, f1⟩ := j.d.2 i' d' hd'
      refine dok_nw A j hd' (by rw [hc, oa_setO, if_pos rfl]) (by omega) hnod (fun q hq => ⟨?_, ?_, hin q (hall q hq)⟩) (fun q hq r hr hqr z => ?_) ?_
      · have := (ag_InP_t j (hall q hq)).1
        rw [A.1 q (by omega)]; exact this
      · rw [e85]
        by_cases e : q = p
        · rw [if_pos e]
        · rw [if_neg e]
          rcases List.mem_append.mp hq with h | h
          · exact (j.dp hm' h).2.1
          · exact absurd (List.mem_singleton.mp h) e
      · have z' := (ag_near A j (hall q hq) (hall r hr)).mp z
        rcases List.mem_append.mp hq with h1 | h1
        · rcases List.mem_append.mp hr with h2 | h2
          · exact e1 q h1 r h2 hqr z'
          · rw [List.mem_singleton.mp h2] at z'
            exact hG.1 q h1 ((near_sym j (hall q hq) hI).mp z')
        · rw [List.mem_singleton.mp h1] at z'
          rcases List.mem_append.mp hr with h2 | h2
          · exact hG.1 r h2 z'
          · exact hqr ((List.mem_singleton.mp h1).trans (List.mem_singleton.mp h2).symm)
      · rw [sumI_congr fun q hq => ag_minP A j (hall q hq)]
        have : sumI (minP c) (dps c d' ++ [p]) = sumI (minP c) (dps c d') + minP c p := by
          rw [sumI_app]
          show _ + (minP c p + 0) = _
          rw [Int32.add_zero]
        rw [this]; exact hG.2
    · rw [if_neg h]
      refine dok_ag A j hd' (eoa _ fun z => h ((j.dz hm').2.own hD z)) (fun q hq => ?_) (fun q hq => hin q (j_dIn j hm' hq))
      have := (j.dp hm' hq).2.1
      rw [e85, if_neg fun z => ?_]
      · exact this
      · rw [z, h0] at this; cases this
  have j' : J Z c' := by
    refine j.mk' A (s.lk A j) ⟨by rw [et]; exact j.t.1, fun i t ht => ?_⟩ ⟨by rw [eb]; exact j.b.1, fun i b hb => ?_⟩ ⟨by rw [ed]; exact j.d.1, fun i d hd => ?_⟩ (fun q d' hq h85 => ?_) (JS.ag A j s)
    · rw [et] at ht
      have k := j.t.2 i t ht
      refine tok_ag A k (fun b hb => ?_) (fun q hq => ?_)
      · rw [ef 135 t (by decide)] at hb
        obtain ⟨k1, k2⟩ := j.inB (List.mem_of_getElem? ht) hb
        obtain ⟨n, hn⟩ := mem_at k1
        rw [eb, (hB n b hn).2.1]
        exact ⟨k1, k2⟩
      · rw [ef 136 t (by decide)] at hq
        obtain ⟨q1, q2⟩ := k.2.2.2 q hq
        rw [ef 135 t (by decide), A.1 q (by omega)]
        exact ⟨q1, q2⟩
    · rw [eb] at hb
      exact (hB i b hb).1
    · rw [ed] at hd
      exact (hDd i d hd).1
    · have hq' : tg c q = 6 := by rw [hc] at hq; exact hq
      rw [e85] at h85
      by_cases h : q = p
      · rw [if_pos h] at h85
        have e := Option.some.inj h85
        obtain ⟨m, hm⟩ := mem_at hd
        rw [ed, ← e, (hDd m d hm).2, if_pos rfl, h]
        exact ⟨hd, by simp⟩
      · rw [if_neg h] at h85
        obtain ⟨k1, k2⟩ := j.q q d' hq' h85
        obtain ⟨m, hm⟩ := mem_at k1
        rw [ed, (hDd m d' hm).2]
        refine ⟨k1, ?_⟩
        by_cases e : d' = d
        · rw [if_pos e, ← e]; exact List.mem_append_left _ k2
        · rw [if_neg e]; exact k2
  refine ⟨g2, c', ?_, a2, (Spd.wR S (by show 2 ≤ tg c p; omega)).tr a3 |>.up (by omega) (by omega), j', ⟨A, s, fun a => by rw [hc]; rfl, fun b hb => ?_, fun x => Or.inr (ef 136 x (by decide))⟩, by rw [e85, if_pos rfl]⟩
  · have e5 : gfR 5 5 (some p) g = some none := by rw [S.rdR (ci := 5) tp (by decide) (by decide) 5]; exact congrArg some h0
    have ep : pfR 5 5 (some p) (some d) g = some (setR g 85 p (some d)) := pfR_eq (ci := 5) (S.tag tp)
    have eD : gfR 2 2 (some d) (setR g 85 p (some d)) = some (some (dpA c d)) := by
      obtain ⟨e, _⟩ := j.rD S hd
      rw [S1.rdR (ci := 2) (j.td hd) (by decide) (by decide) 2]
      have : fr c 34 d = some (dpA c d) := by
        obtain ⟨_, _, _, _, ⟨h, _⟩, _⟩ := j.dok hd
        exact h
      exact congrArg some this
    have hd' : d ∈ dvs Z c' := by rw [ed]; exact hd
    have hi8 := bi31 j hi
    have hn6 : n < 6 := by have := (List.getElem?_eq_some_iff.mp hn).1; have := j.d.1; omega
    have hk40 : k < 40 := by have := (List.getElem?_eq_some_iff.mp hk).1; have : (pcs c b).length ≤ 40 := (j.bz hb).2.2.2.1.2.2.2; omega
    unfold f_X9_give
    rw [rMv S j, Option.bind_some, j_pieceNumbered S j hi (by omega), Option.bind_some, Option.bind_some, j_driverNumbered S j (by omega), Option.bind_some, hk, hn, if_neg sn, if_neg sn, e5, Option.bind_some, if_pos rfl, S.rc (ci := 2) (j.td hd), Option.bind_some, (r_canGet S j hd hI).1 hG, Option.bind_some, if_neg (by decide), ep, Option.bind_some, eD, Option.bind_some, S1.rc (ci := 0) tD, Option.bind_some, a1, Option.bind_some]
    show Option.bind (rcv 2 (some d) g2) _ = _
    rw [a2.rc (ci := 2) (j'.td hd'), Option.bind_some, r_dmin a2 j' hd', Option.bind_some]
  · obtain ⟨m, hm⟩ := mem_at hb
    exact (hB m b hm).2
end Give
