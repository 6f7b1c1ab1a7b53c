/-! A block's pieces are forgotten. -/
section Forget
variable {Z : Nat → Nat} {g c c' : HP}
theorem Rel.rf : Rel Z c c := ⟨Ag.rf, Sl.rf, fun _ => rfl, fun _ _ => ⟨rfl, rfl⟩, fun _ _ _ => rfl, fun _ => Or.inl rfl⟩
theorem Rel.tr {c1 c2 : HP} (j : J Z c) (h1 : Rel Z c c1) (h2 : Rel Z c1 c2) : Rel Z c c2 := by
  obtain ⟨a1, a2, a3, a4, a5, a6⟩ := h1
  obtain ⟨b1, b2, b3, b4, b5, b6⟩ := h2
  refine ⟨a1.tr b1, a2.tr b2, fun a => (b3 a).trans (a3 a), fun b hb => ?_, fun k x hk => (b5 k x hk).trans (a5 k x hk), fun q => ?_⟩
  · obtain ⟨p1, p2⟩ := b4 b (by rw [bks_eq a2.2.2.1]; exact hb)
    rw [ag_rlB a1 j hb] at p1
    rw [ag_plB a1 (j.bz hb).1] at p2
    exact ⟨p1.trans (a4 b hb).1, p2.trans (a4 b hb).2⟩
  · rcases b6 q with h | h
    · rw [h]; exact a6 q
    · exact Or.inr h
theorem r_release (S : Sim Z g c) (j : J Z c) {p : Nat} (hp : tg c p = 6) : ∃ g' c', f_X4_release p g = some g' ∧ Sim Z g' c' ∧ Spd Z 0 0 g g' ∧ J Z c' ∧ Rel Z c c' ∧ fr c' 85 p = none := by
  have e5 : gfR 5 5 (some p) g = some (fr c 85 p) := S.rdR (ci := 5) hp (by decide) (by decide) 5
  unfold f_X4_release
  rw [e5, Option.bind_some]
  cases hd : fr c 85 p with
  | none => exact ⟨g, c, if_pos rfl, S, Spd.rf, j, Rel.rf, hd⟩
  | some d =>
    obtain ⟨hdm, hpm⟩ := j.q p d hp hd
    obtain ⟨i, hi⟩ := mem_at hpm
    obtain ⟨nd, hD⟩ := j.dz hdm
    have hlt := (List.getElem?_eq_some_iff.mp hi).1
    have h40 : (dps c d).length ≤ 40 := hD.1.2.2.2
    have ed : f_X1_drop d (some p) g = some (setO g (dpA c d) (((dps c d).eraseIdx i).map some)) := drop_loop S j hdm hi FU 0 (by show _ < 4096; omega) (Nat.zero_le _)
    have S1 : Sim Z (setO g (dpA c d) (((dps c d).eraseIdx i).map some)) (setO c (dpA c d) (((dps c d).eraseIdx i).map some)) := S.wO (hD.z1 j.gg (by decide)) (hD.z2 j.gg (by decide))
    have S2 : Sim Z (setR (setO g (dpA c d) (((dps c d).eraseIdx i).map some)) 85 p none) (setR (setO c (dpA c d) (((dps c d).eraseIdx i).map some)) 85 p none) := S1.wR (by show 2 ≤ tg c p; omega)
    have ep : pfR 5 5 (some p) none (setO g (dpA c d) (((dps c d).eraseIdx i).map some)) = some (setR (setO g (dpA c d) (((dps c d).eraseIdx i).map some)) 85 p none) := pfR_eq (ci := 5) (S1.tag hp)
    obtain ⟨k1, k2⟩ := j_release j hp hd hi
    refine ⟨_, _, ?_, S2, (Spd.wO (S.tag (n := 0) hD.1.1)).tr (Spd.wR S1 (by show 2 ≤ tg c p; omega)), k1, k2, by rw [fr_setR, if_pos ⟨rfl, rfl⟩]⟩
    rw [if_neg sn, Option.bind_some, S.rc (ci := 2) (j.td hdm), Option.bind_some, ed, Option.bind_some, ep, Option.bind_some]
theorem fg_loop (j : J Z c) {b : Nat} (hb : b ∈ bks Z c) : ∀ (m u : Nat) (w c1 : HP), (pcs c b).length - u < m → u ≤ (pcs c b).length → Sim Z w c1 → J Z c1 → Rel Z c c1 → (∀ k p, k < u → (pcs c b)[k]? = some p → fr c1 85 p = none) →
    ∃ w' c2, f_X0_forgetPieces_L2 b m (Int32.ofNat u) w = some w' ∧ Sim Z w' c2 ∧ Spd Z 0 0 w w' ∧ J Z c2 ∧ Rel Z c c2 ∧ ∀ p ∈ pcs c b, fr c2 85 p = none := by
  intro m
  induction m with
  | zero => intro u w c1 hm; omega
  | succ m ih =>
    intro u w c1 hm hu S j1 R hk
    have hb1 : b ∈ bks Z c1 := by rw [bks_eq R.2.1.2.2.1]; exact hb
    obtain ⟨eP, hP⟩ := j1.rBp S hb1
    have epl : plB c1 b = plB c b := ag_plB R.1 (j.bz hb).1
    have epc : refs c1 (plB c1 b) = pcs c b := ag_pcs R.1 j hb (R.2.2.2.1 b hb).2
    have h40 : (pcs c b).length ≤ 40 := by rw [← epc]; exact hP.1.2.2.2
    have eZ := hP.sz S j1.gg (by decide) (by decide)
    rw [epc] at eZ
    rw [f_X0_forgetPieces_L2, eP, Option.bind_some, hP.rc S, Option.bind_some, eZ, Option.bind_some]
    by_cases hc : (pcs c b).length ≤ u
    · rw [if_pos ((nLe (by omega) (by omega)).mpr hc)]
      refine ⟨w, c1, rfl, S, Spd.rf, j1, R, fun p hp => ?_⟩
      obtain ⟨k, hk'⟩ := mem_at hp
      exact hk k p (by have := (List.getElem?_eq_some_iff.mp hk').1; omega) hk'
    · obtain ⟨x, hx⟩ : ∃ x, (pcs c b)[u]? = some x := ⟨_, List.getElem?_eq_getElem (by omega)⟩
      have hx' : (refs c1 (plB c1 b))[u]? = some x := by rw [epc]; exact hx
      have tx := hP.tg hx'
      obtain ⟨w1, c2, a1, a2, a3, a4, a5, a6⟩ := r_release S j1 tx
      obtain ⟨w', c3, b1, b2, b3, b4, b5, b6⟩ := ih (u + 1) w1 c2 (by omega) (by omega) a2 a4 (R.tr j a5) (fun k p hku hkp => by
        by_cases e : k = u
        · rw [e, hx] at hkp
          rw [← Option.some.inj hkp]; exact a6
        · rcases a5.2.2.2.2.2 p with h | h
          · rw [h]; exact hk k p (by omega) hkp
          · exact h)
      rw [if_neg (fun z => hc ((nLe (by omega) (by omega)).mp z)), Option.bind_some, hP.rc S, Option.bind_some, hP.gt S j1.gg (by decide) (by decide) hx', Option.bind_some, S.cs (ci := 5) tx, Option.bind_some, S.rc (ci := 5) tx, Option.bind_some, a1, Option.bind_some, show Int32.ofNat u + 1 = Int32.ofNat (u + 1) from nAdd u 1]
      exact ⟨w', c3, b1, b2, a3.tr b3, b4, b5, b6⟩
/-- what a block that forgets its pieces leaves -/
def Fg (Z : Nat → Nat) (b : Nat) (T : List Nat) (c c' : HP) : Prop := Ag Z c c' ∧ Sl Z c c' ∧ (∀ a, tg c' a = tg c a) ∧ (∀ b' ∈ bks Z c, oa c' (rlB c b') = oa c (rlB c b')) ∧ (∀ b' ∈ bks Z c, b' ≠ b → oa c' (plB c b') = oa c (plB c b')) ∧ oa c' (plB c b) = [] ∧
  (∀ k x, k ≠ 85 → k ≠ 136 → fr c' k x = fr c k x) ∧ (∀ x, fr c' 136 x = if x ∈ T then none else fr c 136 x) ∧ ∀ q, fr c' 85 q = fr c 85 q ∨ fr c' 85 q = none
theorem j_clear (j : J Z c) {b : Nat} (hb : b ∈ bks Z c) (h0 : ∀ p ∈ pcs c b, fr c 85 p = none) : J Z (setO c (plB c b) []) ∧ Ag Z c (setO c (plB c b) []) ∧ Sl Z c (setO c (plB c b) []) ∧ (∀ b' ∈ bks Z c, oa (setO c (plB c b) []) (rlB c b') = oa c (rlB c b')) ∧ (∀ b' ∈ bks Z c, b' ≠ b → oa (setO c (plB c b) []) (plB c b') = oa c (plB c b')) := by
  obtain ⟨n1, n2, k1, k2⟩ := j.bz hb
  obtain ⟨c', hc⟩ : ∃ c', c' = setO c (plB c b) [] := ⟨_, rfl⟩
  rw [← hc]
  have eo : ∀ a, a ≠ plB c b → oa c' a = oa c a := fun a ha => by rw [hc, oa_setO, if_neg ha]
  have ez : ∀ a k o n, LK c a k o n → k ≠ 11 → a ≠ plB c b := fun a k o n h hk => h.ne k2 hk
  have ef : ∀ k x, fr c' k x = fr c k x := fun k x => by rw [hc]; rfl
  have A : Ag Z c c' := ⟨fun a _ => by rw [hc]; rfl, fun k a _ => by rw [hc]; rfl, fun k a _ _ _ _ => ef k a, eo _ (ez _ _ _ _ j.l.1 (by decide)), eo _ (ez _ _ _ _ j.l.2.1 (by decide))⟩
  have s : Sl Z c c' := ⟨eo _ (ez _ _ _ _ j.l.2.2.1 (by decide)), eo _ (ez _ _ _ _ j.l.2.2.2.1 (by decide)), eo _ (ez _ _ _ _ j.l.2.2.2.2.1 (by decide)), eo _ (ez _ _ _ _ j.l.2.2.2.2.2 (by decide))⟩
  have hrow : ∀ b' ∈ bks Z c, oa c' (rlB c b') = oa c (rlB c b') := fun b' hb' => eo _ (ez _ _ _ _ (j.bz hb').2.2.1 (by decide))
  have hpl : ∀ b' ∈ bks Z c, b' ≠ b → oa c' (plB c b') = oa c (plB c b') := fun b' hb' hne => eo _ fun z => hne ((j.bz hb').2.2.2.own k2 z)
  have et : tls Z c' = tls Z c := tls_eq s.1
  have eb : bks Z c' = bks Z c := bks_eq s.2.2.1
  have ed : dvs Z c' = dvs Z c := dvs_eq s.2.2.2
  have hB : ∀ i b', (bks Z c)[i]? = some b' → BOk Z c' i b' ∧ rowB c' b' = rowB c b' ∧ pcs c' b' = if b' = b then [] else pcs c b' := fun i b' hb' => by
    have hm := List.mem_of_getElem? hb'
    by_cases e : b' = b
    · rw [if_pos e]
      subst e
      exact bok_nw A j hb' (R := rowB c b') (P := []) ((hrow b' hm).trans k1.oc) (by rw [hc, oa_setO, if_pos rfl]; rfl) ⟨k1.1.2.2.2, Nat.zero_le _⟩ ⟨j.rN hm, fun t ht => ⟨(j.rT hm ht).1, by rw [et]; exact (j.rT hm ht).1, by rw [ef]; exact (j.rT hm ht).2⟩, j_rchn j hm⟩ ⟨List.nodup_nil, fun p hp => (by cases hp), Or.inl rfl⟩
    · rw [if_neg e]
      refine bok_ag A j hb' (hrow b' hm) (hpl b' hm e) (fun t ht => by rw [et]; exact ht) (fun t ht => ?_) (fun q hq => ?_)
      · rw [ef]; exact (j.rT hm ht).2
      · rw [ef]; exact (j.pk hm hq).2.2.2.2.2.2
  have hin : ∀ q d, q ∈ dps c d → d ∈ dvs Z c → InP Z c' q := fun q d hq hd => by
    obtain ⟨b', hb', hq'⟩ := j_dIn j hd hq
    obtain ⟨k, hk⟩ := mem_at hb'
    refine ⟨b', by rw [eb]; exact hb', ?_⟩
    rw [(hB k b' hk).2.2, if_neg fun e => ?_]
    · exact hq'
    · rw [e] at hq'
      have := h0 q hq'
      rw [(j.dp hd hq).2.1] at this
      cases this
  have hDd : ∀ i d, (dvs Z c)[i]? = some d → DOk Z c' i d ∧ dps c' d = dps c d := fun i d hd => by
    have hm := List.mem_of_getElem? hd
    exact dok_ag A j hd (eo _ (ez _ _ _ _ (j.dz hm).2 (by decide))) (fun p hp => by rw [ef]; exact (j.dp hm hp).2.1) (fun p hp => hin p d hp hm)
  refine ⟨j.mk' A (s.lk A j) ⟨by rw [et]; exact j.t.1, fun i t ht => ?_⟩ ⟨by rw [eb]; exact j.b.1, fun i b hb => ?_⟩ ⟨by rw [ed]; exact j.d.1, fun i d hd => ?_⟩ (fun q d' hq h85 => ?_) (JS.ag A j s), A, s, hrow, hpl⟩
  · rw [et] at ht
    have k := j.t.2 i t ht
    refine tok_ag A k (fun b hb => ?_) (fun q hq => ?_)
    · rw [ef] at hb
      obtain ⟨k1, k2⟩ := j.inB (List.mem_of_getElem? ht) hb
      obtain ⟨n, hn⟩ := mem_at k1
      rw [eb, (hB n b hn).2.1]
      exact ⟨k1, k2⟩
    · rw [ef] at hq
      obtain ⟨q1, q2⟩ := k.2.2.2 q hq
      rw [ef, A.1 q (by omega)]
      exact ⟨q1, q2⟩
  · rw [eb] at hb
    exact (hB i b hb).1
  · rw [ed] at hd
    exact (hDd i d hd).1
  · have hq' : tg c q = 6 := by rw [hc] at hq; exact hq
    rw [ef] at h85
    obtain ⟨k1, k2⟩ := j.q q d' hq' h85
    obtain ⟨n, hn'⟩ := mem_at k1
    rw [ed, (hDd n d' hn').2]
    exact ⟨k1, k2⟩
/-- a trip forgets its piece -/
theorem j_unp (j : J Z c) {b t : Nat} (hb : b ∈ bks Z c) (ht : t ∈ rowB c b) (h0 : pcs c b = []) : J Z (setR c 136 t none) ∧ Ag Z c (setR c 136 t none) := by
  obtain ⟨c', hc⟩ : ∃ c', c' = setR c 136 t none := ⟨_, rfl⟩
  rw [← hc]
  have eo : ∀ a, oa c' a = oa c a := fun a => by rw [hc]; rfl
  have ef : ∀ k x, k ≠ 136 → fr c' k x = fr c k x := fun k x hk => by rw [hc, fr_setR, if_neg fun z => hk z.1]
  have e6 : ∀ x, x ≠ t → fr c' 136 x = fr c 136 x := fun x hx => by rw [hc, fr_setR, if_neg fun z => hx z.2]
  have A : Ag Z c c' := ⟨fun a _ => by rw [hc]; rfl, fun k a _ => by rw [hc]; rfl, fun k a _ _ h _ => ef k a h, eo _, eo _⟩
  have s : Sl Z c c' := ⟨eo _, eo _, eo _, eo _⟩
  have et : tls Z c' = tls Z c := tls_eq s.1
  have eb : bks Z c' = bks Z c := bks_eq s.2.2.1
  have ed : dvs Z c' = dvs Z c := dvs_eq s.2.2.2
  have hB : ∀ i b', (bks Z c)[i]? = some b' → BOk Z c' i b' ∧ rowB c' b' = rowB c b' ∧ pcs c' b' = pcs c b' := fun i b' hb' => by
    have hm := List.mem_of_getElem? hb'
    refine bok_ag A j hb' (eo _) (eo _) (fun t ht => by rw [et]; exact ht) (fun t ht => ?_) (fun q hq => ?_)
    · rw [ef _ _ (by decide)]; exact (j.rT hm ht).2
    · have k := j.pk hm hq
      rw [e6 _ fun z => ?_]
      · exact k.2.2.2.2.2.2
      · have e1 := (j.rT hm k.2.2.2.1).2
        rw [z, (j.rT hb ht).2] at e1
        rw [← Option.some.inj e1, h0] at hq
        cases hq
  have hin : ∀ q, InP Z c q → InP Z c' q := fun q ⟨b, hb, hq⟩ => by
    obtain ⟨k, hk⟩ := mem_at hb
    exact ⟨b, by rw [eb]; exact hb, by rw [(hB k b hk).2.2]; exact hq⟩
  have hDd : ∀ i d, (dvs Z c)[i]? = some d → DOk Z c' i d ∧ dps c' d = dps c d := fun i d hd => by
    have hm := List.mem_of_getElem? hd
    exact dok_ag A j hd (eo _) (fun p hp => by rw [ef _ _ (by decide)]; exact (j.dp hm hp).2.1) (fun p hp => hin p (j_dIn j hm hp))
  refine ⟨j.mk' A (s.lk A j) ⟨by rw [et]; exact j.t.1, fun i t2 ht2 => ?_⟩ ⟨by rw [eb]; exact j.b.1, fun i b hb => ?_⟩ ⟨by rw [ed]; exact j.d.1, fun i d hd => ?_⟩ (fun q d' hq h85 => ?_) (JS.ag A j s), A⟩
  · rw [et] at ht2
    have k := j.t.2 i _ ht2
    refine tok_ag A k (fun b hb => ?_) (fun q hq => ?_)
    · rw [ef _ _ (by decide)] at hb
      obtain ⟨k1, k2⟩ := j.inB (List.mem_of_getElem? ht2) hb
      obtain ⟨n, hn⟩ := mem_at k1
      rw [eb, (hB n b hn).2.1]
      exact ⟨k1, k2⟩
    · have hne : t2 ≠ t := fun z => by
        rw [z, hc, fr_setR, if_pos ⟨rfl, rfl⟩] at hq
        cases hq
      rw [e6 _ hne] at hq
      obtain ⟨q1, q2⟩ := k.2.2.2 q hq
      rw [ef _ _ (by decide), A.1 q (by omega)]
      exact ⟨q1, q2⟩
  · rw [eb] at hb
    exact (hB i b hb).1
  · rw [ed] at hd
    exact (hDd i d hd).1
  · have hq' : tg c q = 6 := by rw [hc] at hq; exact hq
    rw [ef _ _ (by decide)] at h85
    obtain ⟨k1, k2⟩ := j.q q d' hq' h85
    obtain ⟨n, hn'⟩ := mem_at k1
    rw [ed, (hDd n d' hn').2]
    exact ⟨k1, k2⟩
theorem fg_loop2 (j : J Z c) {b : Nat} (hb : b ∈ bks Z c) : ∀ (m u : Nat) (w c1 : HP), (rowB c b).length - u < m → u ≤ (rowB c b).length → Sim Z w c1 → J Z c1 → Fg Z b ((rowB c b).take u) c c1 →
    ∃ w' c2, f_X0_forgetPieces_L42 b m (Int32.ofNat u) w = some w' ∧ Sim Z w' c2 ∧ Spd Z 0 0 w w' ∧ J Z c2 ∧ Fg Z b (rowB c b) c c2 := by
  intro m
  induction m with
  | zero => intro u w c1 hm; omega
  | succ m ih =>
    intro u w c1 hm hu S j1 R
    obtain ⟨r1, r2, r3, r4, r5, r6, r7, r8, r9⟩ := R
    have hb1 : b ∈ bks Z c1 := by rw [bks_eq r2.2.2.1]; exact hb
    have er : rowB c1 b = rowB c b := ag_row r1 j hb (r4 b hb)
    have hR := j1.row S hb1
    rw [er] at hR
    have h40 := hR.le
    have ep1 : pcs c1 b = [] := by
      unfold pcs
      rw [ag_plB r1 (j.bz hb).1]
      unfold refs; rw [r6]; rfl
    rw [f_X0_forgetPieces_L42, j1.rBr S hb1, Option.bind_some, S.rc (ci := 7) hR.1, Option.bind_some, r_count S hR, Option.bind_some]
    by_cases hc : (rowB c b).length ≤ u
    · rw [if_pos ((nLe (by omega) (by omega)).mpr hc)]
      rw [List.take_of_length_le hc] at r8
      exact ⟨w, c1, rfl, S, Spd.rf, j1, r1, r2, r3, r4, r5, r6, r7, r8, r9⟩
    · obtain ⟨x, hx⟩ : ∃ x, (rowB c b)[u]? = some x := ⟨_, List.getElem?_eq_getElem (by omega)⟩
      have tx := hR.tr hx
      have hx1 : x ∈ rowB c1 b := by rw [er]; exact List.mem_of_getElem? hx
      obtain ⟨k1, k2⟩ := j_unp j1 hb1 hx1 ep1
      have S1 : Sim Z (setR w 136 x none) (setR c1 136 x none) := S.wR (by rw [tx.1]; decide)
      have epf : pfR 8 8 (some x) none w = some (setR w 136 x none) := pfR_eq (ci := 8) (S.tag tx.1)
      have hT : (rowB c b).take (u + 1) = (rowB c b).take u ++ [x] := by
        rw [List.take_add_one, hx]; rfl
      obtain ⟨w', c3, b1, b2, b3, b4, b5⟩ := ih (u + 1) _ _ (by omega) (by omega) S1 k1 ⟨r1.tr k2, r2, r3, r4, r5, r6, fun k y h1 h2 => by
        rw [fr_setR, if_neg fun z => h2 z.1]; exact r7 k y h1 h2, fun y => by
        rw [fr_setR, r8, hT]
        by_cases e : y = x
        · rw [if_pos ⟨rfl, e⟩, if_pos (by rw [e]; simp)]
        · rw [if_neg fun z => e z.2]
          by_cases h : y ∈ (rowB c b).take u
          · rw [if_pos h, if_pos (List.mem_append_left _ h)]
          · rw [if_neg h, if_neg fun z => (List.mem_append.mp z).elim h fun z => e (List.mem_singleton.mp z)], fun q => by
        rw [fr_setR, if_neg fun z => by have := z.1; omega]; exact r9 q⟩
      rw [if_neg (fun z => hc ((nLe (by omega) (by omega)).mp z)), Option.bind_some, hR.l S, Option.bind_some, hR.v S, Option.bind_some, hR.at S hx, Option.bind_some, S.cs (ci := 8) tx.1, Option.bind_some, epf, Option.bind_some, show Int32.ofNat u + 1 = Int32.ofNat (u + 1) from nAdd u 1]
      exact ⟨w', c3, b1, b2, (Spd.wR S (by rw [tx.1]; decide)).tr b3, b4, b5⟩
theorem r_forget (S : Sim Z g c) (j : J Z c) {b : Nat} (hb : b ∈ bks Z c) : ∃ g' c', f_X0_forgetPieces b g = some g' ∧ Sim Z g' c' ∧ Spd Z 0 0 g g' ∧ J Z c' ∧ Fg Z b (rowB c b) c c' := by
  have h40 : (pcs c b).length ≤ 40 := (j.bz hb).2.2.2.1.2.2.2
  have r40 := j.rlen hb
  obtain ⟨w1, c1, a1, a2, a3, a4, a5, a6⟩ := fg_loop j hb FU 0 g c (by show _ < 4096; omega) (Nat.zero_le _) S j Rel.rf (fun k p hk => absurd hk (Nat.not_lt_zero _))
  have hb1 : b ∈ bks Z c1 := by rw [bks_eq a5.2.1.2.2.1]; exact hb
  have epl : plB c1 b = plB c b := ag_plB a5.1 (j.bz hb).1
  have epc : pcs c1 b = pcs c b := ag_pcs a5.1 j hb (a5.2.2.2.1 b hb).2
  obtain ⟨eP, hP⟩ := j.rBp S hb
  obtain ⟨eP1, hP1⟩ := a4.rBp a2 hb1
  obtain ⟨k1, k2, k3, k4, k5⟩ := j_clear a4 hb1 (fun p hp => a6 p (by rw [← epc]; exact hp))
  have S2 : Sim Z (setO w1 (plB c1 b) []) (setO c1 (plB c1 b) []) := a2.wO (hP1.z1 a4.gg (by decide)) (hP1.z2 a4.gg (by decide))
  have elt : (oa w1 (plB c1 b)).length < 4000 := by
    rw [hP1.oag a2 a4.gg (by decide) (by decide), List.length_map]
    have : (refs c1 (plB c1 b)).length ≤ 40 := hP1.1.2.2.2
    omega
  have ecl : al_clear (plB c1 b) w1 = some (setO w1 (plB c1 b) []) := if_pos ⟨a2.tag (n := 0) hP1.1.1, elt⟩
  have F : Fg Z b ((rowB c b).take 0) c (setO c1 (plB c1 b) []) := by
    refine ⟨a5.1.tr k2, a5.2.1.tr k3, a5.2.2.1, fun b' hb' => ?_, fun b' hb' hne => ?_, by rw [oa_setO, if_pos epl.symm], fun k x h1 _ => a5.2.2.2.2.1 k x h1, fun x => ?_, a5.2.2.2.2.2⟩
    · have h1 := k4 b' (by rw [bks_eq a5.2.1.2.2.1]; exact hb')
      rw [ag_rlB a5.1 j hb'] at h1
      exact h1.trans (a5.2.2.2.1 b' hb').1
    · have h1 := k5 b' (by rw [bks_eq a5.2.1.2.2.1]; exact hb') hne
      rw [ag_plB a5.1 (j.bz hb').1] at h1
      exact h1.trans (a5.2.2.2.1 b' hb').2
    · rw [List.take_zero, if_neg List.not_mem_nil]
      exact a5.2.2.2.2.1 136 x (by decide)
  obtain ⟨w2, c2, b1, b2, b3, b4, b5⟩ := fg_loop2 j hb FU 0 _ _ (by show _ < 4096; omega) (Nat.zero_le _) S2 k1 F
  refine ⟨w2, c2, ?_, b2, (a3.tr (Spd.wO (a2.tag (n := 0) hP1.1.1))).tr b3, b4, b5⟩
  have a1' : f_X0_forgetPieces_L2 b FU 0 g = some w1 := a1
  have b1' : f_X0_forgetPieces_L42 b FU 0 (setO w1 (plB c1 b) []) = some w2 := b1
  unfold f_X0_forgetPieces
  rw [a1', Option.bind_some, eP1, Option.bind_some, hP1.rc a2, Option.bind_some, ecl, Option.bind_some, b1', Option.bind_some]
end Forget
