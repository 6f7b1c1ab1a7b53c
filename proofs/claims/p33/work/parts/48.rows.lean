/-! Rows that change: a trip comes behind the others, or goes. -/
section Rows
variable {Z : Nat → Nat} {g c c' : HP}
theorem j_rows (j : J Z c) (A : Ag Z c c') (s : Sl Z c c') (ht : ∀ a, tg c' a = tg c a) (R : Nat → List Nat) (ho : ∀ b ∈ bks Z c, oa c' (rlB c b) = (R b).map some ∧ oa c' (plB c b) = oa c (plB c b)) (hp : ∀ b ∈ bks Z c, R b = rowB c b ∨ pcs c b = [])
    (hn : ∀ b ∈ bks Z c, (R b).Nodup ∧ chn c (R b) ∧ ∀ t ∈ R b, t ∈ tls Z c ∧ fr c' 135 t = some b) (h135 : ∀ t ∈ tls Z c, ∀ b, fr c' 135 t = some b → b ∈ bks Z c ∧ t ∈ R b)
    (h6 : ∀ t, fr c' 136 t = fr c 136 t) (h65 : ∀ t ∈ tls Z c, ∀ p, fr c 136 t = some p → ∃ b, fr c' 135 t = some b) (h85 : ∀ x, fr c' 85 x = fr c 85 x) (hd : ∀ d ∈ dvs Z c, oa c' (dpA c d) = oa c (dpA c d)) :
    J Z c' ∧ ∀ b ∈ bks Z c, rowB c' b = R b ∧ pcs c' b = pcs c b := by
  have et : tls Z c' = tls Z c := tls_eq s.1
  have eb : bks Z c' = bks Z c := bks_eq s.2.2.1
  have ed : dvs Z c' = dvs Z c := dvs_eq s.2.2.2
  have hB : ∀ i b, (bks Z c)[i]? = some b → BOk Z c' i b ∧ rowB c' b = R b ∧ pcs c' b = pcs c b := fun i b hb => by
    have hm := List.mem_of_getElem? hb
    obtain ⟨k1, k2⟩ := ho b hm
    obtain ⟨q1, q2, q3⟩ := hn b hm
    rcases hp b hm with h | h
    · have h0 := bok_ag A j hb (by rw [k1, h]; exact (j.bz hm).2.2.1.oc.symm) k2 (fun t ht => by rw [et]; exact ht) (fun t ht => (q3 t (by rw [h]; exact ht)).2) (fun q hq => by rw [h6]; exact (j.pk hm hq).2.2.2.2.2.2)
      rw [h]; exact h0
    · rw [h]
      have hl : (R b).length ≤ 16 := Nat.le_trans (subset_len q1 fun t ht => (q3 t ht).1) j.t.1
      exact bok_nw A j hb (R := R b) (P := []) k1 (by
        rw [k2, (j.bz hm).2.2.2.oc]
        have h' : refs c (plB c b) = [] := h
        rw [h']) ⟨by omega, Nat.zero_le _⟩ ⟨q1, fun t ht => ⟨(q3 t ht).1, by rw [et]; exact (q3 t ht).1, (q3 t ht).2⟩, q2⟩ ⟨List.nodup_nil, fun p hp => (by cases hp), Or.inl rfl⟩
  have hin : ∀ q, InP Z c q → InP Z c' q := fun q ⟨b, hb, hq⟩ => by
    obtain ⟨k, hk⟩ := mem_at hb
    exact ⟨b, by rw [eb]; exact hb, by rw [(hB k b hk).2.2]; exact hq⟩
  have hDd : ∀ i d, (dvs Z c)[i]? = some d → DOk Z c' i d ∧ dps c' d = dps c d := fun i d hd' => by
    have hm := List.mem_of_getElem? hd'
    exact dok_ag A j hd' (hd d hm) (fun p hp => by rw [h85]; exact (j.dp hm hp).2.1) (fun p hp => hin p (j_dIn j hm hp))
  refine ⟨j.mk' A (s.lk A j) ⟨by rw [et]; exact j.t.1, fun i t ht => ?_⟩ ⟨by rw [eb]; exact j.b.1, fun i b hb => ?_⟩ ⟨by rw [ed]; exact j.d.1, fun i d hd => ?_⟩ (fun q d' hq h => ?_) (JS.ag A j s), fun b hb => ?_⟩
  · rw [et] at ht
    have hm := List.mem_of_getElem? ht
    have k := j.t.2 i t ht
    refine tok_ag A k (fun b hb => ?_) (fun q hq => ?_)
    · obtain ⟨k1, k2⟩ := h135 t hm b hb
      obtain ⟨n, hn⟩ := mem_at k1
      rw [eb, (hB n b hn).2.1]
      exact ⟨k1, k2⟩
    · rw [h6] at hq
      obtain ⟨q1, q2⟩ := k.2.2.2 q hq
      rw [A.1 q (by omega)]
      exact ⟨q1, h65 t hm q hq⟩
  · rw [eb] at hb
    exact (hB i b hb).1
  · rw [ed] at hd
    exact (hDd i d hd).1
  · have hq' : tg c q = 6 := by rw [← ht]; exact hq
    rw [h85] at h
    obtain ⟨k1, k2⟩ := j.q q d' hq' h
    obtain ⟨n, hn'⟩ := mem_at k1
    rw [ed, (hDd n d' hn').2]
    exact ⟨k1, k2⟩
  · obtain ⟨n, hn⟩ := mem_at hb
    exact (hB n b hn).2
theorem Fg.pc {b : Nat} {T : List Nat} (F : Fg Z b T c c') (j : J Z c) (hb : b ∈ bks Z c) : pcs c' b = [] := by
  unfold pcs
  rw [ag_plB F.1 (j.bz hb).1]
  unfold refs; rw [F.2.2.2.2.2.1]; rfl
theorem Fg.rw {b : Nat} {T : List Nat} (F : Fg Z b T c c') (j : J Z c) {b' : Nat} (hb : b' ∈ bks Z c) : rowB c' b' = rowB c b' := ag_row F.1 j hb (F.2.2.2.1 b' hb)
theorem Fg.pc2 {b : Nat} {T : List Nat} (F : Fg Z b T c c') (j : J Z c) {b' : Nat} (hb : b' ∈ bks Z c) (hne : b' ≠ b) : pcs c' b' = pcs c b' := ag_pcs F.1 j hb (F.2.2.2.2.1 b' hb hne)
/-- what a change of rows leaves: the county, but for rows, pieces and their drivers -/
def Rch (Z : Nat → Nat) (R P : Nat → List Nat) (c c' : HP) : Prop := Ag Z c c' ∧ Sl Z c c' ∧ (∀ a, tg c' a = tg c a) ∧ (∀ b ∈ bks Z c, rowB c' b = R b ∧ pcs c' b = P b) ∧ ∀ x, fr c' 136 x = none ∨ fr c' 136 x = fr c 136 x
theorem chn_snoc {R : List Nat} {t : Nat} (h : chn c R) (hl : ∀ l, R.getLast? = some l → canF c l t = true) : chn c (R ++ [t]) := fun k x y hx hy => by
  by_cases e : k + 1 < R.length
  · rw [List.getElem?_append_left (by omega)] at hx hy
    exact h k x y hx hy
  · have hlt := (List.getElem?_eq_some_iff.mp hy).1
    rw [List.length_append, List.length_singleton] at hlt
    rw [List.getElem?_append_left (by omega)] at hx
    rw [List.getElem?_append_right (by omega), show k + 1 - R.length = 0 by omega] at hy
    have ey : t = y := Option.some.inj hy
    rw [← ey]
    exact hl x (by rw [List.getLast?_eq_getElem?, show R.length - 1 = k by omega]; exact hx)
theorem r_addTrip (S : Sim Z g c) (j : J Z c) {b t : Nat} (hb : b ∈ bks Z c) (ht : t ∈ tls Z c) (hn : fr c 135 t = none) (hc : ∀ l, (rowB c b).getLast? = some l → canF c l t = true) :
    ∃ g' c', f_X0_addTrip b (some t) g = some g' ∧ Sim Z g' c' ∧ Spd Z 1 100 g g' ∧ J Z c' ∧ Rch Z (fun x => if x = b then rowB c b ++ [t] else rowB c x) (fun x => if x = b then [] else pcs c x) c c' ∧ fr c' 136 t = none := by
  obtain ⟨g1, c1, a1, a2, a3, a4, F⟩ := r_forget S j hb
  obtain ⟨f1, f2, f3, f4, f5, f6, f7, f8, f9⟩ := id F
  have hb1 : b ∈ bks Z c1 := by rw [bks_eq f2.2.2.1]; exact hb
  have ht1 : t ∈ tls Z c1 := by rw [tls_eq f2.1]; exact ht
  have er := F.rw j hb
  obtain ⟨n1, n2, k1, k2⟩ := a4.bz hb1
  have hR := a4.row a2 hb1
  have tt := (j.isT ht).1
  have tt1 : tg c1 t = 9 := by rw [f3]; exact tt
  have hn1 : fr c1 135 t = none := by rw [f7 135 t (by decide) (by decide)]; exact hn
  have h60 : fr c1 136 t = none := by
    rw [f8]
    split
    · rfl
    · cases h : fr c 136 t with
      | none => rfl
      | some p =>
        obtain ⟨_, _, _, k⟩ := j.tok ht
        obtain ⟨_, b', hb'⟩ := k.2.2.2 p h
        rw [hn] at hb'; cases hb'
  obtain ⟨g2, b1, b2, b3, b4⟩ := a2.add (b := rlB c1 b) (x := t) k1.1.1 (k1.z1 a4.gg (by decide)) (k1.z2 a4.gg (by decide)) (by omega) (by omega) (by rw [k1.oc, List.length_map]; have := k1.1.2.2.2; omega)
  have eo : oa c1 (rlB c1 b) ++ [some t] = (rowB c b ++ [t]).map some := by
    rw [k1.oc, List.map_append, ← er]; rfl
  rw [eo] at b2
  obtain ⟨c2, hc2⟩ : ∃ c2, c2 = setR (setO c1 (rlB c1 b) ((rowB c b ++ [t]).map some)) 135 t (some b) := ⟨_, rfl⟩
  have S2 : Sim Z (setR g2 135 t (some b)) c2 := by rw [hc2]; exact b2.wR (by show 2 ≤ tg c1 t; omega)
  have epf : pfR 8 7 (some t) (some b) g2 = some (setR g2 135 t (some b)) := pfR_eq (ci := 8) (b2.tag tt1)
  have eo2 : ∀ a, a ≠ rlB c1 b → oa c2 a = oa c1 a := fun a ha => by rw [hc2, oa_setR, oa_setO, if_neg ha]
  have ef2 : ∀ k x, k ≠ 135 → fr c2 k x = fr c1 k x := fun k x hk => by rw [hc2, fr_setR, if_neg fun z => hk z.1, fr_setO]
  have e35 : ∀ x, fr c2 135 x = if x = t then some b else fr c 135 x := fun x => by
    rw [hc2, fr_setR, fr_setO]
    by_cases h : x = t
    · rw [if_pos h, if_pos ⟨rfl, h⟩]
    · rw [if_neg h, if_neg fun z => h z.2, f7 135 x (by decide) (by decide)]
  have ez : ∀ a k o n, LK c1 a k o n → k ≠ 10 → a ≠ rlB c1 b := fun a k o n h hk => h.ne k1 hk
  have A2 : Ag Z c1 c2 := ⟨fun a _ => by rw [hc2]; rfl, fun k a _ => by rw [hc2]; rfl, fun k a _ h _ _ => ef2 k a h, eo2 _ (ez _ _ _ _ a4.l.1 (by decide)), eo2 _ (ez _ _ _ _ a4.l.2.1 (by decide))⟩
  have s2 : Sl Z c1 c2 := ⟨eo2 _ (ez _ _ _ _ a4.l.2.2.1 (by decide)), eo2 _ (ez _ _ _ _ a4.l.2.2.2.1 (by decide)), eo2 _ (ez _ _ _ _ a4.l.2.2.2.2.1 (by decide)), eo2 _ (ez _ _ _ _ a4.l.2.2.2.2.2 (by decide))⟩
  have hnr : ∀ b' ∈ bks Z c, t ∉ rowB c b' := fun b' hb' z => by rw [(j.rT hb' z).2] at hn; cases hn
  have J2 := j_rows a4 A2 s2 (fun a => by rw [hc2]; rfl) (fun x => if x = b then rowB c b ++ [t] else rowB c x) (fun b' hb' => by
      have hb0 : b' ∈ bks Z c := by rw [← bks_eq f2.2.2.1]; exact hb'
      refine ⟨?_, eo2 _ (ez _ _ _ _ (a4.bz hb').2.2.2 (by decide))⟩
      by_cases e : b' = b
      · rw [if_pos e, hc2, oa_setR, oa_setO, if_pos (by rw [e])]
      · rw [if_neg e, eo2 _ fun z => e ((a4.bz hb').2.2.1.own k1 z), (a4.bz hb').2.2.1.oc, ← F.rw j hb0]; rfl) (fun b' hb' => by
      have hb0 : b' ∈ bks Z c := by rw [← bks_eq f2.2.2.1]; exact hb'
      by_cases e : b' = b
      · right; rw [e]; exact F.pc j hb
      · left; rw [if_neg e]; exact (F.rw j hb0).symm) (fun b' hb' => by
      have hb0 : b' ∈ bks Z c := by rw [← bks_eq f2.2.2.1]; exact hb'
      by_cases e : b' = b
      · rw [if_pos e]
        subst e
        refine ⟨nodup_app (j.rN hb) (List.nodup_cons.mpr ⟨List.not_mem_nil, List.nodup_nil⟩) (fun x hx z => hnr b' hb ((List.mem_singleton.mp z) ▸ hx)), ag_chn f1 (fun x hx => ?_) (chn_snoc (j_rchn j hb) hc), fun x hx => ?_⟩
        · rcases List.mem_append.mp hx with h | h
          · exact j.isT (j.rT hb h).1
          · rw [List.mem_singleton.mp h]; exact j.isT ht
        · rw [tls_eq f2.1, e35]
          rcases List.mem_append.mp hx with h | h
          · rw [if_neg (show ¬ x = t from fun z => hnr b' hb (z ▸ h))]; exact j.rT hb h
          · rw [List.mem_singleton.mp h, if_pos rfl]; exact ⟨ht, rfl⟩
      · rw [if_neg e]
        refine ⟨j.rN hb0, ag_chn f1 (fun x hx => j.isT (j.rT hb0 hx).1) (j_rchn j hb0), fun x hx => ?_⟩
        rw [tls_eq f2.1, e35, if_neg (show ¬ x = t from fun z => hnr b' hb0 (z ▸ hx))]
        exact j.rT hb0 hx) (fun x hx b' hb' => by
      rw [e35] at hb'
      rw [tls_eq f2.1] at hx
      rw [bks_eq f2.2.2.1]
      by_cases e : x = t
      · rw [if_pos e] at hb'
        rw [← Option.some.inj hb', if_pos rfl, e]
        exact ⟨hb, by simp⟩
      · rw [if_neg e] at hb'
        obtain ⟨q1, q2⟩ := j.inB hx hb'
        refine ⟨q1, ?_⟩
        by_cases e2 : b' = b
        · rw [if_pos e2, ← e2]; exact List.mem_append_left _ q2
        · rw [if_neg e2]; exact q2) (fun x => ef2 136 x (by decide)) (fun x hx p hp => by
      rw [e35]
      by_cases e : x = t
      · exact ⟨b, if_pos e⟩
      · rw [if_neg e, ← f7 135 x (by decide) (by decide)]
        obtain ⟨_, _, _, k⟩ := a4.tok hx
        exact (k.2.2.2 p hp).2) (fun x => ef2 85 x (by decide)) (fun d hd => eo2 _ (ez _ _ _ _ (a4.dz hd).2 (by decide)))
  refine ⟨_, c2, ?_, S2, (a3.tr b3).tr (Spd.wR b2 (by show 2 ≤ tg c1 t; omega)), J2.1, ⟨f1.tr A2, f2.tr s2, fun a => by rw [hc2]; exact f3 a, fun b' hb' => ?_, fun x => ?_⟩, by rw [ef2 136 t (by decide)]; exact h60⟩
  · unfold f_X0_addTrip
    rw [S.rc (ci := 1) (j.tb hb), Option.bind_some, a1, Option.bind_some, a4.rBr a2 hb1, Option.bind_some, hR.l a2, Option.bind_some, hR.v a2, Option.bind_some]
    show Option.bind (al_add (rlB c1 b) (some t) g1) _ = _
    rw [b1, Option.bind_some]
    show Option.bind (pfR 8 7 (some t) (some b) g2) _ = _
    rw [epf, Option.bind_some]
  · obtain ⟨q1, q2⟩ := J2.2 b' (by rw [bks_eq f2.2.2.1]; exact hb')
    refine ⟨q1, q2.trans ?_⟩
    show pcs c1 b' = if b' = b then [] else pcs c b'
    by_cases e : b' = b
    · rw [if_pos e, e]; exact F.pc j hb
    · rw [if_neg e]; exact F.pc2 j hb' e
  · rw [ef2 136 x (by decide), f8]
    split
    · exact Or.inl rfl
    · exact Or.inr rfl
end Rows
