/-! append and takeOff, as they answer. -/
section Append
variable {Z : Nat → Nat} {g c c' : HP}
theorem bi31 (j : J Z c) {i b : Nat} (h : (bks Z c)[i]? = some b) : i < 8 := by have := (List.getElem?_eq_some_iff.mp h).1; have := j.b.1; omega
theorem ti31 (j : J Z c) {i t : Nat} (h : (tls Z c)[i]? = some t) : i < 16 := by have := (List.getElem?_eq_some_iff.mp h).1; have := j.t.1; omega
theorem q_append (S : Sim Z g c) (j : J Z c) {i k b t : Nat} (hi : (bks Z c)[i]? = some b) (hk : (tls Z c)[k]? = some t) (hn : fr c 135 t = none) (hc : ∀ l, (rowB c b).getLast? = some l → canF c l t = true) :
    ∃ g' c', f_X9_append (Z 0) (Int32.ofNat i) (Int32.ofNat k) g = some (Int32.ofNat ((rowB c b).length + 1), g') ∧ Sim Z g' c' ∧ Spd Z 1 100 g g' ∧ J Z c' ∧ Rch Z (fun x => if x = b then rowB c b ++ [t] else rowB c x) (fun x => if x = b then [] else pcs c x) c c' ∧ fr c' 136 t = none := by
  have hb := List.mem_of_getElem? hi
  have ht := List.mem_of_getElem? hk
  have hR := j.row S hb
  have hT := j.isT ht
  have e7 : gfR 8 7 (some t) g = some none := by rw [S.rdR (ci := 8) hT.1 (by decide) (by decide) 7]; exact congrArg some hn
  obtain ⟨g', c', a1, a2, a3, a4, a5, a6⟩ := r_addTrip S j hb ht hn hc
  have hb' : b ∈ bks Z c' := by rw [bks_eq a5.2.1.2.2.1]; exact hb
  have hR' := a4.row a2 hb'
  have er : rowB c' b = rowB c b ++ [t] := ((a5.2.2.2.1 b hb).1).trans (if_pos rfl)
  refine ⟨g', c', ?_, a2, a3, a4, a5, a6⟩
  have e0 : ((if (rowB c b).getLast? = none then some (some t) else (rcv 8 (some t) g).bind fun b9 => (f_X7_canFollow b9 ((rowB c b).getLast?) g).bind fun x10 => (if x10 = 0 then none else some (some b9)))) = some (some t) := by
    cases hl : (rowB c b).getLast? with
    | none => rw [if_pos rfl]
    | some l =>
      have hlm : l ∈ rowB c b := List.mem_of_getLast? hl
      rw [if_neg sn, S.rc (ci := 8) hT.1, Option.bind_some, r_canFollow S hT (j.isT (j.rT hb hlm).1), Option.bind_some, hc l hl, if_neg (by decide)]
  unfold f_X9_append
  rw [rMv S j, Option.bind_some, j_blockNumbered S j (by have := bi31 j hi; omega), Option.bind_some, Option.bind_some, j_tripNumbered S j (by have := ti31 j hk; omega), Option.bind_some, hi, hk, if_neg sn, if_neg sn, j.rBr S hb, Option.bind_some, S.rc (ci := 7) hR.1, Option.bind_some, r_rlast S hR, Option.bind_some, e7, Option.bind_some, if_pos rfl, e0, Option.bind_some, S.rc (ci := 1) (j.tb hb), Option.bind_some, a1, Option.bind_some, a4.rBr a2 hb', Option.bind_some, a2.rc (ci := 7) hR'.1, Option.bind_some, r_count a2 hR', Option.bind_some, er, List.length_append]
  rfl
theorem mem_dropLast {R : List Nat} (hn : R.Nodup) {l x : Nat} (hl : R.getLast? = some l) : x ∈ R.dropLast ↔ x ∈ R ∧ x ≠ l := by
  have e : R = R.dropLast ++ [l] := by
    have h1 : R ≠ [] := fun z => by rw [z] at hl; cases hl
    have := List.dropLast_concat_getLast h1
    rw [List.getLast?_eq_some_getLast h1] at hl
    rw [Option.some.inj hl] at this
    exact this.symm
  have hn2 : (R.dropLast ++ [l]).Nodup := by rw [← e]; exact hn
  constructor
  · intro h
    refine ⟨by rw [e]; exact List.mem_append_left _ h, fun z => ?_⟩
    exact (List.nodup_append.mp hn2).2.2 x h l (by simp) z
  · rintro ⟨h1, h2⟩
    rw [e] at h1
    rcases List.mem_append.mp h1 with h | h
    · exact h
    · exact absurd (List.mem_singleton.mp h) h2
theorem chn_sub {R : List Nat} (h : chn c R) : chn c R.dropLast := fun k x y hx hy => by
  have h1 : ∀ i z, R.dropLast[i]? = some z → R[i]? = some z := fun i z hz => by
    rw [List.getElem?_dropLast] at hz
    split at hz
    · exact hz
    · cases hz
  exact h k x y (h1 _ _ hx) (h1 _ _ hy)
theorem q_takeOff (S : Sim Z g c) (j : J Z c) {i b l : Nat} (hi : (bks Z c)[i]? = some b) (hl : (rowB c b).getLast? = some l) :
    ∃ g' c', f_X9_takeOff (Z 0) (Int32.ofNat i) g = some (fi c 128 l, g') ∧ Sim Z g' c' ∧ Spd Z 0 0 g g' ∧ J Z c' ∧ Rch Z (fun x => if x = b then (rowB c b).dropLast else rowB c x) (fun x => if x = b then [] else pcs c x) c c' := by
  have hb := List.mem_of_getElem? hi
  have hlm : l ∈ rowB c b := List.mem_of_getLast? hl
  have ht := (j.rT hb hlm).1
  have hR := j.row S hb
  obtain ⟨g1, c1, a1, a2, a3, a4, F⟩ := r_forget S j hb
  obtain ⟨f1, f2, f3, f4, f5, f6, f7, f8, f9⟩ := id F
  have hb1 : b ∈ bks Z c1 := by rw [bks_eq f2.2.2.1]; exact hb
  have er := F.rw j hb
  obtain ⟨n1, n2, k1, k2⟩ := a4.bz hb1
  have hR1 := a4.row a2 hb1
  have tt := (j.isT ht).1
  have tt1 : tg c1 l = 9 := by rw [f3]; exact tt
  have hlen : 0 < (rowB c b).length := List.length_pos_of_mem hlm
  have h40 := j.rlen hb
  have eo1 : oa g1 (rlB c1 b) = (rowB c b).map some := by rw [k1.oag a2 a4.gg (by decide) (by decide), ← er]; rfl
  have edl : ((rowB c b).map some).eraseIdx ((rowB c b).length - 1) = (rowB c b).dropLast.map some := by
    rw [map_eidx, List.eraseIdx_eq_dropLast (by omega)]
  have S2 : Sim Z (setO g1 (rlB c1 b) ((rowB c b).dropLast.map some)) (setO c1 (rlB c1 b) ((rowB c b).dropLast.map some)) := a2.wO (k1.z1 a4.gg (by decide)) (k1.z2 a4.gg (by decide))
  obtain ⟨c2, hc2⟩ : ∃ c2, c2 = setR (setO c1 (rlB c1 b) ((rowB c b).dropLast.map some)) 135 l none := ⟨_, rfl⟩
  have S3 : Sim Z (setR (setO g1 (rlB c1 b) ((rowB c b).dropLast.map some)) 135 l none) c2 := by rw [hc2]; exact S2.wR (by show 2 ≤ tg c1 l; omega)
  have epf : pfR 8 7 (some l) none (setO g1 (rlB c1 b) ((rowB c b).dropLast.map some)) = some (setR (setO g1 (rlB c1 b) ((rowB c b).dropLast.map some)) 135 l none) := pfR_eq (ci := 8) (S2.tag tt1)
  have eal : al_remove (rlB c1 b) (Int32.ofNat (rowB c b).length - 1) g1 = some (((rowB c b).map some).getD ((rowB c b).length - 1) none, setO g1 (rlB c1 b) ((rowB c b).dropLast.map some)) := by
    unfold al_remove
    rw [show Int32.ofNat (rowB c b).length - 1 = Int32.ofNat ((rowB c b).length - 1) from nSub (b := 1) (by omega), eo1, nN (by omega), if_pos ⟨a2.tag (n := 0) k1.1.1, n0 (by omega), by rw [List.length_map]; omega⟩, edl]
  have eo2 : ∀ a, a ≠ rlB c1 b → oa c2 a = oa c1 a := fun a ha => by rw [hc2, oa_setR, oa_setO, if_neg ha]
  have ef2 : ∀ k x, k ≠ 135 → fr c2 k x = fr c1 k x := fun k x hk => by rw [hc2, fr_setR, if_neg fun z => hk z.1, fr_setO]
  have e35 : ∀ x, fr c2 135 x = if x = l then none else fr c 135 x := fun x => by
    rw [hc2, fr_setR, fr_setO]
    by_cases h : x = l
    · rw [if_pos h, if_pos ⟨rfl, h⟩]
    · rw [if_neg h, if_neg fun z => h z.2, f7 135 x (by decide) (by decide)]
  have ez : ∀ a k o n, LK c1 a k o n → k ≠ 10 → a ≠ rlB c1 b := fun a k o n h hk => h.ne k1 hk
  have A2 : Ag Z c1 c2 := ⟨fun a _ => by rw [hc2]; rfl, fun k a _ => by rw [hc2]; rfl, fun k a _ h _ _ => ef2 k a h, eo2 _ (ez _ _ _ _ a4.l.1 (by decide)), eo2 _ (ez _ _ _ _ a4.l.2.1 (by decide))⟩
  have s2 : Sl Z c1 c2 := ⟨eo2 _ (ez _ _ _ _ a4.l.2.2.1 (by decide)), eo2 _ (ez _ _ _ _ a4.l.2.2.2.1 (by decide)), eo2 _ (ez _ _ _ _ a4.l.2.2.2.2.1 (by decide)), eo2 _ (ez _ _ _ _ a4.l.2.2.2.2.2 (by decide))⟩
  have hnr : ∀ b' ∈ bks Z c, b' ≠ b → l ∉ rowB c b' := fun b' hb' hne z => by
    have e1 := (j.rT hb' z).2
    rw [(j.rT hb hlm).2] at e1
    exact hne (Option.some.inj e1).symm
  have J2 := j_rows a4 A2 s2 (fun a => by rw [hc2]; rfl) (fun x => if x = b then (rowB c b).dropLast else rowB c x) (fun b' hb' => by
      have hb0 : b' ∈ bks Z c := by rw [← bks_eq f2.2.2.1]; exact hb'
      refine ⟨?_, eo2 _ (ez _ _ _ _ (a4.bz hb').2.2.2 (by decide))⟩
      by_cases e : b' = b
      · rw [if_pos e, hc2, oa_setR, oa_setO, if_pos (by rw [e])]
      · rw [if_neg e, eo2 _ fun z => e ((a4.bz hb').2.2.1.own k1 z), (a4.bz hb').2.2.1.oc, ← F.rw j hb0]; rfl) (fun b' hb' => by
      have hb0 : b' ∈ bks Z c := by rw [← bks_eq f2.2.2.1]; exact hb'
      by_cases e : b' = b
      · right; rw [e]; exact F.pc j hb
      · left; rw [if_neg e]; exact (F.rw j hb0).symm) (fun b' hb' => by
      have hb0 : b' ∈ bks Z c := by rw [← bks_eq f2.2.2.1]; exact hb'
      by_cases e : b' = b
      · rw [if_pos e]
        subst e
        refine ⟨(List.dropLast_sublist _).nodup (j.rN hb), ag_chn f1 (fun x hx => j.isT (j.rT hb ((mem_dropLast (j.rN hb) hl).mp hx).1).1) (chn_sub (j_rchn j hb)), fun x hx => ?_⟩
        obtain ⟨h1, h2⟩ := (mem_dropLast (j.rN hb) hl).mp hx
        rw [tls_eq f2.1, e35, if_neg h2]; exact j.rT hb h1
      · rw [if_neg e]
        refine ⟨j.rN hb0, ag_chn f1 (fun x hx => j.isT (j.rT hb0 hx).1) (j_rchn j hb0), fun x hx => ?_⟩
        rw [tls_eq f2.1, e35, if_neg (show ¬ x = l from fun z => hnr b' hb0 e (z ▸ hx))]
        exact j.rT hb0 hx) (fun x hx b' hb' => by
      rw [e35] at hb'
      rw [tls_eq f2.1] at hx
      rw [bks_eq f2.2.2.1]
      by_cases e : x = l
      · rw [if_pos e] at hb'; cases hb'
      · rw [if_neg e] at hb'
        obtain ⟨q1, q2⟩ := j.inB hx hb'
        refine ⟨q1, ?_⟩
        by_cases e2 : b' = b
        · rw [if_pos e2]; rw [e2] at q2; exact (mem_dropLast (j.rN hb) hl).mpr ⟨q2, e⟩
        · rw [if_neg e2]; exact q2) (fun x => ef2 136 x (by decide)) (fun x hx p hp => by
      rw [e35]
      by_cases e : x = l
      · rw [e, f8, if_pos hlm] at hp; cases hp
      · rw [if_neg e, ← f7 135 x (by decide) (by decide)]
        obtain ⟨_, _, _, k⟩ := a4.tok hx
        exact (k.2.2.2 p hp).2) (fun x => ef2 85 x (by decide)) (fun d hd => eo2 _ (ez _ _ _ _ (a4.dz hd).2 (by decide)))
  have e0 : gfI 8 0 (some l) (setR (setO g1 (rlB c1 b) ((rowB c b).dropLast.map some)) 135 l none) = some (fi c 128 l) := by
    rw [S3.rdT (by rw [hc2]; exact tt1) 0 rfl]
    refine congrArg some ?_
    rw [hc2]
    exact f1.2.1 128 l (by omega)
  refine ⟨_, c2, ?_, S3, (a3.tr (Spd.wO (a2.tag (n := 0) k1.1.1))).tr (Spd.wR S2 (by show 2 ≤ tg c1 l; omega)), J2.1, ⟨f1.tr A2, f2.tr s2, fun a => by rw [hc2]; exact f3 a, fun b' hb' => ?_, fun x => ?_⟩⟩
  · unfold f_X9_takeOff f_X0_removeLastTrip
    rw [rMv S j, Option.bind_some, j_blockNumbered S j (by have := bi31 j hi; omega), Option.bind_some, hi, if_neg sn, S.rc (ci := 1) (j.tb hb), Option.bind_some, j.rBr S hb, Option.bind_some, S.rc (ci := 7) hR.1, Option.bind_some, r_rlast S hR, Option.bind_some, hl, if_neg sn, S.rc (ci := 1) (j.tb hb), Option.bind_some, a1, Option.bind_some, a4.rBr a2 hb1, Option.bind_some, hR1.l a2, Option.bind_some]
    rw [er] at hR1
    rw [Option.bind_some, a2.rc (ci := 7) hR1.1, Option.bind_some, r_count a2 hR1, Option.bind_some, hR1.v a2, Option.bind_some]
    show (Option.bind (al_remove (rlB c1 b) (Int32.ofNat (rowB c b).length - 1) g1) _).bind _ = _
    rw [eal, Option.bind_some]
    show (Option.bind (pfR 8 7 (some l) none (setO g1 (rlB c1 b) ((rowB c b).dropLast.map some))) _).bind _ = _
    rw [epf, Option.bind_some, Option.bind_some]
    show (if (some l) = none then none else Option.bind (gfI 8 0 (some l) _) _) = _
    rw [if_neg sn, e0]
    rfl
  · obtain ⟨q1, q2⟩ := J2.2 b' (by rw [bks_eq f2.2.2.1]; exact hb')
    refine ⟨q1, q2.trans ?_⟩
    show pcs c1 b' = if b' = b then [] else pcs c b'
    by_cases e : b' = b
    · rw [if_pos e, e]; exact F.pc j hb
    · rw [if_neg e]; exact F.pc2 j hb' e
  · rw [ef2 136 x (by decide), f8]
    split
    · exact Or.inl rfl
    · exact Or.inr rfl
end Append
