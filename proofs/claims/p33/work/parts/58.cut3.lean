/-! All pieces are laid. -/
theorem desc_all {v : HP} {R : List Nat} {r : Nat} : ∀ {E P : List Nat} {i : Nat}, Desc v R r i E P → P.length = E.length ∧ ∀ p ∈ P, ∃ k e, PcF v R r k e p
  | [], [], _, _ => ⟨rfl, fun p h => (by cases h)⟩
  | [], _ :: _, _, h => h.elim
  | _ :: _, [], _, h => h.elim
  | e :: es, p :: ps, i, h => by
    obtain ⟨h1, h2⟩ := desc_all h.2
    refine ⟨by rw [List.length_cons, List.length_cons, h1], fun q hq => ?_⟩
    rcases List.mem_cons.mp hq with rfl | hq
    · exact ⟨i, e, h.1⟩
    · exact h2 q hq
section Cut3
variable {Z : Nat → Nat} {g c v : HP}
theorem ct_loop (j : J Z c) {b : Nat} (hb : b ∈ bks Z c) {EE : List Nat} (hEE : EE.length ≤ 16) : ∀ (es E P : List Nat) (m i : Nat) (w v : HP), EE = E ++ es → es.length < m → Sim Z w v → (ia w (Z 3)).take EE.length = EE.map Int32.ofNat → Plan c (rowB c b) i es → Md Z b c v (rowB c b) i P → Desc v (rowB c b) (rwA c b) 0 E P → endI 0 E = i →
    ∃ w' v' P', f_X0_cutAt_L9 b (some (Z 3)) (Int32.ofNat EE.length) m (Int32.ofNat i) (Int32.ofNat E.length) w = some w' ∧ Sim Z w' v' ∧ Spd Z (2 * es.length) (106 * es.length) w w' ∧ Md Z b c v' (rowB c b) (rowB c b).length P' ∧ Desc v' (rowB c b) (rwA c b) 0 EE P' := by
  intro es
  induction es with
  | nil =>
    intro E P m i w v hE hm S hA hP M D hi
    obtain ⟨m, rfl⟩ : ∃ k, m = k + 1 := ⟨m - 1, by omega⟩
    rw [List.append_nil] at hE
    have hPi : i = (rowB c b).length := hP
    rw [f_X0_cutAt_L9, hE, if_pos (Int32.le_refl _)]
    exact ⟨w, v, P, rfl, S, Spd.rf, by rw [← hPi]; exact M, D⟩
  | cons e es ih =>
    intro E P m i w v hE hm S hA hP M D hi
    obtain ⟨m, rfl⟩ : ∃ k, m = k + 1 := ⟨m - 1, by omega⟩
    have hlE : EE.length = E.length + (es.length + 1) := by rw [hE, List.length_append, List.length_cons]
    have hPl := (desc_all D).1
    obtain ⟨he, hP2⟩ := hP
    have hAt : (ia w (Z 3)).getD E.length 0 = Int32.ofNat e := by
      have h1 : ((ia w (Z 3)).take EE.length)[E.length]? = some (Int32.ofNat e) := by
        rw [hA, List.getElem?_map, hE, List.getElem?_append_right (Nat.le_refl _), Nat.sub_self]; rfl
      rw [List.getElem?_take, if_pos (by omega)] at h1
      rw [List.getD_eq_getElem?_getD, h1]; rfl
    have tb : tg v b = 2 := (M.1.1.1 b (j.bz hb).1).trans (j.tb hb)
    obtain ⟨w1, v1, p, a1, S1, a3, a4, a5, a6⟩ := r_addPiece S j hb (by omega) M D hi he
    have hAt1 : (ia w1 (Z 3)).getD E.length 0 = Int32.ofNat e := by rw [a4]; exact hAt
    obtain ⟨w', v', P', k1, k2, k3, k4, k5⟩ := ih (E ++ [e]) (P ++ [p]) m (e + 1) w1 v1 (by rw [hE, List.append_assoc]; rfl) (by rw [List.length_cons] at hm; omega) S1 (by rw [a4]; exact hA) hP2 a5 a6 (endI_app E 0 e)
    refine ⟨w', v', P', ?_, k2, (a3.tr k3).up (by rw [List.length_cons]; omega) (by rw [List.length_cons]; omega), k4, k5⟩
    rw [f_X0_cutAt_L9, if_neg (fun z => by have := (nLe (a := EE.length) (b := E.length) (by omega) (by omega)).mp z; omega), r_ln3 S, Option.bind_some, if_neg (fun z => by have := (nLe (a := 16) (b := E.length) (by omega) (by omega)).mp z; omega), r_ld3 S (by omega), Option.bind_some, hAt, S.rc (ci := 1) tb, Option.bind_some, a1, Option.bind_some, r_ld3 S1 (by omega), Option.bind_some, hAt1, show Int32.ofNat e + 1 = Int32.ofNat (e + 1) from nAdd e 1, show Int32.ofNat E.length + 1 = Int32.ofNat (E ++ [e]).length by rw [List.length_append]; exact nAdd E.length 1]
    exact k1
theorem j_cut (j : J Z c) {b : Nat} (hb : b ∈ bks Z c) (h0 : pcs c b = []) {EE P : List Nat} (hEE : EE.length ≤ 16) (hPl : Plan c (rowB c b) 0 EE) (M : Md Z b c v (rowB c b) (rowB c b).length P) (D : Desc v (rowB c b) (rwA c b) 0 EE P) :
    J Z v ∧ ∀ b' ∈ bks Z c, rowB v b' = rowB c b' ∧ pcs v b' = if b' = b then P else pcs c b' := by
  obtain ⟨⟨A, s⟩, m2, m3, m4, m5, m6, m7, m8, m9⟩ := M
  rw [List.take_length] at m6 m7
  have hR : ∀ t ∈ rowB c b, IsT c t := fun t ht => j.isT (j.rT hb ht).1
  have et : tls Z v = tls Z c := tls_eq s.1
  have eb : bks Z v = bks Z c := bks_eq s.2.2.1
  have ed : dvs Z v = dvs Z c := dvs_eq s.2.2.2
  have far : ∀ {b' : Nat}, b' ∈ bks Z c → b' ≠ b → ∀ t ∈ rowB c b', t ∉ rowB c b := fun hb' hne t ht h => by
    have e1 := (j.rT hb' ht).2
    rw [(j.rT hb h).2] at e1
    exact hne (Option.some.inj e1).symm
  obtain ⟨d1, d2⟩ := desc_all D
  have hB : ∀ i b', (bks Z c)[i]? = some b' → BOk Z v i b' ∧ rowB v b' = rowB c b' ∧ pcs v b' = if b' = b then P else pcs c b' := fun i b' hb' => by
    have hm := List.mem_of_getElem? hb'
    obtain ⟨_, _, k1, k2⟩ := j.bz hm
    obtain ⟨_, _, k1b, k2b⟩ := j.bz hb
    have ho : oa v (rlB c b') = oa c (rlB c b') := m2 _ k1.1.1 (k1.ne k2b (by decide))
    by_cases e : b' = b
    · rw [if_pos e]
      subst e
      refine bok_nw A j hb' (R := rowB c b') (P := P) (ho.trans k1.oc) m3 ⟨k1.1.2.2.2, by omega⟩ ⟨j.rN hb, fun t ht => ⟨(j.rT hb ht).1, by rw [et]; exact (j.rT hb ht).1, ?_⟩, j_rchn j hb⟩ ⟨m8, fun p hp => ?_, Or.inr ?_⟩
      · rw [m5 135 t (isT_nz (hR t ht)) (by decide)]; exact (j.rT hb ht).2
      · obtain ⟨k, e, q0, q1, q2, q3, f, z, q4, q5, q6, q7, q8⟩ := d2 p hp
        have ef : pfA v p = f := by unfold pfA; rw [q6]; rfl
        have ez : pzA v p = z := by unfold pzA; rw [q7]; rfl
        rw [ef, ez]
        exact ⟨q1, q2, q6, List.mem_of_getElem? q4, q7, List.mem_of_getElem? q5, q8⟩
      · exact desc_cuts (fun t ht => ag_isT A (hR t ht)) D (plan_ag A hR hPl)
    · rw [if_neg e]
      refine bok_ag A j hb' ho (m2 _ k2.1.1 fun z => e (k2.own k2b z)) (fun t ht => by rw [et]; exact ht) (fun t ht => ?_) (fun q hq => ?_)
      · have := j.isT (j.rT hm ht).1
        rw [m5 135 t (isT_nz this) (by decide)]; exact (j.rT hm ht).2
      · obtain ⟨l1, l2, l3, l4, l5, l6, l7⟩ := j.pk hm hq
        rw [m6 _ (isT_nz (j.isT (j.rT hm l4).1)) (far hm e _ l4)]; exact l7
  have hin : ∀ q, InP Z c q → InP Z v q := fun q ⟨b', hb', hq⟩ => by
    obtain ⟨k, hk⟩ := mem_at hb'
    refine ⟨b', by rw [eb]; exact hb', ?_⟩
    rw [(hB k b' hk).2.2, if_neg fun e => ?_]
    · exact hq
    · rw [e, h0] at hq; cases hq
  have hDd : ∀ i d, (dvs Z c)[i]? = some d → DOk Z v i d ∧ dps v d = dps c d := fun i d hd => by
    have hm := List.mem_of_getElem? hd
    obtain ⟨n1, kD⟩ := j.dz hm
    refine dok_ag A j hd (m2 _ kD.1.1 (kD.ne (j.bz hb).2.2.2 (by decide))) (fun p hp => ?_) (fun p hp => hin p (j_dIn j hm hp))
    rw [m5 85 p (by rw [(j.dp hm hp).1]; decide) (by decide)]; exact (j.dp hm hp).2.1
  refine ⟨j.mk' A (s.lk A j) ⟨by rw [et]; exact j.t.1, fun i t ht => ?_⟩ ⟨by rw [eb]; exact j.b.1, fun i b hb => ?_⟩ ⟨by rw [ed]; exact j.d.1, fun i d hd => ?_⟩ (fun q d' hq h85 => ?_) (JS.ag A j s), fun b' hb' => ?_⟩
  · rw [et] at ht
    have hm := List.mem_of_getElem? ht
    have nz := isT_nz (j.isT hm)
    have k := j.t.2 i t ht
    refine tok_ag A k (fun b' hb' => ?_) (fun q hq => ?_)
    · rw [m5 135 t nz (by decide)] at hb'
      obtain ⟨k1, k2⟩ := j.inB hm hb'
      obtain ⟨n, hn⟩ := mem_at k1
      rw [eb, (hB n b' hn).2.1]
      exact ⟨k1, k2⟩
    · rw [m5 135 t nz (by decide)]
      by_cases h : t ∈ rowB c b
      · obtain ⟨p, p1, p2⟩ := m7 t h
        rw [p2] at hq
        rw [← Option.some.inj hq]
        exact ⟨(m9 p p1).2.1, b, (j.rT hb h).2⟩
      · rw [m6 t nz h] at hq
        obtain ⟨q1, q2⟩ := k.2.2.2 q hq
        rw [A.1 q (by omega)]
        exact ⟨q1, q2⟩
  · rw [eb] at hb
    exact (hB i b hb).1
  · rw [ed] at hd
    exact (hDd i d hd).1
  · rcases m4 q (by omega) with h | h
    · rw [A.1 q h] at hq
      rw [m5 85 q h (by decide)] at h85
      obtain ⟨k1, k2⟩ := j.q q d' hq h85
      obtain ⟨n, hn'⟩ := mem_at k1
      rw [ed, (hDd n d' hn').2]
      exact ⟨k1, k2⟩
    · rw [(m9 q h).2.2] at h85; cases h85
  · obtain ⟨n, hn⟩ := mem_at hb'
    exact (hB n b' hn).2
/-- what a change of pieces leaves -/
def Pch (Z : Nat → Nat) (R P : Nat → List Nat) (c c' : HP) : Prop := Ag Z c c' ∧ Sl Z c c' ∧ ∀ b ∈ bks Z c, rowB c' b = R b ∧ pcs c' b = P b
theorem q_cut (S : Sim Z g c) (j : J Z c) {i b : Nat} (hi : (bks Z c)[i]? = some b) :
    (∃ n g1, f_X8_planPieces (Z 10) (some (rwA c b)) (some (Z 3)) g = some (n, g1) ∧ Sim Z g1 c ∧ Spd Z 0 0 g g1 ∧ n = 0) ∨
    ∃ g' c' P, f_X9_cut (Z 0) (Int32.ofNat i) g = some (Int32.ofNat P.length, g') ∧ Sim Z g' c' ∧ Spd Z 32 1696 g g' ∧ J Z c' ∧ Pch Z (rowB c) (fun x => if x = b then P else pcs c x) c c' ∧ P ≠ [] ∧ P.length ≤ 16 ∧ ∀ p ∈ P, fr c' 85 p = none := by
  have hb := List.mem_of_getElem? hi
  have l16 := j.rlen hb
  have hR := j.row S hb
  obtain ⟨n, g1, a1, S1, a3, a4, a5⟩ := r_plan S j hR l16
  by_cases hn : n = 0
  · exact Or.inl ⟨n, g1, a1, S1, a3, hn⟩
  · right
    obtain ⟨EE, e1, e2, e3, e4, e5⟩ := a5.resolve_left hn
    obtain ⟨g2, c2, b1, S2, b3, j2, F⟩ := r_forget S1 j hb
    obtain ⟨f1, f2, f3, f4, f5, f6, f7, f8, f9⟩ := id F
    have hb2 : b ∈ bks Z c2 := by rw [bks_eq f2.2.2.1]; exact hb
    have er : rowB c2 b = rowB c b := F.rw j hb
    have ep : pcs c2 b = [] := F.pc j hb
    have hIa : ia g2 = ia g1 := ia_forget b1
    have hPl : Plan c2 (rowB c2 b) 0 EE := by rw [er]; exact plan_ag f1 (fun t ht => j.isT (j.rT hb ht).1) e4
    have M0 : Md Z b c2 c2 (rowB c2 b) 0 [] := by
      refine ⟨⟨Ag.rf, Sl.rf⟩, fun _ _ _ => rfl, ?_, fun a h => Or.inl h, fun _ _ _ _ => rfl, fun _ _ _ => rfl, fun x h => ?_, List.nodup_nil, fun q h => (by cases h)⟩
      · rw [(j2.bz hb2).2.2.2.oc]
        have h' : refs c2 (plB c2 b) = [] := ep
        rw [h']
      · rw [List.take_zero] at h; cases h
    obtain ⟨g3, v3, P, k1, S3, k3, k4, k5⟩ := ct_loop j2 hb2 e3 EE [] [] FU 0 g2 c2 rfl (by show _ < 4096; omega) S2 (by rw [hIa]; exact e5) hPl M0 trivial rfl
    obtain ⟨j3, j4⟩ := j_cut j2 hb2 ep e3 hPl k4 k5
    have hl := (desc_all k5).1
    have e12 : gfR 10 12 (some (Z 0)) g1 = some (some (Z 3)) := rM12 S1 j
    refine ⟨g3, v3, P, ?_, S3, ((a3.tr b3).tr k3).up (by omega) (by omega), j3, ⟨f1.tr k4.1.1, f2.tr k4.1.2, fun b' hb' => ?_⟩, fun z => ?_, by omega, fun p hp => (k4.2.2.2.2.2.2.2.2 p hp).2.2⟩
    · have k1' : f_X0_cutAt_L9 b (some (Z 3)) (Int32.ofNat EE.length) FU 0 0 g2 = some g3 := k1
      have hi8 := bi31 j hi
      unfold f_X9_cut f_X0_cutAt
      rw [rMv S j, Option.bind_some, j_blockNumbered S j (by omega), Option.bind_some, hi, if_neg sn, rM7 S j, Option.bind_some, j.rBr S hb, Option.bind_some, rM12 S j, Option.bind_some, S.rc (ci := 9) j.gg.2.2.2.2.2.2.2.2.1, Option.bind_some, a1, Option.bind_some, if_neg hn]
      show Option.bind (gfR 10 12 (some (Z 0)) g1) _ = _
      rw [e12, Option.bind_some, S1.rc (ci := 1) (j.tb hb), Option.bind_some]
      show (((rcv 1 (some b) g1).bind fun b1 => (f_X0_forgetPieces b1 g1).bind fun g2 => (f_X0_cutAt_L9 b (some (Z 3)) n FU 0 0 g2).bind fun q8 => some q8)).bind (fun g10 => some (n, g10)) = _
      rw [S1.rc (ci := 1) (j.tb hb), Option.bind_some, b1, Option.bind_some, e2, k1', Option.bind_some, hl]
      rfl
    · obtain ⟨q1, q2⟩ := j4 b' (by rw [bks_eq f2.2.2.1]; exact hb')
      refine ⟨q1.trans (F.rw j hb'), q2.trans ?_⟩
      show _ = if b' = b then P else pcs c b'
      by_cases e : b' = b
      · rw [if_pos e, if_pos e]
      · rw [if_neg e, if_neg e]; exact F.pc2 j hb' e
    · rw [z] at hl
      exact e1 (List.eq_nil_of_length_eq_zero hl.symm)
end Cut3
