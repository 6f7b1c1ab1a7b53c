/-! block, driver: what is made. -/
section Made
variable {Z : Nat → Nat} {g c c' : HP}
theorem q_block (S : Sim Z g c) (j : J Z c) (h8 : (bks Z c).length < 8) {cap : Int32} (h1 : 50 ≤ cap) (h2 : cap ≤ 999) :
    ∃ g' c' B, f_X9_block (Z 0) cap g = some (Int32.ofNat (bks Z c).length, g') ∧ Sim Z g' c' ∧ Spd Z 5 112 g g' ∧ J Z c' ∧ Ag Z c c' ∧ (tls Z c' = tls Z c ∧ bss Z c' = bss Z c ∧ dvs Z c' = dvs Z c ∧ bks Z c' = bks Z c ++ [B]) := by
  obtain ⟨g', c', B, a1, a2, a3, a4, a5, a6, a7, a8, a9, a10, a11, a12, -⟩ := r_newBlock S j h8 cap
  have hB : B ∈ bks Z c' := by rw [a6.2.2.2]; simp
  have e0 : gfI 1 0 (some B) g' = some (Int32.ofNat (bks Z c).length) := by
    rw [a2.rdI (ci := 1) (a4.tb hB) (by decide) (by decide) (by decide) 0]
    exact congrArg some a12
  refine ⟨g', c', B, ?_, a2, a3, a4, a5, a6⟩
  unfold f_X9_block
  rw [nout h1 h2 g, Option.bind_some, if_pos rfl, rM4 S j, Option.bind_some, j.l.2.2.2.2.1.rc S, Option.bind_some, sBL S j, Option.bind_some, if_pos (show Int32.ofNat (bks Z c).length < (8 : Int32) from (nLt (b := 8) (by omega) (by omega)).mpr h8), rMv S j, Option.bind_some, a1, Option.bind_some]
  show Option.bind (gfI 1 0 (some B) g') _ = _
  rw [e0]; rfl
theorem q_driver (S : Sim Z g c) (j : J Z c) (h6 : (dvs Z c).length < 6) :
    ∃ g' c' D, f_X9_driver (Z 0) g = some (Int32.ofNat (dvs Z c).length, g') ∧ Sim Z g' c' ∧ Spd Z 3 106 g g' ∧ J Z c' ∧ Ag Z c c' ∧ (tls Z c' = tls Z c ∧ bss Z c' = bss Z c ∧ bks Z c' = bks Z c ∧ dvs Z c' = dvs Z c ++ [D]) := by
  have kD := j.l.2.2.2.2.2
  have zD1 := kD.z1 j.gg (by decide)
  have zD2 := kD.z2 j.gg (by decide)
  obtain ⟨D, hD⟩ : ∃ D, D = nx g := ⟨_, rfl⟩
  have S1 : Sim Z (newG g 3 3 [] []) (nwC c D 3) := by rw [hD]; exact S.nw (by decide) (by decide)
  have fresh : tg c D = 0 := by rw [hD]; exact S.fresh
  have n1 : nx (newG g 3 3 [] []) = D + 1 := by rw [hD]; rfl
  generalize hg1 : newG g 3 3 [] [] = g1 at S1 n1
  have p1 : Spd Z 1 3 g g1 := by rw [← hg1]; exact Spd.nw S (t := 3)
  have S2 : Sim Z (setT (newG g1 31 3 [] []) (nx g1) 1) (newL (nwC c D 3) (D + 1) 12 D) := by rw [← n1]; exact S1.nl 12 D
  have p2 : Spd Z 1 3 g1 (setT (newG g1 31 3 [] []) (nx g1) 1) := Spd.nl S1
  have a2 := al_init_eq g1
  generalize hg2 : setT (newG g1 31 3 [] []) (nx g1) 1 = g2 at S2 p2 a2
  obtain ⟨c2, hc2⟩ : ∃ c2, c2 = newL (nwC c D 3) (D + 1) 12 D := ⟨_, rfl⟩
  rw [← hc2] at S2
  have t2 : ∀ a, tg c2 a = if a = D + 1 then 1 else if a = D then 3 else tg c a := fun a => by rw [hc2]; rfl
  have tD2 : tg c2 D = 3 := by rw [t2, if_neg (by omega), if_pos rfl]
  have e3 : pfR 2 2 (some D) (some (D + 1)) g2 = some (setR g2 34 D (some (D + 1))) := pfR_eq (ci := 2) (S2.tag tD2)
  have S3 : Sim Z (setR g2 34 D (some (D + 1))) (setR c2 34 D (some (D + 1))) := S2.wR (by rw [tD2]; decide)
  have e4 : pfI 2 0 (some D) (Int32.ofNat (dvs Z c).length) (setR g2 34 D (some (D + 1))) = some (setI (setR g2 34 D (some (D + 1))) 32 D (Int32.ofNat (dvs Z c).length)) := pfI_eq (ci := 2) (S3.tag tD2)
  have S4 : Sim Z (setI (setR g2 34 D (some (D + 1))) 32 D (Int32.ofNat (dvs Z c).length)) (setI (setR c2 34 D (some (D + 1))) 32 D (Int32.ofNat (dvs Z c).length)) := S3.wI
  have p4 : Spd Z 0 0 g2 (setI (setR g2 34 D (some (D + 1))) 32 D (Int32.ofNat (dvs Z c).length)) := (Spd.wR S2 (by rw [tD2]; decide)).tr Spd.wI
  generalize hg4 : setI (setR g2 34 D (some (D + 1))) 32 D (Int32.ofNat (dvs Z c).length) = g4 at S4 p4 e4
  obtain ⟨c4, hc4⟩ : ∃ c4, c4 = setI (setR c2 34 D (some (D + 1))) 32 D (Int32.ofNat (dvs Z c).length) := ⟨_, rfl⟩
  rw [← hc4] at S4
  have new : ∀ x, tg c x ≠ 0 → x ≠ D ∧ x ≠ D + 1 := fun x h => by
    have := S.lt h
    omega
  have t4 : ∀ a, tg c4 a = if a = D + 1 then 1 else if a = D then 3 else tg c a := fun a => by
    have : tg c4 a = tg c2 a := by rw [hc4]; rfl
    rw [this, t2]
  have o4 : ∀ a, oa c4 a = if a = D + 1 then [] else if a = D then [] else oa c a := fun a => by rw [hc4, hc2]; rfl
  have i4 : ∀ k x, x ≠ D → x ≠ D + 1 → fi c4 k x = fi c k x := fun k x q1 q2 => by
    rw [hc4, fi_setI, if_neg fun z => q1 z.2, fi_setR, hc2, fi_newL _ _ _ _ _ _ q2, fi_nwC, if_neg q1]
  have r4 : ∀ k x, x ≠ D → x ≠ D + 1 → fr c4 k x = fr c k x := fun k x q1 q2 => by
    rw [hc4, fr_setI, fr_setR, if_neg fun z => q1 z.2, hc2, fr_newL _ _ _ _ _ _ q2, fr_nwC, if_neg q1]
  have d32 : fi c4 32 D = Int32.ofNat (dvs Z c).length := by rw [hc4, fi_setI, if_pos ⟨rfl, rfl⟩]
  have d33 : fi c4 33 D = 0 := by rw [hc4, fi_setI, if_neg fun z => by have := z.1; omega, fi_setR, hc2, fi_newL _ _ _ _ _ _ (by omega), fi_nwC, if_pos rfl]
  have d34 : fr c4 34 D = some (D + 1) := by rw [hc4, fr_setI, fr_setR, if_pos ⟨rfl, rfl⟩]
  have k4 : LK c4 (D + 1) 12 D 6 := by
    obtain ⟨⟨l1, l2, l3, l4⟩, l5, l6⟩ := lk_newL (nwC c D 3) (D + 1) 12 D 6
    rw [← hc2] at l1 l2 l3 l4 l5 l6
    have er : refs c4 (D + 1) = [] := by unfold refs; rw [o4, if_pos rfl]; rfl
    refine ⟨⟨by rw [t4, if_pos rfl], by rw [o4, if_pos rfl, er]; rfl, (by rw [er]; intro x hx; cases hx), by rw [er]; decide⟩, ?_, ?_⟩
    · rw [hc4, fi_setI, if_neg fun z => by have := z.1; omega, fi_setR]; exact l5
    · rw [hc4, fr_setI, fr_setR, if_neg fun z => by have := z.1; omega]; exact l6
  have nz16 := new (Z 16) (by rw [kD.1.1]; decide)
  have t16 : tg c4 (Z 16) = 1 := by rw [t4, if_neg nz16.2, if_neg nz16.1]; exact kD.1.1
  have o16 : oa c4 (Z 16) = (dvs Z c).map some := by rw [o4, if_neg nz16.2, if_neg nz16.1]; exact kD.oc
  have tD4 : tg c4 D = 3 := by rw [t4, if_neg (by omega), if_pos rfl]
  obtain ⟨g5, a5, S5, p5, -⟩ := S4.add (b := Z 16) (x := D) t16 zD1 zD2 (by rw [tD4]; decide) (by rw [tD4]; decide) (by rw [o16, List.length_map]; omega)
  rw [o16, show (dvs Z c).map some ++ [some D] = (dvs Z c ++ [D]).map some by rw [List.map_append]; rfl] at S5
  obtain ⟨c', hc'⟩ : ∃ c', c' = setO c4 (Z 16) ((dvs Z c ++ [D]).map some) := ⟨_, rfl⟩
  rw [← hc'] at S5
  have ft : ∀ a, tg c' a = tg c4 a := fun a => by rw [hc']; rfl
  have fI : ∀ k a, fi c' k a = fi c4 k a := fun k a => by rw [hc']; rfl
  have fR : ∀ k a, fr c' k a = fr c4 k a := fun k a => by rw [hc']; rfl
  have fO : ∀ a, a ≠ Z 16 → oa c' a = oa c4 a := fun a h => by rw [hc', oa_setO, if_neg h]
  have old1 : ∀ a, tg c a ≠ 0 → tg c' a = tg c a := fun a h => by
    obtain ⟨q1, q2⟩ := new a h
    rw [ft, t4, if_neg q2, if_neg q1]
  have old2 : ∀ k a, tg c a ≠ 0 → fi c' k a = fi c k a := fun k a h => by
    obtain ⟨q1, q2⟩ := new a h
    rw [fI, i4 k a q1 q2]
  have old3 : ∀ k a, tg c a ≠ 0 → fr c' k a = fr c k a := fun k a h => by
    obtain ⟨q1, q2⟩ := new a h
    rw [fR, r4 k a q1 q2]
  have old4 : ∀ a, tg c a ≠ 0 → a ≠ Z 16 → oa c' a = oa c a := fun a h hne => by
    obtain ⟨q1, q2⟩ := new a h
    rw [fO a hne, o4, if_neg q2, if_neg q1]
  have oL : ∀ {a k o n}, LK c a k o n → k ≠ 6 → oa c' a = oa c a := fun h hk => old4 _ (by rw [h.1.1]; decide) (h.ne kD hk)
  have A : Ag Z c c' := ⟨old1, old2, fun k a h _ _ _ => old3 k a h, oL j.l.1 (by decide), oL j.l.2.1 (by decide)⟩
  have e13 : oa c' (Z 13) = oa c (Z 13) := oL j.l.2.2.1 (by decide)
  have e14 : oa c' (Z 14) = oa c (Z 14) := oL j.l.2.2.2.1 (by decide)
  have e15 : oa c' (Z 15) = oa c (Z 15) := oL j.l.2.2.2.2.1 (by decide)
  have e16 : oa c' (Z 16) = (dvs Z c ++ [D]).map some := by rw [hc', oa_setO, if_pos rfl]
  have et : tls Z c' = tls Z c := refs_eq e13
  have es : bss Z c' = bss Z c := refs_eq e14
  have eb : bks Z c' = bks Z c := refs_eq e15
  have ed : dvs Z c' = dvs Z c ++ [D] := refs_of e16
  have hdp : dpA c' D = D + 1 := by unfold dpA; rw [fR, d34]; rfl
  have f16 : D + 1 ≠ Z 16 := fun z => nz16.2 z.symm
  have hdps : dps c' D = [] := by
    unfold dps refs
    rw [hdp, fO _ f16, o4, if_pos rfl]; rfl
  have cgL : LK c' (D + 1) 12 D 6 := by
    obtain ⟨⟨l1, l2, l3, l4⟩, l5, l6⟩ := k4
    have er : refs c' (D + 1) = refs c4 (D + 1) := refs_eq (fO _ f16)
    exact ⟨⟨by rw [ft]; exact l1, by rw [fO _ f16, er]; exact l2, fun x hx => by rw [er] at hx; rw [ft]; exact l3 x hx, by rw [er]; exact l4⟩, by rw [fI]; exact l5, by rw [fR]; exact l6⟩
  have hB : ∀ i b, (bks Z c)[i]? = some b → BOk Z c' i b ∧ rowB c' b = rowB c b ∧ pcs c' b = pcs c b := fun i b hb => by
    have hm := List.mem_of_getElem? hb
    obtain ⟨_, _, k1, k2⟩ := j.bz hm
    refine bok_ag A j hb (oL k1 (by decide)) (oL k2 (by decide)) (fun t ht => by rw [et]; exact ht) (fun t ht => ?_) (fun q hq => ?_)
    · rw [old3 135 t (isT_nz (j.isT (j.rT hm ht).1))]; exact (j.rT hm ht).2
    · have l := j.pk hm hq
      rw [old3 136 _ (isT_nz (j.isT (j.rT hm l.2.2.2.1).1))]; exact l.2.2.2.2.2.2
  have hin : ∀ q, InP Z c q → InP Z c' q := fun q ⟨b, hb, hq⟩ => by
    obtain ⟨k, hk⟩ := mem_at hb
    exact ⟨b, by rw [eb]; exact hb, by rw [(hB k b hk).2.2]; exact hq⟩
  have hDd : ∀ i d, (dvs Z c)[i]? = some d → DOk Z c' i d ∧ dps c' d = dps c d := fun i d hd => by
    have hm := List.mem_of_getElem? hd
    refine dok_ag A j hd (oL (j.dz hm).2 (by decide)) (fun p hp => ?_) (fun p hp => hin p (j_dIn j hm hp))
    rw [old3 85 p (by rw [(j.dp hm hp).1]; decide)]; exact (j.dp hm hp).2.1
  have hNew : DOk Z c' (dvs Z c).length D := by
    refine ⟨⟨by rw [fI]; exact d32, Or.inl (by rw [fI]; exact d33)⟩, ⟨by rw [hdp, fR]; exact d34, by rw [hdp]; exact cgL⟩, ⟨by rw [hdps]; exact List.nodup_nil, fun p hp => ?_⟩, fun p hp => ?_, by rw [hdps]; exact (show (0 : Int32) ≤ 600 by decide)⟩
    · rw [hdps] at hp; cases hp
    · rw [hdps] at hp; cases hp
  have t6 : ∀ a, tg c' a = 6 → tg c a = 6 := fun a h => by
    rw [ft, t4] at h
    split at h
    · omega
    · split at h
      · omega
      · exact h
  have j' : J Z c' := by
    refine j.mk' A ⟨lk_ag A j.l.2.2.1 e13 (by decide), lk_ag A j.l.2.2.2.1 e14 (by decide), lk_ag A j.l.2.2.2.2.1 e15 (by decide), lk_nw kD (old1 _ (by rw [kD.1.1]; decide)) (old2 9 _ (by rw [kD.1.1]; decide)) (old3 9 _ (by rw [kD.1.1]; decide)) e16 (fun b hb => ?_) (by rw [List.length_append, List.length_singleton]; omega)⟩ ⟨by rw [et]; exact j.t.1, fun i t ht => ?_⟩ ⟨by rw [eb]; exact j.b.1, fun i b hb => ?_⟩ ⟨by rw [ed, List.length_append, List.length_singleton]; omega, fun i d hd => ?_⟩ (fun q d' hq h85 => ?_) ?_
    · rcases List.mem_append.mp hb with h | h
      · rw [old1 b (j.dz h).1]; exact j.td h
      · rw [List.mem_singleton.mp h, ft]; exact tD4
    · rw [et] at ht
      have hm := List.mem_of_getElem? ht
      have nz := isT_nz (j.isT hm)
      have k := j.t.2 i t ht
      refine tok_ag A k (fun b hb => ?_) (fun q hq => ?_)
      · rw [old3 135 t nz] at hb
        obtain ⟨k1, k2⟩ := j.inB hm hb
        obtain ⟨n, hn⟩ := mem_at k1
        rw [eb, (hB n b hn).2.1]
        exact ⟨k1, k2⟩
      · rw [old3 136 t nz] at hq
        obtain ⟨q1, q2⟩ := k.2.2.2 q hq
        rw [old3 135 t nz, old1 q (by omega)]
        exact ⟨q1, q2⟩
    · rw [eb] at hb
      exact (hB i b hb).1
    · rw [ed] at hd
      by_cases h : i < (dvs Z c).length
      · rw [List.getElem?_append_left h] at hd
        exact (hDd i d hd).1
      · have hlt := (List.getElem?_eq_some_iff.mp hd).1
        rw [List.length_append, List.length_singleton] at hlt
        have hi : i = (dvs Z c).length := by omega
        rw [List.getElem?_append_right (by omega), hi, Nat.sub_self] at hd
        have e : D = d := Option.some.inj hd
        rw [← e, hi]; exact hNew
    · have hq' := t6 q hq
      rw [old3 85 q (by omega)] at h85
      obtain ⟨k1, k2⟩ := j.q q d' hq' h85
      obtain ⟨n, hn'⟩ := mem_at k1
      rw [ed, (hDd n d' hn').2]
      exact ⟨List.mem_append_left _ k1, k2⟩
    · obtain ⟨s1, s2, s3⟩ := j.s
      unfold JS
      rw [et, es]
      refine ⟨s1, s2, s3.imp_of_mem fun {x y} hx hy h => ?_⟩
      unfold nst at *
      rw [old2 132 x (isT_nz (j.isT (s1 x hx))), old2 132 y (isT_nz (j.isT (s1 y hy)))]
      exact h
  have eDv := sDL S j
  have e10 : gfR 10 5 (some (Z 0)) g1 = some (some (Z 16)) := by
    have nz0 := new (Z 0) (by rw [j.f.1]; decide)
    rw [S1.rdR (ci := 10) (by rw [tg_nwC, if_neg nz0.1]; exact j.f.1) (by decide) (by decide) 5, fr_nwC, if_neg nz0.1]
    exact congrArg some j.f.2.2.2.2.2.2.1
  refine ⟨g5, c', D, ?_, S5, ?_, j', A, et, es, eb, ed⟩
  · unfold f_X9_driver f_X1_init
    rw [rM5 S j, Option.bind_some, kD.rc S, Option.bind_some, eDv, Option.bind_some, if_pos (show Int32.ofNat (dvs Z c).length < (6 : Int32) from (nLt (b := 6) (by omega) (by omega)).mpr h6), Option.bind_some, hg1, ← hD, a2, Option.bind_some, n1, e3, Option.bind_some, e4, Option.bind_some, Option.bind_some]
    show Option.bind (rcv 0 (some (Z 16)) g4) _ = _
    rw [S4.rc (ci := 0) t16, Option.bind_some, a5, Option.bind_some]
  · exact (((p1.tr p2).tr p4).tr p5).up (by omega) (by omega)
end Made
