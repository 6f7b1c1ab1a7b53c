/-! swap, as it answers. -/
theorem chn_take {c : HP} {R : List Nat} {s : Nat} (h : chn c R) : chn c (R.take s) := fun k x y hx hy => by
  have h1 : ∀ i z, (R.take s)[i]? = some z → R[i]? = some z := fun i z hz => by
    rw [List.getElem?_take] at hz
    split at hz
    · exact hz
    · cases hz
  exact h k x y (h1 _ _ hx) (h1 _ _ hy)
theorem chn_drop {c : HP} {R : List Nat} {s : Nat} (h : chn c R) : chn c (R.drop s) := fun k x y hx hy => by
  rw [List.getElem?_drop] at hx hy
  exact h (s + k) x y hx (by rw [← hy]; congr 1)
theorem chn_app {c : HP} {R Q : List Nat} (h1 : chn c R) (h2 : chn c Q) (h : ∀ l f, R.getLast? = some l → Q[0]? = some f → canF c l f = true) : chn c (R ++ Q) := fun k x y hx hy => by
  by_cases e : k + 1 < R.length
  · rw [List.getElem?_append_left (by omega)] at hx hy
    exact h1 k x y hx hy
  · by_cases e2 : k < R.length
    · rw [List.getElem?_append_left (by omega)] at hx
      rw [List.getElem?_append_right (by omega), show k + 1 - R.length = 0 by omega] at hy
      exact h x y (by rw [List.getLast?_eq_getElem?, show R.length - 1 = k by omega]; exact hx) hy
    · rw [List.getElem?_append_right (by omega)] at hx hy
      exact h2 (k - R.length) x y hx (by rw [← hy]; congr 1; omega)
theorem take_last {A : List Nat} {s l : Nat} (hs : s ≤ A.length) (h : (A.take s).getLast? = some l) : prv A s = some l := by
  have h0 : 0 < (A.take s).length := by
    have := List.mem_of_getLast? h
    exact List.length_pos_of_mem this
  rw [List.length_take] at h0
  rw [List.getLast?_eq_getElem?, List.length_take, Nat.min_eq_left hs, List.getElem?_take, if_pos (by omega)] at h
  unfold prv
  rw [if_neg (by omega)]
  exact h
theorem cj_chn {c : HP} {A B : List Nat} {s o : Nat} (hA : chn c A) (hB : chn c B) (hs : s ≤ A.length) (h : cjV c A s B o = true) : chn c (A.take s ++ B.drop o) := by
  refine chn_app (chn_take hA) (chn_drop hB) fun l f h1 h2 => ?_
  rw [List.getElem?_drop, Nat.add_zero] at h2
  unfold cjV at h
  rw [take_last hs h1, h2] at h
  exact h
theorem mem_td {A : List Nat} {s t : Nat} : t ∈ A ↔ t ∈ A.take s ∨ t ∈ A.drop s := by
  rw [← List.mem_append, List.take_append_drop]
section Swap
variable {Z : Nat → Nat} {g c c' : HP}
theorem bks_ne (j : J Z c) {i k x y : Nat} (hx : (bks Z c)[i]? = some x) (hy : (bks Z c)[k]? = some y) (hik : i ≠ k) : x ≠ y := fun z => by
  have h1 := bi31 j hx
  have h2 := bi31 j hy
  obtain ⟨q1, _⟩ := (j.b.2 i x hx).1
  obtain ⟨q2, _⟩ := (j.b.2 k y hy).1
  rw [z, q2] at q1
  exact hik ((nEq (by omega) (by omega)).mp q1).symm
def swR (c : HP) (x y s o : Nat) (b : Nat) : List Nat := if b = x then (rowB c x).take s ++ (rowB c y).drop o else if b = y then (rowB c y).take o ++ (rowB c x).drop s else rowB c b
def swP (c : HP) (x y : Nat) (b : Nat) : List Nat := if b = x then [] else if b = y then [] else pcs c b
theorem q_swap (S : Sim Z g c) (j : J Z c) {i k x y s o : Nat} (hx : (bks Z c)[i]? = some x) (hy : (bks Z c)[k]? = some y) (hik : i ≠ k) (hs : s ≤ (rowB c x).length) (ho : o ≤ (rowB c y).length) (hc : csV c (rowB c x) s (rowB c y) o = true) :
    ∃ g' c', f_X9_swap (Z 0) (Int32.ofNat i) (Int32.ofNat s) (Int32.ofNat k) (Int32.ofNat o) g = some (Int32.ofNat ((rowB c x).length - s + (rowB c y).length - o), g') ∧ Sim Z g' c' ∧ Spd Z 32 3200 g g' ∧ J Z c' ∧ Rch Z (swR c x y s o) (swP c x y) c c' := by
  have mx := List.mem_of_getElem? hx
  have my := List.mem_of_getElem? hy
  have hxy := bks_ne j hx hy hik
  have lx := j.rlen mx
  have ly := j.rlen my
  have hR := j.row S mx
  have hT := j.row S my
  have hc1 : cjV c (rowB c x) s (rowB c y) o = true ∧ cjV c (rowB c y) o (rowB c x) s = true := by
    unfold csV at hc
    exact (Bool.and_eq_true _ _).mp hc
  have nn : ∀ t, t ∈ rowB c x → t ∉ rowB c y := fun t h1 h2 => by
    have e1 := (j.rT mx h1).2
    rw [(j.rT my h2).2] at e1
    exact hxy (Option.some.inj e1).symm
  have hd16 := j.rowD mx my hxy
  have N1 : ((rowB c x).take s ++ (rowB c y).drop o).Nodup := nodup_app ((List.take_sublist _ _).nodup (j.rN mx)) ((List.drop_sublist _ _).nodup (j.rN my)) fun t h1 h2 => nn t (List.mem_of_mem_take h1) (List.mem_of_mem_drop h2)
  have N2 : ((rowB c y).take o ++ (rowB c x).drop s).Nodup := nodup_app ((List.take_sublist _ _).nodup (j.rN my)) ((List.drop_sublist _ _).nodup (j.rN mx)) fun t h1 h2 => nn t (List.mem_of_mem_drop h2) (List.mem_of_mem_take h1)
  have t1 : ∀ t ∈ (rowB c x).take s ++ (rowB c y).drop o, t ∈ tls Z c := fun t h => by
    rcases List.mem_append.mp h with h | h
    · exact (j.rT mx (List.mem_of_mem_take h)).1
    · exact (j.rT my (List.mem_of_mem_drop h)).1
  have t2 : ∀ t ∈ (rowB c y).take o ++ (rowB c x).drop s, t ∈ tls Z c := fun t h => by
    rcases List.mem_append.mp h with h | h
    · exact (j.rT my (List.mem_of_mem_take h)).1
    · exact (j.rT mx (List.mem_of_mem_drop h)).1
  have n12 : ∀ t, t ∈ (rowB c x).take s ++ (rowB c y).drop o → t ∉ (rowB c y).take o ++ (rowB c x).drop s := fun t h1 h2 => by
    have dj : ∀ {R : List Nat} {m : Nat}, R.Nodup → t ∈ R.take m → t ∈ R.drop m → False := fun {R m} hn h1 h2 => by
      rw [← List.take_append_drop m R] at hn
      exact (List.nodup_append.mp hn).2.2 t h1 t h2 rfl
    rcases List.mem_append.mp h1 with h1 | h1
    · rcases List.mem_append.mp h2 with h2 | h2
      · exact nn t (List.mem_of_mem_take h1) (List.mem_of_mem_take h2)
      · exact dj (j.rN mx) h1 h2
    · rcases List.mem_append.mp h2 with h2 | h2
      · exact dj (j.rN my) h2 h1
      · exact nn t (List.mem_of_mem_drop h2) (List.mem_of_mem_drop h1)
  obtain ⟨g0, a1, S0, a3, a4, a5⟩ := r_trySwap S j mx my hxy hs ho
  have r6 : TrD Z (Z 6) (Z 1) := Or.inl ⟨rfl, rfl⟩
  have r7 : TrD Z (Z 7) (Z 2) := Or.inr ⟨rfl, rfl⟩
  have e6 := (TrD.ok j r6).2.2.1
  have e7 := (TrD.ok j r7).2.2.1
  have o1 : oa g0 (Z 1) = ((rowB c x).take s ++ (rowB c y).drop o).map some := by have := a4.2.2.2.1; rwa [e6] at this
  have o2 : oa g0 (Z 2) = ((rowB c y).take o ++ (rowB c x).drop s).map some := by have := a5.2.2.2.1; rwa [e7] at this
  have O0 : Ov (fun _ => False) c c := ⟨fun _ => rfl, fun _ _ => rfl, fun _ _ _ => rfl, fun _ _ => rfl⟩
  obtain ⟨w1, v1, c1, b1, S1, O1, j1, F1, p1, q1, u1, u2, u3⟩ := r_take S0 O0 j mx (fun a h => h.elim) r6 o1 (by rw [List.length_append, List.length_take, List.length_drop]; omega) (fun t h => j.isT (t1 t h))
  have eb1 : bks Z c1 = bks Z c := bks_eq F1.2.1.2.2.1
  have my1 : y ∈ bks Z c1 := by rw [eb1]; exact my
  have mx1 : x ∈ bks Z c1 := by rw [eb1]; exact mx
  have elx : rlB c1 x = rlB c x := ag_rlB F1.1 j mx
  obtain ⟨w2, v2, c2, b2, S2, O2, j2, F2, p2, q2, y1, y2, y3⟩ := r_take S1 O1 j1 my1 (fun a h => ⟨x, hxy, mx1, by rw [elx]; exact h.resolve_left id⟩) r7 (by rw [q1.2]; exact o2) (by rw [List.length_append, List.length_take, List.length_drop]; omega) (fun t h => ag_isT F1.1 (j.isT (t2 t h)))
  have Acc := F1.1.tr F2.1
  have eb2 : bks Z c2 = bks Z c := (bks_eq F2.2.1.2.2.1).trans eb1
  have et2 : tls Z c2 = tls Z c := (tls_eq F2.2.1.1).trans (tls_eq F1.2.1.1)
  have mx2 : x ∈ bks Z c2 := by rw [eb2]; exact mx
  have my2 : y ∈ bks Z c2 := by rw [eb2]; exact my
  have elx2 : rlB c2 x = rlB c x := ag_rlB Acc j mx
  have ely2 : rlB c2 y = rlB c y := ag_rlB Acc j my
  have ely1 : rlB c1 y = rlB c y := ag_rlB F1.1 j my
  rw [ely1] at O2 y1
  have kx := (j2.bz mx2).2.2.1
  have ky := (j2.bz my2).2.2.1
  rw [elx2] at kx
  rw [ely2] at ky
  have hN : ∀ a k' o' n', LK c2 a k' o' n' → k' ≠ 10 → ¬ ((False ∨ a = rlB c x) ∨ a = rlB c y) := fun a k' o' n' h hk z => by
    rcases z with z | z
    · exact h.ne kx hk (z.resolve_left id)
    · exact h.ne ky hk z
  have A : Ag Z c2 v2 := ⟨fun a _ => O2.1 a, fun k a _ => O2.2.1 k a, fun k a _ h _ _ => O2.2.2.1 k a h, O2.2.2.2 _ (hN _ _ _ _ j2.l.1 (by decide)), O2.2.2.2 _ (hN _ _ _ _ j2.l.2.1 (by decide))⟩
  have s2 : Sl Z c2 v2 := ⟨O2.2.2.2 _ (hN _ _ _ _ j2.l.2.2.1 (by decide)), O2.2.2.2 _ (hN _ _ _ _ j2.l.2.2.2.1 (by decide)), O2.2.2.2 _ (hN _ _ _ _ j2.l.2.2.2.2.1 (by decide)), O2.2.2.2 _ (hN _ _ _ _ j2.l.2.2.2.2.2 (by decide))⟩
  have e35 : ∀ t, fr v2 135 t = if t ∈ (rowB c y).take o ++ (rowB c x).drop s then some y else if t ∈ (rowB c x).take s ++ (rowB c y).drop o then some x else fr c 135 t := fun t => by rw [y3, u3]
  have er2 : ∀ b ∈ bks Z c, rowB c2 b = rowB c b := fun b hb => (F2.rw j1 (by rw [eb1]; exact hb)).trans (F1.rw j hb)
  have ep2 : ∀ b ∈ bks Z c, pcs c2 b = swP c x y b := fun b hb => by
    unfold swP
    by_cases e1 : b = x
    · rw [if_pos e1, F2.pc2 j1 (by rw [eb1]; exact hb) (by rw [e1]; exact hxy), e1]; exact F1.pc j mx
    · rw [if_neg e1]
      by_cases e2 : b = y
      · rw [if_pos e2, e2]; exact F2.pc j1 my1
      · rw [if_neg e2, F2.pc2 j1 (by rw [eb1]; exact hb) e2]; exact F1.pc2 j hb e1
  have e352 : ∀ t, fr c2 135 t = fr c 135 t := fun t => (F2.2.2.2.2.2.2.1 135 t (by decide) (by decide)).trans (F1.2.2.2.2.2.2.1 135 t (by decide) (by decide))
  have Jf := j_rows j2 A s2 (fun a => O2.1 a) (swR c x y s o) (fun b hb => by
      rw [eb2] at hb
      have hb2 : b ∈ bks Z c2 := by rw [eb2]; exact hb
      refine ⟨?_, O2.2.2.2 _ (hN _ _ _ _ (j2.bz hb2).2.2.2 (by decide))⟩
      unfold swR
      by_cases e1 : b = x
      · rw [if_pos e1, e1, elx2, y2 _ (Or.inr rfl)]; exact u1
      · rw [if_neg e1]
        by_cases e2 : b = y
        · rw [if_pos e2, e2, ely2]; exact y1
        · have kb := (j2.bz hb2).2.2.1
          rw [if_neg e2, O2.2.2.2 _ (fun z => by
            rcases z with z | z
            · exact e1 (kb.own kx (z.resolve_left id))
            · exact e2 (kb.own ky z)), kb.oc, ← er2 b hb]
          rfl) (fun b hb => by
      rw [eb2] at hb
      by_cases e1 : b = x
      · right; rw [ep2 b hb]; unfold swP; rw [if_pos e1]
      · by_cases e2 : b = y
        · right; rw [ep2 b hb]; unfold swP; rw [if_neg e1, if_pos e2]
        · left; rw [er2 b hb]; unfold swR; rw [if_neg e1, if_neg e2]) (fun b hb => by
      rw [eb2] at hb
      unfold swR
      by_cases e1 : b = x
      · rw [if_pos e1, e1]
        refine ⟨N1, ag_chn Acc (fun t h => j.isT (t1 t h)) (cj_chn (j_rchn j mx) (j_rchn j my) hs hc1.1), fun t h => ?_⟩
        rw [et2, e35, if_neg (n12 t h), if_pos h]
        exact ⟨t1 t h, rfl⟩
      · rw [if_neg e1]
        by_cases e2 : b = y
        · rw [if_pos e2, e2]
          refine ⟨N2, ag_chn Acc (fun t h => j.isT (t2 t h)) (cj_chn (j_rchn j my) (j_rchn j mx) ho hc1.2), fun t h => ?_⟩
          rw [et2, e35, if_pos h]
          exact ⟨t2 t h, rfl⟩
        · rw [if_neg e2]
          refine ⟨j.rN hb, ag_chn Acc (fun t h => j.isT (j.rT hb h).1) (j_rchn j hb), fun t h => ?_⟩
          have h5 := j.rT hb h
          have far : ∀ z, (z = x ∨ z = y) → t ∉ rowB c z := fun z hz hm => by
            have hz' : z ∈ bks Z c := by rcases hz with rfl | rfl <;> assumption
            have := (j.rT hz' hm).2
            rw [h5.2] at this
            have e := Option.some.inj this
            rcases hz with hz | hz
            · exact e1 (e.trans hz)
            · exact e2 (e.trans hz)
          rw [et2, e35, if_neg (fun z => (List.mem_append.mp z).elim (fun z => far y (Or.inr rfl) (List.mem_of_mem_take z)) (fun z => far x (Or.inl rfl) (List.mem_of_mem_drop z))), if_neg (fun z => (List.mem_append.mp z).elim (fun z => far x (Or.inl rfl) (List.mem_of_mem_take z)) (fun z => far y (Or.inr rfl) (List.mem_of_mem_drop z)))]
          exact h5) (fun t ht b hb => by
      rw [e35] at hb
      rw [et2] at ht
      rw [eb2]
      unfold swR
      by_cases h2 : t ∈ (rowB c y).take o ++ (rowB c x).drop s
      · rw [if_pos h2] at hb
        have e := Option.some.inj hb
        rw [← e, if_neg (fun z => hxy z.symm), if_pos rfl]
        exact ⟨my, h2⟩
      · rw [if_neg h2] at hb
        by_cases h1 : t ∈ (rowB c x).take s ++ (rowB c y).drop o
        · rw [if_pos h1] at hb
          have e := Option.some.inj hb
          rw [← e, if_pos rfl]
          exact ⟨mx, h1⟩
        · rw [if_neg h1] at hb
          obtain ⟨k1, k2⟩ := j.inB ht hb
          have f1 : b ≠ x := fun z => by
            rw [z] at k2
            rcases mem_td (s := s).mp k2 with h | h
            · exact h1 (List.mem_append_left _ h)
            · exact h2 (List.mem_append_right _ h)
          have f2 : b ≠ y := fun z => by
            rw [z] at k2
            rcases mem_td (s := o).mp k2 with h | h
            · exact h2 (List.mem_append_left _ h)
            · exact h1 (List.mem_append_right _ h)
          rw [if_neg f1, if_neg f2]
          exact ⟨k1, k2⟩) (fun t => O2.2.2.1 136 t (by decide)) (fun t ht p hp => by
      obtain ⟨_, _, _, k⟩ := j2.tok ht
      obtain ⟨_, b, hb⟩ := k.2.2.2 p hp
      rw [e35]
      split
      · exact ⟨_, rfl⟩
      · split
        · exact ⟨_, rfl⟩
        · exact ⟨b, by rw [← e352]; exact hb⟩) (fun t => O2.2.2.1 85 t (by decide)) (fun d hd => O2.2.2.2 _ (hN _ _ _ _ (j2.dz hd).2 (by decide)))
  refine ⟨w2, v2, ?_, S2, ((a3.tr p1).tr p2).up (by omega) (by omega), Jf.1, ⟨Acc.tr A, (F1.2.1.tr F2.2.1).tr s2, fun a => (O2.1 a).trans ((F2.2.2.1 a).trans (F1.2.2.1 a)), fun b hb => ?_, fun t => ?_⟩⟩
  · have g10 : gfR 10 10 (some (Z 0)) g0 = some (some (Z 6)) := rM10 S0 j
    have g11 : gfR 10 11 (some (Z 0)) w1 = some (some (Z 7)) := by
      rw [ovR S1 O1 (ci := 10) j1.f.1 (by decide) (by decide) 11 (by decide)]
      exact congrArg some j1.f.2.2.2.2.2.2.2.2.2.2.1
    have eik : ¬ Int32.ofNat i = Int32.ofNat k := fun z => hik ((nEq (by have := bi31 j hx; omega) (by have := bi31 j hy; omega)).mp z)
    have z1 : f_X9_isOutside (Int32.ofNat s) 0 (Int32.ofNat (rowB c x).length) g = some 0 := nout (n0 (by omega)) ((nLe (by omega) (by omega)).mpr hs) g
    have z2 : f_X9_isOutside (Int32.ofNat o) 0 (Int32.ofNat (rowB c y).length) g = some 0 := nout (n0 (by omega)) ((nLe (by omega) (by omega)).mpr ho) g
    unfold f_X9_swap
    rw [rMv S j, Option.bind_some, j_blockNumbered S j (by have := bi31 j hx; omega), Option.bind_some, Option.bind_some, j_blockNumbered S j (by have := bi31 j hy; omega), Option.bind_some, hx, hy, if_neg sn, if_neg sn, j.rBr S mx, Option.bind_some, j.rBr S my, Option.bind_some, if_neg eik, S.rc (ci := 7) hR.1, Option.bind_some, r_count S hR, Option.bind_some, z1, Option.bind_some, if_pos rfl, S.rc (ci := 7) hT.1, Option.bind_some, r_count S hT, Option.bind_some, z2, Option.bind_some, if_pos rfl, r_canSwap S hR hT (by omega) (by omega), Option.bind_some, hc, if_neg (by decide), S.rc (ci := 7) hR.1, Option.bind_some, r_count S hR, Option.bind_some, S.rc (ci := 7) hT.1, Option.bind_some, r_count S hT, Option.bind_some, Option.bind_some, a1, Option.bind_some, g10, Option.bind_some, S0.rc (ci := 1) (j.tb mx), Option.bind_some, b1, Option.bind_some, g11, Option.bind_some, ovrc S1 O1 (ci := 1) (j1.tb my1), Option.bind_some, b2, Option.bind_some, nSub hs, nAdd, nSub (by omega)]
  · obtain ⟨k1, k2⟩ := Jf.2 b (by rw [eb2]; exact hb)
    exact ⟨k1, k2.trans (ep2 b hb)⟩
  · rw [O2.2.2.1 136 t (by decide), F2.2.2.2.2.2.2.2.1 t]
    split
    · exact Or.inl rfl
    · rw [F1.2.2.2.2.2.2.2.1 t]
      split
      · exact Or.inl rfl
      · exact Or.inr rfl
end Swap
