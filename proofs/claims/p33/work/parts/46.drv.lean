/-! Drivers' pieces: their minutes as numbers, and a piece that is given back. -/
def sumN (f : Nat → Nat) : List Nat → Nat
  | [] => 0
  | x :: xs => f x + sumN f xs
theorem sumN_le {f : Nat → Nat} {m : Nat} : ∀ {l : List Nat}, (∀ x ∈ l, f x ≤ m) → sumN f l ≤ m * l.length
  | [], _ => Nat.zero_le _
  | x :: xs, h => by
    have h1 := h x List.mem_cons_self
    have h2 := sumN_le (l := xs) fun y hy => h y (List.mem_cons_of_mem _ hy)
    show f x + sumN f xs ≤ m * (xs.length + 1)
    rw [Nat.mul_succ]; omega
theorem sumI_N {f : Nat → Int32} {n : Nat → Nat} : ∀ {l : List Nat}, (∀ x ∈ l, f x = Int32.ofNat (n x)) → sumI f l = Int32.ofNat (sumN n l)
  | [], _ => rfl
  | x :: xs, h => by
    show f x + sumI f xs = Int32.ofNat (n x + sumN n xs)
    rw [h x List.mem_cons_self, sumI_N fun y hy => h y (List.mem_cons_of_mem _ hy), nAdd]
theorem sumN_eidx (f : Nat → Nat) : ∀ {l : List Nat} {i p : Nat}, l[i]? = some p → sumN f (l.eraseIdx i) + f p = sumN f l
  | [], i, p, h => by cases h
  | x :: xs, 0, p, h => by
    have e : x = p := Option.some.inj h
    subst e
    show sumN f xs + f x = f x + sumN f xs
    omega
  | x :: xs, i + 1, p, h => by
    have := sumN_eidx f (l := xs) (i := i) (p := p) h
    show f x + sumN f (xs.eraseIdx i) + f p = f x + sumN f xs
    omega
theorem map_eidx {α β : Type} (f : α → β) : ∀ (l : List α) (i : Nat), (l.map f).eraseIdx i = (l.eraseIdx i).map f
  | [], _ => rfl
  | _ :: _, 0 => rfl
  | x :: xs, i + 1 => by
    show f x :: (xs.map f).eraseIdx i = f x :: (xs.eraseIdx i).map f
    rw [map_eidx f xs i]
theorem mem_eidx : ∀ {l : List Nat} {i p x : Nat}, l.Nodup → l[i]? = some p → (x ∈ l.eraseIdx i ↔ x ∈ l ∧ x ≠ p)
  | [], i, p, x, _, h => by cases h
  | y :: ys, 0, p, x, hn, h => by
    have e : y = p := Option.some.inj h
    subst e
    have hn' := List.nodup_cons.mp hn
    show x ∈ ys ↔ _
    rw [List.mem_cons]
    exact ⟨fun z => ⟨Or.inr z, fun e => hn'.1 (e ▸ z)⟩, fun z => z.1.resolve_left z.2⟩
  | y :: ys, i + 1, p, x, hn, h => by
    have hn' := List.nodup_cons.mp hn
    have ih := mem_eidx (l := ys) (i := i) (p := p) (x := x) hn'.2 h
    have hp : p ∈ ys := List.mem_of_getElem? h
    show x ∈ y :: ys.eraseIdx i ↔ _
    rw [List.mem_cons, ih, List.mem_cons]
    constructor
    · rintro (rfl | z)
      · exact ⟨Or.inl rfl, fun e => hn'.1 (e ▸ hp)⟩
      · exact ⟨Or.inr z.1, z.2⟩
    · rintro ⟨rfl | z, w⟩
      · exact Or.inl rfl
      · exact Or.inr ⟨z, w⟩
theorem cuts_at {c : HP} {R : List Nat} : ∀ {ps : List Nat} {i p : Nat}, Cuts c R i ps → p ∈ ps → ∃ k n, i ≤ k ∧ 0 < n ∧ k + n ≤ R.length ∧ R[k]? = some (pfA c p) ∧ R[k + n - 1]? = some (pzA c p) ∧ fi c 84 p = Int32.ofNat n ∧ tend c (pzA c p) - tst c (pfA c p) ≤ 600
  | [], _, _, _, h => by cases h
  | q :: qs, i, p, ⟨n, h1, h2, h3, h4, h5, h6, h7⟩, h => by
    rcases List.mem_cons.mp h with rfl | h
    · have := (List.getElem?_eq_some_iff.mp h4).1
      exact ⟨i, n, Nat.le_refl _, h1, by omega, h3, h4, h2, h6⟩
    · obtain ⟨k, m, a1, a2, a3, a4⟩ := cuts_at h7 h
      exact ⟨k, m, by omega, a2, a3, a4⟩
def nmp (c : HP) (p : Nat) : Nat := nen c (pzA c p) - nst c (pfA c p)
/-- a piece of some block -/
def InP (Z : Nat → Nat) (c : HP) (p : Nat) : Prop := ∃ b ∈ bks Z c, p ∈ pcs c b
section Drv
variable {Z : Nat → Nat} {g c c' : HP}
theorem j_cuts (j : J Z c) {b p : Nat} (hb : b ∈ bks Z c) (hp : p ∈ pcs c b) : Cuts c (rowB c b) 0 (pcs c b) := by
  obtain ⟨i, _, _, _, _, _, _, _, h⟩ := j.bok hb
  rcases h with h | h
  · rw [h] at hp; cases hp
  · exact h
theorem j_rchn (j : J Z c) {b : Nat} (hb : b ∈ bks Z c) : chn c (rowB c b) := by
  obtain ⟨i, _, _, _, _, ⟨_, _, h⟩, _⟩ := j.bok hb
  exact h
theorem j_pmin (j : J Z c) {p : Nat} (h : InP Z c p) : minP c p = Int32.ofNat (nmp c p) ∧ nmp c p ≤ 600 ∧ nst c (pfA c p) < nen c (pzA c p) ∧ nen c (pzA c p) = nst c (pfA c p) + nmp c p := by
  obtain ⟨b, hb, hp⟩ := h
  obtain ⟨k, n, a1, a2, a3, a4, a5, a6, a7⟩ := cuts_at (j_cuts j hb hp) hp
  have hR := fun t ht => (j.rT (t := t) hb ht).1
  have hf := hR _ (List.mem_of_getElem? a4)
  have hz := hR _ (List.mem_of_getElem? a5)
  have hlt := chn_lt j hR (j_rchn j hb) (n - 1) k _ _ a4 (by rw [← a5]; congr 1; omega)
  have m5 := (j_tmn j hz).2
  have s1 := (j_tst j hz).2
  unfold minP
  rw [j_tend j hz, (j_tst j hf).1] at a7 ⊢
  have hl : nst c (pfA c p) < nen c (pzA c p) := by unfold nen; omega
  rw [nSub (by omega)] at a7 ⊢
  have a8 : nen c (pzA c p) - nst c (pfA c p) ≤ 600 := (nLe (b := 600) (by unfold nen; omega) (by omega)).mp a7
  exact ⟨rfl, a8, hl, by unfold nmp; omega⟩
theorem ag_InP_t (j : J Z c) {p : Nat} (h : InP Z c p) : tg c p = 6 ∧ pfA c p ∈ tls Z c ∧ pzA c p ∈ tls Z c := by
  obtain ⟨b, hb, hp⟩ := h
  obtain ⟨k1, k2, k3, k4, k5, k6, k7⟩ := j.pk hb hp
  exact ⟨k1, (j.rT hb k4).1, (j.rT hb k6).1⟩
theorem ag_near (A : Ag Z c c') (j : J Z c) {p q : Nat} (hp : InP Z c p) (hq : InP Z c q) : nearP c' p q ↔ nearP c p q := by
  obtain ⟨p1, p2, p3⟩ := ag_InP_t j hp
  obtain ⟨q1, q2, q3⟩ := ag_InP_t j hq
  unfold nearP
  rw [ag_pfA A (by omega), ag_pzA A (by omega), ag_pfA A (by omega), ag_pzA A (by omega), ag_tst A (isT_nz (j.isT p2)), ag_tst A (isT_nz (j.isT q2)), ag_tend A (isT_nz (j.isT p3)), ag_tend A (isT_nz (j.isT q3))]
theorem ag_minP (A : Ag Z c c') (j : J Z c) {p : Nat} (hp : InP Z c p) : minP c' p = minP c p := by
  obtain ⟨p1, p2, p3⟩ := ag_InP_t j hp
  unfold minP
  rw [ag_pfA A (by omega), ag_pzA A (by omega), ag_tst A (isT_nz (j.isT p2)), ag_tend A (isT_nz (j.isT p3))]
theorem j_dIn (j : J Z c) {d p : Nat} (h : d ∈ dvs Z c) (hp : p ∈ dps c d) : InP Z c p := (j.dp h hp).2.2
theorem J.dz (j : J Z c) {d : Nat} (h : d ∈ dvs Z c) : tg c d ≠ 0 ∧ LK c (dpA c d) 12 d 6 := by
  obtain ⟨i, _, _, h1, ⟨h2, h3⟩, _⟩ := j.dok h
  exact ⟨by rw [j.td h]; decide, h3⟩
theorem dok_nw (A : Ag Z c c') (j : J Z c) {i d : Nat} (hi : (dvs Z c)[i]? = some d) {P : List Nat} (ho : oa c' (dpA c d) = P.map some) (hl : P.length ≤ 40) (h1 : P.Nodup) (h2 : ∀ p ∈ P, tg c' p = 6 ∧ fr c' 85 p = some d ∧ ∃ b ∈ bks Z c', p ∈ pcs c' b)
    (h3 : ∀ p ∈ P, ∀ q ∈ P, p ≠ q → ¬ nearP c' p q) (h4 : sumI (minP c') P ≤ 600) : DOk Z c' i d ∧ dps c' d = P := by
  have h := List.mem_of_getElem? hi
  obtain ⟨⟨a1, a2⟩, ⟨b1, b2⟩, -⟩ := j.d.2 i d hi
  obtain ⟨n, -⟩ := j.dz h
  have e2 := ag_dpA A n
  have ep : dps c' d = P := by unfold dps; rw [e2]; exact refs_of ho
  have np : tg c (dpA c d) ≠ 0 := by rw [b2.1.1]; decide
  refine ⟨⟨⟨by rw [A.2.1 32 d n]; exact a1, by rw [A.2.1 33 d n]; exact a2⟩, ⟨by rw [e2, A.2.2.1 34 d n (by decide) (by decide) (by decide)]; exact b1, ?_⟩, ⟨by rw [ep]; exact h1, fun p hp => ?_⟩, by rw [ep]; exact h3, by rw [ep]; exact h4⟩, ep⟩
  · rw [e2]
    exact lk_nw b2 (A.1 _ np) (A.2.1 9 _ np) (A.2.2.1 9 _ np (by decide) (by decide) (by decide)) ho (fun p hp => (h2 p hp).1) hl
  · rw [ep] at hp
    exact (h2 p hp).2
theorem dok_ag (A : Ag Z c c') (j : J Z c) {i d : Nat} (hi : (dvs Z c)[i]? = some d) (ho : oa c' (dpA c d) = oa c (dpA c d)) (h85 : ∀ p ∈ dps c d, fr c' 85 p = some d) (hin : ∀ p ∈ dps c d, InP Z c' p) : DOk Z c' i d ∧ dps c' d = dps c d := by
  have h := List.mem_of_getElem? hi
  obtain ⟨_, ⟨b1, b2⟩, ⟨d1, d2⟩, e1, f1⟩ := j.d.2 i d hi
  refine dok_nw A j hi (by rw [ho]; exact b2.oc) b2.1.2.2.2 d1 (fun p hp => ⟨?_, h85 p hp, hin p hp⟩) (fun p hp q hq hpq z => ?_) ?_
  · rw [A.1 p (by rw [(j.dp h hp).1]; decide)]; exact (j.dp h hp).1
  · exact e1 p hp q hq hpq ((ag_near A j (j_dIn j h hp) (j_dIn j h hq)).mp z)
  · rw [sumI_congr fun p hp => ag_minP A j (j_dIn j h hp)]; exact f1
theorem sum_dps (j : J Z c) {P : List Nat} (hP : ∀ p ∈ P, InP Z c p) (hl : P.length ≤ 40) : sumI (minP c) P = Int32.ofNat (sumN (nmp c) P) ∧ sumN (nmp c) P ≤ 24000 := by
  refine ⟨sumI_N fun p hp => (j_pmin j (hP p hp)).1, ?_⟩
  have := sumN_le (f := nmp c) (m := 600) (l := P) fun p hp => (j_pmin j (hP p hp)).2.1
  omega
theorem drop_loop (S : Sim Z g c) (j : J Z c) {d p i : Nat} (hd : d ∈ dvs Z c) (hi : (dps c d)[i]? = some p) : ∀ (m u : Nat), i - u < m → u ≤ i → f_X1_drop_L2 d (some p) g m (Int32.ofNat u) = some (setO g (dpA c d) (((dps c d).eraseIdx i).map some)) := by
  obtain ⟨eD, hD⟩ := j.rD S hd
  have hn : (dps c d).Nodup := by
    obtain ⟨_, _, _, _, _, ⟨h, _⟩, _⟩ := j.dok hd
    exact h
  have h40 : (dps c d).length ≤ 40 := hD.1.2.2.2
  have hlt := (List.getElem?_eq_some_iff.mp hi).1
  have hlt' : i < (refs c (dpA c d)).length := hlt
  have h40' : (refs c (dpA c d)).length ≤ 40 := h40
  intro m
  induction m with
  | zero => intro u hm; omega
  | succ m ih =>
    intro u hm hu
    obtain ⟨x, hx⟩ : ∃ x, (dps c d)[u]? = some x := ⟨_, List.getElem?_eq_getElem (by omega)⟩
    rw [f_X1_drop_L2]
    simp only [eD, hD.rc S, hD.sz S j.gg (by decide) (by decide), Option.bind_some]
    refine (if_neg (nlen h40 hx)).trans ?_
    simp only [hD.gt S j.gg (by decide) (by decide) hx, Option.bind_some]
    by_cases he : u = i
    · have e : x = p := by rw [he, hi] at hx; exact (Option.some.inj hx).symm
      have er : al_remove (dpA c d) (Int32.ofNat u) g = some ((((dps c d).map some).getD i none), setO g (dpA c d) (((dps c d).eraseIdx i).map some)) := by
        have eo : oa g (dpA c d) = (dps c d).map some := hD.oag S j.gg (by decide) (by decide)
        unfold al_remove
        rw [eo, he, nN (by omega), if_pos ⟨S.tag (n := 0) hD.1.1, n0 (by omega), by rw [List.length_map]; exact hlt⟩, map_eidx]
      rw [if_pos (by rw [e]), er]
      rfl
    · rw [if_neg (fun z => he ?_), show Int32.ofNat u + 1 = Int32.ofNat (u + 1) from nAdd u 1]
      · exact ih (u + 1) (by omega) (by omega)
      · have e : x = p := Option.some.inj z
        rw [e] at hx
        have a1 := (List.getElem?_eq_some_iff.mp hx)
        have a2 := (List.getElem?_eq_some_iff.mp hi)
        exact (List.getElem_inj hn).mp (a1.2.trans a2.2.symm)
/-- what changes as pieces are given back: the drivers' lists, who has them -/
def Rel (Z : Nat → Nat) (c c' : HP) : Prop := Ag Z c c' ∧ Sl Z c c' ∧ (∀ a, tg c' a = tg c a) ∧ (∀ b ∈ bks Z c, oa c' (rlB c b) = oa c (rlB c b) ∧ oa c' (plB c b) = oa c (plB c b)) ∧ (∀ k x, k ≠ 85 → fr c' k x = fr c k x) ∧ ∀ q, fr c' 85 q = fr c 85 q ∨ fr c' 85 q = none
theorem j_release (j : J Z c) {p d i : Nat} (hp : tg c p = 6) (hd : fr c 85 p = some d) (hi : (dps c d)[i]? = some p) :
    J Z (setR (setO c (dpA c d) (((dps c d).eraseIdx i).map some)) 85 p none) ∧ Rel Z c (setR (setO c (dpA c d) (((dps c d).eraseIdx i).map some)) 85 p none) := by
  obtain ⟨hdm, -⟩ := j.q p d hp hd
  obtain ⟨nd, hD⟩ := j.dz hdm
  obtain ⟨c', hc⟩ : ∃ c', c' = setR (setO c (dpA c d) (((dps c d).eraseIdx i).map some)) 85 p none := ⟨_, rfl⟩
  rw [← hc]
  have eo : ∀ a, a ≠ dpA c d → oa c' a = oa c a := fun a ha => by rw [hc, oa_setR, oa_setO, if_neg ha]
  have ef : ∀ k x, k ≠ 85 → fr c' k x = fr c k x := fun k x hk => by rw [hc, fr_setR, if_neg (fun z => hk z.1), fr_setO]
  have e85 : ∀ q, fr c' 85 q = if q = p then none else fr c 85 q := fun q => by
    rw [hc, fr_setR, fr_setO]
    by_cases h : q = p
    · rw [if_pos h, if_pos ⟨rfl, h⟩]
    · rw [if_neg h, if_neg (fun z => h z.2)]
  have ez : ∀ a k o n, LK c a k o n → k ≠ 12 → a ≠ dpA c d := fun a k o n h hk => h.ne hD hk
  have A : Ag Z c c' := ⟨fun a _ => by rw [hc]; rfl, fun k a _ => by rw [hc]; rfl, fun k a _ _ _ h => ef k a h, eo _ (ez _ _ _ _ j.l.1 (by decide)), eo _ (ez _ _ _ _ j.l.2.1 (by decide))⟩
  have s : Sl Z c c' := ⟨eo _ (ez _ _ _ _ j.l.2.2.1 (by decide)), eo _ (ez _ _ _ _ j.l.2.2.2.1 (by decide)), eo _ (ez _ _ _ _ j.l.2.2.2.2.1 (by decide)), eo _ (ez _ _ _ _ j.l.2.2.2.2.2 (by decide))⟩
  have hrow : ∀ b ∈ bks Z c, oa c' (rlB c b) = oa c (rlB c b) ∧ oa c' (plB c b) = oa c (plB c b) := fun b hb => ⟨eo _ (ez _ _ _ _ (j.bz hb).2.2.1 (by decide)), eo _ (ez _ _ _ _ (j.bz hb).2.2.2 (by decide))⟩
  have et : tls Z c' = tls Z c := tls_eq s.1
  have eb : bks Z c' = bks Z c := bks_eq s.2.2.1
  have ed : dvs Z c' = dvs Z c := dvs_eq s.2.2.2
  have hB : ∀ i b, (bks Z c)[i]? = some b → BOk Z c' i b ∧ rowB c' b = rowB c b ∧ pcs c' b = pcs c b := fun i b hb => by
    have hm := List.mem_of_getElem? hb
    refine bok_ag A j hb (hrow b hm).1 (hrow b hm).2 (fun t ht => by rw [et]; exact ht) (fun t ht => ?_) (fun q hq => ?_)
    · rw [ef 135 t (by decide)]; exact (j.rT hm ht).2
    · rw [ef 136 _ (by decide)]; exact (j.pk hm hq).2.2.2.2.2.2
  have hin : ∀ q, InP Z c q → InP Z c' q := fun q ⟨b, hb, hq⟩ => by
    obtain ⟨k, hk⟩ := mem_at hb
    exact ⟨b, by rw [eb]; exact hb, by rw [(hB k b hk).2.2]; exact hq⟩
  have hn : (dps c d).Nodup := by
    obtain ⟨_, _, _, _, _, ⟨h, _⟩, _⟩ := j.dok hdm
    exact h
  have hDd : ∀ i' d', (dvs Z c)[i']? = some d' → DOk Z c' i' d' ∧ dps c' d' = if d' = d then (dps c d).eraseIdx i else dps c d' := fun i' d' hd' => by
    have hm' := List.mem_of_getElem? hd'
    by_cases h : d' = d
    · subst h
      rw [if_pos rfl]
      obtain ⟨_, _, ⟨d1, d2⟩, e1, f1⟩ := j.d.2 i' d' hd'
      refine dok_nw A j hd' (by rw [hc, oa_setR, oa_setO, if_pos rfl]) (Nat.le_trans (List.length_eraseIdx_le _ _) hD.1.2.2.2) (hn.eraseIdx i) (fun q hq => ?_) (fun q hq r hr hqr z => ?_) ?_
      · obtain ⟨m1, m2⟩ := (mem_eidx hn hi).mp hq
        exact ⟨by rw [A.1 q (by rw [(j.dp hm' m1).1]; decide)]; exact (j.dp hm' m1).1, by rw [e85, if_neg m2]; exact (j.dp hm' m1).2.1, hin q (j_dIn j hm' m1)⟩
      · have q1 := ((mem_eidx hn hi).mp hq).1
        have r1 := ((mem_eidx hn hi).mp hr).1
        exact e1 q q1 r r1 hqr ((ag_near A j (j_dIn j hm' q1) (j_dIn j hm' r1)).mp z)
      · have hin2 : ∀ q ∈ (dps c d').eraseIdx i, InP Z c q := fun q hq => j_dIn j hm' ((mem_eidx hn hi).mp hq).1
        have l1 : ((dps c d').eraseIdx i).length ≤ 40 := Nat.le_trans (List.length_eraseIdx_le _ _) hD.1.2.2.2
        rw [sumI_congr fun q hq => ag_minP A j (hin2 q hq)]
        obtain ⟨s1, s2⟩ := sum_dps j hin2 l1
        obtain ⟨s3, s4⟩ := sum_dps j (fun q hq => j_dIn j hm' hq) hD.1.2.2.2 (P := dps c d')
        rw [s3] at f1
        rw [s1]
        have := (nLe (b := 600) (by omega) (by omega)).mp f1
        have := sumN_eidx (nmp c) hi
        exact (nLe (b := 600) (by omega) (by omega)).mpr (by omega)
    · rw [if_neg h]
      refine dok_ag A j hd' (eo _ fun z => h ((j.dz hm').2.own hD z)) (fun q hq => ?_) (fun q hq => hin q (j_dIn j hm' hq))
      have := (j.dp hm' hq).2.1
      rw [e85, if_neg fun z => h ?_]
      · exact this
      · rw [z, hd] at this; exact (Option.some.inj this).symm
  refine ⟨j.mk' A (s.lk A j) ⟨by rw [et]; exact j.t.1, fun i t ht => ?_⟩ ⟨by rw [eb]; exact j.b.1, fun i b hb => ?_⟩ ⟨by rw [ed]; exact j.d.1, fun i d hd => ?_⟩ (fun q d' hq h85 => ?_) (JS.ag A j s), A, s, fun a => by rw [hc]; rfl, hrow, ef, fun q => ?_⟩
  · rw [et] at ht
    have k := j.t.2 i t ht
    refine tok_ag A k (fun b hb => ?_) (fun q hq => ?_)
    · rw [ef 135 t (by decide)] at hb
      obtain ⟨k1, k2⟩ := j.inB (List.mem_of_getElem? ht) hb
      obtain ⟨n, hn⟩ := mem_at k1
      rw [eb, (hB n b hn).2.1]
      exact ⟨k1, k2⟩
    · rw [ef 136 t (by decide)] at hq
      obtain ⟨q1, q2⟩ := k.2.2.2 q hq
      rw [ef 135 t (by decide), A.1 q (by omega)]
      exact ⟨q1, q2⟩
  · rw [eb] at hb
    exact (hB i b hb).1
  · rw [ed] at hd
    exact (hDd i d hd).1
  · have hq' : tg c q = 6 := by rw [hc] at hq; exact hq
    rw [e85] at h85
    by_cases h : q = p
    · rw [if_pos h] at h85; cases h85
    · rw [if_neg h] at h85
      obtain ⟨k1, k2⟩ := j.q q d' hq' h85
      obtain ⟨n, hn'⟩ := mem_at k1
      rw [ed, (hDd n d' hn').2]
      refine ⟨k1, ?_⟩
      by_cases e : d' = d
      · rw [if_pos e]
        rw [e] at k2
        exact (mem_eidx hn hi).mpr ⟨k2, h⟩
      · rw [if_neg e]; exact k2
  · rw [e85]
    by_cases h : q = p
    · rw [if_pos h]; exact Or.inr rfl
    · rw [if_neg h]; exact Or.inl rfl
end Drv
