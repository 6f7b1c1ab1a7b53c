/-! What a change leaves of trips, rows, pieces, drivers. -/
section Frame
variable {Z : Nat → Nat} {c c' : HP}
theorem ag_rwA (A : Ag Z c c') {b : Nat} (h : tg c b ≠ 0) : rwA c' b = rwA c b := by unfold rwA; rw [A.2.2.1 19 b h (by decide) (by decide) (by decide)]
theorem ag_rlA (A : Ag Z c c') {r : Nat} (h : tg c r ≠ 0) : rlA c' r = rlA c r := by unfold rlA; rw [A.2.2.1 112 r h (by decide) (by decide) (by decide)]
theorem ag_plB (A : Ag Z c c') {b : Nat} (h : tg c b ≠ 0) : plB c' b = plB c b := by unfold plB; rw [A.2.2.1 20 b h (by decide) (by decide) (by decide)]
theorem ag_dpA (A : Ag Z c c') {d : Nat} (h : tg c d ≠ 0) : dpA c' d = dpA c d := by unfold dpA; rw [A.2.2.1 34 d h (by decide) (by decide) (by decide)]
theorem ag_pfA (A : Ag Z c c') {p : Nat} (h : tg c p ≠ 0) : pfA c' p = pfA c p := by unfold pfA; rw [A.2.2.1 82 p h (by decide) (by decide) (by decide)]
theorem ag_pzA (A : Ag Z c c') {p : Nat} (h : tg c p ≠ 0) : pzA c' p = pzA c p := by unfold pzA; rw [A.2.2.1 83 p h (by decide) (by decide) (by decide)]
theorem ag_lA (A : Ag Z c c') {t : Nat} (h : tg c t ≠ 0) : lA c' t = lA c t := by unfold lA; rw [A.2.2.1 129 t h (by decide) (by decide) (by decide)]
theorem ag_fA (A : Ag Z c c') {t : Nat} (h : tg c t ≠ 0) : fA c' t = fA c t := by unfold fA; rw [A.2.2.1 130 t h (by decide) (by decide) (by decide)]
theorem ag_tA (A : Ag Z c c') {t : Nat} (h : tg c t ≠ 0) : tA c' t = tA c t := by unfold tA; rw [A.2.2.1 131 t h (by decide) (by decide) (by decide)]
theorem ag_tst (A : Ag Z c c') {t : Nat} (h : tg c t ≠ 0) : tst c' t = tst c t := A.2.1 132 t h
theorem ag_tmn (A : Ag Z c c') {t : Nat} (h : tg c t ≠ 0) : tmn c' t = tmn c t := A.2.1 133 t h
theorem ag_tend (A : Ag Z c c') {t : Nat} (h : tg c t ≠ 0) : tend c' t = tend c t := by
  show fi c' 132 t + fi c' 133 t = _
  rw [A.2.1 132 t h, A.2.1 133 t h]; rfl
theorem ag_dist (A : Ag Z c c') {p q : Nat} (hp : tg c p ≠ 0) (hq : tg c q ≠ 0) : dist c' p q = dist c p q := by
  unfold dist; rw [A.2.1 97 p hp, A.2.1 97 q hq]
theorem isT_nz {t : Nat} (h : IsT c t) : tg c t ≠ 0 := by rw [h.1]; decide
theorem isT_fz {t : Nat} (h : IsT c t) : tg c (fA c t) ≠ 0 := by rw [h.2.2.1.2]; decide
theorem isT_tz {t : Nat} (h : IsT c t) : tg c (tA c t) ≠ 0 := by rw [h.2.2.2.2]; decide
theorem isT_lz {t : Nat} (h : IsT c t) : tg c (lA c t) ≠ 0 := by rw [h.2.1.2]; decide
theorem ag_isT (A : Ag Z c c') {t : Nat} (h : IsT c t) : IsT c' t := by
  have n := isT_nz h
  unfold IsT
  rw [ag_lA A n, ag_fA A n, ag_tA A n, A.1 t n, A.1 _ (isT_lz h), A.1 _ (isT_fz h), A.1 _ (isT_tz h), A.2.2.1 129 t n (by decide) (by decide) (by decide), A.2.2.1 130 t n (by decide) (by decide) (by decide), A.2.2.1 131 t n (by decide) (by decide) (by decide)]
  exact h
theorem ag_canF (A : Ag Z c c') {a t : Nat} (ha : IsT c a) (ht : IsT c t) : canF c' a t = canF c a t := by
  unfold canF
  rw [ag_tst A (isT_nz ht), ag_tend A (isT_nz ha), ag_tA A (isT_nz ha), ag_fA A (isT_nz ht), ag_dist A (isT_tz ha) (isT_fz ht)]
theorem ag_chn (A : Ag Z c c') {R : List Nat} (hR : ∀ t ∈ R, IsT c t) (h : chn c R) : chn c' R := fun k x y hx hy => by
  rw [ag_canF A (hR x (List.mem_of_getElem? hx)) (hR y (List.mem_of_getElem? hy))]
  exact h k x y hx hy
theorem ag_emptyG (A : Ag Z c c') : ∀ (L : List Nat) (p : Nat) (s : Int32), (∀ t ∈ L, IsT c t) → tg c p ≠ 0 → emptyG c' p L s = emptyG c p L s
  | [], _, _, _, _ => rfl
  | t :: ts, p, s, hL, hp => by
    have ht := hL t List.mem_cons_self
    show emptyG c' (tA c' t) ts (s + dist c' p (fA c' t)) = emptyG c (tA c t) ts (s + dist c p (fA c t))
    rw [ag_tA A (isT_nz ht), ag_fA A (isT_nz ht), ag_dist A hp (isT_fz ht)]
    exact ag_emptyG A ts _ _ (fun x hx => hL x (List.mem_cons_of_mem _ hx)) (isT_tz ht)
theorem ag_emptyR (A : Ag Z c c') {d : Nat} {L : List Nat} (hL : ∀ t ∈ L, IsT c t) (hd : tg c d = 7) : emptyR c' d L = emptyR c d L := by
  have nd : tg c d ≠ 0 := by omega
  unfold emptyR
  rw [ag_emptyG A L d 0 hL nd, ag_dist A (by rw [emptyG_place hd L d 0 hL hd]; decide) nd]
theorem ag_chG (A : Ag Z c c') {cap cold : Int32} : ∀ (L : List Nat) (p : Nat) (ah : Option Nat) (ch le : Int32), (∀ t ∈ L, IsT c t) → tg c p ≠ 0 → (∀ a, ah = some a → IsT c a) → chG c' cap cold p ah L ch le = chG c cap cold p ah L ch le
  | [], _, _, _, _, _, _, _ => rfl
  | t :: ts, p, ah, ch, le, hL, hp, ha => by
    have ht := hL t List.mem_cons_self
    have e : chStep c' cap cold p t ah ch le = chStep c cap cold p t ah ch le := by
      unfold chStep
      rw [ag_fA A (isT_nz ht), ag_dist A hp (isT_fz ht), ag_tst A (isT_nz ht), ag_tmn A (isT_nz ht), A.2.1 98 _ (isT_fz ht)]
      cases ah with
      | none => rfl
      | some a => dsimp only; rw [ag_tend A (isT_nz (ha a rfl))]
    show chG c' cap cold (tA c' t) (some t) ts (chStep c' cap cold p t ah ch le).1 (chStep c' cap cold p t ah ch le).2 = chG c cap cold (tA c t) (some t) ts (chStep c cap cold p t ah ch le).1 (chStep c cap cold p t ah ch le).2
    rw [e, ag_tA A (isT_nz ht)]
    exact ag_chG A ts _ _ _ _ (fun x hx => hL x (List.mem_cons_of_mem _ hx)) (isT_tz ht) (fun a h => by cases h; exact ht)
theorem ag_chR (A : Ag Z c c') {d : Nat} {cap cold : Int32} {L : List Nat} (hL : ∀ t ∈ L, IsT c t) (hd : tg c d = 7) : chR c' d cap cold L = chR c d cap cold L := by
  have nd : tg c d ≠ 0 := by omega
  unfold chR
  rw [ag_chG A L d none cap cap hL nd (fun a h => by cases h)]
  dsimp only
  rw [ag_dist A (by rw [chG_place L d none cap cap hL hd]; decide) nd]
theorem ag_Cuts (A : Ag Z c c') {R : List Nat} (hR : ∀ t ∈ R, IsT c t) : ∀ (ps : List Nat) (i : Nat), (∀ p ∈ ps, tg c p ≠ 0 ∧ pfA c p ∈ R ∧ pzA c p ∈ R) → Cuts c R i ps → Cuts c' R i ps
  | [], _, _, h => h
  | p :: ps, i, hp, h => by
    obtain ⟨n, h1, h2, h3, h4, h5, h6, h7⟩ := h
    obtain ⟨q1, q2, q3⟩ := hp p List.mem_cons_self
    refine ⟨n, h1, by rw [A.2.1 84 p q1]; exact h2, by rw [ag_pfA A q1]; exact h3, by rw [ag_pzA A q1]; exact h4, fun z => ?_, ?_, ag_Cuts A hR ps (i + n) (fun x hx => hp x (List.mem_cons_of_mem _ hx)) h7⟩
    · rw [ag_pzA A q1, ag_tA A (isT_nz (hR _ q3)), A.2.1 99 _ (isT_tz (hR _ q3))]
      exact h5 z
    · rw [ag_pzA A q1, ag_pfA A q1, ag_tend A (isT_nz (hR _ q3)), ag_tst A (isT_nz (hR _ q2))]
      exact h6
theorem tok_ag (A : Ag Z c c') {i t : Nat} (h : TOk Z c i t) (h1 : ∀ b, fr c' 135 t = some b → b ∈ bks Z c' ∧ t ∈ rowB c' b) (h2 : ∀ p, fr c' 136 t = some p → tg c' p = 6 ∧ ∃ b, fr c' 135 t = some b) : TOk Z c' i t := by
  obtain ⟨⟨a1, a2, a3, a4, a5⟩, b, -, -⟩ := h
  have n := isT_nz a1
  refine ⟨⟨ag_isT A a1, by rw [A.2.1 128 t n]; exact a2, by rw [ag_lA A n, ag_lns A]; exact a3, by rw [ag_fA A n, ag_pls A]; exact a4, by rw [ag_tA A n, ag_pls A]; exact a5⟩, ?_, h1, h2⟩
  unfold nst nmn ndl
  rw [A.2.1 132 t n, A.2.1 133 t n, A.2.1 134 t n]
  exact b
/-- what is known of a block's parts -/
theorem J.bz (j : J Z c) {b : Nat} (h : b ∈ bks Z c) : tg c b ≠ 0 ∧ tg c (rwA c b) ≠ 0 ∧ LK c (rlB c b) 10 b 9 ∧ LK c (plB c b) 11 b 6 := by
  obtain ⟨i, _, _, h1, ⟨h2, h3, h4, h5, h6, h7⟩, _⟩ := j.bok h
  exact ⟨by rw [j.tb h]; decide, by rw [h3]; decide, h5, h7⟩
theorem ag_rlB (A : Ag Z c c') (j : J Z c) {b : Nat} (h : b ∈ bks Z c) : rlB c' b = rlB c b := by
  unfold rlB
  rw [ag_rwA A (j.bz h).1, ag_rlA A (j.bz h).2.1]
theorem ag_row (A : Ag Z c c') (j : J Z c) {b : Nat} (h : b ∈ bks Z c) (ho : oa c' (rlB c b) = oa c (rlB c b)) : rowB c' b = rowB c b := by
  unfold rowB
  rw [ag_rlB A j h]
  exact refs_eq ho
theorem ag_pcs (A : Ag Z c c') (j : J Z c) {b : Nat} (h : b ∈ bks Z c) (ho : oa c' (plB c b) = oa c (plB c b)) : pcs c' b = pcs c b := by
  unfold pcs
  rw [ag_plB A (j.bz h).1]
  exact refs_eq ho
/-- a block's own part of the invariant, its row and its pieces told anew -/
theorem bok_nw (A : Ag Z c c') (j : J Z c) {i b : Nat} (hi : (bks Z c)[i]? = some b) {R P : List Nat} (ho : oa c' (rlB c b) = R.map some) (hp : oa c' (plB c b) = P.map some) (hl : R.length ≤ 40 ∧ P.length ≤ 40)
    (hR : R.Nodup ∧ (∀ t ∈ R, t ∈ tls Z c ∧ t ∈ tls Z c' ∧ fr c' 135 t = some b) ∧ chn c R)
    (hP : P.Nodup ∧ (∀ p ∈ P, tg c' p = 6 ∧ fr c' 81 p = some (rwA c b) ∧ fr c' 82 p = some (pfA c' p) ∧ pfA c' p ∈ R ∧ fr c' 83 p = some (pzA c' p) ∧ pzA c' p ∈ R ∧ fr c' 136 (pfA c' p) = some p) ∧ (P = [] ∨ Cuts c' R 0 P)) : BOk Z c' i b ∧ rowB c' b = R ∧ pcs c' b = P := by
  have h := List.mem_of_getElem? hi
  have hb := j.b.2 i b hi
  obtain ⟨⟨a1, a2, a3⟩, ⟨b1, b2, b3, b4, b5, b6⟩, -, -⟩ := hb
  have n := (j.bz h).1
  have n2 := (j.bz h).2.1
  have e1 := ag_rlB A j h
  have e2 := ag_plB A n
  have e3 := ag_rwA A n
  have er : rowB c' b = R := by unfold rowB; rw [e1]; exact refs_of ho
  have ep : pcs c' b = P := by unfold pcs; rw [e2]; exact refs_of hp
  have nr : tg c (rlB c b) ≠ 0 := by rw [b4.1.1]; decide
  have np : tg c (plB c b) ≠ 0 := by rw [b6.1.1]; decide
  refine ⟨⟨⟨by rw [A.2.1 16 b n]; exact a1, by rw [A.2.1 18 b n]; exact a2, by rw [A.2.1 18 b n]; exact a3⟩, ⟨?_, ?_, ?_, ?_, ?_, ?_⟩, ⟨by rw [er]; exact hR.1, fun t ht => ?_, ?_⟩, ⟨by rw [ep]; exact hP.1, fun p hp => ?_, ?_⟩⟩, er, ep⟩
  · rw [e3, A.2.2.1 19 b n (by decide) (by decide) (by decide)]; exact b1
  · rw [e3, A.1 _ n2]; exact b2
  · rw [e3, e1, A.2.2.1 112 _ n2 (by decide) (by decide) (by decide)]; exact b3
  · rw [e1]
    exact lk_nw b4 (A.1 _ nr) (A.2.1 9 _ nr) (A.2.2.1 9 _ nr (by decide) (by decide) (by decide)) ho (fun t ht => by
      have := j.isT (hR.2.1 t ht).1
      rw [A.1 t (isT_nz this)]; exact this.1) hl.1
  · rw [e2, A.2.2.1 20 b n (by decide) (by decide) (by decide)]; exact b5
  · rw [e2]
    exact lk_nw b6 (A.1 _ np) (A.2.1 9 _ np) (A.2.2.1 9 _ np (by decide) (by decide) (by decide)) hp (fun p hp => (hP.2.1 p hp).1) hl.2
  · rw [er] at ht
    exact (hR.2.1 t ht).2
  · rw [er]
    exact ag_chn A (fun t ht => j.isT (hR.2.1 t ht).1) hR.2.2
  · rw [ep] at hp
    rw [er, e3]
    exact (hP.2.1 p hp).2
  · rw [er, ep]
    exact hP.2.2
/-- .. left as it was -/
theorem bok_ag (A : Ag Z c c') (j : J Z c) {i b : Nat} (hi : (bks Z c)[i]? = some b) (ho : oa c' (rlB c b) = oa c (rlB c b)) (hp : oa c' (plB c b) = oa c (plB c b)) (ht : ∀ t ∈ tls Z c, t ∈ tls Z c')
    (h1 : ∀ t ∈ rowB c b, fr c' 135 t = some b) (h2 : ∀ p ∈ pcs c b, fr c' 136 (pfA c p) = some p) : BOk Z c' i b ∧ rowB c' b = rowB c b ∧ pcs c' b = pcs c b := by
  have h := List.mem_of_getElem? hi
  obtain ⟨n, n2, k1, k2⟩ := j.bz h
  obtain ⟨_, _, ⟨q1, q2, q3⟩, ⟨q4, q5, q6⟩⟩ := j.b.2 i b hi
  have hIT : ∀ t ∈ rowB c b, IsT c t := fun t ht => j.isT (j.rT h ht).1
  have hpz : ∀ p ∈ pcs c b, tg c p ≠ 0 := fun p hp => by rw [(j.pk h hp).1]; decide
  refine bok_nw A j hi (by rw [ho]; exact k1.oc) (by rw [hp]; exact k2.oc) ⟨k1.1.2.2.2, k2.1.2.2.2⟩ ⟨q1, fun t hT => ⟨(q2 t hT).1, ht t (q2 t hT).1, h1 t hT⟩, q3⟩ ⟨q4, fun p hp => ?_, ?_⟩
  · have n := hpz p hp
    obtain ⟨r1, r2, r3, r4, r5, r6⟩ := q5 p hp
    rw [ag_pfA A n, ag_pzA A n, A.1 p n, A.2.2.1 81 p n (by decide) (by decide) (by decide), A.2.2.1 82 p n (by decide) (by decide) (by decide), A.2.2.1 83 p n (by decide) (by decide) (by decide)]
    exact ⟨(j.pk h hp).1, r1, r2, r3, r4, r5, h2 p hp⟩
  · rcases q6 with q6 | q6
    · exact Or.inl q6
    · exact Or.inr (ag_Cuts A hIT _ _ (fun p hp => ⟨hpz p hp, (q5 p hp).2.2.1, (q5 p hp).2.2.2.2.1⟩) q6)
end Frame
