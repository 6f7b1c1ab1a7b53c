/-! A block forgets its pieces while other rows are being made anew: the heap's county v differs from the sound one c in the rows N and in who has the trips. -/
def Ov (N : Nat → Prop) (v c : HP) : Prop := (∀ a, tg v a = tg c a) ∧ (∀ k a, fi v k a = fi c k a) ∧ (∀ k a, k ≠ 135 → fr v k a = fr c k a) ∧ ∀ a, ¬ N a → oa v a = oa c a
/-- N: rows of other blocks than b -/
def NR (Z : Nat → Nat) (N : Nat → Prop) (c : HP) (b : Nat) : Prop := ∀ a, N a → ∃ x n, x ≠ b ∧ LK c a 10 x n
def TQ (Z : Nat → Nat) (g g' : HP) : Prop := oa g' (Z 1) = oa g (Z 1) ∧ oa g' (Z 2) = oa g (Z 2)
theorem TQ.rf {Z : Nat → Nat} {g : HP} : TQ Z g g := ⟨rfl, rfl⟩
theorem TQ.tr {Z : Nat → Nat} {g g1 g2 : HP} (h1 : TQ Z g g1) (h2 : TQ Z g1 g2) : TQ Z g g2 := ⟨h2.1.trans h1.1, h2.2.trans h1.2⟩
section Midst
variable {Z : Nat → Nat} {g v c c' : HP} {N : Nat → Prop}
theorem ovR (S : Sim Z g v) (O : Ov N v c) {ci a : Nat} (h : tg c a = ci + 1) (h1 : 1 ≤ ci) (h2 : ci < 11) (k : Nat) (hk : 16 * ci + k ≠ 135) : gfR ci k (some a) g = some (fr c (16 * ci + k) a) := by
  rw [S.rdR (by rw [O.1]; exact h) h1 h2 k, O.2.2.1 _ _ hk]
theorem ovrc (S : Sim Z g v) (O : Ov N v c) {ci a : Nat} (h : tg c a = ci + 1) : rcv ci (some a) g = some a := S.rc (by rw [O.1]; exact h)
theorem ovcs (S : Sim Z g v) (O : Ov N v c) {ci a : Nat} (h : tg c a = ci + 1) : cst ci (some a) g = some (some a) := S.cs (by rw [O.1]; exact h)
theorem ovoa (S : Sim Z g v) (O : Ov N v c) (j : JG Z c) {a n o : Nat} {k : Int32} (h : LK c a k o n) (h7 : k ≠ 7) (h8 : k ≠ 8) (hN : ¬ N a) : oa g a = (refs c a).map some := by
  rw [S.2.2.2.1 a (by rw [O.1]; exact h.1.1) (h.z1 j h7) (h.z2 j h8), O.2.2.2 a hN]; exact h.1.2.1
theorem ovsz (S : Sim Z g v) (O : Ov N v c) (j : JG Z c) {a n o : Nat} {k : Int32} (h : LK c a k o n) (h7 : k ≠ 7) (h8 : k ≠ 8) (hN : ¬ N a) : al_size a g = some (Int32.ofNat (refs c a).length) := by
  unfold al_size
  rw [ovoa S O j h h7 h8 hN, List.length_map, if_pos (S.tag (n := 0) (by rw [O.1]; exact h.1.1))]
theorem ovgt (S : Sim Z g v) (O : Ov N v c) (j : JG Z c) {a n o i x : Nat} {k : Int32} (h : LK c a k o n) (h7 : k ≠ 7) (h8 : k ≠ 8) (hN : ¬ N a) (hi : (refs c a)[i]? = some x) : al_get a (Int32.ofNat i) g = some (some x) := by
  have hlt := (List.getElem?_eq_some_iff.mp hi).1
  have h40 := h.1.2.2.2
  unfold al_get
  rw [ovoa S O j h h7 h8 hN, nN (by omega), if_pos ⟨S.tag (n := 0) (by rw [O.1]; exact h.1.1), n0 (by omega), by rw [List.length_map]; exact hlt⟩, List.getD_eq_getElem?_getD, List.getElem?_map, hi]
  rfl
theorem NR.k {b : Nat} (h : NR Z N c b) {a o n : Nat} {k : Int32} (hk : LK c a k o n) (h10 : k ≠ 10) : ¬ N a := fun z => by
  obtain ⟨x, m, _, h2⟩ := h a z
  exact h10 (hk.2.1.symm.trans h2.2.1)
theorem NR.o {b : Nat} (h : NR Z N c b) {a n : Nat} {k : Int32} (hk : LK c a k b n) : ¬ N a := fun z => by
  obtain ⟨x, m, h1, h2⟩ := h a z
  exact h1 (h2.own hk rfl)
theorem NR.ag {b : Nat} (h : NR Z N c b) (hf : ∀ a, N a → LK c' a (fi c 9 a) ((fr c 9 a).getD 0) 9) : NR Z N c' b := fun a ha => by
  obtain ⟨x, n, h1, h2⟩ := h a ha
  have := hf a ha
  rw [h2.2.1, h2.2.2] at this
  exact ⟨x, 9, h1, this⟩
theorem Ov.w {k a D : Nat} {x : List (Option Nat)} {u : Option Nat} (O : Ov N v c) : Ov N (setR (setO v D x) k a u) (setR (setO c D x) k a u) := by
  refine ⟨O.1, O.2.1, fun k' a' hk => ?_, fun a' ha => ?_⟩
  · rw [fr_setR, fr_setR, fr_setO, fr_setO]
    split
    · rfl
    · exact O.2.2.1 k' a' hk
  · rw [oa_setR, oa_setR, oa_setO, oa_setO]
    split
    · rfl
    · exact O.2.2.2 a' ha
theorem Ov.o {D : Nat} {x : List (Option Nat)} (O : Ov N v c) : Ov N (setO v D x) (setO c D x) := by
  refine ⟨O.1, O.2.1, O.2.2.1, fun a' ha => ?_⟩
  rw [oa_setO, oa_setO]
  split
  · rfl
  · exact O.2.2.2 a' ha
theorem Ov.r {k a : Nat} {u : Option Nat} (O : Ov N v c) : Ov N (setR v k a u) (setR c k a u) := by
  refine ⟨O.1, O.2.1, fun k' a' hk => ?_, O.2.2.2⟩
  rw [fr_setR, fr_setR]
  split
  · rfl
  · exact O.2.2.1 k' a' hk
theorem drop_loopO (S : Sim Z g v) (O : Ov N v c) (j : J Z c) {d p i : Nat} (hN : ¬ N (dpA c d)) (hd : d ∈ dvs Z c) (hi : (dps c d)[i]? = some p) : ∀ (m u : Nat), i - u < m → u ≤ i → f_X1_drop_L2 d (some p) g m (Int32.ofNat u) = some (setO g (dpA c d) (((dps c d).eraseIdx i).map some)) := by
  obtain ⟨nd, hD⟩ := j.dz hd
  have eD : gfR 2 2 (some d) g = some (some (dpA c d)) := by
    obtain ⟨_, _, _, h1, ⟨h2, h3⟩, _⟩ := j.dok hd
    rw [ovR S O (ci := 2) (j.td hd) (by decide) (by decide) 2 (by decide)]; exact congrArg some h2
  have hn : (dps c d).Nodup := by
    obtain ⟨_, _, _, _, _, ⟨h, _⟩, _⟩ := j.dok hd
    exact h
  have h40 : (dps c d).length ≤ 40 := hD.1.2.2.2
  have hlt := (List.getElem?_eq_some_iff.mp hi).1
  intro m
  induction m with
  | zero => intro u hm; omega
  | succ m ih =>
    intro u hm hu
    obtain ⟨x, hx⟩ : ∃ x, (dps c d)[u]? = some x := ⟨_, List.getElem?_eq_getElem (by omega)⟩
    rw [f_X1_drop_L2]
    simp only [eD, ovrc S O (ci := 0) hD.1.1, ovsz S O j.gg hD (by decide) (by decide) hN, Option.bind_some]
    refine (if_neg (nlen h40 hx)).trans ?_
    simp only [ovgt S O j.gg hD (by decide) (by decide) hN hx, Option.bind_some]
    by_cases he : u = i
    · have e : x = p := by rw [he, hi] at hx; exact (Option.some.inj hx).symm
      have er : al_remove (dpA c d) (Int32.ofNat u) g = some ((((dps c d).map some).getD i none), setO g (dpA c d) (((dps c d).eraseIdx i).map some)) := by
        have eo : oa g (dpA c d) = (dps c d).map some := ovoa S O j.gg hD (by decide) (by decide) hN
        unfold al_remove
        rw [eo, he, nN (by omega), if_pos ⟨S.tag (n := 0) (by rw [O.1]; exact hD.1.1), n0 (by omega), by rw [List.length_map]; exact hlt⟩, map_eidx]
      rw [if_pos (by rw [e]), er]
      rfl
    · rw [if_neg (fun z => he ?_), show Int32.ofNat u + 1 = Int32.ofNat (u + 1) from nAdd u 1]
      · exact ih (u + 1) (by omega) (by omega)
      · have e : x = p := Option.some.inj z
        rw [e] at hx
        have a1 := (List.getElem?_eq_some_iff.mp hx)
        have a2 := (List.getElem?_eq_some_iff.mp hi)
        exact (List.getElem_inj hn).mp (a1.2.trans a2.2.symm)
/-- the heap's county keeps what the sound one doesn't speak of -/
def Kp (N : Nat → Prop) (v v' : HP) : Prop := (∀ x, fr v' 135 x = fr v 135 x) ∧ ∀ a, N a → oa v' a = oa v a
theorem Kp.rf : Kp N v v := ⟨fun _ => rfl, fun _ _ => rfl⟩
theorem Kp.tr {v1 v2 : HP} (h1 : Kp N v v1) (h2 : Kp N v1 v2) : Kp N v v2 := ⟨fun x => (h2.1 x).trans (h1.1 x), fun a ha => (h2.2 a ha).trans (h1.2 a ha)⟩
theorem NR.mv {b : Nat} (h : NR Z N c b) (A : Ag Z c c') (hr : ∀ x n a, LK c a 10 x n → N a → oa c' a = oa c a) (hn : ∀ a, N a → ∃ x, LK c a 10 x 9) : NR Z N c' b := fun a ha => by
  obtain ⟨x, n, h1, h2⟩ := h a ha
  obtain ⟨y, h3⟩ := hn a ha
  have e := h3.own h2 rfl
  exact ⟨x, 9, h1, e ▸ lk_ag A h3 (hr x n a h2 ha) (by decide)⟩
/-- N: rows of other blocks of the county -/
def NB (Z : Nat → Nat) (N : Nat → Prop) (c : HP) (b : Nat) : Prop := ∀ a, N a → ∃ x, x ≠ b ∧ x ∈ bks Z c ∧ a = rlB c x
theorem NB.nr {b : Nat} (h : NB Z N c b) (j : J Z c) : NR Z N c b := fun a ha => by
  obtain ⟨x, h1, h2, rfl⟩ := h a ha
  exact ⟨x, 9, h1, (j.bz h2).2.2.1⟩
theorem NB.mv {b : Nat} (h : NB Z N c b) (j : J Z c) (A : Ag Z c c') (s : Sl Z c c') : NB Z N c' b := fun a ha => by
  obtain ⟨x, h1, h2, rfl⟩ := h a ha
  exact ⟨x, h1, by rw [bks_eq s.2.2.1]; exact h2, (ag_rlB A j h2).symm⟩
theorem r_releaseO (S : Sim Z g v) (O : Ov N v c) (j : J Z c) {b : Nat} (hN : NB Z N c b) {p : Nat} (hp : tg c p = 6) : ∃ g' v' c', f_X4_release p g = some g' ∧ Sim Z g' v' ∧ Ov N v' c' ∧ Kp N v v' ∧ Spd Z 0 0 g g' ∧ TQ Z g g' ∧ J Z c' ∧ Rel Z c c' ∧ fr c' 85 p = none := by
  have e5 : gfR 5 5 (some p) g = some (fr c 85 p) := ovR S O (ci := 5) hp (by decide) (by decide) 5 (by decide)
  unfold f_X4_release
  rw [e5, Option.bind_some]
  cases hd : fr c 85 p with
  | none => exact ⟨g, v, c, if_pos rfl, S, O, Kp.rf, Spd.rf, TQ.rf, j, Rel.rf, hd⟩
  | some d =>
    obtain ⟨hdm, hpm⟩ := j.q p d hp hd
    obtain ⟨i, hi⟩ := mem_at hpm
    obtain ⟨nd, hD⟩ := j.dz hdm
    have hND : ¬ N (dpA c d) := (hN.nr j).k hD (by decide)
    have hlt := (List.getElem?_eq_some_iff.mp hi).1
    have h40 : (dps c d).length ≤ 40 := hD.1.2.2.2
    have ed : f_X1_drop d (some p) g = some (setO g (dpA c d) (((dps c d).eraseIdx i).map some)) := drop_loopO S O j hND hdm hi FU 0 (by show _ < 4096; omega) (Nat.zero_le _)
    have z1 := hD.z1 j.gg (by decide)
    have z2 := hD.z2 j.gg (by decide)
    have S1 : Sim Z (setO g (dpA c d) (((dps c d).eraseIdx i).map some)) (setO v (dpA c d) (((dps c d).eraseIdx i).map some)) := S.wO z1 z2
    have tp : tg v p = 6 := (O.1 p).trans hp
    have S2 : Sim Z (setR (setO g (dpA c d) (((dps c d).eraseIdx i).map some)) 85 p none) (setR (setO v (dpA c d) (((dps c d).eraseIdx i).map some)) 85 p none) := S1.wR (by show 2 ≤ tg v p; omega)
    have ep : pfR 5 5 (some p) none (setO g (dpA c d) (((dps c d).eraseIdx i).map some)) = some (setR (setO g (dpA c d) (((dps c d).eraseIdx i).map some)) 85 p none) := pfR_eq (ci := 5) (S1.tag tp)
    obtain ⟨k1, k2⟩ := j_release j hp hd hi
    refine ⟨_, _, _, ?_, S2, O.w, ⟨fun x => ?_, fun a ha => ?_⟩, (Spd.wO (S.tag (n := 0) ((O.1 _).trans hD.1.1))).tr (Spd.wR S1 (by show 2 ≤ tg v p; omega)), ⟨?_, ?_⟩, k1, k2, by rw [fr_setR, if_pos ⟨rfl, rfl⟩]⟩
    · rw [if_neg sn, Option.bind_some, ovrc S O (ci := 2) (j.td hdm), Option.bind_some, ed, Option.bind_some, ep, Option.bind_some]
    · rw [fr_setR, if_neg (fun z => by have := z.1; omega), fr_setO]
    · rw [oa_setR, oa_setO, if_neg (show ¬ a = dpA c d from fun z => hND (z ▸ ha))]
    · rw [oa_setR, oa_setO, if_neg fun z => z1 z.symm]
    · rw [oa_setR, oa_setO, if_neg fun z => z2 z.symm]
theorem fg_loopO (j : J Z c) {b : Nat} (hb : b ∈ bks Z c) (hN : NB Z N c b) : ∀ (m u : Nat) (w v c1 : HP), (pcs c b).length - u < m → u ≤ (pcs c b).length → Sim Z w v → Ov N v c1 → J Z c1 → Rel Z c c1 → (∀ k p, k < u → (pcs c b)[k]? = some p → fr c1 85 p = none) →
    ∃ w' v' c2, f_X0_forgetPieces_L2 b m (Int32.ofNat u) w = some w' ∧ Sim Z w' v' ∧ Ov N v' c2 ∧ Kp N v v' ∧ Spd Z 0 0 w w' ∧ TQ Z w w' ∧ J Z c2 ∧ Rel Z c c2 ∧ ∀ p ∈ pcs c b, fr c2 85 p = none := by
  intro m
  induction m with
  | zero => intro u w v c1 hm; omega
  | succ m ih =>
    intro u w v c1 hm hu S O j1 R hk
    have hb1 : b ∈ bks Z c1 := by rw [bks_eq R.2.1.2.2.1]; exact hb
    have hN1 : NB Z N c1 b := hN.mv j R.1 R.2.1
    obtain ⟨n1, n2, _, hP⟩ := j1.bz hb1
    have hNP : ¬ N (plB c1 b) := (hN1.nr j1).k hP (by decide)
    have eP : gfR 1 4 (some b) w = some (some (plB c1 b)) := by
      obtain ⟨_, _, _, h1, ⟨h2, h3, h4, h5, h6, h7⟩, _⟩ := j1.bok hb1
      rw [ovR S O (ci := 1) (j1.tb hb1) (by decide) (by decide) 4 (by decide)]; exact congrArg some h6
    have epc : refs c1 (plB c1 b) = pcs c b := ag_pcs R.1 j hb (R.2.2.2.1 b hb).2
    have h40 : (pcs c b).length ≤ 40 := by rw [← epc]; exact hP.1.2.2.2
    have eZ := ovsz S O j1.gg hP (by decide) (by decide) hNP
    rw [epc] at eZ
    rw [f_X0_forgetPieces_L2, eP, Option.bind_some, ovrc S O (ci := 0) hP.1.1, Option.bind_some, eZ, Option.bind_some]
    by_cases hc : (pcs c b).length ≤ u
    · rw [if_pos ((nLe (by omega) (by omega)).mpr hc)]
      refine ⟨w, v, c1, rfl, S, O, Kp.rf, Spd.rf, TQ.rf, j1, R, fun p hp => ?_⟩
      obtain ⟨k, hk'⟩ := mem_at hp
      exact hk k p (by have := (List.getElem?_eq_some_iff.mp hk').1; omega) hk'
    · obtain ⟨x, hx⟩ : ∃ x, (pcs c b)[u]? = some x := ⟨_, List.getElem?_eq_getElem (by omega)⟩
      have hx' : (refs c1 (plB c1 b))[u]? = some x := by rw [epc]; exact hx
      have tx := hP.tg hx'
      obtain ⟨w1, v1, c2, a1, a2, a3, a4, a5, a6, a7, a8, a9⟩ := r_releaseO S O j1 hN1 tx
      obtain ⟨w', v', c3, b1, b2, b3, b4, b5, b6, b7, b8, b9⟩ := ih (u + 1) w1 v1 c2 (by omega) (by omega) a2 a3 a7 (R.tr j a8) (fun k p hku hkp => by
        by_cases e : k = u
        · rw [e, hx] at hkp
          rw [← Option.some.inj hkp]; exact a9
        · rcases a8.2.2.2.2.2 p with h | h
          · rw [h]; exact hk k p (by omega) hkp
          · exact h)
      rw [if_neg (fun z => hc ((nLe (by omega) (by omega)).mp z)), Option.bind_some, ovrc S O (ci := 0) hP.1.1, Option.bind_some, ovgt S O j1.gg hP (by decide) (by decide) hNP hx', Option.bind_some, ovcs S O (ci := 5) tx, Option.bind_some, ovrc S O (ci := 5) tx, Option.bind_some, a1, Option.bind_some, show Int32.ofNat u + 1 = Int32.ofNat (u + 1) from nAdd u 1]
      exact ⟨w', v', c3, b1, b2, b3, a4.tr b4, a5.tr b5, a6.tr b6, b7, b8, b9⟩
theorem ovRow (S : Sim Z g v) (O : Ov N v c) (j : J Z c) {b : Nat} (hb : b ∈ bks Z c) (hN : ¬ N (rlB c b)) : RowIs g v (rwA c b) (rowB c b) := by
  obtain ⟨i, _, _, h1, ⟨h2, h3, h4, h5, h6, h7⟩, ⟨h8, h9, h10⟩, _⟩ := j.bok hb
  have er : rlA v (rwA c b) = rlB c b := by
    unfold rlB rlA
    rw [O.2.2.1 112 _ (by decide)]
  refine ⟨by rw [O.1]; exact h3, by rw [er, O.2.2.1 112 _ (by decide)]; exact h4, by rw [er, O.1]; exact h5.1.1, by rw [er]; exact ovoa S O j.gg h5 (by decide) (by decide) hN, h5.1.2.2.2, fun t ht => ?_⟩
  have := j.isT (h9 t ht).1
  unfold IsT lA fA tA
  rw [O.1, O.2.2.1 129 _ (by decide), O.2.2.1 130 _ (by decide), O.2.2.1 131 _ (by decide), O.1, O.1, O.1]
  exact this
theorem fg_loop2O (j : J Z c) {b : Nat} (hb : b ∈ bks Z c) (hN : NB Z N c b) : ∀ (m u : Nat) (w v c1 : HP), (rowB c b).length - u < m → u ≤ (rowB c b).length → Sim Z w v → Ov N v c1 → J Z c1 → Fg Z b ((rowB c b).take u) c c1 →
    ∃ w' v' c2, f_X0_forgetPieces_L42 b m (Int32.ofNat u) w = some w' ∧ Sim Z w' v' ∧ Ov N v' c2 ∧ Kp N v v' ∧ Spd Z 0 0 w w' ∧ TQ Z w w' ∧ J Z c2 ∧ Fg Z b (rowB c b) c c2 := by
  intro m
  induction m with
  | zero => intro u w v c1 hm; omega
  | succ m ih =>
    intro u w v c1 hm hu S O j1 R
    obtain ⟨r1, r2, r3, r4, r5, r6, r7, r8, r9⟩ := id R
    have hb1 : b ∈ bks Z c1 := by rw [bks_eq r2.2.2.1]; exact hb
    have hN1 : NB Z N c1 b := hN.mv j r1 r2
    have er : rowB c1 b = rowB c b := ag_row r1 j hb (r4 b hb)
    have hR := ovRow S O j1 hb1 ((hN1.nr j1).o (j1.bz hb1).2.2.1)
    rw [er] at hR
    have h40 := hR.le
    have eB : gfR 1 3 (some b) w = some (some (rwA c1 b)) := by
      rw [ovR S O (ci := 1) (j1.tb hb1) (by decide) (by decide) 3 (by decide)]; exact congrArg some (j1.cap hb1)
    have ep1 : pcs c1 b = [] := by
      unfold pcs
      rw [ag_plB r1 (j.bz hb).1]
      unfold refs; rw [r6]; rfl
    rw [f_X0_forgetPieces_L42, eB, Option.bind_some, S.rc (ci := 7) hR.1, Option.bind_some, r_count S hR, Option.bind_some]
    by_cases hc : (rowB c b).length ≤ u
    · rw [if_pos ((nLe (by omega) (by omega)).mpr hc)]
      rw [List.take_of_length_le hc] at r8
      exact ⟨w, v, c1, rfl, S, O, Kp.rf, Spd.rf, TQ.rf, j1, r1, r2, r3, r4, r5, r6, r7, r8, r9⟩
    · obtain ⟨x, hx⟩ : ∃ x, (rowB c b)[u]? = some x := ⟨_, List.getElem?_eq_getElem (by omega)⟩
      have tx := hR.tr hx
      have hx1 : x ∈ rowB c1 b := by rw [er]; exact List.mem_of_getElem? hx
      obtain ⟨k1, k2⟩ := j_unp j1 hb1 hx1 ep1
      have S1 : Sim Z (setR w 136 x none) (setR v 136 x none) := S.wR (by rw [tx.1]; decide)
      have epf : pfR 8 8 (some x) none w = some (setR w 136 x none) := pfR_eq (ci := 8) (S.tag tx.1)
      have hT : (rowB c b).take (u + 1) = (rowB c b).take u ++ [x] := by
        rw [List.take_add_one, hx]; rfl
      obtain ⟨w', v', c3, b1, b2, b3, b4, b5, b6, b7⟩ := ih (u + 1) _ _ _ (by omega) (by omega) S1 O.r k1 ⟨r1.tr k2, r2, r3, r4, r5, r6, fun k y h1 h2 => by
        rw [fr_setR, if_neg fun z => h2 z.1]; exact r7 k y h1 h2, fun y => by
        rw [fr_setR, r8, hT]
        by_cases e : y = x
        · rw [if_pos ⟨rfl, e⟩, if_pos (by rw [e]; simp)]
        · rw [if_neg fun z => e z.2]
          by_cases h : y ∈ (rowB c b).take u
          · rw [if_pos h, if_pos (List.mem_append_left _ h)]
          · rw [if_neg h, if_neg fun z => (List.mem_append.mp z).elim h fun z => e (List.mem_singleton.mp z)], fun q => by
        rw [fr_setR, if_neg fun z => by have := z.1; omega]; exact r9 q⟩
      rw [if_neg (fun z => hc ((nLe (by omega) (by omega)).mp z)), Option.bind_some, hR.l S, Option.bind_some, hR.v S, Option.bind_some, hR.at S hx, Option.bind_some, S.cs (ci := 8) tx.1, Option.bind_some, epf, Option.bind_some, show Int32.ofNat u + 1 = Int32.ofNat (u + 1) from nAdd u 1]
      exact ⟨w', v', c3, b1, b2, b3, Kp.tr (v1 := setR v 136 x none) ⟨fun y => by rw [fr_setR, if_neg fun z => by have := z.1; omega], fun _ _ => rfl⟩ b4, (Spd.wR S (by rw [tx.1]; decide)).tr b5, TQ.tr (g1 := setR w 136 x none) ⟨rfl, rfl⟩ b6, b7⟩
theorem r_forgetO (S : Sim Z g v) (O : Ov N v c) (j : J Z c) {b : Nat} (hb : b ∈ bks Z c) (hN : NB Z N c b) : ∃ g' v' c', f_X0_forgetPieces b g = some g' ∧ Sim Z g' v' ∧ Ov N v' c' ∧ Kp N v v' ∧ Spd Z 0 0 g g' ∧ TQ Z g g' ∧ J Z c' ∧ Fg Z b (rowB c b) c c' := by
  have h40 : (pcs c b).length ≤ 40 := (j.bz hb).2.2.2.1.2.2.2
  have r40 := j.rlen hb
  obtain ⟨w1, v1, c1, a1, a2, a3, a4, a5, a6, a7, a8, a9⟩ := fg_loopO j hb hN FU 0 g v c (by show _ < 4096; omega) (Nat.zero_le _) S O j Rel.rf (fun k p hk => absurd hk (Nat.not_lt_zero _))
  have hb1 : b ∈ bks Z c1 := by rw [bks_eq a8.2.1.2.2.1]; exact hb
  have hN1 : NB Z N c1 b := hN.mv j a8.1 a8.2.1
  have epl : plB c1 b = plB c b := ag_plB a8.1 (j.bz hb).1
  have epc : pcs c1 b = pcs c b := ag_pcs a8.1 j hb (a8.2.2.2.1 b hb).2
  obtain ⟨_, _, _, hP1⟩ := a7.bz hb1
  have hNP : ¬ N (plB c1 b) := (hN1.nr a7).k hP1 (by decide)
  have z1 := hP1.z1 a7.gg (by decide)
  have z2 := hP1.z2 a7.gg (by decide)
  have eP1 : gfR 1 4 (some b) w1 = some (some (plB c1 b)) := by
    obtain ⟨_, _, _, h1, ⟨h2, h3, h4, h5, h6, h7⟩, _⟩ := a7.bok hb1
    rw [ovR a2 a3 (ci := 1) (a7.tb hb1) (by decide) (by decide) 4 (by decide)]; exact congrArg some h6
  obtain ⟨k1, k2, k3, k4, k5⟩ := j_clear a7 hb1 (fun p hp => a9 p (by rw [← epc]; exact hp))
  have S2 : Sim Z (setO w1 (plB c1 b) []) (setO v1 (plB c1 b) []) := a2.wO z1 z2
  have elt : (oa w1 (plB c1 b)).length < 4000 := by
    rw [ovoa a2 a3 a7.gg hP1 (by decide) (by decide) hNP, List.length_map]
    have : (refs c1 (plB c1 b)).length ≤ 40 := hP1.1.2.2.2
    omega
  have tt : tg w1 (plB c1 b) = 1 := a2.tag (n := 0) ((a3.1 _).trans hP1.1.1)
  have ecl : al_clear (plB c1 b) w1 = some (setO w1 (plB c1 b) []) := if_pos ⟨tt, elt⟩
  have F : Fg Z b ((rowB c b).take 0) c (setO c1 (plB c1 b) []) := by
    refine ⟨a8.1.tr k2, a8.2.1.tr k3, a8.2.2.1, fun b' hb' => ?_, fun b' hb' hne => ?_, by rw [oa_setO, if_pos epl.symm], fun k x h1 _ => a8.2.2.2.2.1 k x h1, fun x => ?_, a8.2.2.2.2.2⟩
    · have h1 := k4 b' (by rw [bks_eq a8.2.1.2.2.1]; exact hb')
      rw [ag_rlB a8.1 j hb'] at h1
      exact h1.trans (a8.2.2.2.1 b' hb').1
    · have h1 := k5 b' (by rw [bks_eq a8.2.1.2.2.1]; exact hb') hne
      rw [ag_plB a8.1 (j.bz hb').1] at h1
      exact h1.trans (a8.2.2.2.1 b' hb').2
    · rw [List.take_zero, if_neg List.not_mem_nil]
      exact a8.2.2.2.2.1 136 x (by decide)
  obtain ⟨w2, v2, c2, b1, b2, b3, b4, b5, b6, b7, b8⟩ := fg_loop2O j hb hN FU 0 _ _ _ (by show _ < 4096; omega) (Nat.zero_le _) S2 a3.o k1 F
  refine ⟨w2, v2, c2, ?_, b2, b3, (a4.tr (v1 := v1) ⟨fun _ => rfl, fun a ha => rfl⟩).tr (Kp.tr (v1 := setO v1 (plB c1 b) []) ⟨fun _ => rfl, fun a ha => by rw [oa_setO, if_neg (show ¬ a = plB c1 b from fun z => hNP (z ▸ ha))]⟩ b4), (a5.tr (Spd.wO tt)).tr b5, (a6.tr (g1 := w1) ⟨rfl, rfl⟩).tr (TQ.tr (g1 := setO w1 (plB c1 b) []) ⟨by rw [oa_setO, if_neg fun z => z1 z.symm], by rw [oa_setO, if_neg fun z => z2 z.symm]⟩ b6), b7, b8⟩
  have a1' : f_X0_forgetPieces_L2 b FU 0 g = some w1 := a1
  have b1' : f_X0_forgetPieces_L42 b FU 0 (setO w1 (plB c1 b) []) = some w2 := b1
  unfold f_X0_forgetPieces
  rw [a1', Option.bind_some, eP1, Option.bind_some, ovrc a2 a3 (ci := 0) hP1.1.1, Option.bind_some, ecl, Option.bind_some, b1', Option.bind_some]
end Midst
