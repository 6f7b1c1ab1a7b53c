/-! What is asked of pieces, of drivers, of the county as a whole. -/
def dnP (c : HP) (p : Nat) : Int32 := match fr c 85 p with
  | none => -1
  | some d => fi c 32 d
def rwP (c : HP) (p : Nat) : Nat := (fr c 81 p).getD 0
def wkRow (c : HP) (p : Nat) (L : List Nat) : Int32 := L.foldl (fun a t => if fr c 136 t = some p then (if cauT c t = 0 then rndT c t - tst c (pfA c p) else a) else a) 0
def wkP (c : HP) (p : Nat) : Int32 := match fr c 85 p with
  | none => 0
  | some d => if fi c 33 d = 0 then (if wkRow c p (refs c (rlA c (rwP c p))) ≤ 0 then 0 else wkRow c p (refs c (rlA c (rwP c p))) + 10) else 0
def vPiece (c : HP) (p : Nat) (w : Int32) : Int32 :=
  if w = 0 then fi c 128 (pfA c p) else if w = 1 then fi c 128 (pzA c p) else if w = 2 then fi c 84 p else if w = 3 then minP c p else if w = 4 then dnP c p else wkP c p
def wkD (c : HP) (d : Nat) : Int32 := sumI (wkP c) (dps c d)
def payD (c : HP) (d : Nat) : Int32 := (wkD c d / 4) + ((if 0 < wkD c d - 480 then (wkD c d - 480) else 0) / 4)
def vDrv (c : HP) (d : Nat) (w : Int32) : Int32 :=
  if w = 0 then Int32.ofNat (dps c d).length else if w = 1 then sumI (minP c) (dps c d) else if w = 2 then (if fi c 33 d = 0 then 0 else 1) else if w = 3 then wkD c d else payD c d
theorem nlen {l : List Nat} {i x : Nat} (hl : l.length ≤ 40) (hx : l[i]? = some x) : ¬ (Int32.ofNat l.length ≤ Int32.ofNat i) := fun z => by
  have hi := (List.getElem?_eq_some_iff.mp hx).1
  have := (nLe (by omega) (by omega)).mp z
  omega
theorem foldl_sumI (f : Nat → Int32) : ∀ (l : List Nat) (a : Int32), l.foldl (fun a x => a + f x) a = a + sumI f l
  | [], a => by show a = a + 0; rw [Int32.add_zero]
  | x :: xs, a => by
    show xs.foldl (fun a x => a + f x) (a + f x) = a + (f x + sumI f xs)
    rw [foldl_sumI f xs, Int32.add_assoc]
theorem sumI_perm {f : Nat → Int32} {l m : List Nat} (h : l.Perm m) : sumI f l = sumI f m := by
  induction h with
  | nil => rfl
  | cons x _ ih => show f x + _ = f x + _; rw [ih]
  | swap x y l => show f y + (f x + sumI f l) = f x + (f y + sumI f l); rw [← Int32.add_assoc, ← Int32.add_assoc, Int32.add_comm (f y)]
  | trans _ _ h1 h2 => exact h1.trans h2
theorem sumI_congr {f f' : Nat → Int32} : ∀ {l : List Nat}, (∀ x ∈ l, f x = f' x) → sumI f l = sumI f' l
  | [], _ => rfl
  | x :: xs, h => by
    show f x + sumI f xs = f' x + sumI f' xs
    rw [h x List.mem_cons_self, sumI_congr fun y hy => h y (List.mem_cons_of_mem _ hy)]
section Asks2
variable {Z : Nat → Nat} {g c : HP}
theorem J.pk (j : J Z c) {b p : Nat} (hb : b ∈ bks Z c) (hp : p ∈ pcs c b) : tg c p = 6 ∧ fr c 81 p = some (rwA c b) ∧ fr c 82 p = some (pfA c p) ∧ pfA c p ∈ rowB c b ∧ fr c 83 p = some (pzA c p) ∧ pzA c p ∈ rowB c b ∧ fr c 136 (pfA c p) = some p := by
  obtain ⟨i, _, _, h1, ⟨h2, h3, h4, h5, h6, h7⟩, _, h8, h9, _⟩ := j.bok hb
  exact ⟨h7.1.2.2.1 p hp, h9 p hp⟩
theorem r_pmin (S : Sim Z g c) (j : J Z c) {b p : Nat} (hb : b ∈ bks Z c) (hp : p ∈ pcs c b) : f_X4_minutes p g = some (minP c p) := by
  obtain ⟨k1, k2, k3, k4, k5, k6, k7⟩ := j.pk hb hp
  have e3 : gfR 5 3 (some p) g = some (some (pzA c p)) := by rw [S.rdR (ci := 5) k1 (by decide) (by decide) 3]; exact congrArg some k5
  have e2 : gfR 5 2 (some p) g = some (some (pfA c p)) := by rw [S.rdR (ci := 5) k1 (by decide) (by decide) 2]; exact congrArg some k3
  have t3 := (j.isT (j.rT hb k6).1).1
  have t2 := (j.isT (j.rT hb k4).1).1
  have e4 : gfI 8 4 (some (pfA c p)) g = some (tst c (pfA c p)) := S.rdT t2 4 rfl
  unfold f_X4_minutes minP
  simp only [e3, S.rc (ci := 8) t3, r_end S t3, e2, e4, Option.bind_some]
theorem r_pdrv (S : Sim Z g c) (j : J Z c) {p : Nat} (hp : tg c p = 6) : f_X4_driverNumber p g = some (dnP c p) := by
  have e1 : gfR 5 5 (some p) g = some (fr c 85 p) := S.rdR (ci := 5) hp (by decide) (by decide) 5
  unfold f_X4_driverNumber dnP
  rw [e1]
  simp only [Option.bind_some]
  cases hb : fr c 85 p with
  | none => simp
  | some d =>
    have e2 : gfI 2 0 (some d) g = some (fi c 32 d) := S.rdI (ci := 2) (j.td (j.q p d hp hb).1) (by decide) (by decide) (by decide) 0
    simp only [if_neg sn, e2, Option.bind_some]
theorem r_pwork (S : Sim Z g c) (j : J Z c) (D : Dy Z g c) {b p : Nat} (hb : b ∈ bks Z c) (hp : p ∈ pcs c b) : f_X4_worked p g = some (wkP c p) := by
  obtain ⟨k1, k2, k3, k4, k5, k6, k7⟩ := j.pk hb hp
  have e5 : gfR 5 5 (some p) g = some (fr c 85 p) := S.rdR (ci := 5) k1 (by decide) (by decide) 5
  unfold f_X4_worked wkP
  rw [e5]
  simp only [Option.bind_some]
  cases hd : fr c 85 p with
  | none => simp
  | some d =>
    have e2 : gfI 2 1 (some d) g = some (fi c 33 d) := S.rdI (ci := 2) (j.td (j.q p d k1 hd).1) (by decide) (by decide) (by decide) 1
    simp only [if_neg sn, e2, Option.bind_some]
    by_cases h0 : fi c 33 d = 0
    · have er : rwP c p = rwA c b := by unfold rwP; rw [k2]; rfl
      have hR := j.row S hb
      have e1 : gfR 5 1 (some p) g = some (some (rwA c b)) := by rw [S.rdR (ci := 5) k1 (by decide) (by decide) 1]; exact congrArg some k2
      have e22 : gfR 5 2 (some p) g = some (some (pfA c p)) := by rw [S.rdR (ci := 5) k1 (by decide) (by decide) 2]; exact congrArg some k3
      have e4 : gfI 8 4 (some (pfA c p)) g = some (tst c (pfA c p)) := S.rdT (j.isT (j.rT hb k4).1).1 4 rfl
      have hl : f_X4_worked_L23 p g FU 0 0 = some (wkRow c p (rowB c b)) := by
        refine loop_all (l := rowB c b) (F := fun m a i => f_X4_worked_L23 p g m a i) (fun m a => ?_) (fun m a i x hx => ?_) hR.le 0
        · show f_X4_worked_L23 p g (m + 1) a _ = _
          unfold f_X4_worked_L23
          simp only [e1, S.rc (ci := 7) hR.1, r_count S hR, Option.bind_some]
          rw [if_pos (Int32.le_refl _)]
        · show f_X4_worked_L23 p g (m + 1) a _ = f_X4_worked_L23 p g m _ _
          have hx' := (j.rT hb (List.mem_of_getElem? hx)).1
          have ht := hR.tr hx
          have e8 : gfR 8 8 (some x) g = some (fr c 136 x) := S.rdR (ci := 8) ht.1 (by decide) (by decide) 8
          have e11 : cauT c x = 0 → gfI 8 11 (some x) g = some (rndT c x) := fun z => by rw [S.rdD ht.1 11]; exact congrArg some ((D x hx').2 z).2
          rw [f_X4_worked_L23]
          simp only [e1, S.rc (ci := 7) hR.1, r_count S hR, if_neg (nlen hR.le hx), hR.l S, hR.v S, hR.at S hx, S.cs (ci := 8) ht.1, e8, Option.bind_some]
          by_cases h1 : fr c 136 x = some p
          · simp only [if_pos h1, S.rc (ci := 8) ht.1, D.runs S j hx', Option.bind_some]
            by_cases h2 : cauT c x = 0
            · simp only [if_pos h2, if_neg o10, e11 h2, e22, e4, Option.bind_some]
            · simp only [if_neg h2, if_pos]
          · simp only [if_neg h1]
      have er2 : refs c (rlA c (rwP c p)) = rowB c b := by rw [er]; rfl
      rw [er2]
      simp only [if_pos h0, hl, Option.bind_some]
      by_cases h3 : wkRow c p (rowB c b) ≤ 0
      · simp only [if_pos h3]
      · simp only [if_neg h3]
    · simp only [if_neg h0]
theorem J.rD (j : J Z c) (S : Sim Z g c) {d : Nat} (h : d ∈ dvs Z c) : gfR 2 2 (some d) g = some (some (dpA c d)) ∧ LK c (dpA c d) 12 d 6 := by
  obtain ⟨i, _, _, h1, ⟨h2, h3⟩, _⟩ := j.dok h
  refine ⟨?_, h3⟩
  rw [S.rdR (ci := 2) (j.td h) (by decide) (by decide) 2]; exact congrArg some h2
theorem J.dp (j : J Z c) {d p : Nat} (h : d ∈ dvs Z c) (hp : p ∈ dps c d) : tg c p = 6 ∧ fr c 85 p = some d ∧ ∃ b ∈ bks Z c, p ∈ pcs c b := by
  obtain ⟨i, _, _, h1, ⟨h2, h3⟩, ⟨h4, h5⟩, _⟩ := j.dok h
  exact ⟨h3.1.2.2.1 p hp, h5 p hp⟩
theorem r_dmin (S : Sim Z g c) (j : J Z c) {d : Nat} (h : d ∈ dvs Z c) : f_X1_minutes d g = some (sumI (minP c) (dps c d)) := by
  obtain ⟨eD, hD⟩ := j.rD S h
  have hl : f_X1_minutes_L4 d g FU 0 0 = some ((dps c d).foldl (fun a p => a + minP c p) 0) := by
    refine loop_all (l := dps c d) (F := fun m a i => f_X1_minutes_L4 d g m a i) (fun m a => ?_) (fun m a i x hx => ?_) hD.1.2.2.2 0
    · show f_X1_minutes_L4 d g (m + 1) a _ = _
      rw [f_X1_minutes_L4]
      simp only [eD, hD.rc S, hD.sz S j.gg (by decide) (by decide), Option.bind_some]
      exact if_pos (Int32.le_refl _)
    · show f_X1_minutes_L4 d g (m + 1) a _ = f_X1_minutes_L4 d g m _ _
      obtain ⟨k1, k2, b, k3, k4⟩ := j.dp h (List.mem_of_getElem? hx)
      rw [f_X1_minutes_L4]
      simp only [eD, hD.rc S, hD.sz S j.gg (by decide) (by decide), hD.gt S j.gg (by decide) (by decide) hx, S.cs (ci := 5) k1, S.rc (ci := 5) k1, r_pmin S j k3 k4, Option.bind_some]
      exact if_neg (nlen hD.1.2.2.2 hx)
  unfold f_X1_minutes
  rw [hl, foldl_sumI, Int32.zero_add]
  rfl
theorem r_dwork (S : Sim Z g c) (j : J Z c) (D : Dy Z g c) {d : Nat} (h : d ∈ dvs Z c) : f_X1_worked d g = some (wkD c d) := by
  obtain ⟨eD, hD⟩ := j.rD S h
  have hl : f_X1_worked_L4 d g FU 0 0 = some ((dps c d).foldl (fun a p => a + wkP c p) 0) := by
    refine loop_all (l := dps c d) (F := fun m a i => f_X1_worked_L4 d g m a i) (fun m a => ?_) (fun m a i x hx => ?_) hD.1.2.2.2 0
    · show f_X1_worked_L4 d g (m + 1) a _ = _
      rw [f_X1_worked_L4]
      simp only [eD, hD.rc S, hD.sz S j.gg (by decide) (by decide), Option.bind_some]
      exact if_pos (Int32.le_refl _)
    · show f_X1_worked_L4 d g (m + 1) a _ = f_X1_worked_L4 d g m _ _
      obtain ⟨k1, k2, b, k3, k4⟩ := j.dp h (List.mem_of_getElem? hx)
      rw [f_X1_worked_L4]
      simp only [eD, hD.rc S, hD.sz S j.gg (by decide) (by decide), hD.gt S j.gg (by decide) (by decide) hx, S.cs (ci := 5) k1, S.rc (ci := 5) k1, r_pwork S j D k3 k4, Option.bind_some]
      exact if_neg (nlen hD.1.2.2.2 hx)
  unfold f_X1_worked
  rw [hl, foldl_sumI, Int32.zero_add]
  rfl
theorem r_dpay (S : Sim Z g c) (j : J Z c) (D : Dy Z g c) {d : Nat} (h : d ∈ dvs Z c) : f_X1_pay d g = some (payD c d) := by
  unfold f_X1_pay payD
  simp only [S.rc (ci := 2) (j.td h), r_dwork S j D h, Option.bind_some]
theorem q_ofDriver (j : J Z c) {i d : Nat} (h : (dvs Z c)[i]? = some d) {w : Int32} (h1 : 0 ≤ w) (h2 : w ≤ 4) : Ask Z c (f_X9_ofDriver (Z 0) (Int32.ofNat i) w) (vDrv c d w) := by
  intro g S
  have hm := List.mem_of_getElem? h
  have hi : i < 2147483648 := by have := (List.getElem?_eq_some_iff.mp h).1; have := j.d.1; omega
  have ht := j.td hm
  obtain ⟨g', a1, a2, a3, a4⟩ := r_runDay S j
  refine ⟨g', ?_, a2, a3⟩
  obtain ⟨eD, hD⟩ := j.rD a2 hm
  have e2 : gfI 2 1 (some d) g' = some (fi c 33 d) := a2.rdI (ci := 2) ht (by decide) (by decide) (by decide) 1
  have eZ : al_size (dpA c d) g' = some (Int32.ofNat (dps c d).length) := hD.sz a2 j.gg (by decide) (by decide)
  unfold f_X9_ofDriver vDrv
  simp only [rMv S j, j_driverNumbered S j hi, h, if_neg sn, nout h1 h2, if_pos, a1, Option.bind_some]
  by_cases c0 : w = 0
  · simp only [if_pos c0, eD, hD.rc a2, eZ, Option.bind_some]
  simp only [if_neg c0]
  by_cases c1 : w = 1
  · simp only [if_pos c1, a2.rc (ci := 2) ht, r_dmin a2 j hm, Option.bind_some]
  simp only [if_neg c1]
  by_cases c2 : w = 2
  · simp only [if_pos c2, e2, Option.bind_some]
    split <;> rfl
  simp only [if_neg c2]
  by_cases c3 : w = 3
  · simp only [if_pos c3, a2.rc (ci := 2) ht, r_dwork a2 j a4 hm, Option.bind_some]
  simp only [if_neg c3, a2.rc (ci := 2) ht, r_dpay a2 j a4 hm, Option.bind_some]
theorem j_pieceNumbered (S : Sim Z g c) (j : J Z c) {i b k : Nat} (h : (bks Z c)[i]? = some b) (hk : k < 2147483648) : f_X9_pieceNumbered (Z 0) (Int32.ofNat i) (Int32.ofNat k) g = some ((pcs c b)[k]?) := by
  have hm := List.mem_of_getElem? h
  have hi : i < 2147483648 := by have := (List.getElem?_eq_some_iff.mp h).1; have := j.b.1; omega
  obtain ⟨eP, hP⟩ := j.rBp S hm
  have h40 := hP.1.2.2.2
  have eZ : al_size (plB c b) g = some (Int32.ofNat (pcs c b).length) := hP.sz S j.gg (by decide) (by decide)
  have e1 : f_X0_pieceNumbered b (Int32.ofNat k) g = some ((pcs c b)[k]?) := by
    unfold f_X0_pieceNumbered
    rw [if_neg (Int32.not_lt.mpr (n0 hk))]
    simp only [eP, hP.rc S, eZ, Option.bind_some]
    by_cases hc : (pcs c b).length ≤ k
    · rw [if_pos ((nLe (by have : (pcs c b).length ≤ 40 := h40; show (pcs c b).length < _; omega) hk).mpr hc), List.getElem?_eq_none hc]
    · have hlt : k < (pcs c b).length := by omega
      obtain ⟨x, hx⟩ : ∃ x, (pcs c b)[k]? = some x := ⟨_, List.getElem?_eq_getElem hlt⟩
      rw [if_neg (fun z => hc ((nLe (by have : (pcs c b).length ≤ 40 := h40; show (pcs c b).length < _; omega) hk).mp z))]
      simp only [hP.gt S j.gg (by decide) (by decide) hx, S.cs (ci := 5) (hP.tg hx), Option.bind_some, hx]
  unfold f_X9_pieceNumbered
  simp only [rMv S j, j_blockNumbered S j hi, h, if_neg sn, S.rc (ci := 1) (j.tb hm), e1, Option.bind_some]
theorem q_ofPiece (j : J Z c) {i b k p : Nat} (h : (bks Z c)[i]? = some b) (hp : (pcs c b)[k]? = some p) {w : Int32} (h1 : 0 ≤ w) (h2 : w ≤ 5) : Ask Z c (f_X9_ofPiece (Z 0) (Int32.ofNat i) (Int32.ofNat k) w) (vPiece c p w) := by
  intro g S
  have hm := List.mem_of_getElem? h
  have hpm := List.mem_of_getElem? hp
  obtain ⟨eP, hP⟩ := j.rBp S hm
  have hk : k < 2147483648 := by have := (List.getElem?_eq_some_iff.mp hp).1; have : (pcs c b).length ≤ 40 := hP.1.2.2.2; omega
  obtain ⟨k1, k2, k3, k4, k5, k6, k7⟩ := j.pk hm hpm
  obtain ⟨g', a1, a2, a3, a4⟩ := r_runDay S j
  refine ⟨g', ?_, a2, a3⟩
  have e0 : gfR 5 2 (some p) g' = some (some (pfA c p)) := by rw [a2.rdR (ci := 5) k1 (by decide) (by decide) 2]; exact congrArg some k3
  have e1 : gfR 5 3 (some p) g' = some (some (pzA c p)) := by rw [a2.rdR (ci := 5) k1 (by decide) (by decide) 3]; exact congrArg some k5
  have f0 : gfI 8 0 (some (pfA c p)) g' = some (fi c 128 (pfA c p)) := a2.rdT (j.isT (j.rT hm k4).1).1 0 rfl
  have f1 : gfI 8 0 (some (pzA c p)) g' = some (fi c 128 (pzA c p)) := a2.rdT (j.isT (j.rT hm k6).1).1 0 rfl
  have e2 : gfI 5 4 (some p) g' = some (fi c 84 p) := a2.rdI (ci := 5) k1 (by decide) (by decide) (by decide) 4
  unfold f_X9_ofPiece vPiece
  simp only [rMv S j, j_pieceNumbered S j h hk, hp, if_neg sn, nout h1 h2, if_pos, a1, Option.bind_some]
  by_cases c0 : w = 0
  · simp only [if_pos c0, e0, f0, Option.bind_some]
  simp only [if_neg c0]
  by_cases c1 : w = 1
  · simp only [if_pos c1, e1, f1, Option.bind_some]
  simp only [if_neg c1]
  by_cases c2 : w = 2
  · simp only [if_pos c2, e2, Option.bind_some]
  simp only [if_neg c2]
  by_cases c3 : w = 3
  · simp only [if_pos c3, a2.rc (ci := 5) k1, r_pmin a2 j hm hpm, Option.bind_some]
  simp only [if_neg c3]
  by_cases c4 : w = 4
  · simp only [if_pos c4, a2.rc (ci := 5) k1, r_pdrv a2 j k1, Option.bind_some]
  simp only [if_neg c4, a2.rc (ci := 5) k1, r_pwork a2 j a4 hm hpm, Option.bind_some]
end Asks2
