/-! What is asked of the county as a whole. -/
def cntC (Z : Nat → Nat) (c : HP) (w : Int32) : Nat := ((tls Z c).filter fun t => decide (cauT c t = w)).length
def payT (c : HP) (t : Nat) : Int32 := if cauT c t = 0 then fi c 65 (lA c t) - (lateT c t / 2) else (if cauT c t = 2 then 0 else -5)
def grL (Z : Nat → Nat) (c : HP) : Int32 := (tls Z c).foldl (fun a t => if cauT c t = 0 then (if a < lateT c t then lateT c t else a) else a) 0
def vMany (Z : Nat → Nat) (c : HP) (w : Int32) : Int32 :=
  if w = 0 then Int32.ofNat (tls Z c).length else if w = 1 then Int32.ofNat (bks Z c).length else if w = 2 then Int32.ofNat (dvs Z c).length else if w = 3 then Int32.ofNat (cntC Z c 1) else if w = 4 then Int32.ofNat (cntC Z c 0) else if w = 5 then sumI (payT c) (tls Z c) else if w = 6 then sumI (payD c) (dvs Z c) else if w = 7 then sumI (fun b => emptyR c (Z 9) (rowB c b)) (bks Z c) else grL Z c
theorem foldl_cnt (p : Nat → Prop) [DecidablePred p] : ∀ (l : List Nat) (n : Nat), l.foldl (fun a t => if p t then a + 1 else a) (Int32.ofNat n) = Int32.ofNat (n + (l.filter fun t => decide (p t)).length)
  | [], n => rfl
  | x :: xs, n => by
    by_cases h : p x
    · rw [List.filter_cons_of_pos (by simpa using h), List.length_cons, List.foldl_cons, if_pos h]
      have e : Int32.ofNat n + 1 = Int32.ofNat (n + 1) := nAdd n 1
      rw [e, foldl_cnt p xs (n + 1)]
      congr 1
      omega
    · rw [List.filter_cons_of_neg (by simpa using h), List.foldl_cons, if_neg h, foldl_cnt p xs n]
section Asks3
variable {Z : Nat → Nat} {g c : HP}
theorem r_cnt (S : Sim Z g c) (j : J Z c) (D : Dy Z g c) (w : Int32) : f_X9_countOfCause (Z 0) w g = some (Int32.ofNat (cntC Z c w)) := by
  have hL := j.l.2.2.1
  have hl : f_X9_countOfCause_L4 (Z 0) w g FU 0 0 = some ((tls Z c).foldl (fun a t => if cauT c t = w then a + 1 else a) 0) := by
    refine loop_all (l := tls Z c) (F := fun m a i => f_X9_countOfCause_L4 (Z 0) w g m a i) (fun m a => ?_) (fun m a i x hx => ?_) hL.1.2.2.2 0
    · show f_X9_countOfCause_L4 (Z 0) w g (m + 1) a _ = _
      rw [f_X9_countOfCause_L4]
      simp only [rM2 S j, hL.rc S, hL.sz S j.gg (by decide) (by decide), Option.bind_some]
      exact if_pos (Int32.le_refl _)
    · show f_X9_countOfCause_L4 (Z 0) w g (m + 1) a _ = f_X9_countOfCause_L4 (Z 0) w g m _ _
      have ht := hL.tg hx
      have e9 : gfI 8 9 (some x) g = some (cauT c x) := by rw [S.rdD ht 9]; exact congrArg some (D x (List.mem_of_getElem? hx)).1
      rw [f_X9_countOfCause_L4]
      simp only [rM2 S j, hL.rc S, hL.sz S j.gg (by decide) (by decide), hL.gt S j.gg (by decide) (by decide) hx, S.cs (ci := 8) ht, e9, Option.bind_some]
      refine (if_neg (nlen hL.1.2.2.2 hx)).trans ?_
      by_cases h : cauT c x = w
      · rw [if_pos h, if_pos h]
      · rw [if_neg h, if_neg h]
  unfold f_X9_countOfCause
  rw [hl]
  have := foldl_cnt (fun t => cauT c t = w) (tls Z c) 0
  rw [show Int32.ofNat 0 = 0 from rfl, Nat.zero_add] at this
  rw [this]
  rfl
theorem r_county (S : Sim Z g c) (j : J Z c) (D : Dy Z g c) : f_X9_countyPays (Z 0) g = some (sumI (payT c) (tls Z c)) := by
  have hL := j.l.2.2.1
  have hl : f_X9_countyPays_L4 (Z 0) g FU 0 0 = some ((tls Z c).foldl (fun a t => a + payT c t) 0) := by
    refine loop_all (l := tls Z c) (F := fun m a i => f_X9_countyPays_L4 (Z 0) g m a i) (fun m a => ?_) (fun m a i x hx => ?_) hL.1.2.2.2 0
    · show f_X9_countyPays_L4 (Z 0) g (m + 1) a _ = _
      rw [f_X9_countyPays_L4]
      simp only [rM2 S j, hL.rc S, hL.sz S j.gg (by decide) (by decide), Option.bind_some]
      exact if_pos (Int32.le_refl _)
    · show f_X9_countyPays_L4 (Z 0) g (m + 1) a _ = f_X9_countyPays_L4 (Z 0) g m _ _
      have ht := hL.tg hx
      have hm := List.mem_of_getElem? hx
      have hT := j.isT hm
      have e9 : gfI 8 9 (some x) g = some (cauT c x) := by rw [S.rdD ht 9]; exact congrArg some (D x hm).1
      have e1 : gfI 4 1 (some (lA c x)) g = some (fi c 65 (lA c x)) := S.rdI (ci := 4) hT.2.1.2 (by decide) (by decide) (by decide) 1
      have ep : f_X7_pay x 5 g = some (payT c x) := by
        unfold f_X7_pay payT
        simp only [S.rc (ci := 8) ht, D.runs S j hm, Option.bind_some]
        by_cases h0 : cauT c x = 0
        · simp only [if_pos h0, if_neg o10, rT_line S hT, e1, D.late S j hm h0, Option.bind_some]
        · simp only [if_neg h0, if_pos, e9, Option.bind_some]
          split <;> rfl
      rw [f_X9_countyPays_L4]
      simp only [rM2 S j, hL.rc S, hL.sz S j.gg (by decide) (by decide), hL.gt S j.gg (by decide) (by decide) hx, S.cs (ci := 8) ht, S.rc (ci := 8) ht, rM9 S j, ep, Option.bind_some]
      exact if_neg (nlen hL.1.2.2.2 hx)
  unfold f_X9_countyPays
  rw [hl, foldl_sumI, Int32.zero_add]
  rfl
theorem r_drvpay (S : Sim Z g c) (j : J Z c) (D : Dy Z g c) : f_X9_driversArePaid (Z 0) g = some (sumI (payD c) (dvs Z c)) := by
  have hL := j.l.2.2.2.2.2
  have hl : f_X9_driversArePaid_L4 (Z 0) g FU 0 0 = some ((dvs Z c).foldl (fun a t => a + payD c t) 0) := by
    refine loop_all (l := dvs Z c) (F := fun m a i => f_X9_driversArePaid_L4 (Z 0) g m a i) (fun m a => ?_) (fun m a i x hx => ?_) hL.1.2.2.2 0
    · show f_X9_driversArePaid_L4 (Z 0) g (m + 1) a _ = _
      rw [f_X9_driversArePaid_L4]
      simp only [rM5 S j, hL.rc S, hL.sz S j.gg (by decide) (by decide), Option.bind_some]
      exact if_pos (Int32.le_refl _)
    · show f_X9_driversArePaid_L4 (Z 0) g (m + 1) a _ = f_X9_driversArePaid_L4 (Z 0) g m _ _
      have ht := hL.tg hx
      have hm := List.mem_of_getElem? hx
      rw [f_X9_driversArePaid_L4]
      simp only [rM5 S j, hL.rc S, hL.sz S j.gg (by decide) (by decide), hL.gt S j.gg (by decide) (by decide) hx, S.cs (ci := 2) ht, S.rc (ci := 2) ht, r_dpay S j D hm, Option.bind_some]
      exact if_neg (nlen hL.1.2.2.2 hx)
  unfold f_X9_driversArePaid
  rw [hl, foldl_sumI, Int32.zero_add]
  rfl
theorem r_allEmpty (S : Sim Z g c) (j : J Z c) : f_X9_allEmpty (Z 0) g = some (sumI (fun b => emptyR c (Z 9) (rowB c b)) (bks Z c)) := by
  have hL := j.l.2.2.2.2.1
  have hl : f_X9_allEmpty_L4 (Z 0) g FU 0 0 = some ((bks Z c).foldl (fun a b => a + emptyR c (Z 9) (rowB c b)) 0) := by
    refine loop_all (l := bks Z c) (F := fun m a i => f_X9_allEmpty_L4 (Z 0) g m a i) (fun m a => ?_) (fun m a i x hx => ?_) hL.1.2.2.2 0
    · show f_X9_allEmpty_L4 (Z 0) g (m + 1) a _ = _
      rw [f_X9_allEmpty_L4]
      simp only [rM4 S j, hL.rc S, hL.sz S j.gg (by decide) (by decide), Option.bind_some]
      exact if_pos (Int32.le_refl _)
    · show f_X9_allEmpty_L4 (Z 0) g (m + 1) a _ = f_X9_allEmpty_L4 (Z 0) g m _ _
      have ht := hL.tg hx
      have hm := List.mem_of_getElem? hx
      have hR := j.row S hm
      rw [f_X9_allEmpty_L4]
      simp only [rM4 S j, hL.rc S, hL.sz S j.gg (by decide) (by decide), hL.gt S j.gg (by decide) (by decide) hx, S.cs (ci := 1) ht, j.rBr S hm, rM6 S j, S.rc (ci := 7) hR.1, r_empty S hR j.gg.2.2.2.2.2.2.2.1, Option.bind_some]
      exact if_neg (nlen hL.1.2.2.2 hx)
  unfold f_X9_allEmpty
  rw [hl, foldl_sumI, Int32.zero_add]
  rfl
theorem r_grL (S : Sim Z g c) (j : J Z c) (D : Dy Z g c) : f_X9_greatestLate (Z 0) g = some (grL Z c) := by
  have hL := j.l.2.2.1
  have hl : f_X9_greatestLate_L4 (Z 0) g FU 0 0 = some (grL Z c) := by
    refine loop_all (l := tls Z c) (F := fun m a i => f_X9_greatestLate_L4 (Z 0) g m a i) (fun m a => ?_) (fun m a i x hx => ?_) hL.1.2.2.2 0
    · show f_X9_greatestLate_L4 (Z 0) g (m + 1) a _ = _
      rw [f_X9_greatestLate_L4]
      simp only [rM2 S j, hL.rc S, hL.sz S j.gg (by decide) (by decide), Option.bind_some]
      exact if_pos (Int32.le_refl _)
    · show f_X9_greatestLate_L4 (Z 0) g (m + 1) a _ = f_X9_greatestLate_L4 (Z 0) g m _ _
      have ht := hL.tg hx
      have hm := List.mem_of_getElem? hx
      rw [f_X9_greatestLate_L4]
      simp only [rM2 S j, hL.rc S, hL.sz S j.gg (by decide) (by decide), hL.gt S j.gg (by decide) (by decide) hx, S.cs (ci := 8) ht, S.rc (ci := 8) ht, D.runs S j hm, Option.bind_some]
      refine (if_neg (nlen hL.1.2.2.2 hx)).trans ?_
      by_cases h : cauT c x = 0
      · simp only [if_pos h, if_neg o10, D.late S j hm h, Option.bind_some]
      · simp only [if_neg h, if_pos]
  unfold f_X9_greatestLate
  rw [hl]
  rfl
theorem q_many (j : J Z c) {w : Int32} (h1 : 0 ≤ w) (h2 : w ≤ 8) : Ask Z c (f_X9_many (Z 0) w) (vMany Z c w) := by
  intro g S
  obtain ⟨g', a1, a2, a3, a4⟩ := r_runDay S j
  refine ⟨g', ?_, a2, a3⟩
  have l13 := j.l.2.2.1
  have l15 := j.l.2.2.2.2.1
  have l16 := j.l.2.2.2.2.2
  have s13 : al_size (Z 13) g' = some (Int32.ofNat (tls Z c).length) := l13.sz a2 j.gg (by decide) (by decide)
  have s15 : al_size (Z 15) g' = some (Int32.ofNat (bks Z c).length) := l15.sz a2 j.gg (by decide) (by decide)
  have s16 : al_size (Z 16) g' = some (Int32.ofNat (dvs Z c).length) := l16.sz a2 j.gg (by decide) (by decide)
  unfold f_X9_many vMany
  simp only [rMv S j, nout h1 h2, if_pos, a1, Option.bind_some]
  by_cases c0 : w = 0
  · simp only [if_pos c0, rM2 a2 j, l13.rc a2, s13, Option.bind_some]
  simp only [if_neg c0]
  by_cases c1 : w = 1
  · simp only [if_pos c1, rM4 a2 j, l15.rc a2, s15, Option.bind_some]
  simp only [if_neg c1]
  by_cases c2 : w = 2
  · simp only [if_pos c2, rM5 a2 j, l16.rc a2, s16, Option.bind_some]
  simp only [if_neg c2]
  by_cases c3 : w = 3
  · simp only [if_pos c3, rMv a2 j, r_cnt a2 j a4, Option.bind_some]
  simp only [if_neg c3]
  by_cases c4 : w = 4
  · simp only [if_pos c4, rMv a2 j, r_cnt a2 j a4, Option.bind_some]
  simp only [if_neg c4]
  by_cases c5 : w = 5
  · simp only [if_pos c5, rMv a2 j, r_county a2 j a4, Option.bind_some]
  simp only [if_neg c5]
  by_cases c6 : w = 6
  · simp only [if_pos c6, rMv a2 j, r_drvpay a2 j a4, Option.bind_some]
  simp only [if_neg c6]
  by_cases c7 : w = 7
  · simp only [if_pos c7, rMv a2 j, r_allEmpty a2 j, Option.bind_some]
  simp only [if_neg c7, rMv a2 j, r_grL a2 j a4, Option.bind_some]
theorem q_lost (j : J Z c) {w : Int32} (h1 : 1 ≤ w) (h2 : w ≤ 6) : Ask Z c (f_X9_lost (Z 0) w) (Int32.ofNat (cntC Z c w)) := by
  intro g S
  obtain ⟨g', a1, a2, a3, a4⟩ := r_runDay S j
  refine ⟨g', ?_, a2, a3⟩
  unfold f_X9_lost
  simp only [rMv S j, nout h1 h2, if_pos, a1, rMv a2 j, r_cnt a2 j a4, Option.bind_some]
/-- how many run, and how late they are in all -/
def runN (Z : Nat → Nat) (c : HP) : Int32 × Int32 := (tls Z c).foldl (fun a t => if cauT c t = 0 then (a.1 + 1, a.2 + lateT c t) else a) (0, 0)
theorem q_meanLate (j : J Z c) {v : UInt64} (hv : (if (runN Z c).1 = 0 then some FP.dconst0 else okD (FP.ddiv (FP.i2d (runN Z c).2) (FP.i2d (runN Z c).1))) = some v) : Ask Z c (f_X9_meanLate (Z 0)) v := by
  intro g S
  obtain ⟨g', a1, a2, a3, a4⟩ := r_runDay S j
  refine ⟨g', ?_, a2, a3⟩
  have hL := j.l.2.2.1
  have hl : f_X9_meanLate_L10 (Z 0) g' FU 0 0 0 = some (runN Z c) := by
    refine loop_all (l := tls Z c) (F := fun m (a : Int32 × Int32) i => f_X9_meanLate_L10 (Z 0) g' m a.1 a.2 i) (fun m a => ?_) (fun m a i x hx => ?_) hL.1.2.2.2 (0, 0)
    · show f_X9_meanLate_L10 (Z 0) g' (m + 1) a.1 a.2 _ = _
      rw [f_X9_meanLate_L10]
      simp only [rM2 a2 j, hL.rc a2, hL.sz a2 j.gg (by decide) (by decide), Option.bind_some]
      exact if_pos (Int32.le_refl _)
    · show f_X9_meanLate_L10 (Z 0) g' (m + 1) a.1 a.2 _ = f_X9_meanLate_L10 (Z 0) g' m _ _ _
      have ht := hL.tg hx
      have hm := List.mem_of_getElem? hx
      rw [f_X9_meanLate_L10]
      simp only [rM2 a2 j, hL.rc a2, hL.sz a2 j.gg (by decide) (by decide), hL.gt a2 j.gg (by decide) (by decide) hx, a2.cs (ci := 8) ht, a2.rc (ci := 8) ht, a4.runs a2 j hm, Option.bind_some]
      refine (if_neg (nlen hL.1.2.2.2 hx)).trans ?_
      by_cases h : cauT c x = 0
      · simp only [if_pos h, if_neg o10, a4.late a2 j hm h, Option.bind_some]
      · simp only [if_neg h, if_pos]
  unfold f_X9_meanLate
  simp only [rMv S j, a1, hl, Option.bind_some]
  by_cases h : (runN Z c).1 = 0
  · simp only [if_pos h] at hv ⊢
    cases hv; rfl
  · simp only [if_neg h] at hv ⊢
    rw [hv]; rfl
theorem q_wouldLose (j : J Z c) {i b : Nat} (h : (bks Z c)[i]? = some b) {w : Int32} (h1 : 0 ≤ w) (h2 : w ≤ 1600) : Ask Z c (f_X9_wouldLose (Z 0) (Int32.ofNat i) w) (Int32.ofNat (lostN (dayL c w none 0 none (rowB c b))) - Int32.ofNat (lostN (dayB c b))) := by
  intro g S
  have hm := List.mem_of_getElem? h
  have hi : i < 2147483648 := by have := (List.getElem?_eq_some_iff.mp h).1; have := j.b.1; omega
  have ht := j.tb hm
  obtain ⟨w1, q1, S1, q3, q4, q5⟩ := r_lostIf (br := w) (dl := 0) (del := none) ht (j.cap hm) (j.rN hm) (fun t ht => j.isTP (j.rT hm ht).1) S (j.row S hm)
  obtain ⟨w2, p1, p2, p3⟩ := r_lostNow S1 j hm
  refine ⟨w2, ?_, p2, q3.tr p3⟩
  unfold f_X9_wouldLose
  simp only [rMv S j, j_blockNumbered S j hi, h, if_neg sn, nout h1 h2, if_pos, S.rc (ci := 1) ht, q1, S1.rc (ci := 1) ht, p1, Option.bind_some]
/-- the greatest delay from n down with no more lost -/
def mayD (c : HP) (b t : Nat) (most : Nat) : Nat → Nat
  | 0 => 0
  | n + 1 => if most < lostN (dayL c (fi c 18 b) (some t) (Int32.ofNat (n + 1)) none (rowB c b)) then mayD c b t most n else n + 1
def vMay (c : HP) (t : Nat) : Nat := match fr c 135 t with
  | none => 120
  | some b => mayD c b t (lostN (dayL c (fi c 18 b) (some t) 0 none (rowB c b))) 120
theorem may_loop (j : J Z c) {b t : Nat} (hm : b ∈ bks Z c) (most : Nat) (hmost : most ≤ 16) : ∀ (n m : Nat) (g : HP), n < m → n ≤ 120 → Sim Z g c → ∃ g', f_X9_mayDelay_L53 (some t) b (fi c 18 b) (Int32.ofNat most) m (Int32.ofNat n) g = some (Int32.ofNat (mayD c b t most n), g') ∧ Sim Z g' c ∧ Spd Z 0 0 g g' := by
  intro n
  induction n with
  | zero =>
    intro m g hm' hn S
    obtain ⟨m, rfl⟩ : ∃ k, m = k + 1 := ⟨m - 1, by omega⟩
    rw [f_X9_mayDelay_L53, if_pos (by decide)]
    exact ⟨g, rfl, S, Spd.rf⟩
  | succ n ih =>
    intro m g hm' hn S
    obtain ⟨m, rfl⟩ : ∃ k, m = k + 1 := ⟨m - 1, by omega⟩
    have ht := j.tb hm
    obtain ⟨w1, q1, S1, q3, q4, q5⟩ := r_lostIf (br := fi c 18 b) (dl := Int32.ofNat (n + 1)) (del := some t) ht (j.cap hm) (j.rN hm) (fun t ht => j.isTP (j.rT hm ht).1) S (j.row S hm)
    have hle : lostN (dayL c (fi c 18 b) (some t) (Int32.ofNat (n + 1)) none (rowB c b)) ≤ 16 := by
      refine Nat.le_trans (List.length_filter_le _ _) ?_
      rw [dayL_len]
      exact j.rlen hm
    have e1 : ¬ (Int32.ofNat (n + 1) ≤ 0) := fun z => by have := (nLe (a := n + 1) (b := 0) (by omega) (by omega)).mp z; omega
    rw [f_X9_mayDelay_L53, if_neg e1]
    simp only [S.rc (ci := 1) ht, q1, Option.bind_some, nLt (a := most) (b := lostN (dayL c (fi c 18 b) (some t) (Int32.ofNat (n + 1)) none (rowB c b))) (by omega) (by omega)]
    rw [mayD]
    by_cases hc : most < lostN (dayL c (fi c 18 b) (some t) (Int32.ofNat (n + 1)) none (rowB c b))
    · rw [if_pos hc, if_pos hc]
      have e2 : Int32.ofNat (n + 1) + (-1) = Int32.ofNat n := by
        have : Int32.ofNat (n + 1) = Int32.ofNat n + 1 := (nAdd n 1).symm
        rw [this, Int32.add_assoc]
        show Int32.ofNat n + 0 = _
        rw [Int32.add_zero]
      rw [e2]
      obtain ⟨g', k1, k2, k3⟩ := ih m w1 (by omega) (by omega) S1
      exact ⟨g', k1, k2, q3.tr k3⟩
    · rw [if_neg hc, if_neg hc]
      exact ⟨w1, rfl, S1, q3⟩
theorem vMay_some {c : HP} {b t : Nat} (h : fr c 135 t = some b) : vMay c t = mayD c b t (lostN (dayL c (fi c 18 b) (some t) 0 none (rowB c b))) 120 := by
  unfold vMay
  rw [h]
theorem vMay_none {c : HP} {t : Nat} (h : fr c 135 t = none) : vMay c t = 120 := by
  unfold vMay
  rw [h]
theorem may_all (j : J Z c) {b t : Nat} (hm : b ∈ bks Z c) (most : Nat) (hmost : most ≤ 16) {N : Nat} (hN : N = 120) (g : HP) (S : Sim Z g c) : ∃ g', f_X9_mayDelay_L53 (some t) b (fi c 18 b) (Int32.ofNat most) FU (Int32.ofNat N) g = some (Int32.ofNat (mayD c b t most N), g') ∧ Sim Z g' c ∧ Spd Z 0 0 g g' := may_loop j hm most hmost N FU g (by rw [hN]; decide) (by omega) S
theorem may_1 (j : J Z c) {i t b : Nat} (h : (tls Z c)[i]? = some t) (hi : i < 2147483648) (hb : fr c 135 t = some b) (S : Sim Z g c) {w1 : HP} {n : Int32} (q1 : f_X0_lostIf b (fi c 18 b) (some t) 0 g = some (n, w1)) (ht : tg c b = 2) : f_X9_mayDelay (Z 0) (Int32.ofNat i) g = f_X9_mayDelay_L53 (some t) b (fi c 18 b) n FU 120 w1 := by
  have hm := List.mem_of_getElem? h
  have e7 : gfR 8 7 (some t) g = some (some b) := by rw [S.rdR (ci := 8) (j.isT hm).1 (by decide) (by decide) 7]; exact congrArg some hb
  have e2 : gfI 1 2 (some b) g = some (fi c 18 b) := S.rdI (ci := 1) ht (by decide) (by decide) (by decide) 2
  unfold f_X9_mayDelay
  rw [rMv S j, Option.bind_some, j_tripNumbered S j hi, Option.bind_some, h, if_neg sn, e7, Option.bind_some, if_neg sn, e2, Option.bind_some, S.rc (ci := 1) ht, Option.bind_some, q1, Option.bind_some]
theorem may_0 (j : J Z c) {i t : Nat} (h : (tls Z c)[i]? = some t) (hi : i < 2147483648) (hb : fr c 135 t = none) (S : Sim Z g c) : f_X9_mayDelay (Z 0) (Int32.ofNat i) g = some (120, g) := by
  have hm := List.mem_of_getElem? h
  have e7 : gfR 8 7 (some t) g = some none := by rw [S.rdR (ci := 8) (j.isT hm).1 (by decide) (by decide) 7]; exact congrArg some hb
  unfold f_X9_mayDelay
  rw [rMv S j, Option.bind_some, j_tripNumbered S j hi, Option.bind_some, h, if_neg sn, e7, Option.bind_some, if_pos rfl]
theorem q_mayDelay (j : J Z c) {i t : Nat} (h : (tls Z c)[i]? = some t) : Ask Z c (f_X9_mayDelay (Z 0) (Int32.ofNat i)) (Int32.ofNat (vMay c t)) := by
  intro g S
  have hm := List.mem_of_getElem? h
  have hi : i < 2147483648 := by have := (List.getElem?_eq_some_iff.mp h).1; have := j.t.1; omega
  have e120 : (120 : Int32) = Int32.ofNat 120 := by decide
  cases hb : fr c 135 t with
  | none =>
    refine ⟨g, ?_, S, Spd.rf⟩
    rw [may_0 j h hi hb S, vMay_none hb, e120]
  | some b =>
    obtain ⟨k1, k2⟩ := j.inB hm hb
    obtain ⟨w1, q1, S1, q3, q4, q5⟩ := r_lostIf (br := fi c 18 b) (dl := 0) (del := some t) (j.tb k1) (j.cap k1) (j.rN k1) (fun t ht => j.isTP (j.rT k1 ht).1) S (j.row S k1)
    have hle : lostN (dayL c (fi c 18 b) (some t) 0 none (rowB c b)) ≤ 16 := by
      refine Nat.le_trans (List.length_filter_le _ _) ?_
      rw [dayL_len]
      exact j.rlen k1
    have e := may_1 j h hi hb S q1 (j.tb k1)
    rw [e120] at e
    obtain ⟨g', p1, p2, p3⟩ := may_all (t := t) j k1 _ hle rfl w1 S1
    exact ⟨g', e.trans (p1.trans (by rw [vMay_some hb])), p2, q3.tr p3⟩
end Asks3
