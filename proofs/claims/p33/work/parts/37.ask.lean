/-! What is asked of the county. -/
theorem loop_fold {β : Type} {l : List Nat} {F : Nat → β → Int32 → Option β} {step : β → Nat → β} (hend : ∀ m a, F (m + 1) a (Int32.ofNat l.length) = some a) (hstep : ∀ m a i x, l[i]? = some x → F (m + 1) a (Int32.ofNat i) = F m (step a x) (Int32.ofNat i + 1)) :
    ∀ (m i : Nat) (a : β), l.length - i < m → i ≤ l.length → F m a (Int32.ofNat i) = some ((l.drop i).foldl step a) := by
  intro m
  induction m with
  | zero => intro i a hm; omega
  | succ m ih =>
    intro i a hm hi
    by_cases hc : i = l.length
    · rw [hc, hend, List.drop_eq_nil_of_le (Nat.le_refl _)]; rfl
    · have hlt : i < l.length := by omega
      obtain ⟨x, hx⟩ : ∃ x, l[i]? = some x := ⟨_, List.getElem?_eq_getElem hlt⟩
      rw [hstep m a i x hx, show Int32.ofNat i + 1 = Int32.ofNat (i + 1) from nAdd i 1, ih (i + 1) _ (by omega) (by omega), drop_cons hx]
      rfl
theorem loop_all {β : Type} {l : List Nat} {F : Nat → β → Int32 → Option β} {step : β → Nat → β} (hend : ∀ m a, F (m + 1) a (Int32.ofNat l.length) = some a) (hstep : ∀ m a i x, l[i]? = some x → F (m + 1) a (Int32.ofNat i) = F m (step a x) (Int32.ofNat i + 1)) (hl : l.length ≤ 40) (a : β) : F FU a 0 = some (l.foldl step a) := by
  have := loop_fold hend hstep FU 0 a (by show _ < 4096; omega) (Nat.zero_le _)
  rw [List.drop_zero] at this
  exact this
/-- the same with a heap that the county doesn't see -/
theorem loop_ask {β : Type} {Z : Nat → Nat} {c : HP} {l : List Nat} {F : Nat → β → Int32 → HP → Option (β × HP)} {step : β → Nat → β} (hend : ∀ m a g, Sim Z g c → F (m + 1) a (Int32.ofNat l.length) g = some (a, g)) (hstep : ∀ m a i x g, Sim Z g c → l[i]? = some x → ∃ g', F (m + 1) a (Int32.ofNat i) g = F m (step a x) (Int32.ofNat i + 1) g' ∧ Sim Z g' c ∧ Spd Z 0 0 g g') :
    ∀ (m i : Nat) (a : β) (g : HP), l.length - i < m → i ≤ l.length → Sim Z g c → ∃ g', F m a (Int32.ofNat i) g = some ((l.drop i).foldl step a, g') ∧ Sim Z g' c ∧ Spd Z 0 0 g g' := by
  intro m
  induction m with
  | zero => intro i a g hm; omega
  | succ m ih =>
    intro i a g hm hi S
    by_cases hc : i = l.length
    · rw [hc, hend m a g S, List.drop_eq_nil_of_le (Nat.le_refl _)]; exact ⟨g, rfl, S, Spd.rf⟩
    · have hlt : i < l.length := by omega
      obtain ⟨x, hx⟩ : ∃ x, l[i]? = some x := ⟨_, List.getElem?_eq_getElem hlt⟩
      obtain ⟨g1, h1, h2, h3⟩ := hstep m a i x g S hx
      obtain ⟨g2, k1, k2, k3⟩ := ih (i + 1) (step a x) g1 (by omega) (by omega) h2
      rw [h1, show Int32.ofNat i + 1 = Int32.ofNat (i + 1) from nAdd i 1, drop_cons hx]
      exact ⟨g2, k1, k2, h3.tr k3⟩
theorem nout {w a b : Int32} (h1 : a ≤ w) (h2 : w ≤ b) (g : HP) : f_X9_isOutside w a b g = some 0 := by
  unfold f_X9_isOutside
  rw [if_neg (Int32.not_lt.mpr h1), if_pos h2]
theorem sn {α : Type} {x : α} : ¬ (some x = none) := fun z => by cases z
def bnT (c : HP) (t : Nat) : Int32 := match fr c 135 t with
  | none => -1
  | some b => fi c 16 b
def pnT (c : HP) (t : Nat) : Int32 := match fr c 136 t with
  | none => -1
  | some p => fi c 80 p
def lateT (c : HP) (t : Nat) : Int32 := strT c t - tst c t
def vTrip (c : HP) (t : Nat) (w : Int32) : Int32 :=
  if w = 0 then fi c 64 (lA c t) else if w = 1 then fi c 96 (fA c t) else if w = 2 then fi c 96 (tA c t) else if w = 3 then tst c t else if w = 4 then tend c t else if w = 5 then fi c 134 t else if w = 6 then bnT c t else if w = 7 then pnT c t else if w = 8 then cauT c t else if w = 9 then (if cauT c t = 0 then lateT c t else -1) else (if cauT c t = 0 then rndT c t else -1)
section Asks
variable {Z : Nat → Nat} {g c : HP}
theorem r_bn (S : Sim Z g c) (j : J Z c) {t : Nat} (h : t ∈ tls Z c) : f_X7_blockNumber t g = some (bnT c t) := by
  have e1 : gfR 8 7 (some t) g = some (fr c 135 t) := S.rdR (ci := 8) (j.isT h).1 (by decide) (by decide) 7
  unfold f_X7_blockNumber bnT
  rw [e1]
  simp only [Option.bind_some]
  cases hb : fr c 135 t with
  | none => simp
  | some b =>
    have e2 : gfI 1 0 (some b) g = some (fi c 16 b) := S.rdI (ci := 1) (j.tb (j.inB h hb).1) (by decide) (by decide) (by decide) 0
    simp only [if_neg sn, e2, Option.bind_some]
theorem r_pn (S : Sim Z g c) (j : J Z c) {t : Nat} (h : t ∈ tls Z c) : f_X7_pieceNumber t g = some (pnT c t) := by
  have e1 : gfR 8 8 (some t) g = some (fr c 136 t) := S.rdR (ci := 8) (j.isT h).1 (by decide) (by decide) 8
  unfold f_X7_pieceNumber pnT
  rw [e1]
  simp only [Option.bind_some]
  cases hb : fr c 136 t with
  | none => simp
  | some p =>
    have e2 : gfI 5 0 (some p) g = some (fi c 80 p) := S.rdI (ci := 5) ((j.isTP h).2 p hb).1 (by decide) (by decide) (by decide) 0
    simp only [if_neg sn, e2, Option.bind_some]
theorem Dy.runs (D : Dy Z g c) (S : Sim Z g c) (j : J Z c) {t : Nat} (h : t ∈ tls Z c) : f_X7_runs t g = some (if cauT c t = 0 then 1 else 0) := by
  rw [r_runs S (j.isT h).1, (D t h).1]
theorem Dy.late (D : Dy Z g c) (S : Sim Z g c) (j : J Z c) {t : Nat} (h : t ∈ tls Z c) (h0 : cauT c t = 0) : f_X7_late t g = some (lateT c t) := by
  rw [r_late S (j.isT h).1, ((D t h).2 h0).1]; rfl
theorem o10 : ¬ ((1 : Int32) = 0) := by decide
theorem q_ofTrip (j : J Z c) {i t : Nat} (h : (tls Z c)[i]? = some t) {w : Int32} (h1 : 0 ≤ w) (h2 : w ≤ 10) : Ask Z c (f_X9_ofTrip (Z 0) (Int32.ofNat i) w) (vTrip c t w) := by
  intro g S
  have hm := List.mem_of_getElem? h
  have hi : i < 2147483648 := by have := (List.getElem?_eq_some_iff.mp h).1; have := j.t.1; omega
  have hT := j.isT hm
  obtain ⟨g', a1, a2, a3, a4⟩ := r_runDay S j
  refine ⟨g', ?_, a2, a3⟩
  have e0 : gfI 4 0 (some (lA c t)) g' = some (fi c 64 (lA c t)) := a2.rdI (ci := 4) hT.2.1.2 (by decide) (by decide) (by decide) 0
  have e1 : gfI 6 0 (some (fA c t)) g' = some (fi c 96 (fA c t)) := a2.rdI (ci := 6) hT.2.2.1.2 (by decide) (by decide) (by decide) 0
  have e2 : gfI 6 0 (some (tA c t)) g' = some (fi c 96 (tA c t)) := a2.rdI (ci := 6) hT.2.2.2.2 (by decide) (by decide) (by decide) 0
  have e3 : gfI 8 4 (some t) g' = some (tst c t) := a2.rdT hT.1 4 rfl
  have e5 : gfI 8 6 (some t) g' = some (fi c 134 t) := a2.rdT hT.1 6 rfl
  have e8 : gfI 8 9 (some t) g' = some (cauT c t) := by rw [a2.rdD hT.1 9]; exact congrArg some (a4 t hm).1
  unfold f_X9_ofTrip vTrip
  simp only [rMv S j, j_tripNumbered S j hi, h, if_neg sn, nout h1 h2, if_pos, a1, Option.bind_some]
  by_cases c0 : w = 0
  · simp only [if_pos c0, rT_line a2 hT, e0, Option.bind_some]
  simp only [if_neg c0]
  by_cases c1 : w = 1
  · simp only [if_pos c1, rT_from a2 hT, e1, Option.bind_some]
  simp only [if_neg c1]
  by_cases c2 : w = 2
  · simp only [if_pos c2, rT_to a2 hT, e2, Option.bind_some]
  simp only [if_neg c2]
  by_cases c3 : w = 3
  · simp only [if_pos c3, e3, Option.bind_some]
  simp only [if_neg c3]
  by_cases c4 : w = 4
  · simp only [if_pos c4, a2.rc (ci := 8) hT.1, r_end a2 hT.1, Option.bind_some]
  simp only [if_neg c4]
  by_cases c5 : w = 5
  · simp only [if_pos c5, e5, Option.bind_some]
  simp only [if_neg c5]
  by_cases c6 : w = 6
  · simp only [if_pos c6, a2.rc (ci := 8) hT.1, r_bn a2 j hm, Option.bind_some]
  simp only [if_neg c6]
  by_cases c7 : w = 7
  · simp only [if_pos c7, a2.rc (ci := 8) hT.1, r_pn a2 j hm, Option.bind_some]
  simp only [if_neg c7]
  by_cases c8 : w = 8
  · simp only [if_pos c8, e8, Option.bind_some]
  simp only [if_neg c8]
  have e11 : cauT c t = 0 → gfI 8 11 (some t) g' = some (rndT c t) := fun z => by rw [a2.rdD hT.1 11]; exact congrArg some ((a4 t hm).2 z).2
  by_cases c9 : w = 9
  · simp only [if_pos c9, a2.rc (ci := 8) hT.1, a4.runs a2 j hm, Option.bind_some]
    by_cases h0 : cauT c t = 0
    · simp only [if_pos h0, if_neg o10, a4.late a2 j hm h0, Option.bind_some]
    · simp only [if_neg h0, if_pos]
  simp only [if_neg c9, a2.rc (ci := 8) hT.1, a4.runs a2 j hm, Option.bind_some]
  by_cases h0 : cauT c t = 0
  · simp only [if_pos h0, if_neg o10, e11 h0, Option.bind_some]
  · simp only [if_neg h0, if_pos]
def vAt (c : HP) (b k : Nat) : Int32 := match (rowB c b)[k]? with
  | none => -1
  | some t => fi c 128 t
theorem q_at (S : Sim Z g c) (j : J Z c) {i b k : Nat} (h : (bks Z c)[i]? = some b) (hk : k < 2147483648) : f_X9_at (Z 0) (Int32.ofNat i) (Int32.ofNat k) g = some (vAt c b k) := by
  have hm := List.mem_of_getElem? h
  have hi : i < 2147483648 := by have := (List.getElem?_eq_some_iff.mp h).1; have := j.b.1; omega
  have hR := j.row S hm
  have e3 : gfR 1 3 (some b) g = some (some (rwA c b)) := by rw [S.rdR (ci := 1) (j.tb hm) (by decide) (by decide) 3]; exact congrArg some (j.cap hm)
  unfold f_X9_at vAt
  simp only [rMv S j, j_blockNumbered S j hi, h, if_neg sn, if_pos (n0 hk), e3, S.rc (ci := 7) hR.1, r_rget S hR hk, Option.bind_some]
  cases hx : (rowB c b)[k]? with
  | none => rfl
  | some t =>
    have e0 : gfI 8 0 (some t) g = some (fi c 128 t) := S.rdT (hR.tr hx).1 0 rfl
    simp only [if_neg sn, e0, Option.bind_some]
def chB (Z : Nat → Nat) (c : HP) (b : Nat) : Int32 := chR c (Z 9) (fi c 17 b) 0 (rowB c b)
def vBlk (Z : Nat → Nat) (c : HP) (b : Nat) (w : Int32) : Int32 :=
  if w = 0 then fi c 17 b else if w = 1 then Int32.ofNat (rowB c b).length else if w = 2 then fi c 18 b else if w = 3 then Int32.ofNat (pcs c b).length else if w = 4 then (if 0 ≤ chB Z c b then 0 else 1) else if w = 5 then chB Z c b else if w = 6 then emptyR c (Z 9) (rowB c b) else Int32.ofNat (rowB c b).length - Int32.ofNat (lostN (dayB c b))
theorem r_flat (S : Sim Z g c) (j : J Z c) {r : Nat} {L : List Nat} (h : RowIs g c r L) (cap : Int32) : f_X9_isFlat (Z 0) (some r) cap g = some (if 0 ≤ chR c (Z 9) cap 0 L then 0 else 1) := by
  unfold f_X9_isFlat
  simp only [rM6 S j, rM8 S j, S.rc (ci := 7) h.1, r_charge S h j.gg.2.2.2.2.2.2.2.1, Option.bind_some]
  split <;> rfl
theorem J.rBr (j : J Z c) (S : Sim Z g c) {b : Nat} (h : b ∈ bks Z c) : gfR 1 3 (some b) g = some (some (rwA c b)) := by
  rw [S.rdR (ci := 1) (j.tb h) (by decide) (by decide) 3]; exact congrArg some (j.cap h)
theorem J.rBp (j : J Z c) (S : Sim Z g c) {b : Nat} (h : b ∈ bks Z c) : gfR 1 4 (some b) g = some (some (plB c b)) ∧ LK c (plB c b) 11 b 6 := by
  obtain ⟨i, _, _, h1, ⟨h2, h3, h4, h5, h6, h7⟩, _⟩ := j.bok h
  refine ⟨?_, h7⟩
  rw [S.rdR (ci := 1) (j.tb h) (by decide) (by decide) 4]; exact congrArg some h6
theorem r_lostNow (S : Sim Z g c) (j : J Z c) {b : Nat} (h : b ∈ bks Z c) : ∃ g', f_X0_lostNow b g = some (Int32.ofNat (lostN (dayB c b)), g') ∧ Sim Z g' c ∧ Spd Z 0 0 g g' := by
  have ht := j.tb h
  have e18 : gfI 1 2 (some b) g = some (fi c 18 b) := S.rdI (ci := 1) ht (by decide) (by decide) (by decide) 2
  obtain ⟨w1, q1, S1, q3, q4, q5⟩ := r_lostIf (br := fi c 18 b) (dl := 0) (del := none) ht (j.cap h) (j.rN h) (fun t ht => j.isTP (j.rT h ht).1) S (j.row S h)
  refine ⟨w1, ?_, S1, q3⟩
  unfold f_X0_lostNow
  simp only [e18, S.rc (ci := 1) ht, q1, Option.bind_some]
  rfl
theorem q_ofBlock (j : J Z c) {i b : Nat} (h : (bks Z c)[i]? = some b) {w : Int32} (h1 : 0 ≤ w) (h2 : w ≤ 7) : Ask Z c (f_X9_ofBlock (Z 0) (Int32.ofNat i) w) (vBlk Z c b w) := by
  intro g S
  have hm := List.mem_of_getElem? h
  have hi : i < 2147483648 := by have := (List.getElem?_eq_some_iff.mp h).1; have := j.b.1; omega
  have hR := j.row S hm
  have ht := j.tb hm
  have e0 : gfI 1 1 (some b) g = some (fi c 17 b) := S.rdI (ci := 1) ht (by decide) (by decide) (by decide) 1
  have e2 : gfI 1 2 (some b) g = some (fi c 18 b) := S.rdI (ci := 1) ht (by decide) (by decide) (by decide) 2
  obtain ⟨eP, hP⟩ := j.rBp S hm
  have eZ : al_size (plB c b) g = some (Int32.ofNat (pcs c b).length) := hP.sz S j.gg (by decide) (by decide)
  obtain ⟨g', a1, a2, a3⟩ := r_lostNow S j hm
  unfold f_X9_ofBlock vBlk
  simp only [rMv S j, j_blockNumbered S j hi, h, if_neg sn, nout h1 h2, if_pos, Option.bind_some]
  by_cases c0 : w = 0
  · simp only [if_pos c0, e0, Option.bind_some]; exact ⟨g, rfl, S, Spd.rf⟩
  simp only [if_neg c0]
  by_cases c1 : w = 1
  · simp only [if_pos c1, j.rBr S hm, S.rc (ci := 7) hR.1, r_count S hR, Option.bind_some]; exact ⟨g, rfl, S, Spd.rf⟩
  simp only [if_neg c1]
  by_cases c2 : w = 2
  · simp only [if_pos c2, e2, Option.bind_some]; exact ⟨g, rfl, S, Spd.rf⟩
  simp only [if_neg c2]
  by_cases c3 : w = 3
  · simp only [if_pos c3, eP, hP.rc S, eZ, Option.bind_some]; exact ⟨g, rfl, S, Spd.rf⟩
  simp only [if_neg c3]
  by_cases c4 : w = 4
  · simp only [if_pos c4, j.rBr S hm, e0, r_flat S j hR, Option.bind_some]
    refine ⟨g, ?_, S, Spd.rf⟩
    unfold chB
    by_cases hz : 0 ≤ chR c (Z 9) (fi c 17 b) 0 (rowB c b)
    · simp only [if_pos hz]; rfl
    · simp only [if_neg hz]; rfl
  simp only [if_neg c4]
  by_cases c5 : w = 5
  · simp only [if_pos c5, j.rBr S hm, e0, rM6 S j, rM8 S j, S.rc (ci := 7) hR.1, r_charge S hR j.gg.2.2.2.2.2.2.2.1, Option.bind_some]; exact ⟨g, rfl, S, Spd.rf⟩
  simp only [if_neg c5]
  by_cases c6 : w = 6
  · simp only [if_pos c6, j.rBr S hm, rM6 S j, S.rc (ci := 7) hR.1, r_empty S hR j.gg.2.2.2.2.2.2.2.1, Option.bind_some]; exact ⟨g, rfl, S, Spd.rf⟩
  simp only [if_neg c6, j.rBr S hm, S.rc (ci := 7) hR.1, r_count S hR, S.rc (ci := 1) ht, a1, Option.bind_some]
  exact ⟨g', rfl, a2, a3⟩
end Asks
