/-! The day of a block. -/
def maxI (x y : Int32) : Int32 := if x < y then y else x
/-- why a trip is lost, or 0; br: from when its block is broken, rs: when it would start -/
def causeF (c : HP) (br : Int32) (t : Nat) (rs : Int32) : Int32 :=
  if fi c 66 (lA c t) = 0 then
    if br ≠ -1 ∧ br ≤ rs then 3 else
      match fr c 136 t with
      | none => 4
      | some p => match fr c 85 p with
        | none => 4
        | some d => if fi c 33 d = 0 then (if rs - tst c t ≤ 30 then 0 else 6) else 5
  else 2
def readyF (c : HP) (ran : Option (Nat × Int32)) (t : Nat) : Int32 := match ran with
  | none => 0
  | some q => q.2 + dist c (tA c q.1) (fA c t)
def dayStart (c : HP) (ran : Option (Nat × Int32)) (t : Nat) : Int32 := maxI (tst c t) (readyF c ran t)
def dayEnd (c : HP) (del : Option Nat) (dl : Int32) (t : Nat) (rs : Int32) : Int32 := (rs + tmn c t) + (if some t = del then dl else fi c 134 t)
/-- a row's day: for each trip when it starts, its cause, when it ends if it runs -/
def dayL (c : HP) (br : Int32) (del : Option Nat) (dl : Int32) : Option (Nat × Int32) → List Nat → List (Nat × Int32 × Int32 × Int32)
  | _, [] => []
  | ran, t :: ts =>
    let rs := dayStart c ran t
    let ca := causeF c br t rs
    let re := dayEnd c del dl t rs
    (t, rs, ca, re) :: dayL c br del dl (if ca = 0 then some (t, re) else ran) ts
def lostN (D : List (Nat × Int32 × Int32 × Int32)) : Nat := (D.filter fun q => decide (q.2.2.1 ≠ 0)).length
theorem dayL_len (c : HP) (br : Int32) (del : Option Nat) (dl : Int32) : ∀ (L : List Nat) (ran : Option (Nat × Int32)), (dayL c br del dl ran L).length = L.length
  | [], _ => rfl
  | t :: ts, ran => by show (dayL c br del dl _ ts).length + 1 = _; rw [dayL_len c br del dl ts]; rfl
theorem dayL_map (c : HP) (br : Int32) (del : Option Nat) (dl : Int32) : ∀ (L : List Nat) (ran : Option (Nat × Int32)), (dayL c br del dl ran L).map (fun q => q.1) = L
  | [], _ => rfl
  | t :: ts, ran => by show t :: (dayL c br del dl _ ts).map (fun q => q.1) = _; rw [dayL_map c br del dl ts]
/-- what a trip keeps of its day -/
def dayAt (g : HP) (q : Nat × Int32 × Int32 × Int32) : Prop := fi g 138 q.1 = q.2.1 ∧ fi g 137 q.1 = q.2.2.1 ∧ (q.2.2.1 = 0 → fi g 139 q.1 = q.2.2.2)
/-- only these trips' days differ -/
def SameDay (g g' : HP) (L : List Nat) : Prop := (∀ t j, scrF j = true → t ∉ L → fi g' j t = fi g j t) ∧ (∀ a, oa g' a = oa g a) ∧ (∀ a, ia g' a = ia g a)
section Day
variable {Z : Nat → Nat} {g c : HP} {r d i b : Nat} {L : List Nat}
/-- a trip whose piece and driver are what they should be -/
def IsTP (c : HP) (t : Nat) : Prop := IsT c t ∧ ∀ p, fr c 136 t = some p → tg c p = 6 ∧ ∀ d, fr c 85 p = some d → tg c d = 3
theorem r_late (S : Sim Z g c) {t : Nat} (ht : tg c t = 9) : f_X7_late t g = some (fi g 138 t - tst c t) := by
  unfold f_X7_late
  simp only [S.rdD ht 10, S.rdT ht 4 rfl, Option.bind_some]
  rfl
theorem r_runs (S : Sim Z g c) {t : Nat} (ht : tg c t = 9) : f_X7_runs t g = some (if fi g 137 t = 0 then 1 else 0) := by
  unfold f_X7_runs
  simp only [S.rdD ht 9, Option.bind_some]
  show (if fi g 137 t = 0 then _ else _) = _
  by_cases h : fi g 137 t = 0
  · rw [if_pos h, if_pos h]
  · rw [if_neg h, if_neg h]
theorem r_causeTail (S : Sim Z g c) {t : Nat} (ht : IsTP c t) : ((gfR 8 8 (some t) g).bind fun r3 =>
    ((if r3 = none then some none else (gfR 8 8 (some t) g).bind fun r4 => (gfR 5 5 r4 g).bind fun r5 => some r5)).bind fun q6 =>
    (if q6 = none then some 4 else (gfI 2 1 q6 g).bind fun x7 => (if x7 = 0 then (rcv 8 (some t) g).bind fun b8 => (f_X7_late b8 g).bind fun x9 => (if x9 ≤ 30 then some 0 else some 6) else some (5 : Int32)))) =
    some (match fr c 136 t with
      | none => 4
      | some p => match fr c 85 p with
        | none => 4
        | some d => if fi c 33 d = 0 then (if fi g 138 t - tst c t ≤ 30 then 0 else 6) else 5) := by
  have e1 : gfR 8 8 (some t) g = some (fr c 136 t) := S.rdR (ci := 8) ht.1.1 (by decide) (by decide) 8
  rw [e1]
  simp only [Option.bind_some]
  cases hp : fr c 136 t with
  | none => simp
  | some p =>
    have hpp := ht.2 p hp
    have e2 : gfR 5 5 (some p) g = some (fr c 85 p) := S.rdR (ci := 5) hpp.1 (by decide) (by decide) 5
    have n1 : ¬ (some p = none) := fun z => by cases z
    rw [if_neg n1]
    simp only [e2, Option.bind_some]
    cases hd : fr c 85 p with
    | none => simp
    | some d =>
      have hdd := hpp.2 d hd
      have e3 : gfI 2 1 (some d) g = some (fi c 33 d) := S.rdI (ci := 2) hdd (by decide) (by decide) (by decide) 1
      have n2 : ¬ (some d = none) := fun z => by cases z
      rw [if_neg n2]
      simp only [e3, Option.bind_some, S.rc (ci := 8) ht.1.1, r_late S ht.1.1]
      by_cases h0 : fi c 33 d = 0
      · simp only [if_pos h0]
        split <;> rfl
      · simp only [if_neg h0]
theorem r_cause (S : Sim Z g c) {t : Nat} {br : Int32} (ht : IsTP c t) : f_X7_causeIf t br g = some (causeF c br t (fi g 138 t)) := by
  unfold f_X7_causeIf causeF
  have el : gfI 4 2 (some (lA c t)) g = some (fi c 66 (lA c t)) := S.rdI (ci := 4) ht.1.2.1.2 (by decide) (by decide) (by decide) 2
  have e10 : gfI 8 10 (some t) g = some (fi g 138 t) := S.rdD ht.1.1 10
  simp only [rT_line S ht.1, el, Option.bind_some]
  by_cases hc : fi c 66 (lA c t) = 0
  · rw [if_pos hc, if_pos hc]
    by_cases hb : br = -1
    · rw [if_pos hb, if_neg (fun z => z.1 hb)]
      exact r_causeTail S ht
    · rw [if_neg hb]
      simp only [e10, Option.bind_some]
      by_cases hl : fi g 138 t < br
      · rw [if_pos hl, if_neg (fun z => absurd z.2 (Int32.not_le.mpr hl))]
        exact r_causeTail S ht
      · rw [if_neg hl, if_pos ⟨hb, Int32.not_lt.mp hl⟩]
  · rw [if_neg hc, if_neg hc]
end Day
