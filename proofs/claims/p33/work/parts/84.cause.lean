/-! The causes of a day. -/
section Cause
variable {Z : Nat → Nat} {g c c' : HP} {T : Nat} {xs rs fs : List Int32}
def okCau (x : Int32) : Prop := x = 0 ∨ x = 2 ∨ x = 3 ∨ x = 4 ∨ x = 5 ∨ x = 6
theorem causeF_is (br : Int32) (t : Nat) (rs : Int32) : (causeF c br t rs = 0 ∧ rs - tst c t ≤ 30) ∨ causeF c br t rs = 2 ∨ causeF c br t rs = 3 ∨ causeF c br t rs = 4 ∨ causeF c br t rs = 5 ∨ causeF c br t rs = 6 := by
  unfold causeF
  split
  · split
    · exact Or.inr (Or.inr (Or.inl rfl))
    · split
      · exact Or.inr (Or.inr (Or.inr (Or.inl rfl)))
      · split
        · exact Or.inr (Or.inr (Or.inr (Or.inl rfl)))
        · split
          · split
            · rename_i h; exact Or.inl ⟨rfl, h⟩
            · exact Or.inr (Or.inr (Or.inr (Or.inr (Or.inr rfl))))
          · exact Or.inr (Or.inr (Or.inr (Or.inr (Or.inl rfl))))
  · exact Or.inr (Or.inl rfl)
theorem causeF_ok (br : Int32) (t : Nat) (rs : Int32) : okCau (causeF c br t rs) ∧ (causeF c br t rs = 0 → rs - tst c t ≤ 30) := by
  unfold okCau
  rcases causeF_is br t rs with ⟨h, h2⟩ | h | h | h | h | h <;> rw [h]
  · exact ⟨Or.inl rfl, fun _ => h2⟩
  · exact ⟨by decide, fun z => absurd z (by decide)⟩
  · exact ⟨by decide, fun z => absurd z (by decide)⟩
  · exact ⟨by decide, fun z => absurd z (by decide)⟩
  · exact ⟨by decide, fun z => absurd z (by decide)⟩
  · exact ⟨by decide, fun z => absurd z (by decide)⟩
theorem le_maxI (x y : Int32) : x ≤ maxI x y := by
  unfold maxI
  by_cases h : x < y
  · rw [if_pos h]; exact Int32.le_of_lt h
  · rw [if_neg h]; exact Int32.le_refl x
theorem day_of {br : Int32} : ∀ (L : List Nat) (ran : Option (Nat × Int32)) (q : Nat × Int32 × Int32 × Int32), q ∈ dayL c br none 0 ran L → q.1 ∈ L ∧ okCau q.2.2.1 ∧ q.2.2.2 = (q.2.1 + tmn c q.1) + fi c 134 q.1 ∧ tst c q.1 ≤ q.2.1 ∧ (q.2.2.1 = 0 → q.2.1 - tst c q.1 ≤ 30)
  | [], _, _, h => by cases h
  | t :: ts, ran, q, h => by
    have h' : q ∈ (t, dayStart c ran t, causeF c br t (dayStart c ran t), dayEnd c none 0 t (dayStart c ran t)) :: dayL c br none 0 (if causeF c br t (dayStart c ran t) = 0 then some (t, dayEnd c none 0 t (dayStart c ran t)) else ran) ts := h
    rcases List.mem_cons.mp h' with rfl | h'
    · refine ⟨List.mem_cons_self, (causeF_ok br t _).1, ?_, le_maxI _ _, (causeF_ok br t _).2⟩
      show dayEnd c none 0 t _ = _
      unfold dayEnd
      rw [if_neg (fun z => by cases z)]
    · obtain ⟨k1, k2⟩ := day_of ts _ q h'
      exact ⟨List.mem_cons_of_mem _ k1, k2⟩
theorem cau_none {t : Nat} (h : fr c 135 t = none) : cauT c t = 1 := by
  unfold cauT
  rw [dq_none h]
theorem cau_some (j : J Z c) {b t : Nat} (ht : t ∈ tls Z c) (h : fr c 135 t = some b) : ∃ q, dq c t = some q ∧ q ∈ dayB c b ∧ q.1 = t ∧ cauT c t = q.2.2.1 ∧ strT c t = q.2.1 ∧ rndT c t = q.2.2.2 := by
  obtain ⟨h1, h2⟩ := j.inB ht h
  obtain ⟨q, k1, k2, k3⟩ := dq_some j h1 h2
  refine ⟨q, k1, k2, k3, ?_, ?_, ?_⟩
  · unfold cauT; rw [k1]
  · unfold strT; rw [k1]
  · unfold rndT; rw [k1]
theorem cau_1 (j : J Z c) {t : Nat} (ht : t ∈ tls Z c) : cauT c t = 1 ↔ fr c 135 t = none := by
  constructor
  · intro h
    cases hb : fr c 135 t with
    | none => rfl
    | some b =>
      obtain ⟨q, k1, k2, k3, k4, -⟩ := cau_some j ht hb
      have := (day_of _ _ q k2).2.1
      rw [← k4, h] at this
      unfold okCau at this
      exact absurd this (by decide)
  · exact cau_none
theorem cau_ok (j : J Z c) {t : Nat} (ht : t ∈ tls Z c) : ∃ n, cauT c t = Int32.ofNat n ∧ n ≤ 6 := by
  cases hb : fr c 135 t with
  | none => exact ⟨1, cau_none hb, by decide⟩
  | some b =>
    obtain ⟨q, k1, k2, k3, k4, -⟩ := cau_some j ht hb
    have := (day_of _ _ q k2).2.1
    rw [← k4] at this
    rcases this with h | h | h | h | h | h
    · exact ⟨0, h, by decide⟩
    · exact ⟨2, h, by decide⟩
    · exact ⟨3, h, by decide⟩
    · exact ⟨4, h, by decide⟩
    · exact ⟨5, h, by decide⟩
    · exact ⟨6, h, by decide⟩
theorem ge_nat {x : Int32} {n : Nat} (hn : n < 2147483648) (h : Int32.ofNat n ≤ x) : ∃ m, x = Int32.ofNat m ∧ n ≤ m ∧ m < 2147483648 := by
  have h0 : (0 : Int32) ≤ x := Int32.le_trans (n0 hn) h
  have hx := Int32.le_iff_toInt_le.mp h0
  have hx0 : 0 ≤ x.toInt := by simpa using hx
  have hlt : x.toInt < 2147483648 := Int32.toInt_lt x
  refine ⟨x.toInt.toNat, ?_, ?_, by omega⟩
  · apply Int32.toInt_inj.mp
    rw [Int32.toInt_ofNat_of_lt (by omega)]
    omega
  · have h2 := Int32.le_iff_toInt_le.mp h
    rw [Int32.toInt_ofNat_of_lt hn] at h2
    omega
theorem late_nat (j : J Z c) {t : Nat} (ht : t ∈ tls Z c) (h : cauT c t = 0) : ∃ l, l ≤ 30 ∧ lateT c t = Int32.ofNat l ∧ strT c t = Int32.ofNat (nst c t + l) ∧ rndT c t = Int32.ofNat (nst c t + l + nmn c t + ndl c t) := by
  cases hb : fr c 135 t with
  | none => rw [cau_none hb] at h; cases h
  | some b =>
    obtain ⟨q, k1, k2, k3, k4, k5, k6⟩ := cau_some j ht hb
    obtain ⟨d1, d2, d3, d4, d5⟩ := day_of _ _ q k2
    rw [k3] at d3 d4 d5
    rw [← k4, ← k5] at d5
    rw [← k5] at d3 d4
    rw [← k6] at d3
    obtain ⟨s1, s2⟩ := j_tst j ht
    obtain ⟨m1, m2, m3⟩ := j_tmn j ht
    obtain ⟨n1, n2⟩ := j_tdl j ht
    rw [s1] at d4 d5
    obtain ⟨m, e1, e2, e3⟩ := ge_nat (by omega) d4
    have e4 : strT c t - Int32.ofNat (nst c t) = Int32.ofNat (m - nst c t) := by rw [e1]; exact nSub e2
    have d6 := d5 h
    rw [e4] at d6
    have d7 : m - nst c t ≤ 30 := (nLe (a := m - nst c t) (b := 30) (by omega) (by decide)).mp d6
    refine ⟨m - nst c t, d7, ?_, ?_, ?_⟩
    · unfold lateT; rw [s1]; exact e4
    · rw [e1, show nst c t + (m - nst c t) = m by omega]
    · rw [d3, e1, m1, n1, nAdd, nAdd, show nst c t + (m - nst c t) = m by omega]
theorem cnt_w (j : J Z c) : cntC Z c 1 = wN Z c := by
  unfold cntC wN
  congr 1
  refine List.filter_congr fun t ht => ?_
  by_cases h : fr c 135 t = none
  · rw [decide_eq_true h, decide_eq_true ((cau_1 j ht).mpr h)]
  · rw [decide_eq_false h, decide_eq_false (fun z => h ((cau_1 j ht).mp z))]
end Cause
