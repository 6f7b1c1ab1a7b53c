/-! The day is run. -/
def dayB (c : HP) (b : Nat) : List (Nat × Int32 × Int32 × Int32) := dayL c (fi c 18 b) none 0 none (rowB c b)
def dq (c : HP) (t : Nat) : Option (Nat × Int32 × Int32 × Int32) := (fr c 135 t).bind fun b => (dayB c b).find? fun q => decide (q.1 = t)
def cauT (c : HP) (t : Nat) : Int32 := match dq c t with
  | none => 1
  | some q => q.2.2.1
def strT (c : HP) (t : Nat) : Int32 := match dq c t with
  | none => 0
  | some q => q.2.1
def rndT (c : HP) (t : Nat) : Int32 := match dq c t with
  | none => 0
  | some q => q.2.2.2
/-- the trips keep the county's day -/
def Dy (Z : Nat → Nat) (g c : HP) : Prop := ∀ t ∈ tls Z c, fi g 137 t = cauT c t ∧ (cauT c t = 0 → fi g 138 t = strT c t ∧ fi g 139 t = rndT c t)
/-- an answer: it is the county's, and the county stays -/
def Ask {α : Type} (Z : Nat → Nat) (c : HP) (f : HP → Option (α × HP)) (v : α) : Prop := ∀ g, Sim Z g c → ∃ g', f g = some (v, g') ∧ Sim Z g' c ∧ Spd Z 0 0 g g'
theorem SameDay.tr {g g1 g2 : HP} {A B : List Nat} (h1 : SameDay g g1 A) (h2 : SameDay g1 g2 B) : SameDay g g2 (A ++ B) := by
  refine ⟨fun t j hj hn => ?_, fun a => (h2.2.1 a).trans (h1.2.1 a), fun a => (h2.2.2 a).trans (h1.2.2 a)⟩
  rw [List.mem_append] at hn
  rw [h2.1 t j hj (fun z => hn (Or.inr z)), h1.1 t j hj (fun z => hn (Or.inl z))]
section Runs
variable {Z : Nat → Nat} {g c : HP}
theorem drop_cons {L : List Nat} {i x : Nat} (hx : L[i]? = some x) : L.drop i = x :: L.drop (i + 1) := by
  have hlt : i < L.length := (List.getElem?_eq_some_iff.mp hx).1
  rw [List.drop_eq_getElem_cons hlt]
  congr 1
  exact (List.getElem?_eq_some_iff.mp hx).2
theorem run_1 (j : J Z c) : ∀ (m i : Nat) (w : HP), (tls Z c).length - i < m → i ≤ (tls Z c).length → Sim Z w c →
    ∃ w', f_X9_runDay_L2 (Z 0) m (Int32.ofNat i) w = some w' ∧ Sim Z w' c ∧ Spd Z 0 0 w w' ∧ (∀ t ∈ (tls Z c).drop i, fi w' 137 t = 1) ∧ (∀ k t, t ∉ (tls Z c).drop i ∨ k ≠ 137 → fi w' k t = fi w k t) := by
  intro m
  induction m with
  | zero => intro i w hm; omega
  | succ m ih =>
    intro i w hm hi S
    have h16 := j.t.1
    have hL := j.l.2.2.1
    unfold f_X9_runDay_L2
    simp only [rM2 S j, hL.rc S, sTL S j, Option.bind_some]
    by_cases hc : (tls Z c).length ≤ i
    · rw [if_pos ((nLe (by omega) (by omega)).mpr hc), List.drop_eq_nil_of_le hc]
      exact ⟨w, rfl, S, Spd.rf, fun t ht => (by cases ht), fun _ _ _ => rfl⟩
    · have hlt : i < (tls Z c).length := by omega
      obtain ⟨x, hx⟩ : ∃ x, (tls Z c)[i]? = some x := ⟨_, List.getElem?_eq_getElem hlt⟩
      have ht := hL.tg hx
      rw [if_neg (fun z => hc ((nLe (by omega) (by omega)).mp z))]
      have we : pfI 8 9 (some x) 1 w = some (setI w 137 x 1) := pfI_eq (ci := 8) (S.tag ht)
      have S1 : Sim Z (setI w 137 x 1) c := S.wD rfl ht
      simp only [hL.gt S j.gg (by decide) (by decide) hx, S.cs (ci := 8) ht, we, Option.bind_some]
      have e1 : Int32.ofNat i + 1 = Int32.ofNat (i + 1) := nAdd i 1
      obtain ⟨w', h1, h2, h3, h4, h5⟩ := ih (i + 1) _ (by omega) (by omega) S1
      have ed := drop_cons hx
      have hnd : x ∉ (tls Z c).drop (i + 1) := by
        have := (List.drop_sublist i (tls Z c)).nodup j.tN
        rw [ed] at this
        exact (List.nodup_cons.mp this).1
      rw [e1]
      refine ⟨w', h1, h2, Spd.wI.tr h3, fun t ht => ?_, fun k t hk => ?_⟩
      · rw [ed] at ht
        rcases List.mem_cons.mp ht with rfl | ht
        · rw [h5 137 t (Or.inl hnd), fi_setI, if_pos ⟨rfl, rfl⟩]
        · exact h4 t ht
      · rw [ed] at hk
        have h6 : t ∉ (tls Z c).drop (i + 1) ∨ k ≠ 137 := by
          rcases hk with hk | hk
          · exact Or.inl fun z => hk (List.mem_cons_of_mem _ z)
          · exact Or.inr hk
        rw [h5 k t h6, fi_setI, if_neg]
        rintro ⟨rfl, rfl⟩
        rcases hk with hk | hk
        · exact hk List.mem_cons_self
        · exact hk rfl
theorem run_2 (j : J Z c) : ∀ (m i : Nat) (w : HP), (bks Z c).length - i < m → i ≤ (bks Z c).length → Sim Z w c →
    ∃ w', f_X9_runDay_L36 (Z 0) m (Int32.ofNat i) w = some w' ∧ Sim Z w' c ∧ Spd Z 0 0 w w' ∧ (∀ b ∈ (bks Z c).drop i, ∀ q ∈ dayB c b, dayAt w' q) ∧ (∀ t k, scrF k = true → (∀ b ∈ (bks Z c).drop i, t ∉ rowB c b) → fi w' k t = fi w k t) := by
  intro m
  induction m with
  | zero => intro i w hm; omega
  | succ m ih =>
    intro i w hm hi S
    have h8 := j.b.1
    have hL := j.l.2.2.2.2.1
    unfold f_X9_runDay_L36
    simp only [rM4 S j, hL.rc S, sBL S j, Option.bind_some]
    by_cases hc : (bks Z c).length ≤ i
    · rw [if_pos ((nLe (by omega) (by omega)).mpr hc), List.drop_eq_nil_of_le hc]
      exact ⟨w, rfl, S, Spd.rf, fun b hb => (by cases hb), fun _ _ _ _ => rfl⟩
    · have hlt : i < (bks Z c).length := by omega
      obtain ⟨b, hb⟩ : ∃ x, (bks Z c)[i]? = some x := ⟨_, List.getElem?_eq_getElem hlt⟩
      have ht := hL.tg hb
      have hm' : b ∈ bks Z c := List.mem_of_getElem? hb
      rw [if_neg (fun z => hc ((nLe (by omega) (by omega)).mp z))]
      have e18 : gfI 1 2 (some b) w = some (fi c 18 b) := S.rdI (ci := 1) ht (by decide) (by decide) (by decide) 2
      obtain ⟨w1, q1, S1, q3, q4, q5⟩ := r_lostIf (br := fi c 18 b) (dl := 0) (del := none) ht (j.cap hm') (j.rN hm') (fun t ht => j.isTP (j.rT hm' ht).1) S (j.row S hm')
      simp only [hL.gt S j.gg (by decide) (by decide) hb, S.cs (ci := 1) ht, e18, S.rc (ci := 1) ht, q1, Option.bind_some]
      have e1 : Int32.ofNat i + 1 = Int32.ofNat (i + 1) := nAdd i 1
      obtain ⟨w', h1, h2, h3, h4, h5⟩ := ih (i + 1) w1 (by omega) (by omega) S1
      have ed := drop_cons hb
      have hnd : b ∉ (bks Z c).drop (i + 1) := by
        have := (List.drop_sublist i (bks Z c)).nodup j.bN
        rw [ed] at this
        exact (List.nodup_cons.mp this).1
      rw [e1]
      refine ⟨w', h1, h2, q3.tr h3, fun b' hb' => ?_, fun t k hk hn => ?_⟩
      · rw [ed] at hb'
        rcases List.mem_cons.mp hb' with rfl | hb'
        · intro q hq
          have hd := q4 q hq
          have hin : q.1 ∈ rowB c b' := by
            rw [← dayL_map c (fi c 18 b') none 0 (rowB c b') none]
            exact List.mem_map_of_mem hq
          have far : ∀ b2 ∈ (bks Z c).drop (i + 1), q.1 ∉ rowB c b2 := fun b2 hb2 z => by
            have e1 := (j.rT (List.mem_of_mem_drop hb2) z).2
            rw [(j.rT hm' hin).2] at e1
            cases e1
            exact hnd hb2
          unfold dayAt
          rw [h5 q.1 138 rfl far, h5 q.1 137 rfl far, h5 q.1 139 rfl far]
          exact hd
        · exact h4 b' hb'
      · rw [ed] at hn
        rw [h5 t k hk (fun b2 hb2 => hn b2 (List.mem_cons_of_mem _ hb2)), q5.1 t k hk (hn b List.mem_cons_self)]
theorem find_day {D : List (Nat × Int32 × Int32 × Int32)} (t : Nat) : t ∈ D.map (fun q => q.1) → ∃ q, D.find? (fun q => decide (q.1 = t)) = some q ∧ q ∈ D ∧ q.1 = t := by
  intro h
  obtain ⟨q, hq, he⟩ := List.mem_map.mp h
  cases hf : D.find? (fun q => decide (q.1 = t)) with
  | none =>
    have := List.find?_eq_none.mp hf q hq
    simp at this
    exact absurd he this
  | some q' =>
    have h1 := List.mem_of_find?_eq_some hf
    have h2 := List.find?_some hf
    exact ⟨q', rfl, h1, by simpa using h2⟩
theorem dq_some (j : J Z c) {b t : Nat} (hb : b ∈ bks Z c) (ht : t ∈ rowB c b) : ∃ q, dq c t = some q ∧ q ∈ dayB c b ∧ q.1 = t := by
  obtain ⟨q, h1, h2, h3⟩ := find_day (D := dayB c b) t (by unfold dayB; rw [dayL_map]; exact ht)
  refine ⟨q, ?_, h2, h3⟩
  unfold dq
  rw [(j.rT hb ht).2]
  exact h1
theorem dq_none {t : Nat} (h : fr c 135 t = none) : dq c t = none := by unfold dq; rw [h]; rfl
theorem r_runDay (S : Sim Z g c) (j : J Z c) : ∃ g', f_X9_runDay (Z 0) g = some g' ∧ Sim Z g' c ∧ Spd Z 0 0 g g' ∧ Dy Z g' c := by
  obtain ⟨w1, a1, a2, a3, a4, a5⟩ := run_1 j FU 0 g (by have := j.t.1; show _ < 4096; omega) (Nat.zero_le _) S
  obtain ⟨w2, b1, b2, b3, b4, b5⟩ := run_2 j FU 0 w1 (by have := j.b.1; show _ < 4096; omega) (Nat.zero_le _) a2
  refine ⟨w2, ?_, b2, a3.tr b3, fun t ht => ?_⟩
  · unfold f_X9_runDay
    have e0 : Int32.ofNat 0 = 0 := rfl
    rw [e0] at a1 b1
    rw [a1, Option.bind_some, b1]
    rfl
  · rw [List.drop_zero] at a4 b4 b5
    cases hb : fr c 135 t with
    | none =>
      have e : cauT c t = 1 := by unfold cauT; rw [dq_none hb]
      rw [e, b5 t 137 rfl (fun b hb' z => by rw [(j.rT hb' z).2] at hb; cases hb)]
      exact ⟨a4 t ht, fun z => by cases z⟩
    | some b =>
      obtain ⟨k1, k2⟩ := j.inB ht hb
      obtain ⟨q, q1, q2, q3⟩ := dq_some j k1 k2
      have := b4 b k1 q q2
      unfold dayAt at this
      rw [q3] at this
      have e1 : cauT c t = q.2.2.1 := by unfold cauT; rw [q1]
      have e2 : strT c t = q.2.1 := by unfold strT; rw [q1]
      have e3 : rndT c t = q.2.2.2 := by unfold rndT; rw [q1]
      rw [e1, e2, e3]
      exact ⟨this.2.1, fun z => ⟨this.1, this.2.2 z⟩⟩
end Runs
