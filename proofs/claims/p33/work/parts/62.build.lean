/-! build: where a trip may go, what stays. -/
def Cand (Z : Nat → Nat) (c : HP) (t b : Nat) : Prop := ∃ l, (rowB c b).getLast? = some l ∧ canF c l t = true ∧ 0 ≤ chR c (Z 9) (fi c 17 b) 0 (rowB c b ++ [t])
def Stuck (Z : Nat → Nat) (c : HP) (cap : Int32) (t : Nat) : Prop := (∀ b ∈ bks Z c, ¬ Cand Z c t b) ∧ (8 ≤ (bks Z c).length ∨ ¬ 0 ≤ chR c (Z 9) cap 0 [t])
def Put (Z : Nat → Nat) (t : Nat) (c c' : HP) : Prop := Ag Z c c' ∧ (tls Z c' = tls Z c ∧ bss Z c' = bss Z c ∧ dvs Z c' = dvs Z c) ∧ (bks Z c).length ≤ (bks Z c').length ∧ (bks Z c').length ≤ (bks Z c).length + 1 ∧ (∀ b ∈ bks Z c', (b ∈ bks Z c ∧ rowB c' b = rowB c b) ∨ (rowB c' b).getLast? = some t) ∧ (fr c' 135 t ≠ none ∧ ∀ x ∈ tls Z c, x ≠ t → fr c' 135 x = fr c 135 x)
section Build
variable {Z : Nat → Nat} {g c c' : HP}
theorem row15 (j : J Z c) {b t : Nat} (hb : b ∈ bks Z c) (ht : t ∈ tls Z c) (hn : fr c 135 t = none) : (rowB c b).length ≤ 15 := by
  have := subset_len (l := rowB c b ++ [t]) (m := tls Z c) (nodup_app (j.rN hb) (List.nodup_cons.mpr ⟨List.not_mem_nil, List.nodup_nil⟩) fun x hx z => by
    rw [List.mem_singleton.mp z] at hx
    rw [(j.rT hb hx).2] at hn; cases hn) fun x hx => by
    rcases List.mem_append.mp hx with h | h
    · exact (j.rT hb h).1
    · rw [List.mem_singleton.mp h]; exact ht
  rw [List.length_append, List.length_singleton] at this
  have := j.t.1
  omega
theorem fl01 (x : Prop) [Decidable x] : retZ (if x then 0 else 1) = some (if x then 0 else 1) := by
  by_cases h : x
  · rw [if_pos h]; rfl
  · rw [if_neg h]; rfl
theorem r_wbFlat (S : Sim Z g c) (j : J Z c) {b t : Nat} (hb : b ∈ bks Z c) (ht : t ∈ tls Z c) (hn : fr c 135 t = none) (cap : Int32) :
    ∃ g', f_X9_wouldBeFlat (Z 0) (some (rwA c b)) (some t) cap g = some ((if 0 ≤ chR c (Z 9) cap 0 (rowB c b ++ [t]) then 0 else 1), g') ∧ Sim Z g' c ∧ Spd Z 0 0 g g' := by
  have d6 : TrD Z (Z 6) (Z 1) := Or.inl ⟨rfl, rfl⟩
  obtain ⟨h1, h2, h3, h4, h5⟩ := TrD.ok j d6
  have hR := j.row S hb
  have nx1 : rlA c (rwA c b) ≠ Z 1 := (j.rl hb).z1 j.gg (by decide)
  have l15 := row15 j hb ht hn
  obtain ⟨g1, a1, a2, a3⟩ := tri_copy S j d6 hR nx1 (by omega)
  obtain ⟨g2, b1, b2, b3⟩ := tri_add a2.1 j d6 (j.isT ht).1 (by rw [a3, List.length_map]; exact l15)
  have e6 : gfR 7 0 (some (Z 6)) g1 = some (some (Z 1)) := by rw [a2.1.rdR (ci := 7) h1 (by decide) (by decide) 0]; exact congrArg some h2
  have hT : RowIs g2 c (Z 6) (rowB c b ++ [t]) := tri_row j d6 (by rw [b3, a3, List.map_append]; rfl) (by rw [List.length_append, List.length_singleton]; omega) fun x hx => by
    rcases List.mem_append.mp hx with h | h
    · exact j.isT (j.rT hb h).1
    · rw [List.mem_singleton.mp h]; exact j.isT ht
  refine ⟨g2, ?_, b2.1, a2.2.1.tr b2.2.1⟩
  unfold f_X9_wouldBeFlat
  rw [rM10 S j, Option.bind_some, S.rc (ci := 7) h1, Option.bind_some, a1, Option.bind_some, rM10 a2.1 j, Option.bind_some, e6, Option.bind_some, a2.1.rc (ci := 0) h4, Option.bind_some, b1, Option.bind_some]
  show Option.bind (gfR 10 10 (some (Z 0)) g2) _ = _
  rw [rM10 b2.1 j, Option.bind_some, rMv b2.1 j, Option.bind_some, r_flat b2.1 j hT, Option.bind_some, fl01, Option.bind_some]
theorem r_wbFlatA (S : Sim Z g c) (j : J Z c) {t : Nat} (ht : t ∈ tls Z c) (cap : Int32) :
    ∃ g', f_X9_wouldBeFlatAlone (Z 0) (some t) cap g = some ((if 0 ≤ chR c (Z 9) cap 0 [t] then 0 else 1), g') ∧ Sim Z g' c ∧ Spd Z 0 0 g g' := by
  have d6 : TrD Z (Z 6) (Z 1) := Or.inl ⟨rfl, rfl⟩
  obtain ⟨h1, h2, h3, h4, h5⟩ := TrD.ok j d6
  obtain ⟨g1, a1, a2, a3⟩ := tri_clear S j d6
  obtain ⟨g2, b1, b2, b3⟩ := tri_add a2.1 j d6 (j.isT ht).1 (by rw [a3]; decide)
  have e6 : ∀ {w}, Sim Z w c → gfR 7 0 (some (Z 6)) w = some (some (Z 1)) := fun S => by rw [S.rdR (ci := 7) h1 (by decide) (by decide) 0]; exact congrArg some h2
  have hT : RowIs g2 c (Z 6) [t] := tri_row j d6 (by rw [b3, a3]; rfl) (by show 1 ≤ 40; decide) fun x hx => by rw [List.mem_singleton.mp hx]; exact j.isT ht
  refine ⟨g2, ?_, b2.1, a2.2.1.tr b2.2.1⟩
  unfold f_X9_wouldBeFlatAlone
  rw [rM10 S j, Option.bind_some, e6 S, Option.bind_some, S.rc (ci := 0) h4, Option.bind_some, a1, Option.bind_some, rM10 a2.1 j, Option.bind_some, e6 a2.1, Option.bind_some, a2.1.rc (ci := 0) h4, Option.bind_some, b1, Option.bind_some]
  show Option.bind (gfR 10 10 (some (Z 0)) g2) _ = _
  rw [rM10 b2.1 j, Option.bind_some, rMv b2.1 j, Option.bind_some, r_flat b2.1 j hT, Option.bind_some, fl01, Option.bind_some]
theorem nb_loop (j : J Z c) {t : Nat} (ht : t ∈ tls Z c) (hn : fr c 135 t = none) : ∀ (m i : Nat) (near : Option Nat) (le : Int32) (w : HP), (bks Z c).length - i < m → i ≤ (bks Z c).length → Sim Z w c → (∀ b, near = some b → b ∈ bks Z c) →
    ∃ r w', f_X9_nearestBlock_L7 (Z 0) (some t) m near le (Int32.ofNat i) w = some (r, w') ∧ Sim Z w' c ∧ Spd Z 0 0 w w' ∧ (r = none → near = none ∧ ∀ k b, i ≤ k → (bks Z c)[k]? = some b → ¬ Cand Z c t b) ∧ ∀ b, r = some b → near = some b ∨ (b ∈ bks Z c ∧ Cand Z c t b) := by
  intro m
  induction m with
  | zero => intro i near le w hm; omega
  | succ m ih =>
    intro i near le w hm hi S hnear
    have h8 := j.b.1
    have hL := j.l.2.2.2.2.1
    have hT := j.isT ht
    rw [f_X9_nearestBlock_L7, rM4 S j, Option.bind_some, hL.rc S, Option.bind_some, sBL S j, Option.bind_some]
    by_cases hc : (bks Z c).length ≤ i
    · rw [if_pos ((nLe (by omega) (by omega)).mpr hc)]
      exact ⟨near, w, rfl, S, Spd.rf, fun h => ⟨h, fun k b hk hb => by have := (List.getElem?_eq_some_iff.mp hb).1; omega⟩, fun b h => Or.inl h⟩
    · obtain ⟨b, hb⟩ : ∃ x, (bks Z c)[i]? = some x := ⟨_, List.getElem?_eq_getElem (by omega)⟩
      have hm' := List.mem_of_getElem? hb
      have tb := j.tb hm'
      have hR := j.row S hm'
      have e17 : gfI 1 1 (some b) w = some (fi c 17 b) := S.rdI (ci := 1) tb (by decide) (by decide) (by decide) 1
      have eG : al_get (Z 15) (Int32.ofNat i) w = some (some b) := hL.gt S j.gg (by decide) (by decide) hb
      have e1 : Int32.ofNat i + 1 = Int32.ofNat (i + 1) := nAdd i 1
      -- it goes on, b is none
      have skip : ∀ w1, Sim Z w1 c → Spd Z 0 0 w w1 → (near = none → ¬ Cand Z c t b) → ∃ r w', f_X9_nearestBlock_L7 (Z 0) (some t) m near le (Int32.ofNat (i + 1)) w1 = some (r, w') ∧ Sim Z w' c ∧ Spd Z 0 0 w w' ∧ (r = none → near = none ∧ ∀ k b, i ≤ k → (bks Z c)[k]? = some b → ¬ Cand Z c t b) ∧ ∀ b, r = some b → near = some b ∨ (b ∈ bks Z c ∧ Cand Z c t b) := fun w1 S1 p1 hnc => by
        obtain ⟨r, w', k1, k2, k3, k4, k5⟩ := ih (i + 1) near le w1 (by omega) (by omega) S1 hnear
        refine ⟨r, w', k1, k2, p1.tr k3, fun h => ⟨(k4 h).1, fun k b' hk hb' => ?_⟩, k5⟩
        by_cases e : k = i
        · rw [e, hb] at hb'
          rw [← Option.some.inj hb']
          exact hnc (k4 h).1
        · exact (k4 h).2 k b' (by omega) hb'
      rw [if_neg (fun z => hc ((nLe (by omega) (by omega)).mp z)), Option.bind_some, hL.rc S, Option.bind_some, eG, Option.bind_some, S.cs (ci := 1) tb, Option.bind_some, j.rBr S hm', Option.bind_some, S.rc (ci := 7) hR.1, Option.bind_some, r_rlast S hR, Option.bind_some, e1]
      cases hl : (rowB c b).getLast? with
      | none =>
        rw [if_pos rfl]
        exact skip w S Spd.rf fun _ ⟨l, h, _⟩ => by rw [hl] at h; cases h
      | some l =>
        have hlT := j.isT (j.rT hm' (List.mem_of_getLast? hl)).1
        rw [if_neg sn, S.rc (ci := 8) hT.1, Option.bind_some, r_canFollow S hT hlT, Option.bind_some]
        by_cases hF : canF c l t = true
        · rw [if_neg (show ¬ b32 (canF c l t) = 0 by rw [hF]; decide)]
          obtain ⟨w1, q1, q2, q3⟩ := r_wbFlat S j hm' ht hn (fi c 17 b)
          -- what it's for
          have take : ∀ (w1 : HP) (le' : Int32), Sim Z w1 c → Spd Z 0 0 w w1 → Cand Z c t b → ∃ r w', f_X9_nearestBlock_L7 (Z 0) (some t) m (some b) le' (Int32.ofNat (i + 1)) w1 = some (r, w') ∧ Sim Z w' c ∧ Spd Z 0 0 w w' ∧ (r = none → near = none ∧ ∀ k b, i ≤ k → (bks Z c)[k]? = some b → ¬ Cand Z c t b) ∧ ∀ b, r = some b → near = some b ∨ (b ∈ bks Z c ∧ Cand Z c t b) := fun w1 le' S1 p1 hC => by
            obtain ⟨r, w', k1, k2, k3, k4, k5⟩ := ih (i + 1) (some b) le' w1 (by omega) (by omega) S1 (fun b' h => by rw [← Option.some.inj h]; exact hm')
            refine ⟨r, w', k1, k2, p1.tr k3, fun h => (by have := (k4 h).1; cases this), fun b' h => ?_⟩
            rcases k5 b' h with h | h
            · rw [← Option.some.inj h]; exact Or.inr ⟨hm', hC⟩
            · exact Or.inr h
          by_cases hz : 0 ≤ chR c (Z 9) (fi c 17 b) 0 (rowB c b ++ [t])
          · have hC : Cand Z c t b := ⟨l, hl, hF, hz⟩
            rw [if_pos hz] at q1
            have eE : ∀ w, Sim Z w c → f_X7_emptyTo l (some t) w = some (dist c (tA c l) (fA c t)) := fun w S => r_tEmpty S hlT hT
            by_cases hne : near = none
            · rw [if_pos hne, Option.bind_some, e17, Option.bind_some, rMv S j, Option.bind_some, q1, Option.bind_some, if_pos rfl]
              show ∃ r w', (Option.bind (rcv 8 (some l) w1) _) = some (r, w') ∧ _
              rw [q2.rc (ci := 8) hlT.1, Option.bind_some, eE w1 q2, Option.bind_some]
              exact take w1 _ q2 q3 hC
            · rw [if_neg hne, S.rc (ci := 8) hlT.1, Option.bind_some, eE w S, Option.bind_some]
              by_cases hle : le ≤ dist c (tA c l) (fA c t)
              · rw [if_pos hle]
                exact skip w S Spd.rf fun z => absurd z hne
              · rw [if_neg hle, Option.bind_some, e17, Option.bind_some, rMv S j, Option.bind_some, q1, Option.bind_some, if_pos rfl]
                show ∃ r w', (Option.bind (rcv 8 (some l) w1) _) = some (r, w') ∧ _
                rw [q2.rc (ci := 8) hlT.1, Option.bind_some, eE w1 q2, Option.bind_some]
                exact take w1 _ q2 q3 hC
          · have hnC : ¬ Cand Z c t b := fun ⟨_, _, _, h⟩ => hz h
            rw [if_neg hz] at q1
            have eE : ∀ w, Sim Z w c → f_X7_emptyTo l (some t) w = some (dist c (tA c l) (fA c t)) := fun w S => r_tEmpty S hlT hT
            by_cases hne : near = none
            · rw [if_pos hne, Option.bind_some, e17, Option.bind_some, rMv S j, Option.bind_some, q1, Option.bind_some, if_neg (show ¬ (1 : Int32) = 0 by decide)]
              exact skip w1 q2 q3 fun _ => hnC
            · rw [if_neg hne, S.rc (ci := 8) hlT.1, Option.bind_some, eE w S, Option.bind_some]
              by_cases hle : le ≤ dist c (tA c l) (fA c t)
              · rw [if_pos hle]
                exact skip w S Spd.rf fun z => absurd z hne
              · rw [if_neg hle, Option.bind_some, e17, Option.bind_some, rMv S j, Option.bind_some, q1, Option.bind_some, if_neg (show ¬ (1 : Int32) = 0 by decide)]
                exact skip w1 q2 q3 fun _ => hnC
        · rw [if_pos (show b32 (canF c l t) = 0 by unfold b32; rw [if_neg hF])]
          exact skip w S Spd.rf fun _ ⟨l', h1, h2, _⟩ => by
            rw [hl] at h1
            rw [← Option.some.inj h1] at h2
            exact hF h2
theorem put_of (j : J Z c) (j' : J Z c') {t b : Nat} (A : Ag Z c c') (e : tls Z c' = tls Z c ∧ bss Z c' = bss Z c ∧ dvs Z c' = dvs Z c) (h1 : (bks Z c).length ≤ (bks Z c').length) (h2 : (bks Z c').length ≤ (bks Z c).length + 1) (ht : t ∈ tls Z c) (hn : fr c 135 t = none) (hsub : ∀ x ∈ bks Z c, x ∈ bks Z c') (hb : b ∈ bks Z c')
    (hrow : ∀ x ∈ bks Z c', x ≠ b → x ∈ bks Z c ∧ rowB c' x = rowB c x) (hR : ∃ R, rowB c' b = R ++ [t] ∧ ((b ∈ bks Z c ∧ R = rowB c b) ∨ (b ∉ bks Z c ∧ R = []))) : Put Z t c c' := by
  obtain ⟨R, r1, r2⟩ := hR
  have htn : t ∈ rowB c' b := by rw [r1]; simp
  refine ⟨A, e, h1, h2, fun x hx => ?_, (by rw [(j'.rT hb htn).2]; exact fun z => by cases z), fun x hx hne => ?_⟩
  · by_cases h : x = b
    · right; rw [h, r1]; simp
    · exact Or.inl (hrow x hx h)
  · have hx' : x ∈ tls Z c' := by rw [e.1]; exact hx
    cases h : fr c 135 x with
    | some y =>
      obtain ⟨k1, k2⟩ := j.inB hx h
      have : x ∈ rowB c' y := by
        by_cases hy : y = b
        · rw [hy, r1]
          rcases r2 with ⟨_, r2⟩ | ⟨r2, _⟩
          · rw [r2, ← hy]; exact List.mem_append_left _ k2
          · exact absurd (hy ▸ k1) r2
        · rw [(hrow y (hsub y k1) hy).2]; exact k2
      exact (j'.rT (hsub y k1) this).2
    | none =>
      cases h' : fr c' 135 x with
      | none => rfl
      | some y =>
        obtain ⟨k1, k2⟩ := j'.inB hx' h'
        have : ∃ z ∈ bks Z c, x ∈ rowB c z := by
          by_cases hy : y = b
          · rw [hy, r1] at k2
            rcases List.mem_append.mp k2 with k2 | k2
            · rcases r2 with ⟨r2, r3⟩ | ⟨_, r3⟩
              · exact ⟨b, r2, by rw [← r3]; exact k2⟩
              · rw [r3] at k2; cases k2
            · exact absurd (List.mem_singleton.mp k2) hne
          · obtain ⟨q1, q2⟩ := hrow y k1 hy
            exact ⟨y, q1, by rw [← q2]; exact k2⟩
        obtain ⟨z, z1, z2⟩ := this
        rw [(j.rT z1 z2).2] at h; cases h
theorem r_put (S : Sim Z g c) (j : J Z c) {t : Nat} (ht : t ∈ tls Z c) (hn : fr c 135 t = none) {cap : Int32} : ∃ v g' c', f_X9_putIntoSomeBlock (Z 0) (some t) cap g = some (v, g') ∧ Sim Z g' c' ∧ Spd Z 6 212 g g' ∧ J Z c' ∧ ((v = 0 ∧ c' = c ∧ Stuck Z c cap t ∧ Spd Z 0 0 g g') ∨ (v = 1 ∧ Put Z t c c')) := by
  have h8 := j.b.1
  obtain ⟨r, w, a1, a2, a3, a4, a5⟩ := nb_loop j ht hn FU 0 none 0 g (by show _ < 4096; omega) (Nat.zero_le _) S (fun b h => by cases h)
  have a1' : f_X9_nearestBlock (Z 0) (some t) g = some (r, w) := by
    have : f_X9_nearestBlock_L7 (Z 0) (some t) FU none 0 0 g = some (r, w) := a1
    unfold f_X9_nearestBlock
    rw [this]; rfl
  unfold f_X9_putIntoSomeBlock
  rw [rMv S j, Option.bind_some, a1', Option.bind_some]
  cases r with
  | some b =>
    rcases a5 b rfl with h | ⟨hb, l, hl, hF, hz⟩
    · cases h
    · obtain ⟨g', c', b1, b2, b3, b4, b5, b6⟩ := r_addTrip a2 j hb ht hn (fun l' h' => by
        rw [hl] at h'
        rw [← Option.some.inj h']; exact hF)
      have eb : bks Z c' = bks Z c := bks_eq b5.2.1.2.2.1
      refine ⟨1, g', c', ?_, b2, (a3.tr b3).up (by omega) (by omega), b4, Or.inr ⟨rfl, ?_⟩⟩
      · rw [if_neg sn]
        show Option.bind (rcv 1 (some b) w) _ = _
        rw [a2.rc (ci := 1) (j.tb hb), Option.bind_some, b1, Option.bind_some]
      · refine put_of j b4 (b := b) b5.1 ⟨tls_eq b5.2.1.1, bss_eq b5.2.1.2.1, dvs_eq b5.2.1.2.2.2⟩ (by rw [eb]; exact Nat.le_refl _) (by rw [eb]; omega) ht hn (fun x hx => by rw [eb]; exact hx) (by rw [eb]; exact hb) (fun x hx hne => ?_) ⟨rowB c b, (b5.2.2.2.1 b hb).1.trans (if_pos rfl), Or.inl ⟨hb, rfl⟩⟩
        rw [eb] at hx
        exact ⟨hx, (b5.2.2.2.1 x hx).1.trans (if_neg hne)⟩
  | none =>
    have hno : ∀ b ∈ bks Z c, ¬ Cand Z c t b := fun b hb => by
      obtain ⟨k, hk⟩ := mem_at hb
      exact (a4 rfl).2 k b (Nat.zero_le _) hk
    rw [if_pos rfl]
    show ∃ v g' c', (Option.bind (gfR 10 4 (some (Z 0)) w) _) = some (v, g') ∧ _
    rw [rM4 a2 j, Option.bind_some, j.l.2.2.2.2.1.rc a2, Option.bind_some, sBL a2 j, Option.bind_some]
    by_cases hlen : 8 ≤ (bks Z c).length
    · rw [if_pos (show (8 : Int32) ≤ Int32.ofNat (bks Z c).length from (nLe (a := 8) (by omega) (by omega)).mpr hlen)]
      exact ⟨0, w, c, rfl, a2, a3.up (Nat.zero_le _) (Nat.zero_le _), j, Or.inl ⟨rfl, rfl, ⟨hno, Or.inl hlen⟩, a3⟩⟩
    · rw [if_neg (show ¬ (8 : Int32) ≤ Int32.ofNat (bks Z c).length from fun z => hlen ((nLe (a := 8) (by omega) (by omega)).mp z))]
      show ∃ v g' c', (Option.bind (rcv 10 (some (Z 0)) w) _) = some (v, g') ∧ _
      rw [rMv a2 j, Option.bind_some]
      show ∃ v g' c', (Option.bind (f_X9_wouldBeFlatAlone (Z 0) (some t) cap w) _) = some (v, g') ∧ _
      obtain ⟨w2, b1, b2, b3⟩ := r_wbFlatA a2 j ht cap
      rw [b1, Option.bind_some]
      by_cases hz : 0 ≤ chR c (Z 9) cap 0 [t]
      · rw [if_pos hz, if_pos rfl]
        obtain ⟨w3, c3, B, d1, d2, d3, d4, d5, ⟨d6, d7, d8, d9⟩, d10, d11, d12, d13, d14, d15, d16, d17, d18⟩ := r_newBlock b2 j (by omega) cap
        have hB : B ∈ bks Z c3 := by rw [d9]; simp
        have ht3 : t ∈ tls Z c3 := by rw [d6]; exact ht
        have hBn : B ∉ bks Z c := fun z => (j.bz z).1 d10
        obtain ⟨g', c', e1, e2, e3, e4, e5, e6⟩ := r_addTrip d2 d4 hB ht3 (by rw [d16 135 t (isT_nz (j.isT ht))]; exact hn) (fun l h => by rw [d12] at h; cases h)
        have eb : bks Z c' = bks Z c3 := bks_eq e5.2.1.2.2.1
        refine ⟨1, g', c', ?_, e2, (((a3.tr b3).tr d3).tr e3).up (by omega) (by omega), e4, Or.inr ⟨rfl, ?_⟩⟩
        · show (Option.bind (rcv 10 (some (Z 0)) w2) _) = _
          rw [rMv b2 j, Option.bind_some, d1, Option.bind_some]
          show (Option.bind (rcv 1 (some B) w3) _) = _
          rw [d2.rc (ci := 1) (d4.tb hB), Option.bind_some, e1, Option.bind_some]
        · refine put_of j e4 (b := B) (d5.tr e5.1) ⟨(tls_eq e5.2.1.1).trans d6, (bss_eq e5.2.1.2.1).trans d7, (dvs_eq e5.2.1.2.2.2).trans d8⟩ (by rw [eb, d9, List.length_append]; omega) (by rw [eb, d9, List.length_append]; exact Nat.le_refl _) ht hn (fun x hx => by rw [eb, d9]; exact List.mem_append_left _ hx) (by rw [eb]; exact hB) (fun x hx hne => ?_) ⟨[], ((e5.2.2.2.1 B hB).1.trans (if_pos rfl)).trans (by rw [d12]), Or.inr ⟨hBn, rfl⟩⟩
          rw [eb] at hx
          have hx2 := hx
          rw [d9] at hx
          have hxc := (List.mem_append.mp hx).resolve_right fun z => hne (List.mem_singleton.mp z)
          exact ⟨hxc, ((e5.2.2.2.1 x hx2).1.trans (if_neg hne)).trans (d11 x hxc).1⟩
      · rw [if_neg hz, if_neg (show ¬ (1 : Int32) = 0 by decide)]
        exact ⟨0, w2, c, rfl, b2, (a3.tr b3).up (Nat.zero_le _) (Nat.zero_le _), j, Or.inl ⟨rfl, rfl, ⟨hno, Or.inr hz⟩, a3.tr b3⟩⟩
/-- what stays without stays so, as others come -/
theorem stuck_put (j : J Z c) (j' : J Z c') {cap : Int32} {t x : Nat} (P : Put Z t c c') (ht : t ∈ tls Z c) (hx : x ∈ tls Z c) (h : nst c x ≤ nst c t) (hS : Stuck Z c cap x) : Stuck Z c' cap x := by
  obtain ⟨A, ⟨e1, e2, e3⟩, p1, p2, p3, p4⟩ := P
  have hd := j.gg.2.2.2.2.2.2.2.1
  refine ⟨fun b hb ⟨l, q1, q2, q3⟩ => ?_, ?_⟩
  · rcases p3 b hb with ⟨hb0, hr⟩ | hl
    · rw [hr] at q1 q3
      have hlT := (j.rT hb0 (List.mem_of_getLast? q1)).1
      rw [ag_canF A (j.isT hlT) (j.isT hx)] at q2
      rw [ag_chR A (fun y hy => by
        rcases List.mem_append.mp hy with h | h
        · exact j.isT (j.rT hb0 h).1
        · rw [List.mem_singleton.mp h]; exact j.isT hx) hd, A.2.1 17 b (j.bz hb0).1] at q3
      exact hS.1 b hb0 ⟨l, q1, q2, q3⟩
    · rw [hl] at q1
      rw [← Option.some.inj q1, ag_canF A (j.isT ht) (j.isT hx)] at q2
      have := (j_canF j ht hx).mp q2
      unfold nen at this
      have := (j_tmn j ht).2.1
      omega
  · rcases hS.2 with h | h
    · exact Or.inl (by omega)
    · right
      rw [ag_chR A (fun y hy => by rw [List.mem_singleton.mp hy]; exact j.isT hx) hd]
      exact h
end Build
