/-! build, as it answers; built again with the same capacity it does nothing. -/
theorem cnt_flip {p p' : Nat → Bool} {x : Nat} : ∀ {l : List Nat}, l.Nodup → x ∈ l → p x = true → p' x = false → (∀ y ∈ l, y ≠ x → p' y = p y) → (l.filter p').length + 1 = (l.filter p).length
  | [], _, h, _, _, _ => by cases h
  | y :: ys, hn, hx, h1, h2, h3 => by
    have hn' := List.nodup_cons.mp hn
    by_cases e : y = x
    · have e1 : ys.filter p' = ys.filter p := List.filter_congr fun z hz => h3 z (List.mem_cons_of_mem _ hz) fun w => hn'.1 (e ▸ w ▸ hz)
      rw [e, List.filter_cons_of_pos h1, List.filter_cons_of_neg (by rw [h2]; decide), e1, List.length_cons]
    · have hx' : x ∈ ys := (List.mem_cons.mp hx).resolve_left fun w => e w.symm
      have ih := cnt_flip hn'.2 hx' h1 h2 fun z hz => h3 z (List.mem_cons_of_mem _ hz)
      have hy := h3 y List.mem_cons_self e
      cases hp : p y with
      | true => rw [List.filter_cons_of_pos (by rw [hy]; exact hp), List.filter_cons_of_pos hp, List.length_cons, List.length_cons]; omega
      | false => rw [List.filter_cons_of_neg (by rw [hy, hp]; decide), List.filter_cons_of_neg (by rw [hp]; decide)]; exact ih
/-- how many trips have no block -/
def wN (Z : Nat → Nat) (c : HP) : Nat := ((tls Z c).filter fun t => decide (fr c 135 t = none)).length
/-- what build leaves: k trips got a block -/
def Bch (Z : Nat → Nat) (k : Nat) (c c' : HP) : Prop := Ag Z c c' ∧ (tls Z c' = tls Z c ∧ bss Z c' = bss Z c ∧ dvs Z c' = dvs Z c) ∧ (bks Z c).length ≤ (bks Z c').length ∧ (bks Z c').length ≤ (bks Z c).length + k ∧ wN Z c' + k = wN Z c
section Build2
variable {Z : Nat → Nat} {g c c' : HP}
theorem Bch.rf : Bch Z 0 c c := ⟨Ag.rf, ⟨rfl, rfl, rfl⟩, Nat.le_refl _, Nat.le_refl _, rfl⟩
theorem Bch.tr {c1 c2 : HP} {k1 k2 : Nat} (h1 : Bch Z k1 c c1) (h2 : Bch Z k2 c1 c2) : Bch Z (k1 + k2) c c2 := by
  obtain ⟨a1, ⟨a2, a3, a4⟩, a5, a6, a7⟩ := h1
  obtain ⟨b1, ⟨b2, b3, b4⟩, b5, b6, b7⟩ := h2
  exact ⟨a1.tr b1, ⟨b2.trans a2, b3.trans a3, b4.trans a4⟩, by omega, by omega, by omega⟩
theorem put_b (j : J Z c) {t : Nat} (ht : t ∈ tls Z c) (hn : fr c 135 t = none) (P : Put Z t c c') : Bch Z 1 c c' := by
  obtain ⟨A, e, p1, p2, p3, p4, p5⟩ := P
  refine ⟨A, e, p1, p2, ?_⟩
  unfold wN
  rw [e.1]
  refine cnt_flip j.tN ht (by simp [hn]) (by simp [p4]) fun y hy hne => ?_
  rw [p5 y hy hne]
theorem r_putS (S : Sim Z g c) (j : J Z c) {t : Nat} (ht : t ∈ tls Z c) (hn : fr c 135 t = none) {cap : Int32} (hS : Stuck Z c cap t) : ∃ g', f_X9_putIntoSomeBlock (Z 0) (some t) cap g = some (0, g') ∧ Sim Z g' c ∧ Spd Z 0 0 g g' := by
  have h8 := j.b.1
  obtain ⟨r, w, a1, a2, a3, a4, a5⟩ := nb_loop j ht hn FU 0 none 0 g (by show _ < 4096; omega) (Nat.zero_le _) S (fun b h => by cases h)
  have a1' : f_X9_nearestBlock (Z 0) (some t) g = some (r, w) := by
    have : f_X9_nearestBlock_L7 (Z 0) (some t) FU none 0 0 g = some (r, w) := a1
    unfold f_X9_nearestBlock
    rw [this]; rfl
  unfold f_X9_putIntoSomeBlock
  rw [rMv S j, Option.bind_some, a1', Option.bind_some]
  cases r with
  | some b =>
    rcases a5 b rfl with h | ⟨hb, h⟩
    · cases h
    · exact absurd h (hS.1 b hb)
  | none =>
    rw [if_pos rfl]
    show ∃ g', (Option.bind (gfR 10 4 (some (Z 0)) w) _) = some (0, g') ∧ _
    rw [rM4 a2 j, Option.bind_some, j.l.2.2.2.2.1.rc a2, Option.bind_some, sBL a2 j, Option.bind_some]
    by_cases hlen : 8 ≤ (bks Z c).length
    · rw [if_pos (show (8 : Int32) ≤ Int32.ofNat (bks Z c).length from (nLe (a := 8) (by omega) (by omega)).mpr hlen)]
      exact ⟨w, rfl, a2, a3⟩
    · rw [if_neg (show ¬ (8 : Int32) ≤ Int32.ofNat (bks Z c).length from fun z => hlen ((nLe (a := 8) (by omega) (by omega)).mp z))]
      show ∃ g', (Option.bind (rcv 10 (some (Z 0)) w) _) = some (0, g') ∧ _
      rw [rMv a2 j, Option.bind_some]
      show ∃ g', (Option.bind (f_X9_wouldBeFlatAlone (Z 0) (some t) cap w) _) = some (0, g') ∧ _
      obtain ⟨w2, b1, b2, b3⟩ := r_wbFlatA a2 j ht cap
      rw [b1, Option.bind_some, if_neg (hS.2.resolve_left hlen), if_neg (show ¬ (1 : Int32) = 0 by decide)]
      exact ⟨w2, rfl, b2, a3.tr b3⟩
theorem bd_loop {cap : Int32} : ∀ (m i n : Nat) (w c : HP), (bss Z c).length - i < m → i ≤ (bss Z c).length → Sim Z w c → J Z c → (∀ k x, k < i → (bss Z c)[k]? = some x → fr c 135 x = none → Stuck Z c cap x) →
    ∃ k w' c', f_X9_build_L26 (Z 0) cap m (Int32.ofNat n) (Int32.ofNat i) w = some (Int32.ofNat (n + k), w') ∧ Sim Z w' c' ∧ Spd Z (6 * ((bss Z c).length - i)) (212 * ((bss Z c).length - i)) w w' ∧ J Z c' ∧ Bch Z k c c' ∧ ∀ x ∈ bss Z c', fr c' 135 x = none → Stuck Z c' cap x := by
  intro m
  induction m with
  | zero => intro i n w c hm; omega
  | succ m ih =>
    intro i n w c hm hi S j hK
    have h16 : (bss Z c).length ≤ 16 := Nat.le_trans j.s.2.1 j.t.1
    have hL := j.l.2.2.2.1
    rw [f_X9_build_L26, rM3 S j, Option.bind_some, hL.rc S, Option.bind_some, sSL S j, Option.bind_some]
    by_cases hc : (bss Z c).length ≤ i
    · rw [if_pos ((nLe (by omega) (by omega)).mpr hc)]
      refine ⟨0, w, c, rfl, S, Spd.rf.up (Nat.zero_le _) (Nat.zero_le _), j, Bch.rf, fun x hx => ?_⟩
      obtain ⟨k, hk⟩ := mem_at hx
      exact hK k x (by have := (List.getElem?_eq_some_iff.mp hk).1; omega) hk
    · obtain ⟨x, hx⟩ : ∃ x, (bss Z c)[i]? = some x := ⟨_, List.getElem?_eq_getElem (by omega)⟩
      have hxm := List.mem_of_getElem? hx
      have hxt := j.s.1 x hxm
      have tx := (j.isT hxt).1
      have eG : al_get (Z 14) (Int32.ofNat i) w = some (some x) := hL.gt S j.gg (by decide) (by decide) hx
      have e7 : gfR 8 7 (some x) w = some (fr c 135 x) := S.rdR (ci := 8) tx (by decide) (by decide) 7
      have e1 : Int32.ofNat i + 1 = Int32.ofNat (i + 1) := nAdd i 1
      rw [if_neg (fun z => hc ((nLe (by omega) (by omega)).mp z)), Option.bind_some, hL.rc S, Option.bind_some, eG, Option.bind_some, S.cs (ci := 8) tx, Option.bind_some, e7, Option.bind_some, e1]
      cases hf : fr c 135 x with
      | some b =>
        rw [if_neg sn]
        obtain ⟨k, w', c', k1, k2, k3, k4, k5, k6⟩ := ih (i + 1) n w c (by omega) (by omega) S j (fun k y hk hy hn => by
          by_cases e : k = i
          · rw [e, hx] at hy
            rw [← Option.some.inj hy, hf] at hn
            cases hn
          · exact hK k y (by omega) hy hn)
        exact ⟨k, w', c', k1, k2, k3.up (by omega) (by omega), k4, k5, k6⟩
      | none =>
        rw [if_pos rfl, rMv S j, Option.bind_some]
        obtain ⟨v, w1, c1, b1, b2, b3, b4, b5⟩ := r_put S j hxt hf (cap := cap)
        rw [b1, Option.bind_some]
        rcases b5 with ⟨rfl, rfl, b6, b7⟩ | ⟨rfl, P⟩
        · rw [if_pos (show (0 : Int32) = 0 from rfl)]
          obtain ⟨k, w', c', k1, k2, k3, k4, k5, k6⟩ := ih (i + 1) n w1 c1 (by omega) (by omega) b2 j (fun k y hk hy hn => by
            by_cases e : k = i
            · rw [e, hx] at hy
              rw [← Option.some.inj hy]; exact b6
            · exact hK k y (by omega) hy hn)
          exact ⟨k, w', c', k1, k2, (b7.tr k3).up (by omega) (by omega), k4, k5, k6⟩
        · have hB := put_b j hxt hf P
          obtain ⟨A, ⟨e3, e4, e5⟩, p1, p2, p3, p4, p5⟩ := id P
          rw [if_neg (show ¬ (1 : Int32) = 0 by decide), show Int32.ofNat n + 1 = Int32.ofNat (n + 1) from nAdd n 1]
          obtain ⟨k, w', c', k1, k2, k3, k4, k5, k6⟩ := ih (i + 1) (n + 1) w1 c1 (by rw [e4]; omega) (by rw [e4]; omega) b2 b4 (fun k y hk hy hn => by
            rw [e4] at hy
            have hym := List.mem_of_getElem? hy
            have hyt := j.s.1 y hym
            by_cases e : y = x
            · rw [e] at hn; exact absurd hn p4
            · rw [p5 y hyt e] at hn
              have hki : k ≠ i := fun z => e (by rw [z, hx] at hy; exact (Option.some.inj hy).symm)
              refine stuck_put j b4 P hxt hyt ?_ (hK k y (by omega) hy hn)
              have hp := List.pairwise_iff_getElem.mp j.s.2.2 k i (List.getElem?_eq_some_iff.mp hy).1 (List.getElem?_eq_some_iff.mp hx).1 (by omega)
              rw [(List.getElem?_eq_some_iff.mp hy).2, (List.getElem?_eq_some_iff.mp hx).2] at hp
              exact hp)
          rw [e4] at k3
          refine ⟨1 + k, w', c', ?_, k2, (b3.tr k3).up (by omega) (by omega), k4, hB.tr k5, k6⟩
          rw [show n + (1 + k) = n + 1 + k by omega]; exact k1
theorem q_build (S : Sim Z g c) (j : J Z c) {cap : Int32} (h1 : 50 ≤ cap) (h2 : cap ≤ 999) : ∃ k g' c', f_X9_build (Z 0) cap g = some (Int32.ofNat k, g') ∧ Sim Z g' c' ∧ Spd Z 96 3392 g g' ∧ J Z c' ∧ Bch Z k c c' ∧ ∀ x ∈ bss Z c', fr c' 135 x = none → Stuck Z c' cap x := by
  have h16 : (bss Z c).length ≤ 16 := Nat.le_trans j.s.2.1 j.t.1
  obtain ⟨k, w', c', k1, k2, k3, k4, k5, k6⟩ := bd_loop (cap := cap) FU 0 0 g c (by show _ < 4096; omega) (Nat.zero_le _) S j (fun k x hk => absurd hk (Nat.not_lt_zero _))
  refine ⟨k, w', c', ?_, k2, k3.up (by omega) (by omega), k4, k5, k6⟩
  have k1' : f_X9_build_L26 (Z 0) cap FU 0 0 g = some (Int32.ofNat (0 + k), w') := k1
  unfold f_X9_build
  rw [nout h1 h2 g, Option.bind_some, if_pos rfl, k1', Nat.zero_add]
  rfl
theorem b2_loop (j : J Z c) {cap : Int32} (hK : ∀ x ∈ bss Z c, fr c 135 x = none → Stuck Z c cap x) : ∀ (m i n : Nat) (w : HP), (bss Z c).length - i < m → i ≤ (bss Z c).length → Sim Z w c →
    ∃ w', f_X9_build_L26 (Z 0) cap m (Int32.ofNat n) (Int32.ofNat i) w = some (Int32.ofNat n, w') ∧ Sim Z w' c ∧ Spd Z 0 0 w w' := by
  intro m
  induction m with
  | zero => intro i n w hm; omega
  | succ m ih =>
    intro i n w hm hi S
    have h16 : (bss Z c).length ≤ 16 := Nat.le_trans j.s.2.1 j.t.1
    have hL := j.l.2.2.2.1
    rw [f_X9_build_L26, rM3 S j, Option.bind_some, hL.rc S, Option.bind_some, sSL S j, Option.bind_some]
    by_cases hc : (bss Z c).length ≤ i
    · rw [if_pos ((nLe (by omega) (by omega)).mpr hc)]
      exact ⟨w, rfl, S, Spd.rf⟩
    · obtain ⟨x, hx⟩ : ∃ x, (bss Z c)[i]? = some x := ⟨_, List.getElem?_eq_getElem (by omega)⟩
      have hxm := List.mem_of_getElem? hx
      have hxt := j.s.1 x hxm
      have tx := (j.isT hxt).1
      have eG : al_get (Z 14) (Int32.ofNat i) w = some (some x) := hL.gt S j.gg (by decide) (by decide) hx
      have e7 : gfR 8 7 (some x) w = some (fr c 135 x) := S.rdR (ci := 8) tx (by decide) (by decide) 7
      have e1 : Int32.ofNat i + 1 = Int32.ofNat (i + 1) := nAdd i 1
      rw [if_neg (fun z => hc ((nLe (by omega) (by omega)).mp z)), Option.bind_some, hL.rc S, Option.bind_some, eG, Option.bind_some, S.cs (ci := 8) tx, Option.bind_some, e7, Option.bind_some, e1]
      cases hf : fr c 135 x with
      | some b =>
        rw [if_neg sn]
        exact ih (i + 1) n w (by omega) (by omega) S
      | none =>
        rw [if_pos rfl, rMv S j, Option.bind_some]
        obtain ⟨w1, b1, b2, b3⟩ := r_putS S j hxt hf (hK x hxm hf)
        rw [b1, Option.bind_some, if_pos (show (0 : Int32) = 0 from rfl)]
        obtain ⟨w', k1, k2, k3⟩ := ih (i + 1) n w1 (by omega) (by omega) b2
        exact ⟨w', k1, k2, b3.tr k3⟩
theorem q_build2 (j : J Z c) {cap : Int32} (h1 : 50 ≤ cap) (h2 : cap ≤ 999) (hK : ∀ x ∈ bss Z c, fr c 135 x = none → Stuck Z c cap x) : Ask Z c (f_X9_build (Z 0) cap) 0 := by
  intro g S
  have h16 : (bss Z c).length ≤ 16 := Nat.le_trans j.s.2.1 j.t.1
  obtain ⟨w', k1, k2, k3⟩ := b2_loop j hK FU 0 0 g (by show _ < 4096; omega) (Nat.zero_le _) S
  refine ⟨w', ?_, k2, k3⟩
  have k1' : f_X9_build_L26 (Z 0) cap FU 0 0 g = some (0, w') := k1
  unfold f_X9_build
  rw [nout h1 h2 g, Option.bind_some, if_pos rfl, k1']
  rfl
end Build2
