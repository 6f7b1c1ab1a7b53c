/-! A place is told, as long as there is nothing else. -/
section Place
variable {Z : Nat → Nat} {g c : HP}
def plcK (k : Nat) : Prop := k = 97 ∨ k = 98 ∨ k = 99
theorem j_plc (j : J Z c) (h1 : tls Z c = []) (h2 : bks Z c = []) (h3 : dvs Z c = []) {k0 a0 : Nat} {v : Int32} (h : plcK k0) (hx : k0 = 97 → ∃ n, v = Int32.ofNat n ∧ n ≤ 15) : J Z (setI c k0 a0 v) := by
  have h9 : k0 ≠ 9 := by unfold plcK at h; omega
  have e : ∀ k x, k ≠ 97 → k ≠ 98 → k ≠ 99 → fi (setI c k0 a0 v) k x = fi c k x := fun k x q1 q2 q3 => setI_ne (by rcases h with rfl | rfl | rfl <;> assumption)
  refine ⟨⟨j.f, ?_, ?_, ⟨lk_setI j.l.1 h9, lk_setI j.l.2.1 h9, lk_setI j.l.2.2.1 h9, lk_setI j.l.2.2.2.1 h9, lk_setI j.l.2.2.2.2.1 h9, lk_setI j.l.2.2.2.2.2 h9⟩⟩, ⟨?_, ⟨j.t.1, fun i t ht => ?_⟩, ⟨j.b.1, fun i b hb' => ?_⟩, ⟨j.d.1, fun i d hd' => ?_⟩, j.q⟩, ?_⟩
  · obtain ⟨g1, g2, g3, g4, g5, g6, g7, g8, g9, g10, g11, g12⟩ := j.gg
    exact ⟨g1, g2, g3, g4, g5, g6, g7, g8, g9, by rw [e 9 _ (by omega) (by omega) (by omega)]; exact g10, by rw [e 9 _ (by omega) (by omega) (by omega)]; exact g11, g12⟩
  · unfold JC
    rw [e 168 _ (by omega) (by omega) (by omega), e 169 _ (by omega) (by omega) (by omega), e 144 _ (by omega) (by omega) (by omega), e 145 _ (by omega) (by omega) (by omega)]
    exact j.cc
  · obtain ⟨n1, n2, n3⟩ := j.n
    refine ⟨n1, fun i p hp => ?_, fun i l hl => ?_⟩
    · obtain ⟨q1, q2, q3⟩ := n2 i p hp
      refine ⟨by rw [e 96 _ (by omega) (by omega) (by omega)]; exact q1, ?_⟩
      unfold npx at *
      rw [fi_setI]
      by_cases hc : 97 = k0 ∧ p = a0
      · obtain ⟨n, hn1, hn2⟩ := hx hc.1.symm
        rw [if_pos hc, hn1, nN (by omega)]
        exact ⟨rfl, hn2⟩
      · rw [if_neg hc]; exact ⟨q2, q3⟩
    · rw [e 64 _ (by omega) (by omega) (by omega)]; exact n3 i l hl
  · have ht' : (tls Z c)[i]? = some t := ht
    rw [h1] at ht'; cases ht'
  · have hb : (bks Z c)[i]? = some b := hb'
    rw [h2] at hb; cases hb
  · have hd : (dvs Z c)[i]? = some d := hd'
    rw [h3] at hd; cases hd
  · obtain ⟨s1, s2, s3⟩ := j.s
    refine ⟨s1, s2, s3.imp fun {x y} hxy => ?_⟩
    unfold nst at *
    rw [e 132 _ (by omega) (by omega) (by omega), e 132 _ (by omega) (by omega) (by omega)]; exact hxy
def plS (c : HP) (p : Nat) (x w u : Int32) : HP := setI (setI (setI c 97 p x) 98 p w) 99 p u
theorem q_place (S : Sim Z g c) (j : J Z c) (h1 : tls Z c = []) (h2 : bks Z c = []) (h3 : dvs Z c = []) {i p n : Nat} (h : (pls Z c)[i]? = some p) (hn : n ≤ 15) {w u : Int32} (hw0 : 0 ≤ w) (hw : w ≤ 5) (hu : u = 0 ∨ u = 1) (h0 : (pls Z c)[0]? = some (Z 9)) :
    ∃ g', f_X9_place (Z 0) (Int32.ofNat i) (Int32.ofNat n) w u g = some (fi c 97 p, g') ∧ Sim Z g' (plS c p (Int32.ofNat n) w (if i = 0 then 1 else u)) ∧ Spd Z 0 0 g g' ∧ J Z (plS c p (Int32.ofNat n) w (if i = 0 then 1 else u)) := by
  have hi : i < 8 := by have := (List.getElem?_eq_some_iff.mp h).1; have := j.n.1.1; omega
  have ht : tg c p = 7 := j.l.1.tg h
  have hL := j.l.2.2.1
  have eE : al_isEmpty (Z 13) g = some 1 := by
    have eo : oa g (Z 13) = (tls Z c).map some := hL.oag S j.gg (by decide) (by decide)
    unfold al_isEmpty
    rw [if_pos (S.tag (n := 0) hL.1.1), eo, h1]; rfl
  have e4 : gfI 6 1 (some p) g = some (fi c 97 p) := S.rdI (ci := 6) ht (by decide) (by decide) (by decide) 1
  have e5 : pfI 6 1 (some p) (Int32.ofNat n) g = some (setI g 97 p (Int32.ofNat n)) := pfI_eq (ci := 6) (S.tag ht)
  have S1 : Sim Z (setI g 97 p (Int32.ofNat n)) (setI c 97 p (Int32.ofNat n)) := S.wI
  have e6 : pfI 6 2 (some p) w (setI g 97 p (Int32.ofNat n)) = some (setI (setI g 97 p (Int32.ofNat n)) 98 p w) := pfI_eq (ci := 6) (S1.tag ht)
  have S2 : Sim Z (setI (setI g 97 p (Int32.ofNat n)) 98 p w) (setI (setI c 97 p (Int32.ofNat n)) 98 p w) := S1.wI
  have j1 : J Z (setI c 97 p (Int32.ofNat n)) := j_plc j h1 h2 h3 (Or.inl rfl) (fun _ => ⟨n, rfl, hn⟩)
  have j2 : J Z (setI (setI c 97 p (Int32.ofNat n)) 98 p w) := j_plc j1 h1 h2 h3 (Or.inr (Or.inl rfl)) (fun z => by omega)
  have e7 : ∀ v : Int32, v = 0 ∨ v = 1 → pfZ 6 3 (some p) v (setI (setI g 97 p (Int32.ofNat n)) 98 p w) = some (setI (setI (setI g 97 p (Int32.ofNat n)) 98 p w) 99 p v) := fun v hv => pfZ_eq (ci := 6) (S2.tag ht) hv
  have e8 : gfR 10 6 (some (Z 0)) (setI (setI g 97 p (Int32.ofNat n)) 98 p w) = some (some (Z 9)) := rM6 S2 j2
  have ep : p = Z 9 ↔ i = 0 := by
    constructor
    · intro z
      have a1 := (j.n.2.1 i p h).1
      have a2 := (j.n.2.1 0 _ h0).1
      rw [z, a2] at a1
      exact ((nEq (by omega) (by omega)).mp a1).symm
    · intro z
      rw [z, h0] at h
      exact (Option.some.inj h).symm
  have eo60 : f_X9_isOutside (Int32.ofNat n) 0 60 g = some 0 := nout (n0 (by omega)) ((nLe (b := 60) (by omega) (by omega)).mpr (by omega)) g
  refine ⟨setI (setI (setI g 97 p (Int32.ofNat n)) 98 p w) 99 p (if i = 0 then 1 else u), ?_, S2.wI, (Spd.wI.tr Spd.wI).tr Spd.wI, j_plc j2 h1 h2 h3 (Or.inr (Or.inr rfl)) (fun z => by omega)⟩
  unfold f_X9_place
  rw [rMv S j, Option.bind_some, j_placeNumbered S j (by omega), Option.bind_some, h, if_neg sn, eo60, Option.bind_some, if_pos rfl, nout hw0 hw g, Option.bind_some, if_pos rfl, rM2 S j, Option.bind_some, hL.rc S, Option.bind_some, eE, Option.bind_some, if_neg (by decide), e4, Option.bind_some, e5, Option.bind_some, e6, Option.bind_some]
  rcases hu with rfl | rfl
  · rw [if_pos rfl, e8, Option.bind_some]
    by_cases hc : p = Z 9
    · rw [if_pos (by rw [hc]), e7 1 (Or.inr rfl), if_pos (ep.mp hc)]; rfl
    · rw [if_neg (fun z => hc (Option.some.inj z)), e7 0 (Or.inl rfl), if_neg (fun z => hc (ep.mpr z))]; rfl
  · rw [if_neg (by decide), e7 1 (Or.inr rfl)]
    have : (if i = 0 then (1 : Int32) else 1) = 1 := by split <;> rfl
    rw [this]; rfl
end Place
