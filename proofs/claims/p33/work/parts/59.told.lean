/-! What is told of trips, blocks, drivers, lines: one number each. -/
section Told
variable {Z : Nat → Nat} {g c : HP}
def toldK (k : Nat) : Prop := k = 134 ∨ k = 18 ∨ k = 33 ∨ k = 65 ∨ k = 66
theorem setI_ne {k0 a0 k x : Nat} {v : Int32} (h : k ≠ k0) : fi (setI c k0 a0 v) k x = fi c k x := by rw [fi_setI, if_neg fun z => h z.1]
theorem lk_setI {k0 a0 a o n : Nat} {k v : Int32} (h : LK c a k o n) (h9 : k0 ≠ 9) : LK (setI c k0 a0 v) a k o n := ⟨h.1, by rw [setI_ne fun z => h9 z.symm]; exact h.2.1, h.2.2⟩
theorem toldK_ne {k0 k : Nat} (h : toldK k0) (hk : k = 9 ∨ k = 16 ∨ k = 32 ∨ k = 64 ∨ k = 84 ∨ k = 96 ∨ k = 97 ∨ k = 98 ∨ k = 99 ∨ k = 128 ∨ k = 132 ∨ k = 133 ∨ k = 144 ∨ k = 145 ∨ k = 168 ∨ k = 169) : k ≠ k0 := by unfold toldK at h; omega
theorem t_canF {k0 a0 : Nat} {v : Int32} (h : toldK k0) (a t : Nat) : canF (setI c k0 a0 v) a t = canF c a t := by
  unfold canF
  have e1 : tst (setI c k0 a0 v) t = tst c t := setI_ne (toldK_ne h (by omega))
  have e2 : tend (setI c k0 a0 v) a = tend c a := by
    show fi (setI c k0 a0 v) 132 a + fi (setI c k0 a0 v) 133 a = _
    rw [setI_ne (toldK_ne h (by omega)), setI_ne (toldK_ne h (by omega))]; rfl
  have e3 : dist (setI c k0 a0 v) (tA (setI c k0 a0 v) a) (fA (setI c k0 a0 v) t) = dist c (tA c a) (fA c t) := by
    show dist (setI c k0 a0 v) (tA c a) (fA c t) = _
    unfold dist
    rw [setI_ne (toldK_ne h (by omega)), setI_ne (toldK_ne h (by omega))]
  rw [e1, e2, e3]
theorem t_tend {k0 a0 : Nat} {v : Int32} (h : toldK k0) (t : Nat) : tend (setI c k0 a0 v) t = tend c t := by
  show fi (setI c k0 a0 v) 132 t + fi (setI c k0 a0 v) 133 t = _
  rw [setI_ne (toldK_ne h (by omega)), setI_ne (toldK_ne h (by omega))]; rfl
theorem t_Cuts {k0 a0 : Nat} {v : Int32} (h : toldK k0) {R : List Nat} : ∀ (ps : List Nat) (i : Nat), Cuts c R i ps → Cuts (setI c k0 a0 v) R i ps
  | [], _, q => q
  | p :: ps, i, q => by
    obtain ⟨n, h1, h2, h3, h4, h5, h6, h7⟩ := q
    refine ⟨n, h1, by rw [setI_ne (toldK_ne h (by omega))]; exact h2, h3, h4, fun z => by rw [setI_ne (toldK_ne h (by omega))]; exact h5 z, ?_, t_Cuts h ps (i + n) h7⟩
    show tend (setI c k0 a0 v) (pzA c p) - fi (setI c k0 a0 v) 132 (pfA c p) ≤ 600
    rw [t_tend h, setI_ne (toldK_ne h (by omega))]; exact h6
theorem t_near {k0 a0 : Nat} {v : Int32} (h : toldK k0) {p q : Nat} : nearP (setI c k0 a0 v) p q ↔ nearP c p q := by
  show (fi (setI c k0 a0 v) 132 (pfA c q) ≤ tend (setI c k0 a0 v) (pzA c p) + 10 ∧ fi (setI c k0 a0 v) 132 (pfA c p) - 10 ≤ tend (setI c k0 a0 v) (pzA c q)) ↔ _
  rw [t_tend h, t_tend h, setI_ne (toldK_ne h (by omega)), setI_ne (toldK_ne h (by omega))]
  exact Iff.rfl
theorem t_minP {k0 a0 : Nat} {v : Int32} (h : toldK k0) {p : Nat} : minP (setI c k0 a0 v) p = minP c p := by
  show tend (setI c k0 a0 v) (pzA c p) - fi (setI c k0 a0 v) 132 (pfA c p) = _
  rw [t_tend h, setI_ne (toldK_ne h (by omega))]; rfl
theorem j_setI (j : J Z c) {k0 a0 : Nat} {v : Int32} (h : toldK k0) (hd : k0 = 134 → ∃ n, v = Int32.ofNat n ∧ n ≤ 120) (hb : k0 = 18 → -1 ≤ v ∧ v ≤ 1600) (hs : k0 = 33 → v = 0 ∨ v = 1) : J Z (setI c k0 a0 v) := by
  have e : ∀ k x, (k = 9 ∨ k = 16 ∨ k = 32 ∨ k = 64 ∨ k = 84 ∨ k = 96 ∨ k = 97 ∨ k = 98 ∨ k = 99 ∨ k = 128 ∨ k = 132 ∨ k = 133 ∨ k = 144 ∨ k = 145 ∨ k = 168 ∨ k = 169) → fi (setI c k0 a0 v) k x = fi c k x := fun k x hk => setI_ne (toldK_ne h hk)
  have h9 : k0 ≠ 9 := (toldK_ne h (Or.inl rfl)).symm
  refine ⟨⟨j.f, ?_, ?_, ⟨lk_setI j.l.1 h9, lk_setI j.l.2.1 h9, lk_setI j.l.2.2.1 h9, lk_setI j.l.2.2.2.1 h9, lk_setI j.l.2.2.2.2.1 h9, lk_setI j.l.2.2.2.2.2 h9⟩⟩, ⟨?_, ⟨j.t.1, fun i t ht => ?_⟩, ⟨j.b.1, fun i b hb' => ?_⟩, ⟨j.d.1, fun i d hd' => ?_⟩, j.q⟩, ?_⟩
  · obtain ⟨g1, g2, g3, g4, g5, g6, g7, g8, g9, g10, g11, g12⟩ := j.gg
    exact ⟨g1, g2, g3, g4, g5, g6, g7, g8, g9, by rw [e 9 _ (by omega)]; exact g10, by rw [e 9 _ (by omega)]; exact g11, g12⟩
  · unfold JC
    rw [e 168 _ (by omega), e 169 _ (by omega), e 144 _ (by omega), e 145 _ (by omega)]
    exact j.cc
  · obtain ⟨n1, n2, n3⟩ := j.n
    refine ⟨n1, fun i p hp => ?_, fun i l hl => ?_⟩
    · unfold npx
      rw [e 96 _ (by omega), e 97 _ (by omega)]
      exact n2 i p hp
    · rw [e 64 _ (by omega)]; exact n3 i l hl
  · obtain ⟨⟨a1, a2, a3⟩, ⟨b1, b2, b3, b4, b5, b6, b7⟩, c1, c2⟩ := j.t.2 i t ht
    refine ⟨⟨a1, by rw [e 128 _ (by omega)]; exact a2, a3⟩, ?_, c1, c2⟩
    unfold nst nmn ndl
    rw [e 132 _ (by omega), e 133 _ (by omega)]
    refine ⟨b1, b2, b3, b4, b5, ?_⟩
    rw [fi_setI]
    by_cases hc : 134 = k0 ∧ t = a0
    · obtain ⟨n, hn1, hn2⟩ := hd hc.1.symm
      rw [if_pos hc, hn1, nN (by omega)]
      exact ⟨rfl, hn2⟩
    · rw [if_neg hc]; exact ⟨b6, b7⟩
  · obtain ⟨⟨a1, a2, a3⟩, ⟨b1, b2, b3, b4, b5, b6⟩, ⟨d1, d2, d3⟩, ⟨e1, e2, e3⟩⟩ := j.b.2 i b hb'
    refine ⟨⟨by rw [e 16 _ (by omega)]; exact a1, ?_⟩, ⟨b1, b2, b3, lk_setI b4 h9, b5, lk_setI b6 h9⟩, ⟨d1, d2, fun k x y hx hy => by rw [t_canF h]; exact d3 k x y hx hy⟩, e1, e2, ?_⟩
    · rw [fi_setI]
      by_cases hc : 18 = k0 ∧ b = a0
      · rw [if_pos hc]; exact hb hc.1.symm
      · rw [if_neg hc]; exact ⟨a2, a3⟩
    · rcases e3 with e3 | e3
      · exact Or.inl e3
      · exact Or.inr (t_Cuts h _ _ e3)
  · obtain ⟨⟨a1, a2⟩, ⟨b1, b2⟩, d1, e1, f1⟩ := j.d.2 i d hd'
    refine ⟨⟨by rw [e 32 _ (by omega)]; exact a1, ?_⟩, ⟨b1, lk_setI b2 h9⟩, d1, fun p hp q hq hpq z => e1 p hp q hq hpq ((t_near h).mp z), ?_⟩
    · rw [fi_setI]
      by_cases hc : 33 = k0 ∧ d = a0
      · rw [if_pos hc]; exact hs hc.1.symm
      · rw [if_neg hc]; exact a2
    · show sumI (minP (setI c k0 a0 v)) (dps c d) ≤ 600
      rw [sumI_congr fun p _ => t_minP h]; exact f1
  · obtain ⟨s1, s2, s3⟩ := j.s
    refine ⟨s1, s2, s3.imp fun {x y} hxy => ?_⟩
    unfold nst at *
    rw [e 132 _ (by omega), e 132 _ (by omega)]; exact hxy
theorem q_delay (S : Sim Z g c) (j : J Z c) {i t n : Nat} (h : (tls Z c)[i]? = some t) (hn : n ≤ 120) : ∃ g', f_X9_delay (Z 0) (Int32.ofNat i) (Int32.ofNat n) g = some (fi c 134 t, g') ∧ Sim Z g' (setI c 134 t (Int32.ofNat n)) ∧ Spd Z 0 0 g g' ∧ J Z (setI c 134 t (Int32.ofNat n)) := by
  have ht := (j.isT (List.mem_of_getElem? h)).1
  have e4 : gfI 8 6 (some t) g = some (fi c 134 t) := S.rdT ht 6 rfl
  have e5 : pfI 8 6 (some t) (Int32.ofNat n) g = some (setI g 134 t (Int32.ofNat n)) := pfI_eq (ci := 8) (S.tag ht)
  have eo : f_X9_isOutside (Int32.ofNat n) 0 120 g = some 0 := nout (n0 (by omega)) ((nLe (b := 120) (by omega) (by omega)).mpr hn) g
  refine ⟨_, ?_, S.wI, Spd.wI, j_setI j (Or.inl rfl) (fun _ => ⟨n, rfl, hn⟩) (fun z => by omega) (fun z => by omega)⟩
  unfold f_X9_delay
  rw [rMv S j, Option.bind_some, j_tripNumbered S j (by have := ti31 j h; omega), Option.bind_some, h, if_neg sn, eo, Option.bind_some, if_pos rfl, e4, Option.bind_some, e5, Option.bind_some]
theorem q_breakdown (S : Sim Z g c) (j : J Z c) {i b : Nat} (h : (bks Z c)[i]? = some b) {v : Int32} (h1 : -1 ≤ v) (h2 : v ≤ 1600) : ∃ g', f_X9_breakdown (Z 0) (Int32.ofNat i) v g = some (fi c 18 b, g') ∧ Sim Z g' (setI c 18 b v) ∧ Spd Z 0 0 g g' ∧ J Z (setI c 18 b v) := by
  have ht := j.tb (List.mem_of_getElem? h)
  have e4 : gfI 1 2 (some b) g = some (fi c 18 b) := S.rdI (ci := 1) ht (by decide) (by decide) (by decide) 2
  have e5 : pfI 1 2 (some b) v g = some (setI g 18 b v) := pfI_eq (ci := 1) (S.tag ht)
  refine ⟨_, ?_, S.wI, Spd.wI, j_setI j (Or.inr (Or.inl rfl)) (fun z => by omega) (fun _ => ⟨h1, h2⟩) (fun z => by omega)⟩
  unfold f_X9_breakdown
  rw [rMv S j, Option.bind_some, j_blockNumbered S j (by have := bi31 j h; omega), Option.bind_some, h, if_neg sn, nout h1 h2 g, Option.bind_some, if_pos rfl, e4, Option.bind_some, e5, Option.bind_some]
theorem di31 (j : J Z c) {i d : Nat} (h : (dvs Z c)[i]? = some d) : i < 6 := by have := (List.getElem?_eq_some_iff.mp h).1; have := j.d.1; omega
theorem q_sick (S : Sim Z g c) (j : J Z c) {i d : Nat} (h : (dvs Z c)[i]? = some d) {v : Int32} (hv : v = 0 ∨ v = 1) : ∃ g', f_X9_sick (Z 0) (Int32.ofNat i) v g = some (fi c 33 d, g') ∧ Sim Z g' (setI c 33 d v) ∧ Spd Z 0 0 g g' ∧ J Z (setI c 33 d v) ∧ (fi c 33 d = 0 ∨ fi c 33 d = 1) := by
  have hm := List.mem_of_getElem? h
  have ht := j.td hm
  obtain ⟨⟨_, a2⟩, _⟩ := j.d.2 i d h
  have e4 : gfI 2 1 (some d) g = some (fi c 33 d) := S.rdI (ci := 2) ht (by decide) (by decide) (by decide) 1
  have e5 : pfZ 2 1 (some d) v g = some (setI g 33 d v) := pfZ_eq (ci := 2) (S.tag ht) hv
  have er : retZ (fi c 33 d) = some (fi c 33 d) := if_pos a2
  refine ⟨_, ?_, S.wI, Spd.wI, j_setI j (Or.inr (Or.inr (Or.inl rfl))) (fun z => by omega) (fun z => by omega) (fun _ => hv), a2⟩
  unfold f_X9_sick
  rw [rMv S j, Option.bind_some, j_driverNumbered S j (by have := di31 j h; omega), Option.bind_some, h, if_neg sn, e4, Option.bind_some, e5, Option.bind_some, er, Option.bind_some]
theorem q_line (S : Sim Z g c) (j : J Z c) {i l : Nat} (h : (lns Z c)[i]? = some l) {u v : Int32} (h1 : 0 ≤ u) (h2 : u ≤ 99) (hv : v = 0 ∨ v = 1) : ∃ g', f_X9_line (Z 0) (Int32.ofNat i) u v g = some (fi c 65 l, g') ∧ Sim Z g' (setI (setI c 65 l u) 66 l v) ∧ Spd Z 0 0 g g' ∧ J Z (setI (setI c 65 l u) 66 l v) := by
  have hi : i < 4 := by have := (List.getElem?_eq_some_iff.mp h).1; have := j.n.1.2.1; omega
  have ht : tg c l = 5 := j.l.2.1.tg h
  have e4 : gfI 4 1 (some l) g = some (fi c 65 l) := S.rdI (ci := 4) ht (by decide) (by decide) (by decide) 1
  have e5 : pfI 4 1 (some l) u g = some (setI g 65 l u) := pfI_eq (ci := 4) (S.tag ht)
  have S1 : Sim Z (setI g 65 l u) (setI c 65 l u) := S.wI
  have e6 : pfZ 4 2 (some l) v (setI g 65 l u) = some (setI (setI g 65 l u) 66 l v) := pfZ_eq (ci := 4) (S1.tag ht) hv
  have j1 : J Z (setI c 65 l u) := j_setI j (Or.inr (Or.inr (Or.inr (Or.inl rfl)))) (fun z => by omega) (fun z => by omega) (fun z => by omega)
  refine ⟨_, ?_, S1.wI, Spd.wI.tr Spd.wI, j_setI j1 (Or.inr (Or.inr (Or.inr (Or.inr rfl)))) (fun z => by omega) (fun z => by omega) (fun z => by omega)⟩
  unfold f_X9_line
  rw [rMv S j, Option.bind_some, j_lineNumbered S j (by omega), Option.bind_some, h, if_neg sn, nout h1 h2 g, Option.bind_some, if_pos rfl, e4, Option.bind_some, e5, Option.bind_some, e6, Option.bind_some]
end Told
