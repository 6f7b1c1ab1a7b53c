/-! The new county: its loops, and that all that must be so of it is so. -/
section New3
variable {g w c : HP} {b : Nat} {P L : List Nat}
theorem get_snoc {P : List Nat} {x i y : Nat} (h : (P ++ [x])[i]? = some y) : P[i]? = some y ∨ (i = P.length ∧ y = x) := by
  by_cases e : i < P.length
  · rw [List.getElem?_append_left e] at h; exact Or.inl h
  · have hlt := (List.getElem?_eq_some_iff.mp h).1
    rw [List.length_append, List.length_singleton] at hlt
    have hi : i = P.length := by omega
    rw [List.getElem?_append_right (by omega), hi, Nat.sub_self] at h
    exact Or.inr ⟨hi, (Option.some.inj h).symm⟩
theorem nw_depot (hn : nx g = b + 1) (ht : tg g b = 11) (h97 : fi g 168 b = 0) : ∃ w3 c3, al_add (b + 1) (some (b + 16)) (iniA b g) = some (1, w3) ∧ Sim (Zb b) w3 c3 ∧ NC b g c3 [b + 16] [] ∧ Spd (Zb b) 1 100 (iniA b g) w3 := by
  have S := i_sim hn ht
  have N := NC.zero hn ht
  obtain ⟨u0, u1, u2, u16⟩ := i_tgC hn ht
  obtain ⟨⟨n1, n2, n3⟩, ⟨n4, n5⟩, n6, n7, n8⟩ := N
  have z1 : b + 1 ≠ Zb b 1 := by show b + 1 ≠ b + 9; omega
  have z2 : b + 1 ≠ Zb b 2 := by show b + 1 ≠ b + 11; omega
  obtain ⟨w3, a3, S3, p3, -⟩ := S.add (b := b + 1) (x := b + 16) u1 z1 z2 (by rw [u16]; decide) (by rw [u16]; decide) (by rw [n4]; decide)
  obtain ⟨-, -, -, -, f96, f97⟩ := i_fi hn h97
  have ni : ¬ ((96 : Nat) = 9 ∧ tg (iniA b g) (b + 16) = 1) := fun z => by have := z.1; omega
  have ni2 : ¬ ((97 : Nat) = 9 ∧ tg (iniA b g) (b + 16) = 1) := fun z => by have := z.1; omega
  refine ⟨w3, _, a3, S3, ⟨⟨fun a _ => rfl, fun k a _ => ⟨rfl, rfl⟩, fun a _ h1 h2 => by rw [oa_setO, if_neg h1]⟩, ⟨by rw [oa_setO, if_pos rfl, n4]; rfl, by rw [oa_setO, if_neg (by omega)]; exact n5⟩, fun i p h => ?_, fun i l h => by simp at h, fun a => n8 a⟩, p3⟩
  have : i = 0 ∧ p = b + 16 := by
    rcases get_snoc (P := []) (x := b + 16) h with q | q
    · simp at q
    · exact q
  rw [this.1, this.2]
  refine ⟨u16, ?_, ?_⟩
  · show fi (iniC b g) 96 (b + 16) = _
    rw [fi_iniC, if_neg ni, f96]; rfl
  · show fi (iniC b g) 97 (b + 16) = _
    rw [fi_iniC, if_neg ni2, f97]
theorem nw_places (hn : nx g = b + 1) (ht : tg g b = 11) (h97 : fi g 168 b = 0) : ∀ (m i : Nat) (w c : HP) (P : List Nat), 8 - i < m → 1 ≤ i → i ≤ 8 → P.length = i → P[0]? = some (b + 16) → Sim (Zb b) w c → NC b g c P [] →
    ∃ w' c' P', f_X9_init_L153 b m (Int32.ofNat i) w = some w' ∧ Sim (Zb b) w' c' ∧ NC b g c' P' [] ∧ P'.length = 8 ∧ P'[0]? = some (b + 16) ∧ Spd (Zb b) (2 * (8 - i)) (104 * (8 - i)) w w' := by
  obtain ⟨u0, u1, u2, u16⟩ := i_tgC hn ht
  obtain ⟨⟨r0, -⟩, -⟩ := i_fr hn
  intro m
  induction m with
  | zero => intro i w c P h; omega
  | succ m ih =>
    intro i w c P hm h1 h8 hP hP0 S N
    rw [f_X9_init_L153]
    have e8 : (8 : Int32) ≤ Int32.ofNat i ↔ 8 ≤ i := nLe (a := 8) (by decide) (by omega)
    by_cases hi : 8 ≤ i
    · rw [if_pos (e8.mpr hi)]
      refine ⟨w, c, P, rfl, S, N, by omega, hP0, ?_⟩
      rw [show 8 - i = 0 by omega]; exact Spd.rf
    · rw [if_neg (fun z => hi (e8.mp z))]
      have nb : tg (iniC b g) b ≠ 0 := by rw [u0]; decide
      have t0 : tg c b = 11 := by rw [N.1.1 b nb]; exact u0
      have e1 : gfR 10 0 (some b) w = some (some (b + 1)) := by
        rw [S.rdR (ci := 10) t0 (by decide) (by decide) 0, (N.1.2.1 160 b nb).2, fr_iniC, if_neg fun z => by have := z.1; omega, r0]
      obtain ⟨T, hT⟩ : ∃ T, T = nx w := ⟨_, rfl⟩
      have S1 : Sim (Zb b) (newG w 7 4 [] []) (nwC c T 7) := by rw [hT]; exact S.nw (by decide) (by decide)
      have p1 : Spd (Zb b) 1 4 w (newG w 7 4 [] []) := Spd.nw S (t := 7)
      have tn : tg (newG w 7 4 [] []) T = 6 + 1 := by rw [tg_newG, hT, if_pos rfl]
      have ni : ¬ Int32.ofNat i = 0 := fun z => by have := (nEq (a := i) (b := 0) (by omega) (by decide)).mp z; omega
      have e2 : f_X5_init T (Int32.ofNat i) (newG w 7 4 [] []) = some (setI (setI (newG w 7 4 [] []) 96 T (Int32.ofNat i)) 99 T 0) := by
        unfold f_X5_init
        rw [pfI_eq (ci := 6) tn, Option.bind_some, if_neg ni, pfZ_eq (ci := 6) (by exact tn) (Or.inl rfl), Option.bind_some]
      have S2 : Sim (Zb b) (setI (setI (newG w 7 4 [] []) 96 T (Int32.ofNat i)) 99 T 0) (setI (setI (nwC c T 7) 96 T (Int32.ofNat i)) 99 T 0) := S1.wI.wI
      obtain ⟨w3, c3, a3, a4, S3, p3, k1, k2, k3, k4, k5, k6⟩ := NC.put (k := 1) (t := 7) (x := T) hn ht S N (Or.inl rfl) (by decide) S2 hT (by decide) (by decide) (fun a => rfl) (fun k a h => by rw [fi_setI, if_neg fun z => h z.2, fi_setI, if_neg fun z => h z.2, fi_nwC, if_neg h]) (fun k a h => by rw [fr_setI, fr_setI, fr_nwC, if_neg h]) (fun a => rfl) (by rw [N.2.1.1, List.length_map]; omega)
      have N3 : NC b g c3 (P ++ [T]) [] := by
        refine ⟨k3, ⟨?_, ?_⟩, fun q p h => ?_, fun q l h => by simp at h, k6⟩
        · rw [k4, if_pos rfl, N.2.1.1, List.map_append]; rfl
        · rw [k5, if_neg (by decide)]; exact N.2.1.2
        · rw [k1, (k2 _ _).1, (k2 _ _).1]
          rcases get_snoc h with hq | ⟨hq, hp⟩
          · obtain ⟨y1, y2, y3⟩ := N.2.2.1 q p hq
            have hne : p ≠ T := fun z => by rw [z, hT, S.fresh] at y1; omega
            have f9 : ∀ k, fi (setI (setI (nwC c T 7) 96 T (Int32.ofNat i)) 99 T 0) k p = fi c k p := fun k => by rw [fi_setI, if_neg fun z => hne z.2, fi_setI, if_neg fun z => hne z.2, fi_nwC, if_neg hne]
            rw [f9, f9]
            refine ⟨?_, y2, y3⟩
            show tg (nwC c T 7) p = 7
            rw [tg_nwC, if_neg hne]; exact y1
          · rw [hp, hq, hP]
            refine ⟨?_, ?_, ?_⟩
            · show tg (nwC c T 7) T = 7
              rw [tg_nwC, if_pos rfl]
            · rw [fi_setI, if_neg fun z => by have := z.1; omega, fi_setI, if_pos ⟨rfl, rfl⟩]
            · rw [fi_setI, if_neg fun z => by have := z.1; omega, fi_setI, if_neg fun z => by have := z.1; omega, fi_nwC, if_pos rfl]
      obtain ⟨w', c', P', q1, q2, q3, q4, q5, q6⟩ := ih (i + 1) w3 c3 (P ++ [T]) (by omega) (by omega) (by omega) (by rw [List.length_append, hP]; rfl) (by rw [List.getElem?_append_left (by omega)]; exact hP0) S3 N3
      refine ⟨w', c', P', ?_, q2, q3, q4, q5, (((p1.tr Spd.wI).tr Spd.wI).tr (p3.tr q6)).up (by omega) (by omega)⟩
      rw [e1, Option.bind_some, ← hT, e2, Option.bind_some, a4, Option.bind_some, a3, Option.bind_some]
      show f_X9_init_L153 b m (Int32.ofNat i + 1) w3 = _
      rw [show Int32.ofNat i + 1 = Int32.ofNat (i + 1) from nAdd i 1, q1]
theorem nw_lines (hn : nx g = b + 1) (ht : tg g b = 11) : ∀ (m i : Nat) (w c : HP) (L : List Nat), 4 - i < m → i ≤ 4 → L.length = i → Sim (Zb b) w c → NC b g c P L →
    ∃ w' c' L', f_X9_init_L183 b m (Int32.ofNat i) w = some w' ∧ Sim (Zb b) w' c' ∧ NC b g c' P L' ∧ L'.length = 4 ∧ Spd (Zb b) (2 * (4 - i)) (103 * (4 - i)) w w' := by
  obtain ⟨u0, u1, u2, u16⟩ := i_tgC hn ht
  obtain ⟨⟨-, r0, -⟩, -⟩ := i_fr hn
  intro m
  induction m with
  | zero => intro i w c P h; omega
  | succ m ih =>
    intro i w c L hm h8 hP S N
    rw [f_X9_init_L183]
    have e8 : (4 : Int32) ≤ Int32.ofNat i ↔ 4 ≤ i := nLe (a := 4) (by decide) (by omega)
    by_cases hi : 4 ≤ i
    · rw [if_pos (e8.mpr hi)]
      refine ⟨w, c, L, rfl, S, N, by omega, ?_⟩
      rw [show 4 - i = 0 by omega]; exact Spd.rf
    · rw [if_neg (fun z => hi (e8.mp z))]
      have nb : tg (iniC b g) b ≠ 0 := by rw [u0]; decide
      have t0 : tg c b = 11 := by rw [N.1.1 b nb]; exact u0
      have e1 : gfR 10 1 (some b) w = some (some (b + 2)) := by
        rw [S.rdR (ci := 10) t0 (by decide) (by decide) 1, (N.1.2.1 161 b nb).2, fr_iniC, if_neg fun z => by have := z.1; omega, r0]
      obtain ⟨T, hT⟩ : ∃ T, T = nx w := ⟨_, rfl⟩
      have S1 : Sim (Zb b) (newG w 5 3 [] []) (nwC c T 5) := by rw [hT]; exact S.nw (by decide) (by decide)
      have p1 : Spd (Zb b) 1 3 w (newG w 5 3 [] []) := Spd.nw S (t := 5)
      have tn : tg (newG w 5 3 [] []) T = 4 + 1 := by rw [tg_newG, hT, if_pos rfl]
      have e2 : f_X3_init T (Int32.ofNat i) (newG w 5 3 [] []) = some (setI (setI (newG w 5 3 [] []) 65 T 10) 64 T (Int32.ofNat i)) := by
        unfold f_X3_init
        rw [pfI_eq (ci := 4) tn, Option.bind_some, pfI_eq (ci := 4) (by exact tn), Option.bind_some]
      have S2 : Sim (Zb b) (setI (setI (newG w 5 3 [] []) 65 T 10) 64 T (Int32.ofNat i)) (setI (setI (nwC c T 5) 65 T 10) 64 T (Int32.ofNat i)) := S1.wI.wI
      obtain ⟨w3, c3, a3, a4, S3, p3, k1, k2, k3, k4, k5, k6⟩ := NC.put (k := 2) (t := 5) (x := T) hn ht S N (Or.inr rfl) (by decide) S2 hT (by decide) (by decide) (fun a => rfl) (fun k a h => by rw [fi_setI, if_neg fun z => h z.2, fi_setI, if_neg fun z => h z.2, fi_nwC, if_neg h]) (fun k a h => by rw [fr_setI, fr_setI, fr_nwC, if_neg h]) (fun a => rfl) (by rw [N.2.1.2, List.length_map]; omega)
      have N3 : NC b g c3 P (L ++ [T]) := by
        refine ⟨k3, ⟨?_, ?_⟩, fun q p h => ?_, fun q p h => ?_, k6⟩
        · rw [k4, if_neg (by decide)]; exact N.2.1.1
        · rw [k5, if_pos rfl, N.2.1.2, List.map_append]; rfl
        · obtain ⟨y1, y2, y3⟩ := N.2.2.1 q p h
          have hne : p ≠ T := fun z => by rw [z, hT, S.fresh] at y1; omega
          rw [k1, (k2 _ _).1, (k2 _ _).1]
          have f9 : ∀ k, fi (setI (setI (nwC c T 5) 65 T 10) 64 T (Int32.ofNat i)) k p = fi c k p := fun k => by rw [fi_setI, if_neg fun z => hne z.2, fi_setI, if_neg fun z => hne z.2, fi_nwC, if_neg hne]
          rw [f9, f9]
          refine ⟨?_, y2, y3⟩
          show tg (nwC c T 5) p = 7
          rw [tg_nwC, if_neg hne]; exact y1
        · rw [k1, (k2 _ _).1, (k2 _ _).1]
          rcases get_snoc h with hq | ⟨hq, hp⟩
          · obtain ⟨y1, y2, y3⟩ := N.2.2.2.1 q p hq
            have hne : p ≠ T := fun z => by rw [z, hT, S.fresh] at y1; omega
            have f9 : ∀ k, fi (setI (setI (nwC c T 5) 65 T 10) 64 T (Int32.ofNat i)) k p = fi c k p := fun k => by rw [fi_setI, if_neg fun z => hne z.2, fi_setI, if_neg fun z => hne z.2, fi_nwC, if_neg hne]
            rw [f9, f9]
            refine ⟨?_, y2, y3⟩
            show tg (nwC c T 5) p = 5
            rw [tg_nwC, if_neg hne]; exact y1
          · rw [hp, hq, hP]
            refine ⟨?_, ?_, ?_⟩
            · show tg (nwC c T 5) T = 5
              rw [tg_nwC, if_pos rfl]
            · rw [fi_setI, if_pos ⟨rfl, rfl⟩]
            · rw [fi_setI, if_neg fun z => by have := z.1; omega, fi_setI, if_pos ⟨rfl, rfl⟩]
      obtain ⟨w', c', L', q1, q2, q3, q4, q6⟩ := ih (i + 1) w3 c3 (L ++ [T]) (by omega) (by omega) (by rw [List.length_append, hP]; rfl) S3 N3
      refine ⟨w', c', L', ?_, q2, q3, q4, (((p1.tr Spd.wI).tr Spd.wI).tr (p3.tr q6)).up (by omega) (by omega)⟩
      rw [e1, Option.bind_some, ← hT, e2, Option.bind_some, a4, Option.bind_some, a3, Option.bind_some]
      show f_X9_init_L183 b m (Int32.ofNat i + 1) w3 = _
      rw [show Int32.ofNat i + 1 = Int32.ofNat (i + 1) from nAdd i 1, q1]
end New3
