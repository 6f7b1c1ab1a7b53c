/-! The new county, all told. -/
section New4
variable {Z : Nat → Nat} {g w c : HP} {b : Nat} {P L : List Nat}
theorem j_fresh (hF : JF Z c) (hG : JG Z c) (hC : JC Z c) (hL : JL Z c) (hN : JN Z c) (ht : tls Z c = []) (hs : bss Z c = []) (hb : bks Z c = []) (hd : dvs Z c = []) (h6 : ∀ a, tg c a ≠ 6) : J Z c := by
  refine ⟨⟨hF, hG, hC, hL⟩, ⟨hN, ⟨by rw [ht]; decide, fun i t h => by rw [ht] at h; simp at h⟩, ⟨by rw [hb]; decide, fun i t h => by rw [hb] at h; simp at h⟩, ⟨by rw [hd]; decide, fun i t h => by rw [hd] at h; simp at h⟩, fun p d h => absurd h (h6 p)⟩, ?_⟩
  unfold JS
  rw [hs, ht]
  exact ⟨fun t h => (by cases h), by decide, List.Pairwise.nil⟩
theorem i_all (hn : nx g = b + 1) (ht : tg g b = 11) (h8 : fi g 168 b = 0) : (∀ i, i ≤ 16 → tg (iniC b g) (b + i) = tg (iniA b g) (b + i)) := fun i hi => by rw [tg_iniC, if_pos ⟨by omega, by omega⟩]
theorem nc_j (hn : nx g = b + 1) (ht : tg g b = 11) (h8 : fi g 168 b = 0) (N : NC b g c P L) (hP : P.length = 8) (hP0 : P[0]? = some (b + 16)) (hL : L.length = 4) : J (Zb b) c ∧ pls (Zb b) c = P ∧ lns (Zb b) c = L ∧ tls (Zb b) c = [] ∧ bks (Zb b) c = [] ∧ dvs (Zb b) c = [] := by
  obtain ⟨⟨t0, t1, t2, t3, t4, t5, t6, t7⟩, t8, t9, t10, t11, t12, t13, t14, t15, t16⟩ := i_tg hn ht
  obtain ⟨o1, o2, o3, o4, o5, o6, -⟩ := i_oa hn
  obtain ⟨⟨r0, r1, r2, r3, r4, r5, r6, r7, r8, r9, r10, r11⟩, ⟨s0, s1, s2, s3⟩, -⟩ := i_fr hn
  obtain ⟨v0, v1, v2, v3, v4, v5⟩ := i_fi hn h8
  have tc := i_all hn ht h8
  obtain ⟨⟨n1, n2, n3⟩, ⟨n4, n5⟩, n6, n7, n8⟩ := N
  have k0 : tg (iniC b g) b = 11 := (tc 0 (by decide)).trans t0
  have nz : ∀ i, i ≤ 16 → tg (iniA b g) (b + i) ≠ 0 → tg (iniC b g) (b + i) ≠ 0 := fun i hi h => by rw [tc i hi]; exact h
  have T : ∀ i v, i ≤ 16 → tg (iniA b g) (b + i) = v → v ≠ 0 → tg c (b + i) = v := fun i v hi h hv => by
    rw [n1 _ (nz i hi (by rw [h]; exact hv)), tc i hi, h]
  have FI : ∀ k i v, i ≤ 16 → k ≠ 9 → tg (iniA b g) (b + i) ≠ 0 → fi (iniA b g) k (b + i) = v → fi c k (b + i) = v := fun k i v hi hk h hv => by
    rw [(n2 k _ (nz i hi h)).1, fi_iniC, if_neg (fun z => hk z.1), hv]
  have FR : ∀ k i v, i ≤ 16 → k ≠ 9 → tg (iniA b g) (b + i) ≠ 0 → fr (iniA b g) k (b + i) = v → fr c k (b + i) = v := fun k i v hi hk h hv => by
    rw [(n2 k _ (nz i hi h)).2, fr_iniC, if_neg (fun z => hk z.1), hv]
  have z0 : tg (iniA b g) (b + 0) ≠ 0 := by show tg (iniA b g) b ≠ 0; rw [t0]; decide
  have GK : ∀ i, i ≤ 16 → tg (iniA b g) (b + i) = 1 → fi c 9 (b + i) = ghK i ∧ fr c 9 (b + i) = some 0 := fun i hi h => by
    have h0 := n2 9 _ (nz i hi (by rw [h]; decide))
    rw [h0.1, h0.2, fi_iniC, fr_iniC, if_pos ⟨rfl, h⟩, if_pos ⟨rfl, h⟩, show b + i - b = i by omega]
    exact ⟨rfl, rfl⟩
  have OO : ∀ i, i ≤ 16 → 3 ≤ i → tg (iniA b g) (b + i) = 1 → oa (iniA b g) (b + i) = [] → oa c (b + i) = ([] : List Nat).map some := fun i hi h3 h ho => by
    rw [n3 _ (nz i hi (by rw [h]; decide)) (by omega) (by omega), oa_iniC, ho]; rfl
  have R1 : refs c (b + 1) = P := refs_of n4
  have R2 : refs c (b + 2) = L := refs_of n5
  have R3 : refs c (b + 3) = [] := refs_of (OO 3 (by decide) (by decide) t3 o3)
  have R4 : refs c (b + 4) = [] := refs_of (OO 4 (by decide) (by decide) t4 o4)
  have R5 : refs c (b + 5) = [] := refs_of (OO 5 (by decide) (by decide) t5 o5)
  have R6 : refs c (b + 6) = [] := refs_of (OO 6 (by decide) (by decide) t6 o6)
  have EL : ∀ i n, i ≤ 16 → 3 ≤ i → tg (iniA b g) (b + i) = 1 → oa (iniA b g) (b + i) = [] → LK c (b + i) (ghK i) 0 n := fun i n hi h3 h ho => by
    have ho' := OO i hi h3 h ho
    have hr : refs c (b + i) = [] := refs_of ho'
    exact ⟨⟨T i 1 hi h (by decide), by rw [ho', hr], by rw [hr]; intro x hx; (cases hx), by rw [hr]; decide⟩, GK i hi h⟩
  have jF : JF (Zb b) c := by
    refine ⟨T 0 11 (by decide) t0 (by decide), ?_⟩
    exact ⟨FR 160 0 _ (by decide) (by decide) z0 r0, FR 161 0 _ (by decide) (by decide) z0 r1, FR 162 0 _ (by decide) (by decide) z0 r2, FR 163 0 _ (by decide) (by decide) z0 r3, FR 164 0 _ (by decide) (by decide) z0 r4, FR 165 0 _ (by decide) (by decide) z0 r5, FR 166 0 _ (by decide) (by decide) z0 r6, FR 167 0 _ (by decide) (by decide) z0 r7, FR 170 0 _ (by decide) (by decide) z0 r8, FR 171 0 _ (by decide) (by decide) z0 r9, FR 172 0 _ (by decide) (by decide) z0 r10, FR 173 0 _ (by decide) (by decide) z0 r11⟩
  have jG : JG (Zb b) c := by
    refine ⟨T 8 8 (by decide) t8 (by decide), T 10 8 (by decide) t10 (by decide), FR 112 8 _ (by decide) (by decide) (by rw [t8]; decide) s0, FR 112 10 _ (by decide) (by decide) (by rw [t10]; decide) s1, T 13 4 (by decide) t13 (by decide), FR 48 13 _ (by decide) (by decide) (by rw [t13]; decide) s2, FR 49 13 _ (by decide) (by decide) (by rw [t13]; decide) s3, T 16 7 (by decide) t16 (by decide), T 7 10 (by decide) t7 (by decide), (GK 9 (by decide) t9).1, (GK 11 (by decide) t11).1, ?_⟩
    exact ⟨T 9 1 (by decide) t9 (by decide), T 11 1 (by decide) t11 (by decide), T 12 20 (by decide) t12 (by decide), T 14 20 (by decide) t14 (by decide), T 15 21 (by decide) t15 (by decide), by show b + 9 ≠ b + 11; omega, by show b + 12 ≠ b + 14; omega⟩
  have jC : JC (Zb b) c := ⟨FI 168 0 _ (by decide) (by decide) z0 v0, FI 169 0 _ (by decide) (by decide) z0 v1, FI 144 7 _ (by decide) (by decide) (by rw [t7]; decide) v2, FI 145 7 _ (by decide) (by decide) (by rw [t7]; decide) v3⟩
  have jL : JL (Zb b) c := by
    refine ⟨⟨⟨T 1 1 (by decide) t1 (by decide), ?_, ?_, ?_⟩, GK 1 (by decide) t1⟩, ⟨⟨T 2 1 (by decide) t2 (by decide), ?_, ?_, ?_⟩, GK 2 (by decide) t2⟩, EL 3 9 (by decide) (by decide) t3 o3, EL 4 9 (by decide) (by decide) t4 o4, EL 5 2 (by decide) (by decide) t5 o5, EL 6 3 (by decide) (by decide) t6 o6⟩
    · show oa c (b + 1) = (refs c (b + 1)).map some; rw [R1]; exact n4
    · show ∀ x ∈ refs c (b + 1), tg c x = 7
      rw [R1]; intro x hx
      obtain ⟨i, hi⟩ := mem_at hx
      exact (n6 i x hi).1
    · show (refs c (b + 1)).length ≤ 40; rw [R1]; omega
    · show oa c (b + 2) = (refs c (b + 2)).map some; rw [R2]; exact n5
    · show ∀ x ∈ refs c (b + 2), tg c x = 5
      rw [R2]; intro x hx
      obtain ⟨i, hi⟩ := mem_at hx
      exact (n7 i x hi).1
    · show (refs c (b + 2)).length ≤ 40; rw [R2]; omega
  have jN : JN (Zb b) c := by
    refine ⟨⟨?_, ?_, ?_⟩, fun i p h => ?_, fun i l h => ?_⟩
    · show (refs c (b + 1)).length = 8; rw [R1]; exact hP
    · show (refs c (b + 2)).length = 4; rw [R2]; exact hL
    · show b + 16 ∈ refs c (b + 1); rw [R1]; exact List.mem_of_getElem? hP0
    · have h' : (refs c (b + 1))[i]? = some p := h
      rw [R1] at h'
      obtain ⟨y1, y2, y3⟩ := n6 i p h'
      unfold npx
      rw [y3]
      exact ⟨y2, by decide, by decide⟩
    · have h' : (refs c (b + 2))[i]? = some l := h
      rw [R2] at h'
      exact (n7 i l h').2.1
  exact ⟨j_fresh jF jG jC jL jN R3 R4 R5 R6 n8, R1, R2, R3, R5, R6⟩
theorem q_new (g0 : HP) : ∃ g' c, f_X9_init (nx g0) (newG g0 11 14 [] []) = some g' ∧ Sim (Zb (nx g0)) g' c ∧ J (Zb (nx g0)) c ∧ (tls (Zb (nx g0)) c = [] ∧ bks (Zb (nx g0)) c = [] ∧ dvs (Zb (nx g0)) c = []) ∧ (pls (Zb (nx g0)) c)[0]? = some (Zb (nx g0) 9) ∧ (∀ (i p : Nat), (pls (Zb (nx g0)) c)[i]? = some p → fi c 97 p = 0) ∧ (∀ (i l : Nat), (lns (Zb (nx g0)) c)[i]? = some l → fi c 65 l = 10) ∧
    (ex g' = ex g0 ∧ nx g0 + 17 ≤ nx g' ∧ nx g' + pot (Zb (nx g0)) g' ≤ nx g0 + 60 ∧ sl g0 ≤ sl g' ∧ sl g' + 40 * pot (Zb (nx g0)) g' ≤ sl g0 + 2000) ∧ ∀ a, a < nx g0 → lawT (tg g0 a) → tg g' a = tg g0 a ∧ ia g' a = ia g0 a ∧ oa g' a = oa g0 a := by
  obtain ⟨b, hb⟩ : ∃ b, b = nx g0 := ⟨_, rfl⟩
  obtain ⟨g, hg⟩ : ∃ g, g = newG g0 11 14 [] [] := ⟨_, rfl⟩
  have hn : nx g = b + 1 := by rw [hg, hb]; rfl
  have ht : tg g b = 11 := by rw [hg, hb, tg_newG, if_pos rfl]
  have h8 : fi g 168 b = 0 := by rw [hg, hb, fi_newG, if_pos rfl]
  rw [← hg, ← hb]
  obtain ⟨⟨t0, t1, t2, t3, t4, t5, t6, t7⟩, t8, t9, t10, t11, t12, t13, t14, t15, t16⟩ := i_tg hn ht
  obtain ⟨⟨r0, r1, r2, r3, r4, r5, r6, r7, r8, r9, r10, r11⟩, ⟨s0, s1, s2, s3⟩, f9, f11⟩ := i_fr hn
  obtain ⟨w1, c1, a1, S1, N1, p1⟩ := nw_depot hn ht h8
  obtain ⟨w2, c2, P, a2, S2, N2, l2, d2, p2⟩ := nw_places hn ht h8 FU 1 w1 c1 [b + 16] (by decide) (by decide) (by decide) rfl rfl S1 N1
  obtain ⟨w3, c3, L, a3, S3, N3, l3, p3⟩ := nw_lines (P := P) hn ht FU 0 w2 c2 [] (by decide) (by decide) rfl S2 N2
  obtain ⟨jj, eP, eL, eT, eB, eD⟩ := nc_j hn ht h8 N3 l2 d2 l3
  have p := (p1.tr p2).tr p3
  have epot : pot (Zb b) (iniA b g) = 6 := by
    show pw (capL (iniA b g) (b + 9)) + pw (capL (iniA b g) (b + 11)) = 6
    unfold capL
    rw [f9, f11]; rfl
  have hsl : sl g = sl g0 + 14 := by rw [hg]; rfl
  have hex : ex g = ex g0 := by rw [hg]; rfl
  have hexA : ex (iniA b g) = ex g := rfl
  have hnA := i_nx hn
  have hsA : sl (iniA b g) = sl g + 18 + 2 + 8 + 16 + 34 + 4 := i_sl
  refine ⟨w3, c3, ?_, S3, jj, ⟨eT, eB, eD⟩, by rw [eP]; exact d2, fun i q h => ?_, fun i l h => ?_, ?_, fun a ha hl => ?_⟩
  · have e26 : gfR 10 0 (some b) (iniA b g) = some (some (b + 1)) := by rw [gfR_eq (ci := 10) t0]; exact congrArg some r0
    have e27 : gfR 10 6 (some b) (iniA b g) = some (some (b + 16)) := by rw [gfR_eq (ci := 10) t0]; exact congrArg some r6
    rw [i_ini hn ht, e26, Option.bind_some, e27, Option.bind_some, rcv_eq (ci := 0) t1, Option.bind_some, a1, Option.bind_some]
    show (f_X9_init_L153 b FU (Int32.ofNat 1) w1).bind _ = _
    rw [a2, Option.bind_some]
    show (f_X9_init_L183 b FU (Int32.ofNat 0) w2).bind _ = _
    rw [a3, Option.bind_some]
  · rw [eP] at h; exact (N3.2.2.1 i q h).2.2
  · rw [eL] at h; exact (N3.2.2.2.1 i l h).2.2
  · obtain ⟨q1, q2, q3, q4, q5, q6⟩ := p
    rw [epot] at q4 q5
    exact ⟨by rw [q1, hexA, hex], by omega, by omega, by omega, by omega⟩
  · obtain ⟨q1, q2, q3, q4, q5, q6⟩ := p
    have tgg : tg g a = tg g0 a := by rw [hg, tg_newG, if_neg (by omega)]
    have iag : ia g a = ia g0 a := by rw [hg, ia_newG, if_neg (by omega)]
    have oag : oa g a = oa g0 a := by rw [hg, oa_newG, if_neg (by omega)]
    obtain ⟨m1, m2, m3⟩ := i_old hn (a := a) (by omega)
    obtain ⟨y1, y2⟩ := q6 a (by rw [m1, tgg]; exact hl) (by omega)
    obtain ⟨y3, y4⟩ := y2 (by show a ≠ b + 12; omega) (by show a ≠ b + 14; omega) (by show a ≠ b + 15; omega)
    exact ⟨y1.trans (m1.trans tgg), y3.trans (m2.trans iag), y4.trans (m3.trans oag)⟩
end New4
