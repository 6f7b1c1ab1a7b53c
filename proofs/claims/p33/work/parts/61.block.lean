/-! A new block. -/
/-- the county with a new list: its kind, its owner -/
def newL (c : HP) (a : Nat) (k : Int32) (o : Nat) : HP := setR (setI (nwC c a 1) 9 a k) 9 a (some o)
theorem tg_newL (c : HP) (a : Nat) (k : Int32) (o x : Nat) : tg (newL c a k o) x = if x = a then 1 else tg c x := rfl
theorem oa_newL (c : HP) (a : Nat) (k : Int32) (o x : Nat) : oa (newL c a k o) x = if x = a then [] else oa c x := rfl
theorem fi_newL (c : HP) (a : Nat) (k : Int32) (o q x : Nat) (h : x ≠ a) : fi (newL c a k o) q x = fi c q x := by
  show fi (setI (nwC c a 1) 9 a k) q x = _
  rw [fi_setI, if_neg fun z => h z.2, fi_nwC, if_neg h]
theorem fr_newL (c : HP) (a : Nat) (k : Int32) (o q x : Nat) (h : x ≠ a) : fr (newL c a k o) q x = fr c q x := by
  show fr (setR (setI (nwC c a 1) 9 a k) 9 a (some o)) q x = _
  rw [fr_setR, if_neg fun z => h z.2, fr_setI, fr_nwC, if_neg h]
theorem lk_newL (c : HP) (a : Nat) (k : Int32) (o n : Nat) : LK (newL c a k o) a k o n := by
  have eo : oa (newL c a k o) a = [] := by rw [oa_newL, if_pos rfl]
  have er : refs (newL c a k o) a = [] := by unfold refs; rw [eo]; rfl
  refine ⟨⟨by rw [tg_newL, if_pos rfl], by rw [eo, er]; rfl, (by rw [er]; intro x hx; cases hx), by rw [er]; decide⟩, ?_, ?_⟩
  · show fi (setI (nwC c a 1) 9 a k) 9 a = k
    rw [fi_setI, if_pos ⟨rfl, rfl⟩]
  · show fr (setR (setI (nwC c a 1) 9 a k) 9 a (some o)) 9 a = some o
    rw [fr_setR, if_pos ⟨rfl, rfl⟩]
section Block
variable {Z : Nat → Nat} {g c v : HP}
theorem al_init_eq (g : HP) : al_init (nx g) (newG g 31 3 [] []) = some (setT (newG g 31 3 [] []) (nx g) 1) := by
  unfold al_init
  rw [if_pos ⟨by rw [tg_newG, if_pos rfl], by rw [oa_newG, if_pos rfl], by rw [fr_newG, if_pos rfl]⟩]
theorem Sim.nl (S : Sim Z g c) (k : Int32) (o : Nat) : Sim Z (setT (newG g 31 3 [] []) (nx g) 1) (newL c (nx g) k o) := by
  have far : ∀ a, tg c a ≠ 0 → a ≠ nx g := fun a h => S.ne h
  obtain ⟨s1, s2, s3, s4, s5, s6, s7, z1, z2, z3, z4, z5, z6, z7⟩ := S
  have f1 := far (Z 1) (by omega)
  have f2 := far (Z 2) (by omega)
  have f3 := far (Z 3) (by omega)
  have f4 := far (Z 4) (by omega)
  have f5 := far (Z 5) (by omega)
  have et : ∀ a, tg (setT (newG g 31 3 [] []) (nx g) 1) a = if a = nx g then 1 else tg g a := fun a => by
    show up1 (up1 g.1 (nx g) 31) (nx g) 1 a = _
    unfold up1
    by_cases e : a = nx g
    · rw [if_pos e, if_pos e]
    · rw [if_neg e, if_neg e, if_neg e]; rfl
  refine ⟨fun a h => ?_, fun a j h1 h2 h3 => ?_, fun a j h1 h2 => ?_, fun a h1 h2 h3 => ?_, ?_, ?_, ?_, ?_⟩
  · rw [tg_newL] at h
    rw [et, tg_newL]
    by_cases e : a = nx g
    · rw [if_pos e, if_pos e]; exact ⟨rfl, by rw [e]; exact Nat.lt_succ_self _⟩
    · rw [if_neg e] at h ⊢
      rw [if_neg e]
      exact ⟨(s1 a h).1, Nat.lt_succ_of_lt (s1 a h).2⟩
  · rw [tg_newL] at h1 h2 h3
    by_cases e : a = nx g
    · rw [if_pos e] at h1; omega
    · rw [if_neg e] at h1 h2 h3
      rw [fi_newL _ _ _ _ _ _ e]
      show fi (newG g 31 3 [] []) j a = _
      rw [fi_newG, if_neg e]
      exact s2 a j h1 h2 h3
  · rw [tg_newL] at h1 h2
    by_cases e : a = nx g
    · rw [if_pos e] at h1; omega
    · rw [if_neg e] at h1 h2
      rw [fr_newL _ _ _ _ _ _ e]
      show fr (newG g 31 3 [] []) j a = _
      rw [fr_newG, if_neg e]
      exact s3 a j h1 h2
  · rw [tg_newL] at h1
    show oa (newG g 31 3 [] []) a = _
    rw [oa_newG, oa_newL]
    by_cases e : a = nx g
    · rw [if_pos e, if_pos e]
    · rw [if_neg e] at h1
      rw [if_neg e, if_neg e]
      exact s4 a h1 h2 h3
  · show (ia (newG g 31 3 [] []) (Z 3)).length = 16 ∧ (ia (newG g 31 3 [] []) (Z 4)).length = 16 ∧ (ia (newG g 31 3 [] []) (Z 5)).length = 16
    rw [ia_newG, ia_newG, ia_newG, if_neg f3, if_neg f4, if_neg f5]; exact s5
  · refine ⟨?_, ?_⟩
    · show (oa (newG g 31 3 [] []) (Z 1)).length ≤ 16
      rw [oa_newG, if_neg f1]; exact s6.1
    · show capOK ((fr (newG g 31 3 [] []) 0 (Z 1)).getD 0)
      rw [fr_newG, if_neg f1]; exact s6.2
  · refine ⟨?_, ?_⟩
    · show (oa (newG g 31 3 [] []) (Z 2)).length ≤ 16
      rw [oa_newG, if_neg f2]; exact s7.1
    · show capOK ((fr (newG g 31 3 [] []) 0 (Z 2)).getD 0)
      rw [fr_newG, if_neg f2]; exact s7.2
  · unfold ZT
    rw [tg_newL, tg_newL, tg_newL, tg_newL, tg_newL, if_neg f1, if_neg f2, if_neg f3, if_neg f4, if_neg f5]
    exact ⟨z1, z2, z3, z4, z5, z6, z7⟩
theorem Spd.nl (S : Sim Z g c) : Spd Z 1 3 g (setT (newG g 31 3 [] []) (nx g) 1) := by
  obtain ⟨q1, q2, q3, q4, q5, q6⟩ := Spd.nw S (t := 31) (n := 3)
  refine ⟨q1, q2, q3, q4, q5, fun a ha hl => ?_⟩
  obtain ⟨r1, r2⟩ := q6 a ha hl
  refine ⟨?_, r2⟩
  show up1 (newG g 31 3 [] []).1 (nx g) 1 a = _
  unfold up1
  rw [if_neg (by omega)]; exact r1
theorem r_newBlock (S : Sim Z g c) (j : J Z c) (h8 : (bks Z c).length < 8) (cap : Int32) :
    ∃ g' c' B, f_X9_newBlock (Z 0) cap g = some (some B, g') ∧ Sim Z g' c' ∧ Spd Z 5 112 g g' ∧ J Z c' ∧ Ag Z c c' ∧ (tls Z c' = tls Z c ∧ bss Z c' = bss Z c ∧ dvs Z c' = dvs Z c ∧ bks Z c' = bks Z c ++ [B]) ∧ tg c B = 0 ∧ (∀ b ∈ bks Z c, rowB c' b = rowB c b ∧ pcs c' b = pcs c b) ∧ rowB c' B = [] ∧ pcs c' B = [] ∧ fi c' 17 B = cap ∧ fi c' 16 B = Int32.ofNat (bks Z c).length ∧ (∀ k x, tg c x ≠ 0 → fr c' k x = fr c k x) ∧ (∀ x, fr c' 136 x = none ∨ fr c' 136 x = fr c 136 x) ∧ ∀ a, tg c' a = 6 → tg c a = 6 := by
  have kB := j.l.2.2.2.2.1
  have zB1 := kB.z1 j.gg (by decide)
  have zB2 := kB.z2 j.gg (by decide)
  obtain ⟨B, hB⟩ : ∃ B, B = nx g := ⟨_, rfl⟩
  -- the block
  have S1 : Sim Z (newG g 2 5 [] []) (nwC c B 2) := by rw [hB]; exact S.nw (by decide) (by decide)
  have fresh : tg c B = 0 := by rw [hB]; exact S.fresh
  have n1 : nx (newG g 2 5 [] []) = B + 1 := by rw [hB]; rfl
  have nB : ∀ a, tg c a ≠ 0 → a ≠ B := fun a h e => h (by rw [e]; exact fresh)
  generalize hg1 : newG g 2 5 [] [] = g1 at S1 n1
  have p1 : Spd Z 1 5 g g1 := by rw [← hg1]; exact Spd.nw S (t := 2)
  have tB1 : tg (nwC c B 2) B = 2 := by rw [tg_nwC, if_pos rfl]
  -- breakdown NONE
  have e2 : pfI 1 2 (some B) (-1) g1 = some (setI g1 18 B (-1)) := pfI_eq (ci := 1) (S1.tag tB1)
  have S2 : Sim Z (setI g1 18 B (-1)) (setI (nwC c B 2) 18 B (-1)) := S1.wI
  -- the row, its list
  have S3 : Sim Z (newG (setI g1 18 B (-1)) 8 1 [] []) (nwC (setI (nwC c B 2) 18 B (-1)) (B + 1) 8) := by rw [← n1]; exact S2.nw (by decide) (by decide)
  have p3 : Spd Z 1 1 (setI g1 18 B (-1)) (newG (setI g1 18 B (-1)) 8 1 [] []) := Spd.nw S2 (t := 8)
  have n3 : nx (newG (setI g1 18 B (-1)) 8 1 [] []) = B + 2 := by show nx g1 + 1 = _; rw [n1]
  generalize hg3 : newG (setI g1 18 B (-1)) 8 1 [] [] = g3 at S3 p3 n3
  have S4 : Sim Z (setT (newG g3 31 3 [] []) (nx g3) 1) (newL (nwC (setI (nwC c B 2) 18 B (-1)) (B + 1) 8) (B + 2) 10 B) := by rw [← n3]; exact S3.nl 10 B
  have p4 : Spd Z 1 3 g3 (setT (newG g3 31 3 [] []) (nx g3) 1) := Spd.nl S3
  have n4 : nx (setT (newG g3 31 3 [] []) (nx g3) 1) = B + 3 := by show nx g3 + 1 = _; rw [n3]
  have a4 := al_init_eq g3
  generalize hg4 : setT (newG g3 31 3 [] []) (nx g3) 1 = g4 at S4 p4 n4 a4
  obtain ⟨c4, hc4⟩ : ∃ c4, c4 = newL (nwC (setI (nwC c B 2) 18 B (-1)) (B + 1) 8) (B + 2) 10 B := ⟨_, rfl⟩
  rw [← hc4] at S4
  have t4 : ∀ a, tg c4 a = if a = B + 2 then 1 else if a = B + 1 then 8 else if a = B then 2 else tg c a := fun a => by rw [hc4]; rfl
  have tR : tg c4 (B + 1) = 8 := by rw [t4, if_neg (by omega), if_pos rfl]
  have tB : tg c4 B = 2 := by rw [t4, if_neg (by omega), if_neg (by omega), if_pos rfl]
  have tLl : tg c4 (B + 2) = 1 := by rw [t4, if_pos rfl]
  have e5 : pfR 7 0 (some (B + 1)) (some (B + 2)) g4 = some (setR g4 112 (B + 1) (some (B + 2))) := pfR_eq (ci := 7) (S4.tag tR)
  have S5 : Sim Z (setR g4 112 (B + 1) (some (B + 2))) (setR c4 112 (B + 1) (some (B + 2))) := S4.wR (by rw [tR]; decide)
  have e6 : pfR 1 3 (some B) (some (B + 1)) (setR g4 112 (B + 1) (some (B + 2))) = some (setR (setR g4 112 (B + 1) (some (B + 2))) 19 B (some (B + 1))) := pfR_eq (ci := 1) (S5.tag tB)
  have S6 : Sim Z (setR (setR g4 112 (B + 1) (some (B + 2))) 19 B (some (B + 1))) (setR (setR c4 112 (B + 1) (some (B + 2))) 19 B (some (B + 1))) := S5.wR (by show 2 ≤ tg c4 B; rw [tB]; decide)
  have p6 : Spd Z 0 0 g4 (setR (setR g4 112 (B + 1) (some (B + 2))) 19 B (some (B + 1))) := (Spd.wR S4 (by rw [tR]; decide)).tr (Spd.wR S5 (by show 2 ≤ tg c4 B; rw [tB]; decide))
  have n6 : nx (setR (setR g4 112 (B + 1) (some (B + 2))) 19 B (some (B + 1))) = B + 3 := n4
  generalize hg6 : setR (setR g4 112 (B + 1) (some (B + 2))) 19 B (some (B + 1)) = g6 at S6 p6 n6 e6
  -- the pieces' list
  have S7 : Sim Z (setT (newG g6 31 3 [] []) (nx g6) 1) (newL (setR (setR c4 112 (B + 1) (some (B + 2))) 19 B (some (B + 1))) (B + 3) 11 B) := by rw [← n6]; exact S6.nl 11 B
  have p7 : Spd Z 1 3 g6 (setT (newG g6 31 3 [] []) (nx g6) 1) := Spd.nl S6
  have a7 := al_init_eq g6
  generalize hg7 : setT (newG g6 31 3 [] []) (nx g6) 1 = g7 at S7 p7 a7
  obtain ⟨c7, hc7⟩ : ∃ c7, c7 = newL (setR (setR c4 112 (B + 1) (some (B + 2))) 19 B (some (B + 1))) (B + 3) 11 B := ⟨_, rfl⟩
  rw [← hc7] at S7
  have t7 : ∀ a, tg c7 a = if a = B + 3 then 1 else tg c4 a := fun a => by rw [hc7]; rfl
  have tB7 : tg c7 B = 2 := by rw [t7, if_neg (by omega)]; exact tB
  have e8 : pfR 1 4 (some B) (some (B + 3)) g7 = some (setR g7 20 B (some (B + 3))) := pfR_eq (ci := 1) (S7.tag tB7)
  have S8 : Sim Z (setR g7 20 B (some (B + 3))) (setR c7 20 B (some (B + 3))) := S7.wR (by rw [tB7]; decide)
  have e9 : pfI 1 0 (some B) (Int32.ofNat (bks Z c).length) (setR g7 20 B (some (B + 3))) = some (setI (setR g7 20 B (some (B + 3))) 16 B (Int32.ofNat (bks Z c).length)) := pfI_eq (ci := 1) (S8.tag tB7)
  have S9 : Sim Z (setI (setR g7 20 B (some (B + 3))) 16 B (Int32.ofNat (bks Z c).length)) (setI (setR c7 20 B (some (B + 3))) 16 B (Int32.ofNat (bks Z c).length)) := S8.wI
  have e10 : pfI 1 1 (some B) cap (setI (setR g7 20 B (some (B + 3))) 16 B (Int32.ofNat (bks Z c).length)) = some (setI (setI (setR g7 20 B (some (B + 3))) 16 B (Int32.ofNat (bks Z c).length)) 17 B cap) := pfI_eq (ci := 1) (S9.tag tB7)
  have S10 : Sim Z (setI (setI (setR g7 20 B (some (B + 3))) 16 B (Int32.ofNat (bks Z c).length)) 17 B cap) (setI (setI (setR c7 20 B (some (B + 3))) 16 B (Int32.ofNat (bks Z c).length)) 17 B cap) := S9.wI
  have p10 : Spd Z 0 0 g7 (setI (setI (setR g7 20 B (some (B + 3))) 16 B (Int32.ofNat (bks Z c).length)) 17 B cap) := ((Spd.wR S7 (by rw [tB7]; decide)).tr Spd.wI).tr Spd.wI
  generalize hg10 : setI (setI (setR g7 20 B (some (B + 3))) 16 B (Int32.ofNat (bks Z c).length)) 17 B cap = g10 at S10 p10 e10
  obtain ⟨c10, hc10⟩ : ∃ c10, c10 = setI (setI (setR c7 20 B (some (B + 3))) 16 B (Int32.ofNat (bks Z c).length)) 17 B cap := ⟨_, rfl⟩
  rw [← hc10] at S10
  -- what the county is now, of old things and new
  have new : ∀ x, tg c x ≠ 0 → x ≠ B ∧ x ≠ B + 1 ∧ x ≠ B + 2 ∧ x ≠ B + 3 := fun x h => by
    have := S.lt h
    omega
  have t10 : ∀ a, tg c10 a = if a = B + 3 then 1 else if a = B + 2 then 1 else if a = B + 1 then 8 else if a = B then 2 else tg c a := fun a => by
    have : tg c10 a = tg c7 a := by rw [hc10]; rfl
    rw [this, t7, t4]
  have o10 : ∀ a, oa c10 a = if a = B + 3 then [] else if a = B + 2 then [] else if a = B + 1 then [] else if a = B then [] else oa c a := fun a => by rw [hc10, hc7, hc4]; rfl
  have i4 : ∀ k x, x ≠ B → x ≠ B + 1 → x ≠ B + 2 → fi c4 k x = fi c k x := fun k x q1 q2 q3 => by
    rw [hc4, fi_newL _ _ _ _ _ _ q3, fi_nwC, if_neg q2, fi_setI, if_neg fun z => q1 z.2, fi_nwC, if_neg q1]
  have r4 : ∀ k x, x ≠ B → x ≠ B + 1 → x ≠ B + 2 → fr c4 k x = fr c k x := fun k x q1 q2 q3 => by
    rw [hc4, fr_newL _ _ _ _ _ _ q3, fr_nwC, if_neg q2, fr_setI, fr_nwC, if_neg q1]
  have i10 : ∀ k x, x ≠ B → x ≠ B + 1 → x ≠ B + 2 → x ≠ B + 3 → fi c10 k x = fi c k x := fun k x q1 q2 q3 q4 => by
    rw [hc10, fi_setI, if_neg fun z => q1 z.2, fi_setI, if_neg fun z => q1 z.2, fi_setR, hc7, fi_newL _ _ _ _ _ _ q4, fi_setR, fi_setR, i4 k x q1 q2 q3]
  have r10 : ∀ k x, x ≠ B → x ≠ B + 1 → x ≠ B + 2 → x ≠ B + 3 → fr c10 k x = fr c k x := fun k x q1 q2 q3 q4 => by
    rw [hc10, fr_setI, fr_setI, fr_setR, if_neg fun z => q1 z.2, hc7, fr_newL _ _ _ _ _ _ q4, fr_setR, if_neg fun z => q1 z.2, fr_setR, if_neg fun z => q2 z.2, r4 k x q1 q2 q3]
  have b16 : fi c10 16 B = Int32.ofNat (bks Z c).length := by rw [hc10, fi_setI, if_neg fun z => by have := z.1; omega, fi_setI, if_pos ⟨rfl, rfl⟩]
  have b17 : fi c10 17 B = cap := by rw [hc10, fi_setI, if_pos ⟨rfl, rfl⟩]
  have b18 : fi c10 18 B = -1 := by
    rw [hc10, fi_setI, if_neg fun z => by have := z.1; omega, fi_setI, if_neg fun z => by have := z.1; omega, fi_setR, hc7, fi_newL _ _ _ _ _ _ (by omega), fi_setR, fi_setR, hc4, fi_newL _ _ _ _ _ _ (by omega), fi_nwC, if_neg (by omega), fi_setI, if_pos ⟨rfl, rfl⟩]
  have b19 : fr c10 19 B = some (B + 1) := by
    rw [hc10, fr_setI, fr_setI, fr_setR, if_neg fun z => by have := z.1; omega, hc7, fr_newL _ _ _ _ _ _ (by omega), fr_setR, if_pos ⟨rfl, rfl⟩]
  have b20 : fr c10 20 B = some (B + 3) := by rw [hc10, fr_setI, fr_setI, fr_setR, if_pos ⟨rfl, rfl⟩]
  have b112 : fr c10 112 (B + 1) = some (B + 2) := by
    rw [hc10, fr_setI, fr_setI, fr_setR, if_neg fun z => by have := z.2; omega, hc7, fr_newL _ _ _ _ _ _ (by omega), fr_setR, if_neg fun z => by have := z.2; omega, fr_setR, if_pos ⟨rfl, rfl⟩]
  have k7 : LK c10 (B + 3) 11 B 6 := by
    obtain ⟨⟨l1, l2, l3, l4⟩, l5, l6⟩ := lk_newL (setR (setR c4 112 (B + 1) (some (B + 2))) 19 B (some (B + 1))) (B + 3) 11 B 6
    rw [← hc7] at l1 l2 l3 l4 l5 l6
    have er : refs c10 (B + 3) = [] := by unfold refs; rw [o10, if_pos rfl]; rfl
    refine ⟨⟨by rw [hc10]; exact l1, by rw [o10, if_pos rfl, er]; rfl, (by rw [er]; intro x hx; cases hx), by rw [er]; decide⟩, ?_, ?_⟩
    · rw [hc10, fi_setI, if_neg fun z => by have := z.1; omega, fi_setI, if_neg fun z => by have := z.1; omega, fi_setR]; exact l5
    · rw [hc10, fr_setI, fr_setI, fr_setR, if_neg fun z => by have := z.1; omega]; exact l6
  have k4 : LK c10 (B + 2) 10 B 9 := by
    obtain ⟨⟨l1, l2, l3, l4⟩, l5, l6⟩ := lk_newL (nwC (setI (nwC c B 2) 18 B (-1)) (B + 1) 8) (B + 2) 10 B 9
    rw [← hc4] at l1 l2 l3 l4 l5 l6
    have er : refs c10 (B + 2) = [] := by unfold refs; rw [o10, if_neg (by omega), if_pos rfl]; rfl
    refine ⟨⟨by rw [t10, if_neg (by omega), if_pos rfl], by rw [o10, if_neg (by omega), if_pos rfl, er]; rfl, (by rw [er]; intro x hx; cases hx), by rw [er]; decide⟩, ?_, ?_⟩
    · rw [hc10, fi_setI, if_neg fun z => by have := z.1; omega, fi_setI, if_neg fun z => by have := z.1; omega, fi_setR, hc7, fi_newL _ _ _ _ _ _ (by omega), fi_setR, fi_setR]; exact l5
    · rw [hc10, fr_setI, fr_setI, fr_setR, if_neg fun z => by have := z.1; omega, hc7, fr_newL _ _ _ _ _ _ (by omega), fr_setR, if_neg fun z => by have := z.1; omega, fr_setR, if_neg fun z => by have := z.1; omega]; exact l6
  -- the list of blocks
  have nz15 := new (Z 15) (by rw [kB.1.1]; decide)
  have t15 : tg c10 (Z 15) = 1 := by rw [t10, if_neg nz15.2.2.2, if_neg nz15.2.2.1, if_neg nz15.2.1, if_neg nz15.1]; exact kB.1.1
  have o15 : oa c10 (Z 15) = (bks Z c).map some := by rw [o10, if_neg nz15.2.2.2, if_neg nz15.2.2.1, if_neg nz15.2.1, if_neg nz15.1]; exact kB.oc
  have tB10 : tg c10 B = 2 := by rw [t10, if_neg (by omega), if_neg (by omega), if_neg (by omega), if_pos rfl]
  obtain ⟨g11, a11, S11, p11, -⟩ := S10.add (b := Z 15) (x := B) t15 zB1 zB2 (by rw [tB10]; decide) (by rw [tB10]; decide) (by rw [o15, List.length_map]; omega)
  rw [o15, show (bks Z c).map some ++ [some B] = (bks Z c ++ [B]).map some by rw [List.map_append]; rfl] at S11
  obtain ⟨c', hc'⟩ : ∃ c', c' = setO c10 (Z 15) ((bks Z c ++ [B]).map some) := ⟨_, rfl⟩
  rw [← hc'] at S11
  have ft : ∀ a, tg c' a = tg c10 a := fun a => by rw [hc']; rfl
  have fI : ∀ k a, fi c' k a = fi c10 k a := fun k a => by rw [hc']; rfl
  have fR : ∀ k a, fr c' k a = fr c10 k a := fun k a => by rw [hc']; rfl
  have fO : ∀ a, a ≠ Z 15 → oa c' a = oa c10 a := fun a h => by rw [hc', oa_setO, if_neg h]
  have old1 : ∀ a, tg c a ≠ 0 → tg c' a = tg c a := fun a h => by
    obtain ⟨q1, q2, q3, q4⟩ := new a h
    rw [ft, t10, if_neg q4, if_neg q3, if_neg q2, if_neg q1]
  have old2 : ∀ k a, tg c a ≠ 0 → fi c' k a = fi c k a := fun k a h => by
    obtain ⟨q1, q2, q3, q4⟩ := new a h
    rw [fI, i10 k a q1 q2 q3 q4]
  have old3 : ∀ k a, tg c a ≠ 0 → fr c' k a = fr c k a := fun k a h => by
    obtain ⟨q1, q2, q3, q4⟩ := new a h
    rw [fR, r10 k a q1 q2 q3 q4]
  have old4 : ∀ a, tg c a ≠ 0 → a ≠ Z 15 → oa c' a = oa c a := fun a h hne => by
    obtain ⟨q1, q2, q3, q4⟩ := new a h
    rw [fO a hne, o10, if_neg q4, if_neg q3, if_neg q2, if_neg q1]
  have oL : ∀ {a k o n}, LK c a k o n → k ≠ 5 → oa c' a = oa c a := fun h hk => old4 _ (by rw [h.1.1]; decide) (h.ne kB hk)
  have A : Ag Z c c' := ⟨old1, old2, fun k a h _ _ _ => old3 k a h, oL j.l.1 (by decide), oL j.l.2.1 (by decide)⟩
  have e13 : oa c' (Z 13) = oa c (Z 13) := oL j.l.2.2.1 (by decide)
  have e14 : oa c' (Z 14) = oa c (Z 14) := oL j.l.2.2.2.1 (by decide)
  have e16 : oa c' (Z 16) = oa c (Z 16) := oL j.l.2.2.2.2.2 (by decide)
  have e15 : oa c' (Z 15) = (bks Z c ++ [B]).map some := by rw [hc', oa_setO, if_pos rfl]
  have et : tls Z c' = tls Z c := refs_eq e13
  have es : bss Z c' = bss Z c := refs_eq e14
  have ed : dvs Z c' = dvs Z c := refs_eq e16
  have eb : bks Z c' = bks Z c ++ [B] := refs_of e15
  have hrw : rwA c' B = B + 1 := by unfold rwA; rw [fR, b19]; rfl
  have hrl : rlB c' B = B + 2 := by unfold rlB rlA; rw [hrw, fR, b112]; rfl
  have hpl : plB c' B = B + 3 := by unfold plB; rw [fR, b20]; rfl
  have f15a : B + 2 ≠ Z 15 := fun z => nz15.2.2.1 z.symm
  have f15b : B + 3 ≠ Z 15 := fun z => nz15.2.2.2 z.symm
  have hrow : rowB c' B = [] := by
    unfold rowB refs
    rw [hrl, fO _ f15a, o10, if_neg (by omega), if_pos rfl]; rfl
  have hpc : pcs c' B = [] := by
    unfold pcs refs
    rw [hpl, fO _ f15b, o10, if_pos rfl]; rfl
  have cgL : ∀ {a k o n}, LK c10 a k o n → a ≠ Z 15 → LK c' a k o n := fun {a k o n} h hne => by
    obtain ⟨⟨l1, l2, l3, l4⟩, l5, l6⟩ := h
    have er : refs c' a = refs c10 a := refs_eq (fO a hne)
    exact ⟨⟨by rw [ft]; exact l1, by rw [fO a hne, er]; exact l2, fun x hx => by rw [er] at hx; rw [ft]; exact l3 x hx, by rw [er]; exact l4⟩, by rw [fI]; exact l5, by rw [fR]; exact l6⟩
  have hOld : ∀ i b, (bks Z c)[i]? = some b → BOk Z c' i b ∧ rowB c' b = rowB c b ∧ pcs c' b = pcs c b := fun i b hb => by
    have hm := List.mem_of_getElem? hb
    obtain ⟨_, _, k1, k2⟩ := j.bz hm
    refine bok_ag A j hb (oL k1 (by decide)) (oL k2 (by decide)) (fun t ht => by rw [et]; exact ht) (fun t ht => ?_) (fun q hq => ?_)
    · rw [old3 135 t (isT_nz (j.isT (j.rT hm ht).1))]; exact (j.rT hm ht).2
    · have l := j.pk hm hq
      rw [old3 136 _ (isT_nz (j.isT (j.rT hm l.2.2.2.1).1))]; exact l.2.2.2.2.2.2
  have hNew : BOk Z c' (bks Z c).length B := by
    refine ⟨⟨by rw [fI]; exact b16, by rw [fI, b18]; decide, by rw [fI, b18]; decide⟩, ⟨by rw [hrw, fR]; exact b19, by rw [hrw, ft, t10, if_neg (by omega), if_neg (by omega), if_pos rfl], by rw [hrw, hrl, fR]; exact b112, by rw [hrl]; exact cgL k4 f15a, by rw [hpl, fR]; exact b20, by rw [hpl]; exact cgL k7 f15b⟩, ⟨by rw [hrow]; exact List.nodup_nil, fun t ht => ?_, fun k x y hx _ => ?_⟩, ⟨by rw [hpc]; exact List.nodup_nil, fun p hp => ?_, Or.inl hpc⟩⟩
    · rw [hrow] at ht; cases ht
    · rw [hrow] at hx; cases hx
    · rw [hpc] at hp; cases hp
  have hin : ∀ q, InP Z c q → InP Z c' q := fun q ⟨b, hb, hq⟩ => by
    obtain ⟨k, hk⟩ := mem_at hb
    exact ⟨b, by rw [eb]; exact List.mem_append_left _ hb, by rw [(hOld k b hk).2.2]; exact hq⟩
  have hDd : ∀ i d, (dvs Z c)[i]? = some d → DOk Z c' i d ∧ dps c' d = dps c d := fun i d hd => by
    have hm := List.mem_of_getElem? hd
    refine dok_ag A j hd (oL (j.dz hm).2 (by decide)) (fun p hp => ?_) (fun p hp => hin p (j_dIn j hm hp))
    rw [old3 85 p (by rw [(j.dp hm hp).1]; decide)]; exact (j.dp hm hp).2.1
  have t6 : ∀ a, tg c' a = 6 → tg c a = 6 := fun a h => by
    rw [ft, t10] at h
    split at h
    · omega
    · split at h
      · omega
      · split at h
        · omega
        · split at h
          · omega
          · exact h
  have j' : J Z c' := by
    refine j.mk' A ⟨lk_ag A j.l.2.2.1 e13 (by decide), lk_ag A j.l.2.2.2.1 e14 (by decide), lk_nw kB (old1 _ (by rw [kB.1.1]; decide)) (old2 9 _ (by rw [kB.1.1]; decide)) (old3 9 _ (by rw [kB.1.1]; decide)) e15 (fun b hb => ?_) (by rw [List.length_append, List.length_singleton]; omega), lk_ag A j.l.2.2.2.2.2 e16 (by decide)⟩ ⟨by rw [et]; exact j.t.1, fun i t ht => ?_⟩ ⟨by rw [eb, List.length_append, List.length_singleton]; omega, fun i b hb => ?_⟩ ⟨by rw [ed]; exact j.d.1, fun i d hd => ?_⟩ (fun q d' hq h85 => ?_) ?_
    · rcases List.mem_append.mp hb with h | h
      · rw [old1 b (j.bz h).1]; exact j.tb h
      · rw [List.mem_singleton.mp h, ft]; exact tB10
    · rw [et] at ht
      have hm := List.mem_of_getElem? ht
      have nz := isT_nz (j.isT hm)
      have k := j.t.2 i t ht
      refine tok_ag A k (fun b hb => ?_) (fun q hq => ?_)
      · rw [old3 135 t nz] at hb
        obtain ⟨k1, k2⟩ := j.inB hm hb
        obtain ⟨n, hn⟩ := mem_at k1
        rw [eb, (hOld n b hn).2.1]
        exact ⟨List.mem_append_left _ k1, k2⟩
      · rw [old3 136 t nz] at hq
        obtain ⟨q1, q2⟩ := k.2.2.2 q hq
        rw [old3 135 t nz, old1 q (by omega)]
        exact ⟨q1, q2⟩
    · rw [eb] at hb
      by_cases h : i < (bks Z c).length
      · rw [List.getElem?_append_left h] at hb
        exact (hOld i b hb).1
      · have hlt := (List.getElem?_eq_some_iff.mp hb).1
        rw [List.length_append, List.length_singleton] at hlt
        have hi : i = (bks Z c).length := by omega
        rw [List.getElem?_append_right (by omega), hi, Nat.sub_self] at hb
        have e : B = b := Option.some.inj hb
        rw [← e, hi]; exact hNew
    · rw [ed] at hd
      exact (hDd i d hd).1
    · have hq' := t6 q hq
      rw [old3 85 q (by omega)] at h85
      obtain ⟨k1, k2⟩ := j.q q d' hq' h85
      obtain ⟨n, hn'⟩ := mem_at k1
      rw [ed, (hDd n d' hn').2]
      exact ⟨k1, k2⟩
    · obtain ⟨s1, s2, s3⟩ := j.s
      unfold JS
      rw [et, es]
      refine ⟨s1, s2, s3.imp_of_mem fun {x y} hx hy h => ?_⟩
      unfold nst at *
      rw [old2 132 x (isT_nz (j.isT (s1 x hx))), old2 132 y (isT_nz (j.isT (s1 y hy)))]
      exact h
  have e4' : gfR 10 4 (some (Z 0)) g1 = some (some (Z 15)) := by
    have nz0 := nB (Z 0) (by rw [j.f.1]; decide)
    rw [S1.rdR (ci := 10) (by rw [tg_nwC, if_neg nz0]; exact j.f.1) (by decide) (by decide) 4, fr_nwC, if_neg nz0]
    exact congrArg some j.f.2.2.2.2.2.1
  have tz15 : tg (nwC c B 2) (Z 15) = 1 := by rw [tg_nwC, if_neg nz15.1]; exact kB.1.1
  have esz : al_size (Z 15) g1 = some (Int32.ofNat (bks Z c).length) := by
    rw [S1.sz tz15 zB1 zB2, oa_nwC, if_neg nz15.1, kB.oc, List.length_map]; rfl
  have e4'' : gfR 10 4 (some (Z 0)) g10 = some (some (Z 15)) := by
    obtain ⟨q1, q2, q3, q4⟩ := new (Z 0) (by rw [j.f.1]; decide)
    rw [S10.rdR (ci := 10) (by rw [t10, if_neg q4, if_neg q3, if_neg q2, if_neg q1]; exact j.f.1) (by decide) (by decide) 4, r10 _ _ q1 q2 q3 q4]
    exact congrArg some j.f.2.2.2.2.2.1
  refine ⟨g11, c', B, ?_, S11, ?_, j', A, ⟨et, es, ed, eb⟩, fresh, fun b hb => ?_, hrow, hpc, by rw [fI]; exact b17, by rw [fI]; exact b16, old3, fun x => ?_, t6⟩
  · unfold f_X9_newBlock f_X0_init f_X6_init
    rw [hg1, e4', Option.bind_some, S1.rc (ci := 0) tz15, Option.bind_some, esz, Option.bind_some, ← hB, e2, Option.bind_some]
    have n2 : nx (setI g1 18 B (-1)) = B + 1 := n1
    rw [n2, hg3, n3] at *
    rw [a4, Option.bind_some, e5, Option.bind_some, Option.bind_some, e6, Option.bind_some, n6] at *
    rw [a7, Option.bind_some, e8, Option.bind_some, e9, Option.bind_some, e10, Option.bind_some, Option.bind_some, e4'', Option.bind_some, S10.rc (ci := 0) t15, Option.bind_some, a11, Option.bind_some]
  · exact (((((((p1.tr Spd.wI).tr p3).tr p4).tr p6).tr p7).tr p10).tr p11).up (by omega) (by omega)
  · obtain ⟨n, hn⟩ := mem_at hb
    exact (hOld n b hn).2
  · by_cases h : x = B ∨ x = B + 1 ∨ x = B + 2 ∨ x = B + 3
    · left
      rw [fR, hc10, fr_setI, fr_setI, fr_setR, if_neg fun z => by have := z.1; omega, hc7]
      by_cases h3 : x = B + 3
      · rw [h3]
        show fr (setR (setI (nwC _ (B + 3) 1) 9 (B + 3) 11) 9 (B + 3) (some B)) 136 (B + 3) = none
        rw [fr_setR, if_neg fun z => by have := z.1; omega, fr_setI, fr_nwC, if_pos rfl]
      · rw [fr_newL _ _ _ _ _ _ h3, fr_setR, if_neg fun z => by have := z.1; omega, fr_setR, if_neg fun z => by have := z.1; omega, hc4]
        by_cases h2 : x = B + 2
        · rw [h2]
          show fr (setR (setI (nwC _ (B + 2) 1) 9 (B + 2) 10) 9 (B + 2) (some B)) 136 (B + 2) = none
          rw [fr_setR, if_neg fun z => by have := z.1; omega, fr_setI, fr_nwC, if_pos rfl]
        · rw [fr_newL _ _ _ _ _ _ h2, fr_nwC]
          split
          · rfl
          · rw [fr_setI, fr_nwC, if_pos (by omega)]
    · right
      rw [fR, r10 136 x (by omega) (by omega) (by omega) (by omega)]
end Block
