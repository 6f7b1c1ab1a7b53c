/-! The new county is one: its places and lines are made. -/
section New2
variable {g w c : HP} {b : Nat} {P L : List Nat}
theorem i_sim (hn : nx g = b + 1) (ht : tg g b = 11) : Sim (Zb b) (iniA b g) (iniC b g) := by
  obtain ⟨⟨t0, t1, t2, t3, t4, t5, t6, t7⟩, t8, t9, t10, t11, t12, t13, t14, t15, t16⟩ := i_tg hn ht
  have hx := i_nx hn
  obtain ⟨o1, o2, o3, o4, o5, o6, o9, o11, a12, a14, a15⟩ := i_oa hn
  obtain ⟨_, _, c9, c11⟩ := i_fr hn
  have tc : ∀ i, i ≤ 16 → tg (iniC b g) (b + i) = tg (iniA b g) (b + i) := fun i hi => by rw [tg_iniC, if_pos ⟨by omega, by omega⟩]
  have old : ∀ a, tg (iniC b g) a ≠ 0 → tg (iniC b g) a = tg (iniA b g) a ∧ a ≤ b + 16 := fun a h => by
    rw [tg_iniC] at h ⊢
    by_cases e : b ≤ a ∧ a ≤ b + 16
    · rw [if_pos e]; exact ⟨rfl, e.2⟩
    · rw [if_neg e] at h; exact absurd rfl h
  refine ⟨fun a h => ?_, fun a j h1 h2 h3 => ?_, fun a j h1 h2 => ?_, fun a h1 h2 h3 => rfl, ?_, ?_, ?_, ?_⟩
  · obtain ⟨q1, q2⟩ := old a h
    exact ⟨q1.symm, by omega⟩
  · obtain ⟨q1, q2⟩ := old a (by omega)
    rw [fi_iniC, if_neg (by rw [← q1]; omega)]
  · obtain ⟨q1, q2⟩ := old a (by omega)
    rw [fr_iniC, if_neg (by rw [← q1]; omega)]
  · show (ia (iniA b g) (b + 12)).length = 16 ∧ (ia (iniA b g) (b + 14)).length = 16 ∧ (ia (iniA b g) (b + 15)).length = 16
    rw [a12, a14, a15, List.length_replicate]
    exact ⟨rfl, rfl, rfl⟩
  · show (oa (iniA b g) (b + 9)).length ≤ 16 ∧ capOK (capL (iniA b g) (b + 9))
    unfold capL
    rw [o9, c9]
    exact ⟨by decide, Or.inl rfl⟩
  · show (oa (iniA b g) (b + 11)).length ≤ 16 ∧ capOK (capL (iniA b g) (b + 11))
    unfold capL
    rw [o11, c11]
    exact ⟨by decide, Or.inl rfl⟩
  · show tg (iniC b g) (b + 9) = 1 ∧ tg (iniC b g) (b + 11) = 1 ∧ tg (iniC b g) (b + 12) = 20 ∧ tg (iniC b g) (b + 14) = 20 ∧ tg (iniC b g) (b + 15) = 21 ∧ b + 9 ≠ b + 11 ∧ b + 12 ≠ b + 14
    rw [tc 9 (by decide), tc 11 (by decide), tc 12 (by decide), tc 14 (by decide), tc 15 (by decide)]
    exact ⟨t9, t11, t12, t14, t15, by omega, by omega⟩
def NC (b : Nat) (g c : HP) (P L : List Nat) : Prop :=
  ((∀ a, tg (iniC b g) a ≠ 0 → tg c a = tg (iniC b g) a) ∧ (∀ k a, tg (iniC b g) a ≠ 0 → fi c k a = fi (iniC b g) k a ∧ fr c k a = fr (iniC b g) k a) ∧ (∀ a, tg (iniC b g) a ≠ 0 → a ≠ b + 1 → a ≠ b + 2 → oa c a = oa (iniC b g) a)) ∧
  (oa c (b + 1) = P.map some ∧ oa c (b + 2) = L.map some) ∧ (∀ i p, P[i]? = some p → tg c p = 7 ∧ fi c 96 p = Int32.ofNat i ∧ fi c 97 p = 0) ∧ (∀ i l, L[i]? = some l → tg c l = 5 ∧ fi c 64 l = Int32.ofNat i ∧ fi c 65 l = 10) ∧ ∀ a, tg c a ≠ 6
theorem NC.zero (hn : nx g = b + 1) (ht : tg g b = 11) : NC b g (iniC b g) [] [] := by
  obtain ⟨⟨t0, t1, t2, t3, t4, t5, t6, t7⟩, t8, t9, t10, t11, t12, t13, t14, t15, t16⟩ := i_tg hn ht
  obtain ⟨o1, o2, -⟩ := i_oa hn
  refine ⟨⟨fun a _ => rfl, fun k a _ => ⟨rfl, rfl⟩, fun a _ _ _ => rfl⟩, ⟨o1, o2⟩, fun i p h => by simp at h, fun i p h => by simp at h, fun a => ?_⟩
  rw [tg_iniC]
  by_cases e : b ≤ a ∧ a ≤ b + 16
  · rw [if_pos e]
    obtain ⟨d, rfl⟩ : ∃ d, a = b + d := ⟨a - b, by omega⟩
    have hd : d ≤ 16 := by omega
    match d, hd with
    | 0, _ => rw [Nat.add_zero, t0]; decide
    | 1, _ => rw [t1]; decide
    | 2, _ => rw [t2]; decide
    | 3, _ => rw [t3]; decide
    | 4, _ => rw [t4]; decide
    | 5, _ => rw [t5]; decide
    | 6, _ => rw [t6]; decide
    | 7, _ => rw [t7]; decide
    | 8, _ => rw [t8]; decide
    | 9, _ => rw [t9]; decide
    | 10, _ => rw [t10]; decide
    | 11, _ => rw [t11]; decide
    | 12, _ => rw [t12]; decide
    | 13, _ => rw [t13]; decide
    | 14, _ => rw [t14]; decide
    | 15, _ => rw [t15]; decide
    | 16, _ => rw [t16]; decide
    | (n + 17), h => omega
  · rw [if_neg e]; decide
theorem i_tgC (hn : nx g = b + 1) (ht : tg g b = 11) : tg (iniC b g) b = 11 ∧ tg (iniC b g) (b + 1) = 1 ∧ tg (iniC b g) (b + 2) = 1 ∧ tg (iniC b g) (b + 16) = 7 := by
  obtain ⟨⟨t0, t1, t2, t3, t4, t5, t6, t7⟩, t8, t9, t10, t11, t12, t13, t14, t15, t16⟩ := i_tg hn ht
  have tc : ∀ i, i ≤ 16 → tg (iniC b g) (b + i) = tg (iniA b g) (b + i) := fun i hi => by rw [tg_iniC, if_pos ⟨by omega, by omega⟩]
  exact ⟨(tc 0 (by decide)).trans t0, (tc 1 (by decide)).trans t1, (tc 2 (by decide)).trans t2, (tc 16 (by decide)).trans t16⟩
/-- a new entity is put behind a list of the new county -/
theorem NC.put (hn : nx g = b + 1) (ht : tg g b = 11) (S : Sim (Zb b) w c) (N : NC b g c P L) {k t x : Nat} (hk : k = 1 ∨ k = 2) (h6 : t ≠ 6) {c2 w2 : HP} (S2 : Sim (Zb b) w2 c2) (hx : x = nx w) (h2 : 2 ≤ t) (h11 : t ≤ 11)
    (e1 : ∀ a, tg c2 a = if a = x then t else tg c a) (e2 : ∀ k a, a ≠ x → fi c2 k a = fi c k a) (e3 : ∀ k a, a ≠ x → fr c2 k a = fr c k a) (e4 : ∀ a, oa c2 a = if a = x then [] else oa c a) (hl : (oa c (b + k)).length ≤ 40) :
    ∃ w3 c3, al_add (b + k) (some x) w2 = some (1, w3) ∧ rcv 0 (some (b + k)) w2 = some (b + k) ∧ Sim (Zb b) w3 c3 ∧ Spd (Zb b) 1 100 w2 w3 ∧
      (∀ a, tg c3 a = tg c2 a) ∧ (∀ k a, fi c3 k a = fi c2 k a ∧ fr c3 k a = fr c2 k a) ∧ ((∀ a, tg (iniC b g) a ≠ 0 → tg c3 a = tg (iniC b g) a) ∧ (∀ k a, tg (iniC b g) a ≠ 0 → fi c3 k a = fi (iniC b g) k a ∧ fr c3 k a = fr (iniC b g) k a) ∧ (∀ a, tg (iniC b g) a ≠ 0 → a ≠ b + 1 → a ≠ b + 2 → oa c3 a = oa (iniC b g) a)) ∧
      (oa c3 (b + 1) = if k = 1 then oa c (b + 1) ++ [some x] else oa c (b + 1)) ∧ (oa c3 (b + 2) = if k = 2 then oa c (b + 2) ++ [some x] else oa c (b + 2)) ∧ ∀ a, tg c3 a ≠ 6 := by
  obtain ⟨u0, u1, u2, u16⟩ := i_tgC hn ht
  obtain ⟨⟨n1, n2, n3⟩, ⟨n4, n5⟩, n6, n7, n8⟩ := N
  have fresh : tg c x = 0 := by rw [hx]; exact S.fresh
  have new : ∀ a, tg (iniC b g) a ≠ 0 → a ≠ x := fun a h z => by
    have := n1 a h
    rw [z, fresh] at this
    rw [z] at h
    exact h this.symm
  have x1 := new (b + 1) (by rw [u1]; decide)
  have x2 := new (b + 2) (by rw [u2]; decide)
  have tk : tg c2 (b + k) = 1 := by
    rcases hk with rfl | rfl
    · rw [e1, if_neg x1, n1 _ (by rw [u1]; decide)]; exact u1
    · rw [e1, if_neg x2, n1 _ (by rw [u2]; decide)]; exact u2
  have xk : b + k ≠ x := by rcases hk with rfl | rfl <;> assumption
  have z1 : b + k ≠ Zb b 1 := by show b + k ≠ b + 9; omega
  have z2 : b + k ≠ Zb b 2 := by show b + k ≠ b + 11; omega
  obtain ⟨w3, a3, S3, p3, -⟩ := S2.add (b := b + k) (x := x) tk z1 z2 (by rw [e1, if_pos rfl]; omega) (by rw [e1, if_pos rfl]; exact h11) (by rw [e4, if_neg xk]; omega)
  refine ⟨w3, _, a3, S2.rc (ci := 0) tk, S3, p3, fun a => rfl, fun k a => ⟨rfl, rfl⟩, ⟨fun a h => ?_, fun q a h => ?_, fun a h h1 h2 => ?_⟩, ?_, ?_, fun a => ?_⟩
  · show tg c2 a = _
    rw [e1, if_neg (new a h)]; exact n1 a h
  · show fi c2 q a = _ ∧ fr c2 q a = _
    rw [e2 q a (new a h), e3 q a (new a h)]; exact n2 q a h
  · rw [oa_setO, if_neg (by rcases hk with rfl | rfl <;> assumption), e4, if_neg (new a h)]; exact n3 a h h1 h2
  · rw [oa_setO]
    rcases hk with rfl | rfl
    · rw [if_pos rfl, if_pos rfl, e4, if_neg x1]
    · rw [if_neg (by omega), if_neg (by decide), e4, if_neg x1]
  · rw [oa_setO]
    rcases hk with rfl | rfl
    · rw [if_neg (by omega), if_neg (by decide), e4, if_neg x2]
    · rw [if_pos rfl, if_pos rfl, e4, if_neg x2]
  · show tg c2 a ≠ 6
    rw [e1]
    split
    · exact h6
    · exact n8 a
end New2
