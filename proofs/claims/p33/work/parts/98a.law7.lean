/-! The law's steps: what a step keeps; a fee is changed. -/
def LoS (Z : Nat → Nat) (b : Nat) (bl : List Int32) (xA rA fA T : Nat) (xs rs : List Int32) (g c : HP) (fs : List Int32) : Prop := Sim Z g c ∧ LI Z c T xs rs fs ∧ Arr Z g 25 b bl ∧ Arr Z g 20 xA xs ∧ Arr Z g 21 rA rs ∧ Arr Z g 20 fA fs
section Law7
variable {Z : Nat → Nat} {g c c' : HP} {T b xA rA fA : Nat} {bl xs rs fs : List Int32}
theorem bind_arm {α β : Type} {o : Option α} {K : α → Option β} {Q : α → Prop} {R : β → Prop} (h : ∃ x, o = some x ∧ Q x) (k : ∀ x, Q x → ∃ y, K x = some y ∧ R y) : ∃ y, o.bind K = some y ∧ R y := by
  obtain ⟨x, rfl, hx⟩ := h
  exact k x hx
theorem lw_cell {t : Nat} (A : Arr Z g t b bl) (ht : t = 20 ∨ t = 25) (hl : bl.length < 2147483648) {i : Nat} (hi : i < 2147483648) : ∃ x, ∀ w, Arr Z w t b bl → f_L_cell (some b) (Int32.ofNat i) w = some x := by
  by_cases hc : bl.length ≤ i
  · refine ⟨790386105 * (Int32.ofNat i + 3), fun w Aw => ?_⟩
    unfold f_L_cell
    rw [Aw.ln (by omega), Option.bind_some, if_pos ((nLe hl hi).mpr hc)]
  · refine ⟨bl.getD i 0, fun w Aw => ?_⟩
    unfold f_L_cell
    rw [Aw.ln (by omega), Option.bind_some, if_neg (fun z => hc ((nLe hl hi).mp z)), Aw.ld ht (by omega) hi, Option.bind_some]
theorem mod16 {n : Nat} (h : n < 2147483648) : ∃ r, r < 16 ∧ Int32.ofNat n - Int32.ofNat n / 16 * 16 = Int32.ofNat r := by
  refine ⟨n - n / 16 * 16, ?_, ?_⟩
  · omega
  · have e1 : Int32.ofNat n / Int32.ofNat 16 = Int32.ofNat (n / 16) := (Int32.ofNat_div h (by decide)).symm
    have e2 : Int32.ofNat (n / 16) * Int32.ofNat 16 = Int32.ofNat (n / 16 * 16) := (Int32.ofNat_mul _ _).symm
    have e3 : Int32.ofNat n - Int32.ofNat (n / 16 * 16) = Int32.ofNat (n - n / 16 * 16) := nSub (Nat.div_mul_le_self n 16)
    show Int32.ofNat n - Int32.ofNat n / Int32.ofNat 16 * Int32.ofNat 16 = _
    rw [e1, e2, e3]
theorem s_bq (j : J Z c) (x : Int32) (w : HP) : ∃ q, (if Int32.ofNat (bks Z c).length = 0 then some (-1 : Int32) else (f_L_below x (Int32.ofNat (bks Z c).length) w).bind fun x39 => some x39) = some q ∧ BQ Z c q := by
  have h8 := j.b.1
  by_cases h0 : bks Z c = []
  · exact ⟨-1, by rw [h0]; rfl, Or.inl ⟨rfl, h0⟩⟩
  · have h1 := List.length_pos_iff.mpr h0
    obtain ⟨r, r1, r2⟩ := lw_below (n := (bks Z c).length) h1 (by omega) x w
    refine ⟨Int32.ofNat r, ?_, Or.inr ⟨r, _, rfl, List.getElem?_eq_getElem r1⟩⟩
    rw [if_neg (fun z => by have := (nEq (a := (bks Z c).length) (b := 0) (by omega) (by decide)).mp z; omega), r2, Option.bind_some]
theorem of_lws (L : LoS Z b bl xA rA fA T xs rs g c fs) (n1 : b < fA) (n2 : xA < fA) (n3 : rA < fA) {o : Option HP} (h : LwS Z T xs rs fs g o) : ∃ x, o = some x ∧ ∃ c' fs', LoS Z b bl xA rA fA T xs rs x c' fs' ∧ SL fA Z 200 8000 g x := by
  obtain ⟨g', c', e, S', s', h'⟩ := h
  obtain ⟨_, _, A1, A2, A3, A4⟩ := L
  have hf := A4.2.1
  exact ⟨g', e, c', fs, ⟨S', h', A1.sl s' (Or.inr (Or.inr (Or.inr rfl))) A1.2.1, A2.sl s' (Or.inl rfl) A2.2.1, A3.sl s' (Or.inr (Or.inl rfl)) A3.2.1, A4.sl s' (Or.inl rfl) A4.2.1⟩, s'.lo (by omega)⟩
theorem LI.fee (h : LI Z c T xs rs fs) {i l n : Nat} {v : Int32} (hi : (lns Z c)[i]? = some l) (hn : n ≤ 29) (j' : J Z (setI (setI c 65 l (Int32.ofNat n)) 66 l v)) : LI Z (setI (setI c 65 l (Int32.ofNat n)) 66 l v) T xs rs (fs.set i (Int32.ofNat n)) := by
  obtain ⟨j, h1, ⟨h2, h3⟩, ⟨h4, h5⟩, h6⟩ := h
  have hi4 : i < 4 := by have := (List.getElem?_eq_some_iff.mp hi).1; have := j.n.1.2.1; omega
  refine ⟨j', h1, ⟨h2, fun k p hp => ?_⟩, ⟨by rw [List.length_set]; exact h4, fun k p hp => ?_⟩, fun t ht => ?_⟩
  · rw [setI_ne (by omega), setI_ne (by omega), setI_ne (by omega), setI_ne (by omega)]; exact h3 k p hp
  · rw [setI_ne (by omega), fi_setI]
    have hp' : (lns Z c)[k]? = some p := hp
    by_cases hk : k = i
    · rw [hk, hi] at hp'
      have e : l = p := Option.some.inj hp'
      have e1 : (fs.set i (Int32.ofNat n)).getD k 0 = Int32.ofNat n := by rw [hk, List.getD_eq_getElem?_getD, List.getElem?_set_self (by omega)]; rfl
      rw [e1, if_pos ⟨rfl, e.symm⟩]
      exact ⟨rfl, n, rfl, hn⟩
    · have e1 : (fs.set i (Int32.ofNat n)).getD k 0 = fs.getD k 0 := by rw [List.getD_eq_getElem?_getD, List.getElem?_set_ne (fun z => hk z.symm), List.getD_eq_getElem?_getD]
      have hne : p ≠ l := fun z => hk (by
        have a1 := j.n.2.2 k p hp'
        have a2 := j.n.2.2 i l hi
        rw [z, a2] at a1
        have := (List.getElem?_eq_some_iff.mp hp').1
        have := j.n.1.2.1
        exact ((nEq (by omega) (by omega)).mp a1).symm)
      rw [e1, if_neg (fun z => hne z.2)]
      exact h5 k p hp'
  · unfold ndl
    rw [setI_ne (by omega), setI_ne (by omega)]; exact h6 t ht
theorem arm14 (L : LoS Z b bl xA rA fA T xs rs g c fs) (n1 : b < fA) (n2 : xA < fA) (n3 : rA < fA) (x y z : Int32) : ∃ w, ((f_L_below y 4 g).bind fun x101 => (f_L_below x 30 g).bind fun x102 => (stI (some fA) x101 x102 g).bind fun g103 => (f_L_below y 4 g103).bind fun x104 => (f_L_below y 4 g103).bind fun x105 => (ldI (some fA) x105 g103).bind fun x106 => (f_L_below z 4 g103).bind fun x107 =>
    ((if x107 = 0 then some (1 : Int32) else some (0 : Int32))).bind fun q108 => (rcv 10 (some (Z 0)) g103).bind fun b109 => (f_X9_line b109 x104 x106 q108 g103).bind fun v110 => (if v110.1 ≤ 29 then some v110.2 else none)) = some w ∧ ∃ c' fs', LoS Z b bl xA rA fA T xs rs w c' fs' ∧ SL fA Z 200 8000 g w := by
  obtain ⟨S, h, A1, A2, A3, A4⟩ := L
  have j := h.1
  have hf4 := h.2.2.2.1.1
  obtain ⟨i, i1, i2⟩ := lw_below (n := 4) (by decide) (by decide) y g
  have i2' : ∀ w, f_L_below y 4 w = some (Int32.ofNat i) := fun w => i2
  obtain ⟨n, m1, m2⟩ := lw_below (n := 30) (by decide) (by decide) x g
  obtain ⟨r, r1, r2⟩ := lw_below (n := 4) (by decide) (by decide) z g
  have r2' : ∀ w, f_L_below z 4 w = some (Int32.ofNat r) := fun w => r2
  have st := A4.st (i := i) (by omega) (by omega) (Int32.ofNat n)
  have B4 := A4.set (fs.set i (Int32.ofNat n))
  have B1 := A1.set' (show b ≠ fA by omega) (fs.set i (Int32.ofNat n))
  have B2 := A2.set' (show xA ≠ fA by omega) (fs.set i (Int32.ofNat n))
  have B3 := A3.set' (show rA ≠ fA by omega) (fs.set i (Int32.ofNat n))
  have S1 := S.st A4.2.2.1 A4.2.2.2.1 A4.2.2.2.2 (fs.set i (Int32.ofNat n))
  have s1 : SL fA Z 0 0 g (setA g fA (fs.set i (Int32.ofNat n))) := SL.st (Nat.le_refl _) _
  generalize hg1 : setA g fA (fs.set i (Int32.ofNat n)) = g1 at *
  have ld := B4.ld (Or.inl rfl) (i := i) (by rw [List.length_set]; omega) (by omega)
  rw [List.getD_eq_getElem?_getD, List.getElem?_set_self (by omega)] at ld
  obtain ⟨l, hl⟩ : ∃ l, (lns Z c)[i]? = some l := ⟨_, List.getElem?_eq_getElem (by have := j.n.1.2.1; omega)⟩
  obtain ⟨v, hv, ev⟩ : ∃ v : Int32, (v = 0 ∨ v = 1) ∧ (if Int32.ofNat r = 0 then some (1 : Int32) else some (0 : Int32)) = some v := by
    by_cases h0 : Int32.ofNat r = 0
    · exact ⟨1, Or.inr rfl, if_pos h0⟩
    · exact ⟨0, Or.inl rfl, if_neg h0⟩
  obtain ⟨g', e, S', s', j'⟩ := q_line S1 j hl (u := Int32.ofNat n) (v := v) (n0 (by omega)) ((nLe (b := 99) (by omega) (by decide)).mpr (by omega)) hv
  obtain ⟨k1, o, k2, k3⟩ := h.2.2.2.1.2 i l hl
  have s2 : SL fA Z 200 8000 g g' := (s1.tr s'.sl).up (by omega) (by omega)
  refine ⟨g', ?_, _, fs.set i (Int32.ofNat n), ⟨S', h.fee hl (by omega) j', B1.sp s' (Or.inr (Or.inr (Or.inr rfl))), B2.sp s' (Or.inl rfl), B3.sp s' (Or.inr (Or.inl rfl)), B4.sp s' (Or.inl rfl)⟩, s2⟩
  rw [i2', Option.bind_some, show f_L_below x 30 g = some (Int32.ofNat n) from m2, Option.bind_some, st, Option.bind_some, i2', Option.bind_some, Option.bind_some, ld, Option.bind_some, r2', Option.bind_some, ev, Option.bind_some, rMv S1 j, Option.bind_some]
  show ((f_X9_line (Z 0) (Int32.ofNat i) (Int32.ofNat n) v g1).bind _) = _
  rw [e, Option.bind_some]
  exact if_pos (show fi c 65 l ≤ 29 by rw [k1, k2]; exact (nLe (b := 29) (by omega) (by decide)).mpr k3)
end Law7
