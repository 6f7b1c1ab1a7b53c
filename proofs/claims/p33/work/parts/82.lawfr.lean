/-! The law's frame: its own arrays beside the county; what a step of the law keeps and what it costs. -/
def Arr (Z : Nat → Nat) (g : HP) (t a : Nat) (l : List Int32) : Prop := (tg g a = t ∧ ia g a = l) ∧ a < nx g ∧ a ≠ Z 3 ∧ a ≠ Z 4 ∧ a ≠ Z 5
/-- n: the addresses below n that are the law's keep what they hold -/
def SL (n : Nat) (Z : Nat → Nat) (k m : Nat) (g g' : HP) : Prop :=
  nx g ≤ nx g' ∧ cu g' + pot Z g' ≤ cu g + pot Z g + k ∧ sl g' + 40 * pot Z g' ≤ sl g + 40 * pot Z g + m ∧ ∀ a, lawT (tg g a) → a < n → a < nx g → tg g' a = tg g a ∧ (a ≠ Z 3 → a ≠ Z 4 → a ≠ Z 5 → ia g' a = ia g a ∧ oa g' a = oa g a)
theorem SL.rf {n : Nat} {Z : Nat → Nat} {g : HP} : SL n Z 0 0 g g := ⟨Nat.le_refl _, Nat.le_refl _, Nat.le_refl _, fun _ _ _ _ => ⟨rfl, fun _ _ _ => ⟨rfl, rfl⟩⟩⟩
theorem SL.tr {n : Nat} {Z : Nat → Nat} {k1 m1 k2 m2 : Nat} {g g1 g2 : HP} (h1 : SL n Z k1 m1 g g1) (h2 : SL n Z k2 m2 g1 g2) : SL n Z (k1 + k2) (m1 + m2) g g2 := by
  obtain ⟨a1, a2, a3, a4⟩ := h1
  obtain ⟨b1, b2, b3, b4⟩ := h2
  refine ⟨by omega, by omega, by omega, fun a ha hn hl => ?_⟩
  obtain ⟨c1, c2⟩ := a4 a ha hn hl
  obtain ⟨d1, d2⟩ := b4 a (by rw [c1]; exact ha) hn (by omega)
  exact ⟨d1.trans c1, fun h3 h4 h5 => ⟨(d2 h3 h4 h5).1.trans (c2 h3 h4 h5).1, (d2 h3 h4 h5).2.trans (c2 h3 h4 h5).2⟩⟩
theorem SL.up {n : Nat} {Z : Nat → Nat} {k1 m1 k2 m2 : Nat} {g g1 : HP} (h : SL n Z k1 m1 g g1) (hk : k1 ≤ k2) (hm : m1 ≤ m2) : SL n Z k2 m2 g g1 := by
  obtain ⟨a1, a2, a3, a4⟩ := h
  exact ⟨a1, by omega, by omega, a4⟩
theorem SL.lo {n n' : Nat} {Z : Nat → Nat} {k m : Nat} {g g1 : HP} (h : SL n Z k m g g1) (hn : n' ≤ n) : SL n' Z k m g g1 := by
  obtain ⟨a1, a2, a3, a4⟩ := h
  exact ⟨a1, a2, a3, fun a ha h1 h2 => a4 a ha (by omega) h2⟩
theorem Spd.sl {n : Nat} {Z : Nat → Nat} {k m : Nat} {g g' : HP} (h : Spd Z k m g g') : SL n Z k m g g' := by
  obtain ⟨a1, a2, a3, a4, a5, a6⟩ := h
  refine ⟨a2, ?_, a5, fun a ha _ hl => a6 a ha hl⟩
  unfold cu
  omega
section LawFr
variable {Z : Nat → Nat} {g g' c : HP} {n k m t a : Nat} {l : List Int32}
theorem Arr.sl (A : Arr Z g t a l) (h : SL n Z k m g g') (ht : lawT t) (hn : a < n) : Arr Z g' t a l := by
  obtain ⟨⟨h1, h2⟩, h3, h4, h5, h6⟩ := A
  obtain ⟨a1, a2, a3, a4⟩ := h
  obtain ⟨b1, b2⟩ := a4 a (by rw [h1]; exact ht) hn h3
  exact ⟨⟨b1.trans h1, (b2 h4 h5 h6).1.trans h2⟩, by omega, h4, h5, h6⟩
theorem Arr.sp (A : Arr Z g t a l) (h : Spd Z k m g g') (ht : lawT t) : Arr Z g' t a l := A.sl (n := nx g) h.sl ht A.2.1
theorem Arr.ld (A : Arr Z g t a l) (ht : t = 20 ∨ t = 25) {i : Nat} (hi : i < l.length) (hb : i < 2147483648) : ldI (some a) (Int32.ofNat i) g = some (l.getD i 0) := by
  obtain ⟨⟨h1, h2⟩, _⟩ := A
  show (if (tg g a = 20 ∨ tg g a = 25) ∧ 0 ≤ Int32.ofNat i ∧ (Int32.ofNat i).toNatClampNeg < (ia g a).length then some ((ia g a).getD (Int32.ofNat i).toNatClampNeg 0) else none) = _
  rw [nN hb, h1, h2, if_pos ⟨ht, n0 hb, hi⟩]
theorem Arr.ldz (A : Arr Z g 21 a l) {i : Nat} (hi : i < l.length) (hb : i < 2147483648) : ldZ (some a) (Int32.ofNat i) g = some (l.getD i 0) := by
  obtain ⟨⟨h1, h2⟩, _⟩ := A
  show (if tg g a = 21 ∧ 0 ≤ Int32.ofNat i ∧ (Int32.ofNat i).toNatClampNeg < (ia g a).length then some ((ia g a).getD (Int32.ofNat i).toNatClampNeg 0) else none) = _
  rw [nN hb, h1, h2, if_pos ⟨rfl, n0 hb, hi⟩]
theorem Arr.ln (A : Arr Z g t a l) (ht : t = 20 ∨ t = 21 ∨ t = 25) : lnI (some a) g = some (Int32.ofNat l.length) := by
  obtain ⟨⟨h1, h2⟩, _⟩ := A
  show (if tg g a = 20 ∨ tg g a = 21 ∨ tg g a = 25 then some (Int32.ofNat (ia g a).length) else none) = _
  rw [h1, h2, if_pos ht]
theorem Arr.st (A : Arr Z g 20 a l) {i : Nat} (hi : i < l.length) (hb : i < 2147483648) (v : Int32) : stI (some a) (Int32.ofNat i) v g = some (setA g a (l.set i v)) := by
  obtain ⟨⟨h1, h2⟩, _⟩ := A
  show (if tg g a = 20 ∧ 0 ≤ Int32.ofNat i ∧ (Int32.ofNat i).toNatClampNeg < (ia g a).length then some (setA g a ((ia g a).set (Int32.ofNat i).toNatClampNeg v)) else none) = _
  rw [nN hb, h1, h2, if_pos ⟨rfl, n0 hb, hi⟩]
theorem Arr.stz (A : Arr Z g 21 a l) {i : Nat} (hi : i < l.length) (hb : i < 2147483648) {v : Int32} (hv : v = 0 ∨ v = 1) : stZ (some a) (Int32.ofNat i) v g = some (setA g a (l.set i v)) := by
  obtain ⟨⟨h1, h2⟩, _⟩ := A
  show (if tg g a = 21 ∧ (0 ≤ Int32.ofNat i ∧ (Int32.ofNat i).toNatClampNeg < (ia g a).length) ∧ (v = 0 ∨ v = 1) then some (setA g a ((ia g a).set (Int32.ofNat i).toNatClampNeg v)) else none) = _
  rw [nN hb, h1, h2, if_pos ⟨rfl, ⟨n0 hb, hi⟩, hv⟩]
theorem Arr.set (A : Arr Z g t a l) (l' : List Int32) : Arr Z (setA g a l') t a l' := by
  obtain ⟨⟨h1, h2⟩, h3, h4⟩ := A
  exact ⟨⟨h1, by rw [ia_setA, if_pos rfl]⟩, h3, h4⟩
theorem Arr.set' (A : Arr Z g t a l) {b : Nat} (h : a ≠ b) (l' : List Int32) : Arr Z (setA g b l') t a l := by
  obtain ⟨⟨h1, h2⟩, h3, h4⟩ := A
  exact ⟨⟨h1, by rw [ia_setA, if_neg h]; exact h2⟩, h3, h4⟩
theorem Sim.st (S : Sim Z g c) (h3 : a ≠ Z 3) (h4 : a ≠ Z 4) (h5 : a ≠ Z 5) (l' : List Int32) : Sim Z (setA g a l') c := by
  obtain ⟨s1, s2, s3, s4, s5, s6⟩ := S
  refine ⟨s1, s2, s3, s4, ?_, s6⟩
  rw [ia_setA, ia_setA, ia_setA, if_neg h3.symm, if_neg h4.symm, if_neg h5.symm]
  exact s5
theorem SL.st (h : n ≤ a) (l' : List Int32) : SL n Z 0 0 g (setA g a l') :=
  ⟨Nat.le_refl _, Nat.le_refl _, Nat.le_refl _, fun q _ hn _ => ⟨rfl, fun _ _ _ => ⟨by rw [ia_setA, if_neg (by omega)], rfl⟩⟩⟩
/-- a new array beside the county -/
theorem Sim.nwa (S : Sim Z g c) (t n : Nat) (il : List Int32) (ol : List (Option Nat)) : Sim Z (newG g t n il ol) c := by
  have far : ∀ a, tg c a ≠ 0 → a ≠ nx g := fun a h => S.ne h
  obtain ⟨s1, s2, s3, s4, s5, s6, s7, z1, z2, z3, z4, z5, z6, z7⟩ := S
  have f1 := far (Z 1) (by omega)
  have f2 := far (Z 2) (by omega)
  have f3 := far (Z 3) (by omega)
  have f4 := far (Z 4) (by omega)
  have f5 := far (Z 5) (by omega)
  refine ⟨fun a h => ?_, fun a j h1 h2 h3 => ?_, fun a j h1 h2 => ?_, fun a h1 h2 h3 => ?_, ?_, ?_, ?_, z1, z2, z3, z4, z5, z6, z7⟩
  · rw [tg_newG, if_neg (far a h)]
    exact ⟨(s1 a h).1, Nat.lt_succ_of_lt (s1 a h).2⟩
  · rw [fi_newG, if_neg (far a (by omega))]; exact s2 a j h1 h2 h3
  · rw [fr_newG, if_neg (far a (by omega))]; exact s3 a j h1 h2
  · rw [oa_newG, if_neg (far a (by omega))]; exact s4 a h1 h2 h3
  · rw [ia_newG, ia_newG, ia_newG, if_neg f3, if_neg f4, if_neg f5]; exact s5
  · refine ⟨by rw [oa_newG, if_neg f1]; exact s6.1, ?_⟩
    unfold capL
    rw [fr_newG, if_neg f1]; exact s6.2
  · refine ⟨by rw [oa_newG, if_neg f2]; exact s7.1, ?_⟩
    unfold capL
    rw [fr_newG, if_neg f2]; exact s7.2
theorem pot_new (S : Sim Z g c) (t n : Nat) (il : List Int32) (ol : List (Option Nat)) : pot Z (newG g t n il ol) = pot Z g := by
  have f1 := S.ne (a := Z 1) (by rw [S.2.2.2.2.2.2.2.1]; decide)
  have f2 := S.ne (a := Z 2) (by rw [S.2.2.2.2.2.2.2.2.1]; decide)
  unfold pot capL
  rw [fr_newG, fr_newG, if_neg f1, if_neg f2]
theorem SL.nwa (S : Sim Z g c) (t k : Nat) (il : List Int32) (ol : List (Option Nat)) : SL n Z 1 k g (newG g t k il ol) := by
  have e := pot_new S t k il ol
  have e1 : cu (newG g t k il ol) = cu g + 1 := by show ex g + (nx g + 1) = _; unfold cu; omega
  refine ⟨Nat.le_succ _, by rw [e, e1]; omega, ?_, fun a _ _ hl => ?_⟩
  · rw [e]; show sl g + k + _ ≤ _; omega
  · rw [tg_newG, ia_newG, oa_newG, if_neg (by omega), if_neg (by omega), if_neg (by omega)]
    exact ⟨rfl, fun _ _ _ => ⟨rfl, rfl⟩⟩
theorem Arr.nwa (S : Sim Z g c) (t n : Nat) (il : List Int32) : Arr Z (newG g t n il []) t (nx g) il := by
  refine ⟨⟨by rw [tg_newG, if_pos rfl], by rw [ia_newG, if_pos rfl]⟩, Nat.lt_succ_self _, ?_, ?_, ?_⟩
  · exact (S.ne (a := Z 3) (by rw [S.2.2.2.2.2.2.2.2.2.1]; decide)).symm
  · exact (S.ne (a := Z 4) (by rw [S.2.2.2.2.2.2.2.2.2.2.1]; decide)).symm
  · exact (S.ne (a := Z 5) (by rw [S.2.2.2.2.2.2.2.2.2.2.2.1]; decide)).symm
theorem Arr.nwo (A : Arr Z g t a l) (t' n : Nat) (il : List Int32) (ol : List (Option Nat)) : Arr Z (newG g t' n il ol) t a l := by
  obtain ⟨⟨h1, h2⟩, h3, h4⟩ := A
  exact ⟨⟨by rw [tg_newG, if_neg (by omega)]; exact h1, by rw [ia_newG, if_neg (by omega)]; exact h2⟩, Nat.lt_succ_of_lt h3, h4⟩
theorem nwI_eq (t n : Nat) (g : HP) (hk : n ≤ 30) : nwI t (Int32.ofNat n) g = some (nx g, newG g t n (List.replicate n 0) []) := by
  unfold nwI
  rw [nN (by omega), if_pos ⟨n0 (by omega), by omega⟩]
theorem Sim.bump (S : Sim Z g c) : Sim Z (bump g 1 6 0) c := by
  obtain ⟨s1, s2, s3, s4, s5, s6, s7, z⟩ := S
  exact ⟨fun a h => ⟨(s1 a h).1, Nat.lt_succ_of_lt (s1 a h).2⟩, s2, s3, s4, s5, s6, s7, z⟩
theorem spd_bump : Spd Z 1 6 g (bump g 1 6 0) :=
  ⟨rfl, Nat.le_succ _, Nat.le_add_right _ _, by show nx g + 1 + pot Z g ≤ _; omega, by show sl g + 6 + 40 * pot Z g ≤ _; omega, fun a _ _ => ⟨rfl, fun _ _ _ => ⟨rfl, rfl⟩⟩⟩
/-- what is left over when a number is divided -/
theorem lw_below {n : Nat} (hn : 0 < n) (h31 : n < 2147483648) (x : Int32) (g : HP) : ∃ r, r < n ∧ f_L_below x (Int32.ofNat n) g = some (Int32.ofNat r) := by
  have h0 : ¬ (Int32.ofNat n = 0) := fun z => by have := (nEq (a := n) (b := 0) h31 (by decide)).mp z; omega
  unfold f_L_below
  rw [if_neg h0, Option.bind_some]
  obtain ⟨y, hy⟩ : ∃ y, y = x &&& 2147483647 := ⟨_, rfl⟩
  rw [← hy]
  obtain ⟨v, hv, e⟩ : ∃ v, v < 2147483648 ∧ y = Int32.ofNat v := by
    refine ⟨(x.toBitVec.toNat &&& 2147483647), ?_, ?_⟩
    · have : (x.toBitVec.toNat &&& 2147483647) ≤ 2147483647 := Nat.and_le_right
      omega
    · rw [hy]
      apply Int32.toBitVec_inj.mp
      apply BitVec.eq_of_toNat_eq
      rw [Int32.toBitVec_and, BitVec.toNat_and]
      have h2 : (x.toBitVec.toNat &&& 2147483647) < 2 ^ 32 := Nat.lt_of_le_of_lt Nat.and_le_right (by decide)
      show _ = (BitVec.ofNat 32 (x.toBitVec.toNat &&& 2147483647)).toNat
      rw [BitVec.toNat_ofNat, Nat.mod_eq_of_lt h2]
      rfl
  refine ⟨v - v / n * n, ?_, ?_⟩
  · have h1 := Nat.mod_lt v hn
    have h2 := Nat.div_add_mod v n
    have h3 : v / n * n = n * (v / n) := Nat.mul_comm _ _
    omega
  · rw [e]
    have e1 : Int32.ofNat v / Int32.ofNat n = Int32.ofNat (v / n) := (Int32.ofNat_div hv h31).symm
    have e2 : Int32.ofNat (v / n) * Int32.ofNat n = Int32.ofNat (v / n * n) := (Int32.ofNat_mul _ _).symm
    have e3 : Int32.ofNat v - Int32.ofNat (v / n * n) = Int32.ofNat (v - v / n * n) := nSub (Nat.div_mul_le_self v n)
    rw [e1, e2, e3]
end LawFr
