/-! The county: what lasts of the heap. Z: its fixed addresses: 0 the object, 1 2 the lists of its two trial rows, 3 pieceEnds, 4 aheadOf, 5 isTried, 6 7 the trial rows, 8 the followers, 9 the depot, 10 the rules, 11 .. 16 its lists: places, lines, trips, trips by start, blocks, drivers. -/
def scrF (j : Nat) : Bool := j == 137 || j == 138 || j == 139
def capOK (n : Nat) : Prop := n = 0 ∨ n = 10 ∨ n = 15 ∨ 22 ≤ n
def tlOK (g : HP) (a : Nat) : Prop := (oa g a).length ≤ 16 ∧ capOK (capL g a)
def ZT (Z : Nat → Nat) (c : HP) : Prop := tg c (Z 1) = 1 ∧ tg c (Z 2) = 1 ∧ tg c (Z 3) = 20 ∧ tg c (Z 4) = 20 ∧ tg c (Z 5) = 21 ∧ Z 1 ≠ Z 2 ∧ Z 3 ≠ Z 4
def Sim (Z : Nat → Nat) (g c : HP) : Prop :=
  (∀ a, tg c a ≠ 0 → tg g a = tg c a ∧ a < nx g) ∧
  (∀ a j, 2 ≤ tg c a → tg c a ≤ 11 → (tg c a = 9 → scrF j = false) → fi g j a = fi c j a) ∧
  (∀ a j, 2 ≤ tg c a → tg c a ≤ 11 → fr g j a = fr c j a) ∧
  (∀ a, tg c a = 1 → a ≠ Z 1 → a ≠ Z 2 → oa g a = oa c a) ∧
  ((ia g (Z 3)).length = 16 ∧ (ia g (Z 4)).length = 16 ∧ (ia g (Z 5)).length = 16) ∧ tlOK g (Z 1) ∧ tlOK g (Z 2) ∧ ZT Z c
/-- what the law's own rows keep, and how much room a step takes: k cells, m slots; the trial rows' growth is paid out of pot -/
def pw (n : Nat) : Nat := if 22 ≤ n then 0 else if n = 15 then 1 else if n = 10 then 2 else 3
def pot (Z : Nat → Nat) (g : HP) : Nat := pw (capL g (Z 1)) + pw (capL g (Z 2))
def lawT (t : Nat) : Prop := t = 20 ∨ t = 21 ∨ t = 23 ∨ t = 25
def Spd (Z : Nat → Nat) (k m : Nat) (g g' : HP) : Prop :=
  ex g' = ex g ∧ nx g ≤ nx g' ∧ sl g ≤ sl g' ∧ nx g' + pot Z g' ≤ nx g + pot Z g + k ∧ sl g' + 40 * pot Z g' ≤ sl g + 40 * pot Z g + m ∧
  ∀ a, lawT (tg g a) → a < nx g → tg g' a = tg g a ∧ (a ≠ Z 3 → a ≠ Z 4 → a ≠ Z 5 → ia g' a = ia g a ∧ oa g' a = oa g a)
theorem Spd.rf {Z : Nat → Nat} {g : HP} : Spd Z 0 0 g g := ⟨rfl, Nat.le_refl _, Nat.le_refl _, Nat.le_refl _, Nat.le_refl _, fun _ _ _ => ⟨rfl, fun _ _ _ => ⟨rfl, rfl⟩⟩⟩
theorem Spd.tr {Z : Nat → Nat} {k1 m1 k2 m2 : Nat} {g g1 g2 : HP} (h1 : Spd Z k1 m1 g g1) (h2 : Spd Z k2 m2 g1 g2) : Spd Z (k1 + k2) (m1 + m2) g g2 := by
  obtain ⟨a1, a2, a3, a4, a5, a6⟩ := h1
  obtain ⟨b1, b2, b3, b4, b5, b6⟩ := h2
  refine ⟨b1.trans a1, by omega, by omega, by omega, by omega, fun a ha hl => ?_⟩
  obtain ⟨c1, c2⟩ := a6 a ha hl
  obtain ⟨d1, d2⟩ := b6 a (by rw [c1]; exact ha) (by omega)
  exact ⟨d1.trans c1, fun h3 h4 h5 => ⟨(d2 h3 h4 h5).1.trans (c2 h3 h4 h5).1, (d2 h3 h4 h5).2.trans (c2 h3 h4 h5).2⟩⟩
theorem Spd.up {Z : Nat → Nat} {k1 m1 k2 m2 : Nat} {g g1 : HP} (h : Spd Z k1 m1 g g1) (hk : k1 ≤ k2) (hm : m1 ≤ m2) : Spd Z k2 m2 g g1 := by
  obtain ⟨a1, a2, a3, a4, a5, a6⟩ := h
  exact ⟨a1, a2, a3, by omega, by omega, a6⟩
section Sims
variable {Z : Nat → Nat} {g c : HP}
theorem Sim.tag (S : Sim Z g c) {a n : Nat} (h : tg c a = n + 1) : tg g a = n + 1 := by rw [(S.1 a (by omega)).1, h]
theorem Sim.lt (S : Sim Z g c) {a : Nat} (h : tg c a ≠ 0) : a < nx g := (S.1 a h).2
/-- an int field of an object that is no trip -/
theorem Sim.rdI (S : Sim Z g c) {ci a : Nat} (h : tg c a = ci + 1) (h1 : 1 ≤ ci) (h2 : ci < 11) (h8 : ci ≠ 8) (k : Nat) : gfI ci k (some a) g = some (fi c (16 * ci + k) a) := by
  rw [gfI_eq (S.tag h), S.2.1 a _ (by omega) (by omega) (fun z => absurd z (by omega))]
/-- an int field of a trip that lasts -/
theorem Sim.rdT (S : Sim Z g c) {a : Nat} (h : tg c a = 9) (k : Nat) (hk : scrF (128 + k) = false) : gfI 8 k (some a) g = some (fi c (128 + k) a) := by
  rw [gfI_eq (ci := 8) (S.tag h), S.2.1 a _ (by omega) (by omega) (fun _ => hk)]
/-- of a trip's day -/
theorem Sim.rdD (S : Sim Z g c) {a : Nat} (h : tg c a = 9) (k : Nat) : gfI 8 k (some a) g = some (fi g (128 + k) a) := gfI_eq (ci := 8) (S.tag h)
theorem Sim.rdR (S : Sim Z g c) {ci a : Nat} (h : tg c a = ci + 1) (h1 : 1 ≤ ci) (h2 : ci < 11) (k : Nat) : gfR ci k (some a) g = some (fr c (16 * ci + k) a) := by
  rw [gfR_eq (S.tag h), S.2.2.1 a _ (by omega) (by omega)]
theorem Sim.rc (S : Sim Z g c) {ci a : Nat} (h : tg c a = ci + 1) : rcv ci (some a) g = some a := rcv_eq (S.tag h)
theorem Sim.cs (S : Sim Z g c) {ci a : Nat} (h : tg c a = ci + 1) : cst ci (some a) g = some (some a) := cst_eq (S.tag h)
theorem Sim.sz (S : Sim Z g c) {a : Nat} (h : tg c a = 1) (h1 : a ≠ Z 1) (h2 : a ≠ Z 2) : al_size a g = some (Int32.ofNat (oa c a).length) := by
  unfold al_size
  rw [if_pos (S.tag (n := 0) h), S.2.2.2.1 a h h1 h2]
theorem Sim.at (S : Sim Z g c) {a n : Nat} (h : tg c a = 1) (h1 : a ≠ Z 1) (h2 : a ≠ Z 2) (hn : n < (oa c a).length) (hb : n < 2147483648) : al_get a (Int32.ofNat n) g = some ((oa c a).getD n none) := by
  unfold al_get
  rw [S.2.2.2.1 a h h1 h2, if_pos ⟨S.tag (n := 0) h, n0 hb, by rw [nN hb]; exact hn⟩, nN hb]
/-- the trial rows' lists: what they hold is no part of the county -/
theorem Sim.szT (S : Sim Z g c) {a : Nat} (h : a = Z 1 ∨ a = Z 2) : al_size a g = some (Int32.ofNat (oa g a).length) := by
  unfold al_size
  rw [if_pos (by rcases h with rfl | rfl; exact S.tag (n := 0) S.2.2.2.2.2.2.2.1; exact S.tag (n := 0) S.2.2.2.2.2.2.2.2.1)]
theorem Sim.atT (S : Sim Z g c) {a n : Nat} (h : a = Z 1 ∨ a = Z 2) (hn : n < (oa g a).length) (hb : n < 2147483648) : al_get a (Int32.ofNat n) g = some ((oa g a).getD n none) := by
  have ht : tg g a = 1 := by rcases h with rfl | rfl; exact S.tag (n := 0) S.2.2.2.2.2.2.2.1; exact S.tag (n := 0) S.2.2.2.2.2.2.2.2.1
  unfold al_get
  rw [if_pos ⟨ht, n0 hb, by rw [nN hb]; exact hn⟩, nN hb]
/-- a change of a field that lasts -/
theorem Sim.wI (S : Sim Z g c) {k a : Nat} {v : Int32} : Sim Z (setI g k a v) (setI c k a v) := by
  obtain ⟨s1, s2, s3, s4, s5, s6, s7, s8⟩ := S
  refine ⟨s1, fun x j h1 h2 h3 => ?_, s3, s4, s5, s6, s7, s8⟩
  rw [fi_setI, fi_setI]
  split
  · rfl
  · exact s2 x j h1 h2 h3
theorem Spd.wI {k a : Nat} {v : Int32} : Spd Z 0 0 g (setI g k a v) := ⟨rfl, Nat.le_refl _, Nat.le_refl _, Nat.le_refl _, Nat.le_refl _, fun _ _ _ => ⟨rfl, fun _ _ _ => ⟨rfl, rfl⟩⟩⟩
/-- a change of a trip's day -/
theorem Sim.wD (S : Sim Z g c) {k a : Nat} {v : Int32} (hk : scrF k = true) (ha : tg c a = 9) : Sim Z (setI g k a v) c := by
  obtain ⟨s1, s2, s3, s4, s5, s6, s7, s8⟩ := S
  refine ⟨s1, fun x j h1 h2 h3 => ?_, s3, s4, s5, s6, s7, s8⟩
  rw [fi_setI, if_neg (fun z => by
    have := h3 (by rw [z.2]; exact ha)
    rw [z.1, hk] at this
    cases this)]
  exact s2 x j h1 h2 h3
theorem Sim.wR (S : Sim Z g c) {k a : Nat} {v : Option Nat} (ha : 2 ≤ tg c a) : Sim Z (setR g k a v) (setR c k a v) := by
  obtain ⟨s1, s2, s3, s4, s5, s6, s7, s8⟩ := S
  have n1 : a ≠ Z 1 := fun z => by have := s8.1; rw [z] at ha; omega
  have n2 : a ≠ Z 2 := fun z => by have := s8.2.1; rw [z] at ha; omega
  have e1 : capL (setR g k a v) (Z 1) = capL g (Z 1) := by unfold capL; rw [fr_setR, if_neg (fun z => n1 z.2.symm)]
  have e2 : capL (setR g k a v) (Z 2) = capL g (Z 2) := by unfold capL; rw [fr_setR, if_neg (fun z => n2 z.2.symm)]
  refine ⟨s1, s2, fun x j h1 h2 => ?_, s4, s5, ⟨s6.1, by rw [e1]; exact s6.2⟩, ⟨s7.1, by rw [e2]; exact s7.2⟩, s8⟩
  rw [fr_setR, fr_setR]
  split
  · rfl
  · exact s3 x j h1 h2
theorem Spd.wR (S : Sim Z g c) {k a : Nat} {v : Option Nat} (ha : 2 ≤ tg c a) : Spd Z 0 0 g (setR g k a v) := by
  have s8 := S.2.2.2.2.2.2.2
  have n1 : a ≠ Z 1 := fun z => by have := s8.1; rw [z] at ha; omega
  have n2 : a ≠ Z 2 := fun z => by have := s8.2.1; rw [z] at ha; omega
  have e1 : capL (setR g k a v) (Z 1) = capL g (Z 1) := by unfold capL; rw [fr_setR, if_neg (fun z => n1 z.2.symm)]
  have e2 : capL (setR g k a v) (Z 2) = capL g (Z 2) := by unfold capL; rw [fr_setR, if_neg (fun z => n2 z.2.symm)]
  have ep : pot Z (setR g k a v) = pot Z g := by unfold pot; rw [e1, e2]
  exact ⟨rfl, Nat.le_refl _, Nat.le_refl _, by rw [ep]; exact Nat.le_refl _, by rw [ep]; exact Nat.le_refl _, fun _ _ _ => ⟨rfl, fun _ _ _ => ⟨rfl, rfl⟩⟩⟩
/-- room for one more entry -/
theorem room_eff (b : Nat) (g : HP) : (al_room b g = g) ∨ (¬ (oa g b).length < capL g b ∧ al_room b g = al_grow b (gcap (capL g b)) g) := by
  unfold al_room
  split
  · exact Or.inl rfl
  · rename_i h; exact Or.inr ⟨h, rfl⟩
theorem tg_grow (b n : Nat) (g : HP) (q : Nat) : tg (al_grow b n g) q = if q = nx g then 30 else tg g q := rfl
theorem fi_grow (b n : Nat) (g : HP) (j q : Nat) : fi (al_grow b n g) j q = if q = nx g then 0 else fi g j q := rfl
theorem fr_grow (b n : Nat) (g : HP) (j q : Nat) : fr (al_grow b n g) j q = if j = 2 ∧ q = nx g then some b else if j = 0 ∧ q = b then some n else if q = nx g then none else fr g j q := rfl
theorem oa_grow (b n : Nat) (g : HP) (q : Nat) : oa (al_grow b n g) q = if q = nx g then [] else oa g q := rfl
theorem ia_grow (b n : Nat) (g : HP) (q : Nat) : ia (al_grow b n g) q = if q = nx g then [] else ia g q := rfl
theorem cap_grow_ne {b n : Nat} {g : HP} {q : Nat} (h : q ≠ b) (hn : q ≠ nx g) : capL (al_grow b n g) q = capL g q := by
  unfold capL
  rw [fr_grow, if_neg (by omega), if_neg (fun z => h z.2), if_neg hn]
theorem cap_grow_self {b n : Nat} {g : HP} : capL (al_grow b n g) b = n := by
  unfold capL
  rw [fr_grow, if_neg (by omega), if_pos ⟨rfl, rfl⟩]; rfl
/-- room is made for a list: the county sees nothing of it -/
theorem Sim.grow (S : Sim Z g c) {b n : Nat} (hb : tg c b = 1) (ht : b = Z 1 ∨ b = Z 2 → capOK n) : Sim Z (al_grow b n g) c := by
  obtain ⟨s1, s2, s3, s4, s5, s6, s7, s8⟩ := S
  have far : ∀ a, tg c a ≠ 0 → a ≠ nx g := fun a ha => by have := (s1 a ha).2; omega
  have f1 := far (Z 1) (by rw [s8.1]; omega)
  have f2 := far (Z 2) (by rw [s8.2.1]; omega)
  have cc : ∀ a, (a = Z 1 ∨ a = Z 2) → a ≠ nx g → capOK (capL g a) → capOK (capL (al_grow b n g) a) := fun a hz hn ho => by
    by_cases h : a = b
    · rw [h, cap_grow_self]; exact ht (by rw [← h]; exact hz)
    · rw [cap_grow_ne h hn]; exact ho
  refine ⟨fun a ha => ?_, fun a j h1 h2 h3 => ?_, fun a j h1 h2 => ?_, fun a ha h1 h2 => ?_, ?_, ⟨?_, cc _ (Or.inl rfl) f1 s6.2⟩, ⟨?_, cc _ (Or.inr rfl) f2 s7.2⟩, s8⟩
  · rw [tg_grow, if_neg (far a ha)]
    exact ⟨(s1 a ha).1, Nat.lt_succ_of_lt (s1 a ha).2⟩
  · rw [fi_grow, if_neg (far a (by omega))]; exact s2 a j h1 h2 h3
  · rw [fr_grow, if_neg (fun z => far a (by omega) z.2), if_neg (fun z => by rw [z.2] at h1; omega), if_neg (far a (by omega))]; exact s3 a j h1 h2
  · rw [oa_grow, if_neg (far a (by omega))]; exact s4 a ha h1 h2
  · rw [ia_grow, ia_grow, ia_grow, if_neg (far _ (by rw [s8.2.2.1]; omega)), if_neg (far _ (by rw [s8.2.2.2.1]; omega)), if_neg (far _ (by rw [s8.2.2.2.2.1]; omega))]; exact s5
  · rw [oa_grow, if_neg f1]; exact s6.1
  · rw [oa_grow, if_neg f2]; exact s7.1
theorem Spd.grow (S : Sim Z g c) {b n : Nat} (h1 : b ≠ Z 1) (h2 : b ≠ Z 2) : Spd Z 1 n g (al_grow b n g) := by
  obtain ⟨s1, s2, s3, s4, s5, s6, s7, s8⟩ := S
  have far : ∀ a, tg c a ≠ 0 → a ≠ nx g := fun a ha => by have := (s1 a ha).2; omega
  have e1 : capL (al_grow b n g) (Z 1) = capL g (Z 1) := cap_grow_ne (fun z => h1 z.symm) (far (Z 1) (by rw [s8.1]; omega))
  have e2 : capL (al_grow b n g) (Z 2) = capL g (Z 2) := cap_grow_ne (fun z => h2 z.symm) (far (Z 2) (by rw [s8.2.1]; omega))
  have ep : pot Z (al_grow b n g) = pot Z g := by unfold pot; rw [e1, e2]
  have en : nx (al_grow b n g) = nx g + 1 := rfl
  have es : sl (al_grow b n g) = sl g + n := rfl
  refine ⟨rfl, Nat.le_succ _, Nat.le_add_right _ _, by rw [ep, en]; omega, by rw [ep, es]; omega, fun a ha hl => ?_⟩
  have hne : a ≠ nx g := by omega
  rw [tg_grow, ia_grow, oa_grow, if_neg hne, if_neg hne, if_neg hne]
  exact ⟨rfl, fun _ _ _ => ⟨rfl, rfl⟩⟩
theorem pw_step {n l : Nat} (h : capOK n) (hl : ¬ l < n) (h16 : l ≤ 15) : capOK (gcap n) ∧ pw (gcap n) + 1 ≤ pw n ∧ gcap n ≤ 22 := by
  rcases h with rfl | rfl | rfl | h
  · exact ⟨Or.inr (Or.inl rfl), by decide, by decide⟩
  · exact ⟨Or.inr (Or.inr (Or.inl rfl)), by decide, by decide⟩
  · exact ⟨Or.inr (Or.inr (Or.inr (by decide))), by decide, by decide⟩
  · omega
theorem Spd.growT (S : Sim Z g c) {b : Nat} (hb : b = Z 1 ∨ b = Z 2) (hl : ¬ (oa g b).length < capL g b) (h16 : (oa g b).length ≤ 15) : Spd Z 0 0 g (al_grow b (gcap (capL g b)) g) ∧ capOK (gcap (capL g b)) := by
  obtain ⟨s1, s2, s3, s4, s5, s6, s7, s8⟩ := S
  have far : ∀ a, tg c a ≠ 0 → a ≠ nx g := fun a ha => by have := (s1 a ha).2; omega
  have f1 := far (Z 1) (by rw [s8.1]; omega)
  have f2 := far (Z 2) (by rw [s8.2.1]; omega)
  have hc : capOK (capL g b) := by rcases hb with rfl | rfl; exact s6.2; exact s7.2
  obtain ⟨p1, p2, p3⟩ := pw_step hc hl h16
  have n12 := s8.2.2.2.2.2.1
  have ep : pot Z (al_grow b (gcap (capL g b)) g) + 1 ≤ pot Z g := by
    unfold pot
    rcases hb with rfl | rfl
    · rw [cap_grow_self, cap_grow_ne (fun z => n12 z.symm) f2]; omega
    · rw [cap_grow_self, cap_grow_ne n12 f1]; omega
  have en : nx (al_grow b (gcap (capL g b)) g) = nx g + 1 := rfl
  have es : sl (al_grow b (gcap (capL g b)) g) = sl g + gcap (capL g b) := rfl
  refine ⟨⟨rfl, Nat.le_succ _, Nat.le_add_right _ _, by rw [en]; omega, by rw [es]; omega, fun a ha hl2 => ?_⟩, p1⟩
  have hne : a ≠ nx g := by omega
  rw [tg_grow, ia_grow, oa_grow, if_neg hne, if_neg hne, if_neg hne]
  exact ⟨rfl, fun _ _ _ => ⟨rfl, rfl⟩⟩
/-- a list's new contents -/
theorem Sim.wO (S : Sim Z g c) {b : Nat} {l : List (Option Nat)} (h1 : b ≠ Z 1) (h2 : b ≠ Z 2) : Sim Z (setO g b l) (setO c b l) := by
  obtain ⟨s1, s2, s3, s4, s5, s6, s7, s8⟩ := S
  refine ⟨s1, s2, s3, fun a ha q1 q2 => ?_, s5, ⟨by rw [oa_setO, if_neg (fun z => h1 z.symm)]; exact s6.1, s6.2⟩, ⟨by rw [oa_setO, if_neg (fun z => h2 z.symm)]; exact s7.1, s7.2⟩, s8⟩
  rw [oa_setO, oa_setO]
  split
  · rfl
  · exact s4 a ha q1 q2
theorem Sim.wT (S : Sim Z g c) {b : Nat} {l : List (Option Nat)} (hb : b = Z 1 ∨ b = Z 2) (hl : l.length ≤ 16) : Sim Z (setO g b l) c := by
  obtain ⟨s1, s2, s3, s4, s5, s6, s7, s8⟩ := S
  refine ⟨s1, s2, s3, fun a ha q1 q2 => ?_, s5, ⟨?_, s6.2⟩, ⟨?_, s7.2⟩, s8⟩
  · rw [oa_setO, if_neg (fun z => by rcases hb with h | h; exact q1 (z.trans h); exact q2 (z.trans h))]
    exact s4 a ha q1 q2
  · rw [oa_setO]
    split
    · exact hl
    · exact s6.1
  · rw [oa_setO]
    split
    · exact hl
    · exact s7.1
theorem Spd.wO {b : Nat} {l : List (Option Nat)} (hb : tg g b = 1) : Spd Z 0 0 g (setO g b l) := ⟨rfl, Nat.le_refl _, Nat.le_refl _, Nat.le_refl _, Nat.le_refl _, fun a ha _ => ⟨rfl, fun _ _ _ => ⟨rfl, by
  rw [oa_setO, if_neg (fun z => by rw [z, hb] at ha; unfold lawT at ha; omega)]⟩⟩⟩
theorem okE_of (S : Sim Z g c) {x : Nat} (h1 : 1 ≤ tg c x) (h2 : tg c x ≤ 11) : okE g (some x) = true := by
  show (Nat.ble 1 (tg g x) && Nat.ble (tg g x) 11) = true
  rw [(S.1 x (by omega)).1, Bool.and_eq_true]
  exact ⟨Nat.ble_eq_true_of_le h1, Nat.ble_eq_true_of_le h2⟩
/-- one more entry in a list of the county -/
theorem Sim.add (S : Sim Z g c) {b x : Nat} (hb : tg c b = 1) (h1 : b ≠ Z 1) (h2 : b ≠ Z 2) (hx1 : 1 ≤ tg c x) (hx2 : tg c x ≤ 11) (hl : (oa c b).length ≤ 60) :
    ∃ g', al_add b (some x) g = some (1, g') ∧ Sim Z g' (setO c b (oa c b ++ [some x])) ∧ Spd Z 1 100 g g' ∧ (∀ j a, tg c a ≠ 0 → fi g' j a = fi g j a) := by
  have eo := S.2.2.2.1 b hb h1 h2
  have tb := S.tag (n := 0) hb
  have hbn := S.lt (a := b) (by omega)
  refine ⟨_, by unfold al_add; rw [if_pos ⟨tb, okE_of S hx1 hx2, by rw [eo]; omega⟩], ?_, ?_, ?_⟩
  · rw [eo]
    rcases room_eff b g with h | ⟨_, h⟩
    · rw [h]; exact S.wO h1 h2
    · rw [h]; exact (S.grow hb (fun z => by rcases z with z | z; exact absurd z h1; exact absurd z h2)).wO h1 h2
  · rcases room_eff b g with h | ⟨hf, h⟩
    · rw [h]; exact (Spd.wO tb).up (Nat.zero_le _) (Nat.zero_le _)
    · rw [h]
      have hcap : gcap (capL g b) ≤ 100 := by
        have : capL g b ≤ 60 := by rw [eo] at hf; omega
        unfold gcap
        split
        · omega
        · split <;> omega
      have := (Spd.grow S (n := gcap (capL g b)) h1 h2).tr (Spd.wO (g := al_grow b (gcap (capL g b)) g) (l := oa g b ++ [some x]) (b := b) (by rw [tg_grow, if_neg (by omega)]; exact tb))
      exact this.up (by omega) (by omega)
  · intro j a ha
    have hne : a ≠ nx g := by have := S.lt ha; omega
    rcases room_eff b g with h | ⟨_, h⟩
    · rw [h]; rfl
    · rw [h, fi_setO, fi_grow, if_neg hne]
/-- one more entry in a trial row -/
theorem Sim.addT (S : Sim Z g c) {b x : Nat} (hb : b = Z 1 ∨ b = Z 2) (hx1 : 1 ≤ tg c x) (hx2 : tg c x ≤ 11) (hl : (oa g b).length ≤ 15) :
    ∃ g', al_add b (some x) g = some (1, g') ∧ Sim Z g' c ∧ Spd Z 0 0 g g' ∧ oa g' b = oa g b ++ [some x] ∧ (∀ j a, tg c a ≠ 0 → fi g' j a = fi g j a) ∧ (∀ a, tg c a ≠ 0 → a ≠ b → oa g' a = oa g a) := by
  have tc : tg c b = 1 := by rcases hb with rfl | rfl; exact S.2.2.2.2.2.2.2.1; exact S.2.2.2.2.2.2.2.2.1
  have tb := S.tag (n := 0) tc
  have hbn := S.lt (a := b) (by omega)
  refine ⟨_, by unfold al_add; rw [if_pos ⟨tb, okE_of S hx1 hx2, by omega⟩], ?_, ?_, ?_, ?_, ?_⟩
  · rcases room_eff b g with h | ⟨hf, h⟩
    · rw [h]; exact S.wT hb (by simp; omega)
    · rw [h]; exact (S.grow tc (fun _ => (Spd.growT S hb hf hl).2)).wT hb (by simp; omega)
  · rcases room_eff b g with h | ⟨hf, h⟩
    · rw [h]; exact Spd.wO tb
    · rw [h]
      exact (Spd.growT S hb hf hl).1.tr (Spd.wO (by rw [tg_grow, if_neg (by omega)]; exact tb))
  · rw [oa_setO, if_pos rfl]
  · intro j a ha
    have hne : a ≠ nx g := by have := S.lt ha; omega
    rcases room_eff b g with h | ⟨_, h⟩
    · rw [h]; rfl
    · rw [h, fi_setO, fi_grow, if_neg hne]
  · intro a ha hab
    have hne : a ≠ nx g := by have := S.lt ha; omega
    rcases room_eff b g with h | ⟨_, h⟩
    · rw [h, oa_setO, if_neg hab]
    · rw [h, oa_setO, if_neg hab, oa_grow, if_neg hne]
end Sims
