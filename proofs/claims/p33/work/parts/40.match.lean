/-! The followers: a search by turns, and what it leaves. -/
def tr (T : List Int32) (i : Nat) : Prop := T.getD i 0 ≠ 0
def mt (A : List Int32) (i a : Nat) : Prop := A.getD i 0 = Int32.ofNat a
def AOk (n : Nat) (A : List Int32) : Prop := A.length = 16 ∧ ∀ i, i < 16 → A.getD i 0 = -1 ∨ ∃ a, a < n ∧ mt A i a
def tcnt (T : List Int32) : Nat := ((List.range 16).filter fun i => decide (T.getD i 0 ≠ 0)).length
def InjO (A T : List Int32) : Prop := ∀ i k a, a < 16 → i < 16 → k < 16 → ¬ tr T i → ¬ tr T k → mt A i a → mt A k a → i = k
def ClR (n : Nat) (E : Nat → Nat → Prop) (A : List Int32) (R : Nat → Prop) : Prop := ∀ y, R y → y < 16 ∧ ∃ a, a < n ∧ mt A y a ∧ ∀ z, E a z → R z
def FFno (n : Nat) (E : Nat → Nat → Prop) (A T : List Int32) (a : Nat) (T' : List Int32) : Prop :=
  (∀ i, tr T i → tr T' i) ∧ (∀ z, E a z → tr T' z) ∧ (∀ y, tr T' y → ¬ tr T y → ∃ a', a' < n ∧ mt A y a' ∧ ∀ z, E a' z → tr T' z)
def FFyes (n : Nat) (E : Nat → Nat → Prop) (A T : List Int32) (a : Nat) (A' T' : List Int32) : Prop :=
  AOk n A' ∧ (∀ i, tr T i → A'.getD i 0 = A.getD i 0) ∧ (∀ i, i < 16 → ¬ tr T i → ∀ x, x < 16 → mt A' i x → x = a ∨ ∃ k, k < 16 ∧ ¬ tr T k ∧ mt A k x) ∧ InjO A' T ∧ (∀ R : Nat → Prop, ClR n E A R → ¬ (∀ z, E a z → R z) ∧ ∀ y, R y → A'.getD y 0 = A.getD y 0)
def FFR (n : Nat) (E : Nat → Nat → Prop) (A T : List Int32) (a : Nat) (r : Int32) (A' T' : List Int32) : Prop :=
  A'.length = 16 ∧ T'.length = 16 ∧ ((r = 0 ∧ A' = A ∧ FFno n E A T a T') ∨ (r = 1 ∧ FFyes n E A T a A' T'))
theorem nEq16 {a b : Nat} (ha : a < 16) (hb : b < 16) (h : Int32.ofNat a = Int32.ofNat b) : a = b := (nEq (by omega) (by omega)).mp h
theorem nm1 {a : Nat} (ha : a < 16) : ¬ (Int32.ofNat a = -1) := fun z => by
  have h := n0 (n := a) (by omega)
  rw [z] at h
  exact absurd h (by decide)
theorem tr_lt {T : List Int32} (hT : T.length = 16) {i : Nat} (h : tr T i) : i < 16 := by
  refine Nat.lt_of_not_le fun z => h ?_
  rw [List.getD_eq_getElem?_getD, List.getElem?_eq_none (by omega)]; rfl
theorem getD_set (T : List Int32) (i k : Nat) (v : Int32) (hi : i < T.length) : (T.set i v).getD k 0 = if k = i then v else T.getD k 0 := by
  rw [List.getD_eq_getElem?_getD, List.getElem?_set]
  by_cases h : i = k
  · subst h; simp [hi]
  · rw [if_neg h, if_neg (fun z => h z.symm), List.getD_eq_getElem?_getD]
theorem tr_set {T : List Int32} (hT : T.length = 16) {i k : Nat} (hi : i < 16) : tr (T.set i 1) k ↔ (k = i ∨ tr T k) := by
  unfold tr
  rw [getD_set T i k 1 (by omega)]
  by_cases h : k = i
  · rw [if_pos h]; exact ⟨fun _ => Or.inl h, fun _ => by decide⟩
  · rw [if_neg h]; exact ⟨fun z => Or.inr z, fun z => z.resolve_left h⟩
theorem tcnt_le (T : List Int32) : tcnt T ≤ 16 := Nat.le_trans (List.length_filter_le _ _) (Nat.le_of_eq (List.length_range))
theorem tcnt_mono {T T' : List Int32} (h : ∀ i, tr T i → tr T' i) : tcnt T ≤ tcnt T' := by
  refine subset_len (List.nodup_range.sublist List.filter_sublist) fun x hx => ?_
  rw [List.mem_filter] at hx ⊢
  exact ⟨hx.1, by have := h x (by have := hx.2; simpa [tr] using this); simpa [tr] using this⟩
theorem tcnt_set {T : List Int32} (hT : T.length = 16) {i : Nat} (hi : i < 16) (h : ¬ tr T i) : tcnt T + 1 ≤ tcnt (T.set i 1) := by
  have hn : (i :: (List.range 16).filter fun i => decide (T.getD i 0 ≠ 0)).Nodup := by
    refine List.nodup_cons.mpr ⟨fun z => ?_, List.nodup_range.sublist List.filter_sublist⟩
    rw [List.mem_filter] at z
    exact h (by have := z.2; simpa [tr] using this)
  refine subset_len (m := (List.range 16).filter fun k => decide ((T.set i 1).getD k 0 ≠ 0)) hn fun x hx => ?_
  rw [List.mem_filter]
  rcases List.mem_cons.mp hx with rfl | hx
  · exact ⟨List.mem_range.mpr hi, by have := (tr_set hT (k := x) hi).mpr (Or.inl rfl); simpa [tr] using this⟩
  · rw [List.mem_filter] at hx
    exact ⟨hx.1, by have := (tr_set hT (k := x) hi).mpr (Or.inr (by have := hx.2; simpa [tr] using this)); simpa [tr] using this⟩
/-- the two arrays of the search -/
def st2 (Z : Nat → Nat) (g : HP) (A T : List Int32) : HP := setA (setA g (Z 4) A) (Z 5) T
section St2
variable {Z : Nat → Nat} {g c : HP} {A T : List Int32}
theorem z45 (S : Sim Z g c) : Z 4 ≠ Z 5 ∧ Z 3 ≠ Z 5 ∧ Z 3 ≠ Z 4 := by
  obtain ⟨s1, s2, s3, s4, s5, s6, s7, t1, t2, t3, t4, t5, t6, t7⟩ := S
  exact ⟨fun z => absurd (t4.symm.trans ((congrArg (tg c) z).trans t5)) (by decide), fun z => absurd (t3.symm.trans ((congrArg (tg c) z).trans t5)) (by decide), t7⟩
theorem Sim.wA (S : Sim Z g c) {a : Nat} {l : List Int32} (hl : l.length = 16) : Sim Z (setA g a l) c := by
  obtain ⟨s1, s2, s3, s4, s5, s6⟩ := S
  refine ⟨s1, s2, s3, s4, ⟨?_, ?_, ?_⟩, s6⟩
  all_goals
    rw [ia_setA]
    split
    · exact hl
  · exact s5.1
  · exact s5.2.1
  · exact s5.2.2
theorem Spd.wA (S : Sim Z g c) {a : Nat} {l : List Int32} (ha : a = Z 3 ∨ a = Z 4 ∨ a = Z 5) : Spd Z 0 0 g (setA g a l) :=
  ⟨rfl, Nat.le_refl _, Nat.le_refl _, Nat.le_refl _, Nat.le_refl _, fun x _ _ => ⟨rfl, fun h3 h4 h5 => ⟨by rw [ia_setA, if_neg (by rcases ha with h | h | h <;> rw [h] <;> assumption)], rfl⟩⟩⟩
theorem st2_sim (S : Sim Z g c) (hA : A.length = 16) (hT : T.length = 16) : Sim Z (st2 Z g A T) c := (S.wA hA).wA hT
theorem st2_spd (S : Sim Z g c) (hA : A.length = 16) : Spd Z 0 0 g (st2 Z g A T) := (Spd.wA S (Or.inr (Or.inl rfl))).tr (Spd.wA (S.wA hA) (Or.inr (Or.inr rfl)))
theorem up1_id {α : Type} (f : Nat → α) (k : Nat) : up1 f k (f k) = f := by
  funext x
  unfold up1
  split
  · rename_i h; rw [h]
  · rfl
theorem st2_self : st2 Z g (ia g (Z 4)) (ia g (Z 5)) = g := by
  have e1 : setA g (Z 4) (ia g (Z 4)) = g := by
    show (g.1, g.2.1, g.2.2.1, up1 g.2.2.2.1 (Z 4) (g.2.2.2.1 (Z 4)), g.2.2.2.2) = g
    rw [up1_id]
  unfold st2
  rw [e1]
  show (g.1, g.2.1, g.2.2.1, up1 g.2.2.2.1 (Z 5) (g.2.2.2.1 (Z 5)), g.2.2.2.2) = g
  rw [up1_id]
theorem st2_4 (h : Z 4 ≠ Z 5) (A' : List Int32) : setA (st2 Z g A T) (Z 4) A' = st2 Z g A' T := by
  have e : up1 (up1 (up1 g.2.2.2.1 (Z 4) A) (Z 5) T) (Z 4) A' = up1 (up1 g.2.2.2.1 (Z 4) A') (Z 5) T := by
    funext x
    unfold up1
    by_cases h4 : x = Z 4
    · rw [if_pos h4, if_neg (fun z => h (h4.symm.trans z)), if_pos h4]
    · rw [if_neg h4]
      by_cases h5 : x = Z 5
      · rw [if_pos h5, if_pos h5]
      · rw [if_neg h5, if_neg h4, if_neg h5, if_neg h4]
  show (g.1, g.2.1, g.2.2.1, up1 (up1 (up1 g.2.2.2.1 (Z 4) A) (Z 5) T) (Z 4) A', g.2.2.2.2) = _
  rw [e]; rfl
theorem st2_5 (T' : List Int32) : setA (st2 Z g A T) (Z 5) T' = st2 Z g A T' := by
  have e : up1 (up1 (up1 g.2.2.2.1 (Z 4) A) (Z 5) T) (Z 5) T' = up1 (up1 g.2.2.2.1 (Z 4) A) (Z 5) T' := by
    funext x
    unfold up1
    by_cases h5 : x = Z 5
    · rw [if_pos h5, if_pos h5]
    · rw [if_neg h5, if_neg h5, if_neg h5]
  show (g.1, g.2.1, g.2.2.1, up1 (up1 (up1 g.2.2.2.1 (Z 4) A) (Z 5) T) (Z 5) T', g.2.2.2.2) = _
  rw [e]; rfl
theorem ia_4 (h : Z 4 ≠ Z 5) : ia (st2 Z g A T) (Z 4) = A := by
  unfold st2
  rw [ia_setA, if_neg h, ia_setA, if_pos rfl]
theorem ia_5 : ia (st2 Z g A T) (Z 5) = T := by
  unfold st2
  rw [ia_setA, if_pos rfl]
theorem t_4 (S : Sim Z g c) : tg (st2 Z g A T) (Z 4) = 20 := S.tag (n := 19) S.2.2.2.2.2.2.2.2.2.2.1
theorem t_5 (S : Sim Z g c) : tg (st2 Z g A T) (Z 5) = 21 := S.tag (n := 20) S.2.2.2.2.2.2.2.2.2.2.2.1
theorem r_ldZ (S : Sim Z g c) (hT : T.length = 16) {i : Nat} (hi : i < 16) : ldZ (some (Z 5)) (Int32.ofNat i) (st2 Z g A T) = some (T.getD i 0) := by
  unfold ldZ
  dsimp only
  rw [ia_5, if_pos ⟨t_5 S, n0 (by omega), by rw [nN (by omega)]; omega⟩, nN (by omega)]
theorem r_stZ (S : Sim Z g c) (hT : T.length = 16) {i : Nat} {v : Int32} (hv : v = 0 ∨ v = 1) (hi : i < 16) : stZ (some (Z 5)) (Int32.ofNat i) v (st2 Z g A T) = some (st2 Z g A (T.set i v)) := by
  unfold stZ
  dsimp only
  rw [ia_5, if_pos ⟨t_5 S, ⟨n0 (by omega), by rw [nN (by omega)]; omega⟩, hv⟩, nN (by omega), st2_5]
theorem r_ldI (S : Sim Z g c) (hA : A.length = 16) {i : Nat} (hi : i < 16) : ldI (some (Z 4)) (Int32.ofNat i) (st2 Z g A T) = some (A.getD i 0) := by
  unfold ldI
  dsimp only
  rw [ia_4 (z45 S).1, if_pos ⟨Or.inl (t_4 S), n0 (by omega), by rw [nN (by omega)]; omega⟩, nN (by omega)]
theorem r_stI (S : Sim Z g c) (hA : A.length = 16) {i : Nat} {v : Int32} (hi : i < 16) : stI (some (Z 4)) (Int32.ofNat i) v (st2 Z g A T) = some (st2 Z g (A.set i v) T) := by
  unfold stI
  dsimp only
  rw [ia_4 (z45 S).1, if_pos ⟨t_4 S, n0 (by omega), by rw [nN (by omega)]; omega⟩, nN (by omega), st2_4 (z45 S).1]
theorem r_ln4 (S : Sim Z g c) (hA : A.length = 16) : lnI (some (Z 4)) (st2 Z g A T) = some 16 := by
  unfold lnI
  dsimp only
  rw [if_pos (Or.inl (t_4 S)), ia_4 (z45 S).1, hA]; rfl
theorem r_ln5 (S : Sim Z g c) (hT : T.length = 16) : lnI (some (Z 5)) (st2 Z g A T) = some 16 := by
  unfold lnI
  dsimp only
  rw [if_pos (Or.inr (Or.inl (t_5 S))), ia_5, hT]; rfl
end St2
/-- one trip can follow another -/
def fE (Z : Nat → Nat) (c : HP) (a z : Nat) : Prop := ∃ x y, (tls Z c)[a]? = some x ∧ (tls Z c)[z]? = some y ∧ canF c x y = true
theorem fE_lt {Z : Nat → Nat} {c : HP} {a z : Nat} (h : fE Z c a z) : z < (tls Z c).length := by
  obtain ⟨x, y, h1, h2, h3⟩ := h
  exact (List.getElem?_eq_some_iff.mp h2).1
def FPre (n : Nat) (A T : List Int32) (a : Nat) : Prop := a < n ∧ AOk n A ∧ T.length = 16 ∧ InjO A T ∧ ∀ i, i < 16 → ¬ tr T i → ¬ mt A i a
def FS (Z : Nat → Nat) (c : HP) (d : Nat) : Prop := ∀ a A T dep, FPre (tls Z c).length A T a → dep ≤ tcnt T → d + dep = 20 →
  ∃ r A' T', (∀ g, Sim Z g c → f_X2_findsFollower d (some (Z 13)) (Int32.ofNat a) (some (Z 4)) (some (Z 5)) (Int32.ofNat dep) (st2 Z g A T) = some (r, st2 Z g A' T')) ∧ FFR (tls Z c).length (fE Z c) A T a r A' T'
section Match
variable {Z : Nat → Nat} {c : HP}
theorem ff_free {n : Nat} {E : Nat → Nat → Prop} {A T T1 : List Int32} {a i : Nat} (h16 : n ≤ 16) (P : FPre n A T a) (hT1 : T1.length = 16) (hsub : ∀ k, tr T k → tr T1 k) (hi : i < n) (hni : ¬ tr T1 i) (hE : E a i) (h : A.getD i 0 = -1) :
    FFyes n E A T a (A.set i (Int32.ofNat a)) (T1.set i 1) := by
  obtain ⟨p1, p2, p3, p4, p5⟩ := P
  have hset : ∀ k, (A.set i (Int32.ofNat a)).getD k 0 = if k = i then Int32.ofNat a else A.getD k 0 := fun k => getD_set A i k _ (by have := p2.1; omega)
  have hne : ∀ k, k ≠ i → (A.set i (Int32.ofNat a)).getD k 0 = A.getD k 0 := fun k hk => by rw [hset, if_neg hk]
  have hat : (A.set i (Int32.ofNat a)).getD i 0 = Int32.ofNat a := by rw [hset, if_pos rfl]
  refine ⟨⟨by rw [List.length_set]; exact p2.1, fun k hk => ?_⟩, fun k hk => hne k fun z => hni (z ▸ hsub k hk), fun k hk hkt x hx hm => ?_, fun k l x hx hk hl hkt hlt h1 h2 => ?_, fun R hR => ⟨fun z => ?_, fun y hy => hne y fun z => ?_⟩⟩
  · by_cases e : k = i
    · exact Or.inr ⟨a, p1, by unfold mt; rw [e]; exact hat⟩
    · rcases p2.2 k hk with h3 | ⟨b, h3, h4⟩
      · exact Or.inl (by rw [hne k e]; exact h3)
      · exact Or.inr ⟨b, h3, by unfold mt; rw [hne k e]; exact h4⟩
  · by_cases e : k = i
    · left
      unfold mt at hm
      rw [e, hat] at hm
      exact (nEq16 (by omega) hx hm).symm
    · right
      unfold mt at hm
      rw [hne k e] at hm
      exact ⟨k, hk, hkt, hm⟩
  · unfold mt at h1 h2
    by_cases e : k = i
    · by_cases e2 : l = i
      · rw [e, e2]
      · rw [e, hat] at h1
        rw [hne l e2, ← h1] at h2
        exact absurd h2 (p5 l hl hlt)
    · by_cases e2 : l = i
      · rw [e2, hat] at h2
        rw [hne k e, ← h2] at h1
        exact absurd h1 (p5 k hk hkt)
      · rw [hne k e] at h1
        rw [hne l e2] at h2
        exact p4 k l x hx hk hl hkt hlt h1 h2
  · obtain ⟨q1, b, q2, q3, q4⟩ := hR i (z i hE)
    unfold mt at q3
    rw [h] at q3
    exact nm1 (by omega) q3.symm
  · obtain ⟨q1, b, q2, q3, q4⟩ := hR y hy
    unfold mt at q3
    rw [z, h] at q3
    exact nm1 (by omega) q3.symm
theorem ff_turn {n : Nat} {E : Nat → Nat → Prop} {A T T1 A1 T3 : List Int32} {a a2 i : Nat} (h16 : n ≤ 16) (P : FPre n A T a) (hT1 : T1.length = 16) (hsub : ∀ k, tr T k → tr T1 k) (hi : i < n) (hni : ¬ tr T1 i) (hE : E a i) (ha2 : a2 < n) (h : mt A i a2)
    (Y : FFyes n E A (T1.set i 1) a2 A1 T3) : FFyes n E A T a (A1.set i (Int32.ofNat a)) T3 := by
  obtain ⟨p1, p2, p3, p4, p5⟩ := P
  obtain ⟨y1, y2, y3, y4, y5⟩ := Y
  have hset : ∀ k, (A1.set i (Int32.ofNat a)).getD k 0 = if k = i then Int32.ofNat a else A1.getD k 0 := fun k => getD_set A1 i k _ (by have := y1.1; omega)
  have hne : ∀ k, k ≠ i → (A1.set i (Int32.ofNat a)).getD k 0 = A1.getD k 0 := fun k hk => by rw [hset, if_neg hk]
  have hat : (A1.set i (Int32.ofNat a)).getD i 0 = Int32.ofNat a := by rw [hset, if_pos rfl]
  have ts : ∀ k, tr (T1.set i 1) k ↔ (k = i ∨ tr T1 k) := fun k => tr_set hT1 (by omega)
  have hnT : ¬ tr T i := fun z => hni (hsub i z)
  have hold : ∀ k, k ≠ i → tr T1 k → A1.getD k 0 = A.getD k 0 := fun k hk ht => y2 k ((ts k).mpr (Or.inr ht))
  -- what a place outside may hold now
  have hval : ∀ k, k < 16 → ¬ tr T k → k ≠ i → ∀ x, x < 16 → mt A1 k x → ∃ l, l < 16 ∧ ¬ tr T l ∧ mt A l x ∧ (tr T1 k → l = k) ∧ (¬ tr T1 k → l = i ∨ ¬ tr (T1.set i 1) l) := fun k hk hkt hki x hx hm => by
    by_cases ht : tr T1 k
    · have := hold k hki ht
      unfold mt at hm
      rw [this] at hm
      exact ⟨k, hk, hkt, hm, fun _ => rfl, fun z => absurd ht z⟩
    · rcases y3 k hk (fun z => ((ts k).mp z).elim hki ht) x hx hm with rfl | ⟨l, l1, l2, l3⟩
      · exact ⟨i, by omega, hnT, h, fun z => absurd z ht, fun _ => Or.inl rfl⟩
      · exact ⟨l, l1, fun z => l2 ((ts l).mpr (Or.inr (hsub l z))), l3, fun z => absurd z ht, fun _ => Or.inr l2⟩
  refine ⟨⟨by rw [List.length_set]; exact y1.1, fun k hk => ?_⟩, fun k hk => ?_, fun k hk hkt x hx hm => ?_, fun k l x hx hk hl hkt hlt h1 h2 => ?_, fun R hR => ?_⟩
  · by_cases e : k = i
    · exact Or.inr ⟨a, p1, by unfold mt; rw [e]; exact hat⟩
    · rcases y1.2 k hk with h3 | ⟨b, h3, h4⟩
      · exact Or.inl (by rw [hne k e]; exact h3)
      · exact Or.inr ⟨b, h3, by unfold mt; rw [hne k e]; exact h4⟩
  · have e : k ≠ i := fun z => hnT (z ▸ hk)
    rw [hne k e]
    exact hold k e (hsub k hk)
  · by_cases e : k = i
    · left
      unfold mt at hm
      rw [e, hat] at hm
      exact (nEq16 (by omega) hx hm).symm
    · right
      unfold mt at hm
      rw [hne k e] at hm
      obtain ⟨l, l1, l2, l3, _⟩ := hval k hk hkt e x hx hm
      exact ⟨l, l1, l2, l3⟩
  · have far : ∀ m, m < 16 → ¬ tr T m → m ≠ i → mt (A1.set i (Int32.ofNat a)) m x → mt (A1.set i (Int32.ofNat a)) i x → False := fun m hm hmt hmi q1 q2 => by
      unfold mt at q1 q2
      rw [hat] at q2
      rw [hne m hmi] at q1
      obtain ⟨l, l1, l2, l3, _⟩ := hval m hm hmt hmi x hx q1
      unfold mt at l3
      rw [← q2] at l3
      exact p5 l l1 l2 l3
    by_cases e : k = i
    · by_cases e2 : l = i
      · rw [e, e2]
      · exact (far l hl hlt e2 h2 (e ▸ h1)).elim
    · by_cases e2 : l = i
      · exact (far k hk hkt e h1 (e2 ▸ h2)).elim
      · have h1' : mt A1 k x := by unfold mt at h1 ⊢; rw [hne k e] at h1; exact h1
        have h2' : mt A1 l x := by unfold mt at h2 ⊢; rw [hne l e2] at h2; exact h2
        by_cases t1 : tr T1 k
        · by_cases t2 : tr T1 l
          · have q1 := hold k e t1
            have q2 := hold l e2 t2
            unfold mt at h1' h2'
            rw [q1] at h1'
            rw [q2] at h2'
            exact p4 k l x hx hk hl hkt hlt h1' h2'
          · obtain ⟨u, u1, u2, u3, _, u5⟩ := hval l hl hlt e2 x hx h2'
            have q1 := hold k e t1
            unfold mt at h1'
            rw [q1] at h1'
            have : k = u := p4 k u x hx hk u1 hkt u2 h1' u3
            rcases u5 t2 with z | z
            · exact absurd (this.trans z) e
            · exact absurd ((ts u).mpr (Or.inr (this ▸ t1))) z
        · by_cases t2 : tr T1 l
          · obtain ⟨u, u1, u2, u3, _, u5⟩ := hval k hk hkt e x hx h1'
            have q1 := hold l e2 t2
            unfold mt at h2'
            rw [q1] at h2'
            have : l = u := p4 l u x hx hl u1 hlt u2 h2' u3
            rcases u5 t1 with z | z
            · exact absurd (this.trans z) e2
            · exact absurd ((ts u).mpr (Or.inr (this ▸ t2))) z
          · exact y4 k l x hx hk hl (fun z => ((ts k).mp z).elim e t1) (fun z => ((ts l).mp z).elim e2 t2) h1' h2'
  · obtain ⟨r1, r2⟩ := y5 R hR
    have hRi : ¬ R i := fun z => by
      obtain ⟨q1, b, q2, q3, q4⟩ := hR i z
      unfold mt at q3 h
      rw [h] at q3
      have := nEq16 (by omega) (by omega) q3
      exact r1 (by rw [this]; exact q4)
    refine ⟨fun z => hRi (z i hE), fun y hy => ?_⟩
    rw [hne y fun z => hRi (z ▸ hy)]
    exact r2 y hy
/-- what a search that goes on knows -/
def LInv (n : Nat) (E : Nat → Nat → Prop) (A T : List Int32) (a i : Nat) (T1 : List Int32) : Prop :=
  T1.length = 16 ∧ (∀ k, tr T k → tr T1 k) ∧ (∀ z, z < i → E a z → tr T1 z) ∧ (∀ y, tr T1 y → ¬ tr T y → ∃ a', a' < n ∧ mt A y a' ∧ ∀ z, E a' z → tr T1 z)
theorem ff_loop (j : J Z c) {d a dep : Nat} {A T : List Int32} (ih : FS Z c d) (P : FPre (tls Z c).length A T a) (hdep : dep ≤ tcnt T) (hd : d + (dep + 1) = 20) {x : Nat} (hx : (tls Z c)[a]? = some x) :
    ∀ (m i : Nat) (T1 : List Int32), (tls Z c).length - i < m → i ≤ (tls Z c).length → LInv (tls Z c).length (fE Z c) A T a i T1 →
    ∃ r A' T', (∀ g, Sim Z g c → f_X2_findsFollower_L50 (f_X2_findsFollower d) (Z 13) (Int32.ofNat a) (some (Z 4)) (some (Z 5)) (Int32.ofNat dep) (some x) (Int32.ofNat (tls Z c).length) m (Int32.ofNat i) (st2 Z g A T1) = some (r, st2 Z g A' T')) ∧ FFR (tls Z c).length (fE Z c) A T a r A' T' := by
  intro m
  induction m with
  | zero => intro i T1 hm; omega
  | succ m ihm =>
    intro i T1 hm hi I
    obtain ⟨i1, i2, i3, i4⟩ := I
    have h16 := j.t.1
    have hL := j.l.2.2.1
    have hA := P.2.1.1
    by_cases hc : (tls Z c).length ≤ i
    · refine ⟨0, A, T1, fun g S => ?_, hA, i1, Or.inl ⟨rfl, rfl, i2, fun z hz => i3 z (by have := fE_lt hz; omega) hz, i4⟩⟩
      rw [f_X2_findsFollower_L50, if_pos ((nLe (by omega) (by omega)).mpr hc)]
    · have hlt : i < (tls Z c).length := by omega
      have hi16 : i < 16 := by omega
      have hcn : ¬ (Int32.ofNat (tls Z c).length ≤ Int32.ofNat i) := fun z => hc ((nLe (by omega) (by omega)).mp z)
      have e1 : Int32.ofNat i + 1 = Int32.ofNat (i + 1) := nAdd i 1
      by_cases ht : tr T1 i
      · obtain ⟨r, A', T', k1, k2⟩ := ihm (i + 1) T1 (by omega) (by omega) ⟨i1, i2, fun z hz hE => by
          by_cases e : z = i
          · rw [e]; exact ht
          · exact i3 z (by omega) hE, i4⟩
        refine ⟨r, A', T', fun g S => ?_, k2⟩
        rw [f_X2_findsFollower_L50, if_neg hcn, r_ldZ S i1 hi16, Option.bind_some, if_neg (show ¬ T1.getD i 0 = 0 from ht), e1]
        exact k1 g S
      · have ht0 : T1.getD i 0 = 0 := Decidable.not_not.mp ht
        obtain ⟨y, hy⟩ : ∃ y, (tls Z c)[i]? = some y := ⟨_, List.getElem?_eq_getElem hlt⟩
        have hyT := j.isT (List.mem_of_getElem? hy)
        have hxT := j.isT (List.mem_of_getElem? hx)
        have rd : ∀ g, Sim Z g c → ∀ K : Int32 → Option (Int32 × HP), ((rcv 0 (some (Z 13)) (st2 Z g A T1)).bind fun b11 => (al_get b11 (Int32.ofNat i) (st2 Z g A T1)).bind fun r12 => (cst 8 r12 (st2 Z g A T1)).bind fun r13 => (rcv 8 r13 (st2 Z g A T1)).bind fun b14 => (f_X7_canFollow b14 (some x) (st2 Z g A T1)).bind K) = K (b32 (canF c x y)) := fun g S K => by
          have S2 := st2_sim S hA i1
          rw [hL.rc S2, Option.bind_some, hL.gt S2 j.gg (by decide) (by decide) hy, Option.bind_some, S2.cs (ci := 8) hyT.1, Option.bind_some, S2.rc (ci := 8) hyT.1, Option.bind_some, r_canFollow S2 hyT hxT, Option.bind_some]
        by_cases hF : canF c x y = true
        · have hE : fE Z c a i := ⟨x, y, hx, hy, hF⟩
          have b1 : ¬ (b32 (canF c x y) = 0) := by rw [hF]; decide
          rcases P.2.1.2 i hi16 with hfree | ⟨a2, ha2, hm2⟩
          · refine ⟨1, A.set i (Int32.ofNat a), T1.set i 1, fun g S => ?_, by rw [List.length_set]; exact hA, by rw [List.length_set]; exact i1, Or.inr ⟨rfl, ff_free h16 P i1 i2 hlt ht hE hfree⟩⟩
            rw [f_X2_findsFollower_L50, if_neg hcn, r_ldZ S i1 hi16, Option.bind_some, if_pos ht0, rd g S, if_neg b1, r_stZ S i1 (Or.inr rfl) hi16, Option.bind_some, r_ldI S hA hi16, Option.bind_some, if_pos hfree, r_stI S hA hi16, Option.bind_some]
          · have hT2 : (T1.set i 1).length = 16 := by rw [List.length_set]; exact i1
            have ts : ∀ k, tr (T1.set i 1) k ↔ (k = i ∨ tr T1 k) := fun k => tr_set i1 hi16
            have P2 : FPre (tls Z c).length A (T1.set i 1) a2 := ⟨ha2, P.2.1, hT2, fun k l q hq hk hl hkt hlt => P.2.2.2.1 k l q hq hk hl (fun z => hkt ((ts k).mpr (Or.inr (i2 k z)))) (fun z => hlt ((ts l).mpr (Or.inr (i2 l z)))), fun k hk hkt hmk => by
              have : k = i := P.2.2.2.1 k i a2 (by omega) hk hi16 (fun z => hkt ((ts k).mpr (Or.inr (i2 k z)))) (fun z => ht (i2 i z)) hmk hm2
              exact hkt ((ts k).mpr (Or.inl this))⟩
            have hd2 : dep + 1 ≤ tcnt (T1.set i 1) := by
              have := tcnt_set i1 hi16 ht
              have := tcnt_mono i2
              omega
            obtain ⟨r, A', T', k1, k2, k3, k4⟩ := ih a2 A (T1.set i 1) (dep + 1) P2 hd2 hd
            have hm2' : A.getD i 0 = Int32.ofNat a2 := hm2
            have hnf : ¬ (A.getD i 0 = -1) := by rw [hm2']; exact nm1 (by omega)
            have ed : Int32.ofNat dep + 1 = Int32.ofNat (dep + 1) := nAdd dep 1
            have go : ∀ g, Sim Z g c → f_X2_findsFollower_L50 (f_X2_findsFollower d) (Z 13) (Int32.ofNat a) (some (Z 4)) (some (Z 5)) (Int32.ofNat dep) (some x) (Int32.ofNat (tls Z c).length) (m + 1) (Int32.ofNat i) (st2 Z g A T1) =
                (if r = 0 then f_X2_findsFollower_L50 (f_X2_findsFollower d) (Z 13) (Int32.ofNat a) (some (Z 4)) (some (Z 5)) (Int32.ofNat dep) (some x) (Int32.ofNat (tls Z c).length) m (Int32.ofNat (i + 1)) (st2 Z g A' T') else some (1, st2 Z g (A'.set i (Int32.ofNat a)) T')) := fun g S => by
              rw [f_X2_findsFollower_L50, if_neg hcn, r_ldZ S i1 hi16, Option.bind_some, if_pos ht0, rd g S, if_neg b1, r_stZ S i1 (Or.inr rfl) hi16, Option.bind_some, r_ldI S hA hi16, Option.bind_some, if_neg hnf, Option.bind_some, hm2', ed, k1 g S, Option.bind_some, e1]
              by_cases hr : r = 0
              · rw [if_pos hr, if_pos hr]
              · rw [if_neg hr, if_neg hr, r_stI S k2 hi16, Option.bind_some]
            rcases k4 with ⟨hr, hAA, n1, n2, n3⟩ | ⟨hr, Y⟩
            · obtain ⟨r', A'', T'', l1, l2⟩ := ihm (i + 1) T' (by omega) (by omega) ⟨k3, fun k hk => n1 k ((ts k).mpr (Or.inr (i2 k hk))), fun z hz hEz => by
                by_cases e : z = i
                · rw [e]; exact n1 i ((ts i).mpr (Or.inl rfl))
                · exact n1 z ((ts z).mpr (Or.inr (i3 z (by omega) hEz))), fun y hy hyT => by
                by_cases t2 : tr (T1.set i 1) y
                · rcases (ts y).mp t2 with rfl | t1
                  · exact ⟨a2, ha2, hm2, n2⟩
                  · obtain ⟨a', q1, q2, q3⟩ := i4 y t1 hyT
                    exact ⟨a', q1, q2, fun z hz => n1 z ((ts z).mpr (Or.inr (q3 z hz)))⟩
                · exact n3 y hy t2⟩
              refine ⟨r', A'', T'', fun g S => ?_, l2⟩
              rw [go g S, if_pos hr, hAA]
              exact l1 g S
            · refine ⟨1, A'.set i (Int32.ofNat a), T', fun g S => ?_, by rw [List.length_set]; exact k2, k3, Or.inr ⟨rfl, ff_turn h16 P i1 i2 hlt ht hE ha2 hm2 Y⟩⟩
              rw [go g S, if_neg (by rw [hr]; decide)]
        · obtain ⟨r, A', T', k1, k2⟩ := ihm (i + 1) T1 (by omega) (by omega) ⟨i1, i2, fun z hz hE => by
            by_cases e : z = i
            · obtain ⟨x', y', q1, q2, q3⟩ := hE
              rw [e, hy] at q2
              rw [hx] at q1
              cases q1
              cases q2
              exact absurd q3 hF
            · exact i3 z (by omega) hE, i4⟩
          refine ⟨r, A', T', fun g S => ?_, k2⟩
          have b0 : b32 (canF c x y) = 0 := by
            unfold b32
            rw [if_neg hF]
          rw [f_X2_findsFollower_L50, if_neg hcn, r_ldZ S i1 hi16, Option.bind_some, if_pos ht0, rd g S, if_pos b0, e1]
          exact k1 g S
theorem ff_all (j : J Z c) : ∀ d, FS Z c d := by
  intro d
  induction d with
  | zero =>
    intro a A T dep P hdep hd
    have := tcnt_le T
    omega
  | succ d ih =>
    intro a A T dep P hdep hd
    have h16 := j.t.1
    have hL := j.l.2.2.1
    have ht := tcnt_le T
    have ha := P.1
    obtain ⟨x, hx⟩ : ∃ x, (tls Z c)[a]? = some x := ⟨_, List.getElem?_eq_getElem ha⟩
    obtain ⟨r, A', T', k1, k2⟩ := ff_loop j ih P hdep (by omega) hx FU 0 T (by show _ < 4096; omega) (Nat.zero_le _) ⟨P.2.2.1, fun _ h => h, fun z hz => absurd hz (Nat.not_lt_zero _), fun y h1 h2 => absurd h1 h2⟩
    refine ⟨r, A', T', fun g S => ?_, k2⟩
    have S2 := st2_sim S P.2.1.1 P.2.2.1
    have hn16 : (if (if (16 : Int32) < 16 then (16 : Int32) else 16) < Int32.ofNat (tls Z c).length then (if (16 : Int32) < 16 then (16 : Int32) else 16) else Int32.ofNat (tls Z c).length) = Int32.ofNat (tls Z c).length := by
      rw [if_neg (show ¬ (16 : Int32) < 16 by decide), if_neg (fun z => by have := (nLt (a := 16) (b := (tls Z c).length) (by omega) (by omega)).mp z; omega)]
    rw [f_X2_findsFollower, if_neg (fun z => by have := (nLt (a := 16) (b := dep) (by omega) (by omega)).mp z; omega), if_neg (Int32.not_lt.mpr (n0 (by omega))), hL.rc S2, Option.bind_some, sTL S2 j, Option.bind_some, if_pos ((nLt (by omega) (by omega)).mpr ha), hL.rc S2, Option.bind_some, hL.gt S2 j.gg (by decide) (by decide) hx, Option.bind_some, S2.cs (ci := 8) (hL.tg hx), Option.bind_some, Option.bind_some, sTL S2 j, Option.bind_some, r_ln4 S P.2.1.1, Option.bind_some, r_ln5 S P.2.2.1, Option.bind_some, hn16]
    exact k1 g S
end Match
