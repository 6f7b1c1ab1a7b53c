/-! There are no fewer blocks than there have to be. -/
theorem nodup_map_on {l : List Nat} {f : Nat → Nat} (hi : ∀ x ∈ l, ∀ y ∈ l, f x = f y → x = y) (h : l.Nodup) : (l.map f).Nodup := by
  induction l with
  | nil => exact List.nodup_nil
  | cons x xs ih =>
    have h' := List.nodup_cons.mp h
    rw [List.map_cons]
    refine List.nodup_cons.mpr ⟨fun z => ?_, ih (fun a ha b hb => hi a (List.mem_cons_of_mem _ ha) b (List.mem_cons_of_mem _ hb)) h'.2⟩
    obtain ⟨y, hy, he⟩ := List.mem_map.mp z
    have := hi y (List.mem_cons_of_mem _ hy) x List.mem_cons_self he
    exact h'.1 (this ▸ hy)
theorem nodup_app {l m : List Nat} (h1 : l.Nodup) (h2 : m.Nodup) (h : ∀ x ∈ l, x ∉ m) : (l ++ m).Nodup := List.nodup_append.mpr ⟨h1, h2, fun a ha b hb e => h a ha (e ▸ hb)⟩
theorem filter_two (p : Nat → Bool) : ∀ l : List Nat, l.length = (l.filter p).length + (l.filter fun x => !p x).length
  | [] => rfl
  | x :: xs => by
    have := filter_two p xs
    cases hp : p x
    · rw [List.filter_cons_of_neg (by simp [hp]), List.filter_cons_of_pos (by simp [hp]), List.length_cons, List.length_cons]; omega
    · rw [List.filter_cons_of_pos hp, List.filter_cons_of_neg (by simp [hp]), List.length_cons, List.length_cons]; omega
def T0 : List Int32 := List.replicate 16 0
theorem ntr0 (i : Nat) : ¬ tr T0 i := fun z => z (by
  unfold T0
  rw [List.getD_eq_getElem?_getD, List.getElem?_replicate]
  split <;> rfl)
/-- a search was made for each of the first i; p were found -/
def MInv (n : Nat) (E : Nat → Nat → Prop) (A : List Int32) (i p : Nat) : Prop :=
  AOk n A ∧ InjO A T0 ∧ ∃ (F : List Nat) (R : Nat → Prop), F.Nodup ∧ (∀ f ∈ F, f < i) ∧ F.length + p = i ∧ ClR n E A R ∧ (∀ f ∈ F, ∀ z, E f z → R z) ∧ (∀ k a, k < 16 → a < 16 → mt A k a → a < i ∧ a ∉ F)
theorem match_bound {n p : Nat} {E : Nat → Nat → Prop} {A : List Int32} (h16 : n ≤ 16) (M : MInv n E A n p) {σ : Nat → Option Nat} (hσ : ∀ a z, σ a = some z → a < n ∧ E a z) (hinj : ∀ a b z, σ a = some z → σ b = some z → a = b) :
    ((List.range n).filter fun a => decide (σ a ≠ none)).length ≤ p := by
  obtain ⟨m1, m2, F, R, f1, f2, f3, f4, f5, f6⟩ := M
  have dec : ∀ x, Decidable (R x) := fun x => Classical.propDecidable _
  let al : Nat → Nat := fun y => (A.getD y 0).toNatClampNeg
  let Rl := (List.range 16).filter fun y => @decide (R y) (dec y)
  have hRl : ∀ y, y ∈ Rl ↔ y < 16 ∧ R y := fun y => by
    show y ∈ (List.range 16).filter _ ↔ _
    rw [List.mem_filter, List.mem_range, decide_eq_true_iff]
  have hal : ∀ y a, a < 16 → mt A y a → al y = a := fun y a ha h => by
    show (A.getD y 0).toNatClampNeg = a
    unfold mt at h
    rw [h, nN (by omega)]
  have hR : ∀ y, y ∈ Rl → al y < n ∧ mt A y (al y) ∧ ∀ z, E (al y) z → R z := fun y hy => by
    obtain ⟨q1, a, q2, q3, q4⟩ := f4 y ((hRl y).mp hy).2
    rw [hal y a (by omega) q3]
    exact ⟨q2, q3, q4⟩
  have nR : Rl.Nodup := List.nodup_range.sublist List.filter_sublist
  let X := F ++ Rl.map al
  have nX : X.Nodup := nodup_app f1 (nodup_map_on (fun x hx y hy he => by
      obtain ⟨a1, a2, _⟩ := hR x hx
      obtain ⟨b1, b2, _⟩ := hR y hy
      rw [← he] at b2
      exact m2 x y (al x) (by omega) ((hRl x).mp hx).1 ((hRl y).mp hy).1 (ntr0 x) (ntr0 y) a2 b2) nR) (fun x hx z => by
      obtain ⟨y, hy, he⟩ := List.mem_map.mp z
      obtain ⟨b1, b2, _⟩ := hR y hy
      rw [he] at b2
      exact (f6 y x ((hRl y).mp hy).1 (by have := f2 x hx; omega) b2).2 hx)
  have lX : ∀ x ∈ X, x < n := fun x hx => by
    rcases List.mem_append.mp hx with h | h
    · exact f2 x h
    · obtain ⟨y, hy, he⟩ := List.mem_map.mp h
      rw [← he]
      exact (hR y hy).1
  have eX : ∀ x ∈ X, ∀ z, E x z → R z := fun x hx z hz => by
    rcases List.mem_append.mp hx with h | h
    · exact f5 x h z hz
    · obtain ⟨y, hy, he⟩ := List.mem_map.mp h
      exact (hR y hy).2.2 z (by rw [he]; exact hz)
  let D := (List.range n).filter fun a => decide (σ a ≠ none)
  have hD : ∀ a ∈ D, ∃ z, σ a = some z := fun a ha => by
    have := (List.mem_filter.mp ha).2
    cases h : σ a with
    | none => rw [h] at this; exact absurd this (by decide)
    | some z => exact ⟨z, rfl⟩
  have nD : D.Nodup := List.nodup_range.sublist List.filter_sublist
  have h12 := filter_two (fun a => decide (a ∈ X)) D
  have l1 : (D.filter fun a => decide (a ∈ X)).length ≤ Rl.length := by
    have := subset_len (l := (D.filter fun a => decide (a ∈ X)).map fun a => (σ a).getD 0) (m := Rl) (nodup_map_on (fun x hx y hy he => by
      obtain ⟨u, hu⟩ := hD x (List.mem_filter.mp hx).1
      obtain ⟨v, hv⟩ := hD y (List.mem_filter.mp hy).1
      rw [hu, hv] at he
      have he' : u = v := he
      rw [← he'] at hv
      exact hinj x y u hu hv) (nD.sublist List.filter_sublist)) (fun z hz => by
      obtain ⟨x, hx, he⟩ := List.mem_map.mp hz
      obtain ⟨u, hu⟩ := hD x (List.mem_filter.mp hx).1
      rw [hu] at he
      have he' : u = z := he
      rw [he'] at hu
      have hRz := eX x (by have := (List.mem_filter.mp hx).2; simpa using this) z (hσ x z hu).2
      exact (hRl z).mpr ⟨(f4 z hRz).1, hRz⟩)
    rwa [List.length_map] at this
  have l2 := subset_len (l := (D.filter fun a => !decide (a ∈ X)) ++ X) (m := List.range n) (nodup_app (nD.sublist List.filter_sublist) nX fun x hx z => by
      have := (List.mem_filter.mp hx).2
      simp [z] at this) (fun x hx => by
      rcases List.mem_append.mp hx with h | h
      · exact (List.mem_filter.mp (List.mem_filter.mp h).1).1
      · exact List.mem_range.mpr (lX x h))
  rw [List.length_append, List.length_range] at l2
  have l3 : X.length = F.length + Rl.length := by
    show (F ++ Rl.map al).length = _
    rw [List.length_append, List.length_map]
  show D.length ≤ p
  omega
theorem rep_set (v w : Int32) (l : List Int32) : ∀ i, i < l.length → (List.replicate i v ++ l.drop i).set i v = List.replicate (i + 1) v ++ l.drop (i + 1) := by
  intro i hi
  rw [List.drop_eq_getElem_cons hi, List.set_append, if_neg (by simp), List.length_replicate, Nat.sub_self, List.set_cons_zero, List.replicate_succ', List.append_assoc]
  rfl
section Least
variable {Z : Nat → Nat} {c : HP}
theorem cl_1 (j : J Z c) {l : List Int32} (hl : l.length = 16) {T : List Int32} (hT : T.length = 16) (r : Option Nat) : ∀ (m i : Nat), 16 - i < m → i ≤ 16 → ∀ g, Sim Z g c →
    f_X2_mostPairs_L2 (Z 8) r m (Int32.ofNat i) (st2 Z g (List.replicate i (-1) ++ l.drop i) T) = some (st2 Z g (List.replicate 16 (-1)) T) := by
  intro m
  induction m with
  | zero => intro i hm; omega
  | succ m ih =>
    intro i hm hi g S
    have hA : (List.replicate i (-1 : Int32) ++ l.drop i).length = 16 := by simp; omega
    have S2 := st2_sim S hA hT
    have e48 : gfR 3 0 (some (Z 8)) (st2 Z g (List.replicate i (-1) ++ l.drop i) T) = some (some (Z 4)) := by rw [S2.rdR (ci := 3) j.gg.2.2.2.2.1 (by decide) (by decide) 0]; exact congrArg some j.gg.2.2.2.2.2.1
    rw [f_X2_mostPairs_L2, e48, Option.bind_some, r_ln4 S hA, Option.bind_some]
    by_cases hc : i = 16
    · rw [hc, if_pos (by decide), List.drop_eq_nil_of_le (by omega), List.append_nil]
    · rw [if_neg (fun z => by have := (nLe (a := 16) (b := i) (by omega) (by omega)).mp z; omega), Option.bind_some, r_stI S hA (by omega), Option.bind_some, rep_set (-1) 0 l i (by omega), show Int32.ofNat i + 1 = Int32.ofNat (i + 1) from nAdd i 1]
      exact ih (i + 1) (by omega) (by omega) g S
theorem cl_2 (j : J Z c) {A : List Int32} (hA : A.length = 16) {l : List Int32} (hl : l.length = 16) (r : Nat) (p q : Int32) : ∀ (m i : Nat), 16 - i < m → i ≤ 16 → ∀ g, Sim Z g c →
    f_X2_mostPairs_L39 (Z 8) r p q m (Int32.ofNat i) (st2 Z g A (List.replicate i 0 ++ l.drop i)) = some (st2 Z g A T0) := by
  intro m
  induction m with
  | zero => intro i hm; omega
  | succ m ih =>
    intro i hm hi g S
    have hT : (List.replicate i (0 : Int32) ++ l.drop i).length = 16 := by simp; omega
    have S2 := st2_sim S hA hT
    have e49 : gfR 3 1 (some (Z 8)) (st2 Z g A (List.replicate i 0 ++ l.drop i)) = some (some (Z 5)) := by rw [S2.rdR (ci := 3) j.gg.2.2.2.2.1 (by decide) (by decide) 1]; exact congrArg some j.gg.2.2.2.2.2.2.1
    rw [f_X2_mostPairs_L39, e49, Option.bind_some, r_ln5 S hT, Option.bind_some]
    by_cases hc : i = 16
    · rw [hc, if_pos (by decide), List.drop_eq_nil_of_le (by omega), List.append_nil]; rfl
    · rw [if_neg (fun z => by have := (nLe (a := 16) (b := i) (by omega) (by omega)).mp z; omega), Option.bind_some, r_stZ S hT (Or.inl rfl) (by omega), Option.bind_some, rep_set 0 0 l i (by omega), show Int32.ofNat i + 1 = Int32.ofNat (i + 1) from nAdd i 1]
      exact ih (i + 1) (by omega) (by omega) g S
theorem mp_loop (j : J Z c) : ∀ (m i p : Nat) (A : List Int32), (tls Z c).length - i < m → i ≤ (tls Z c).length → MInv (tls Z c).length (fE Z c) A i p →
    ∃ p' A', MInv (tls Z c).length (fE Z c) A' (tls Z c).length p' ∧ ∀ T : List Int32, T.length = 16 → ∃ T' : List Int32, T'.length = 16 ∧ ∀ g, Sim Z g c → f_X2_mostPairs_L28 (Z 8) (some (Z 13)) m (Int32.ofNat p) (Int32.ofNat i) (st2 Z g A T) = some (Int32.ofNat p', st2 Z g A' T') := by
  intro m
  induction m with
  | zero => intro i p A hm; omega
  | succ m ih =>
    intro i p A hm hi M
    have h16 := j.t.1
    have hL := j.l.2.2.1
    have hA := M.1.1
    by_cases hc : i = (tls Z c).length
    · refine ⟨p, A, by rw [← hc] at M ⊢; exact M, fun T hT => ⟨T, hT, fun g S => ?_⟩⟩
      have S2 := st2_sim S hA hT
      rw [f_X2_mostPairs_L28, hL.rc S2, Option.bind_some, sTL S2 j, Option.bind_some, hc, if_pos (Int32.le_refl _)]
    · have hlt : i < (tls Z c).length := by omega
      obtain ⟨m1, m2, F, R, f1, f2, f3, f4, f5, f6⟩ := M
      have P : FPre (tls Z c).length A T0 i := ⟨hlt, m1, rfl, m2, fun k hk _ hm => absurd (f6 k i hk (by omega) hm).1 (by omega)⟩
      obtain ⟨r, A', T', k1, k2, k3, k4⟩ := ff_all j 20 i A T0 0 P (Nat.zero_le _) rfl
      have go : ∀ T : List Int32, T.length = 16 → ∀ g, Sim Z g c → f_X2_mostPairs_L28 (Z 8) (some (Z 13)) (m + 1) (Int32.ofNat p) (Int32.ofNat i) (st2 Z g A T) = (if r = 0 then f_X2_mostPairs_L28 (Z 8) (some (Z 13)) m (Int32.ofNat p) (Int32.ofNat (i + 1)) (st2 Z g A' T') else f_X2_mostPairs_L28 (Z 8) (some (Z 13)) m (Int32.ofNat (p + 1)) (Int32.ofNat (i + 1)) (st2 Z g A' T')) := fun T hT g S => by
        have S2 := st2_sim S hA hT
        have S3 := st2_sim (T := T0) S hA rfl
        have q1 := cl_2 j hA hT (Z 13) (Int32.ofNat p) (Int32.ofNat i) FU 0 (by decide) (by decide) g S
        have q1' : f_X2_mostPairs_L39 (Z 8) (Z 13) (Int32.ofNat p) (Int32.ofNat i) FU 0 (st2 Z g A T) = some (st2 Z g A T0) := q1
        have e48 : gfR 3 0 (some (Z 8)) (st2 Z g A T0) = some (some (Z 4)) := by rw [S3.rdR (ci := 3) j.gg.2.2.2.2.1 (by decide) (by decide) 0]; exact congrArg some j.gg.2.2.2.2.2.1
        have e49 : gfR 3 1 (some (Z 8)) (st2 Z g A T0) = some (some (Z 5)) := by rw [S3.rdR (ci := 3) j.gg.2.2.2.2.1 (by decide) (by decide) 1]; exact congrArg some j.gg.2.2.2.2.2.2.1
        have k1' := k1 g S
        have e0 : Int32.ofNat 0 = 0 := rfl
        rw [e0] at k1'
        have ei : Int32.ofNat i + 1 = Int32.ofNat (i + 1) := nAdd i 1
        have ep : Int32.ofNat p + 1 = Int32.ofNat (p + 1) := nAdd p 1
        rw [f_X2_mostPairs_L28, hL.rc S2, Option.bind_some, sTL S2 j, Option.bind_some, if_neg (fun z => by have := (nLe (a := (tls Z c).length) (b := i) (by omega) (by omega)).mp z; omega), q1', Option.bind_some, e48, Option.bind_some, e49, Option.bind_some, k1', Option.bind_some, ei, ep]
      rcases k4 with ⟨hr, hAA, n1, n2, n3⟩ | ⟨hr, y1, y2, y3, y4, y5⟩
      · have M' : MInv (tls Z c).length (fE Z c) A' (i + 1) p := by
          rw [hAA]
          refine ⟨m1, m2, i :: F, fun z => R z ∨ tr T' z, List.nodup_cons.mpr ⟨fun z => by have := f2 i z; omega, f1⟩, fun f hf => ?_, by rw [List.length_cons]; omega, fun y hy => ?_, fun f hf z hz => ?_, fun k a hk ha hm => ?_⟩
          · rcases List.mem_cons.mp hf with rfl | hf
            · omega
            · have := f2 f hf; omega
          · rcases hy with hy | hy
            · obtain ⟨q1, a, q2, q3, q4⟩ := f4 y hy
              exact ⟨q1, a, q2, q3, fun z hz => Or.inl (q4 z hz)⟩
            · obtain ⟨a, q2, q3, q4⟩ := n3 y hy (ntr0 y)
              exact ⟨tr_lt k3 hy, a, q2, q3, fun z hz => Or.inr (q4 z hz)⟩
          · rcases List.mem_cons.mp hf with rfl | hf
            · exact Or.inr (n2 z hz)
            · exact Or.inl (f5 f hf z hz)
          · obtain ⟨q1, q2⟩ := f6 k a hk ha hm
            refine ⟨by omega, fun z => ?_⟩
            rcases List.mem_cons.mp z with rfl | z
            · omega
            · exact q2 z
        obtain ⟨p', A'', l1, l2⟩ := ih (i + 1) p A' (by omega) (by omega) M'
        obtain ⟨T'', l3, l4⟩ := l2 T' k3
        refine ⟨p', A'', l1, fun T hT => ⟨T'', l3, fun g S => ?_⟩⟩
        rw [go T hT g S, if_pos hr]
        exact l4 g S
      · have M' : MInv (tls Z c).length (fE Z c) A' (i + 1) (p + 1) := by
          refine ⟨y1, y4, F, R, f1, fun f hf => by have := f2 f hf; omega, by omega, fun y hy => ?_, f5, fun k a hk ha hm => ?_⟩
          · obtain ⟨q1, a, q2, q3, q4⟩ := f4 y hy
            exact ⟨q1, a, q2, by unfold mt at q3 ⊢; rw [(y5 R f4).2 y hy]; exact q3, q4⟩
          · rcases y3 k hk (ntr0 k) a ha hm with rfl | ⟨k2, u1, u2, u3⟩
            · exact ⟨by omega, fun z => by have := f2 a z; omega⟩
            · obtain ⟨q1, q2⟩ := f6 k2 a u1 ha u3
              exact ⟨by omega, q2⟩
        obtain ⟨p', A'', l1, l2⟩ := ih (i + 1) (p + 1) A' (by omega) (by omega) M'
        obtain ⟨T'', l3, l4⟩ := l2 T' k3
        refine ⟨p', A'', l1, fun T hT => ⟨T'', l3, fun g S => ?_⟩⟩
        rw [go T hT g S, if_neg (by rw [hr]; decide)]
        exact l4 g S
theorem q_least (j : J Z c) : ∃ p, p ≤ (tls Z c).length ∧ Ask Z c (f_X9_leastBlocks (Z 0)) (Int32.ofNat ((tls Z c).length - p)) ∧
    ∀ σ : Nat → Option Nat, (∀ a z, σ a = some z → a < (tls Z c).length ∧ fE Z c a z) → (∀ a b z, σ a = some z → σ b = some z → a = b) → ((List.range (tls Z c).length).filter fun a => decide (σ a ≠ none)).length ≤ p := by
  have h16 := j.t.1
  have M0 : MInv (tls Z c).length (fE Z c) (List.replicate 16 (-1)) 0 0 := by
    have h : ∀ k, k < 16 → (List.replicate 16 (-1 : Int32)).getD k 0 = -1 := fun k hk => by rw [List.getD_eq_getElem?_getD, List.getElem?_replicate, if_pos hk]; rfl
    refine ⟨⟨List.length_replicate, fun k hk => Or.inl (h k hk)⟩, fun i k a ha hi hk _ _ h1 _ => ?_, [], fun _ => False, List.nodup_nil, fun f hf => (by cases hf), rfl, fun y hy => hy.elim, fun f hf => (by cases hf), fun k a hk ha hm => ?_⟩
    · unfold mt at h1; rw [h i hi] at h1; exact absurd h1.symm (nm1 ha)
    · unfold mt at hm; rw [h k hk] at hm; exact absurd hm.symm (nm1 ha)
  obtain ⟨p, A', k4, k1⟩ := mp_loop j FU 0 0 (List.replicate 16 (-1)) (by show _ < 4096; omega) (Nat.zero_le _) M0
  obtain ⟨_, _, F, R, f1, f2, f3, _⟩ := id k4
  refine ⟨p, by omega, fun g S => ?_, fun σ h1 h2 => match_bound h16 k4 h1 h2⟩
  obtain ⟨i3, i4, i5⟩ := S.2.2.2.2.1
  have c1 : f_X2_mostPairs_L2 (Z 8) (some (Z 13)) FU 0 (st2 Z g (ia g (Z 4)) (ia g (Z 5))) = some (st2 Z g (List.replicate 16 (-1)) (ia g (Z 5))) := cl_1 j i4 i5 (some (Z 13)) FU 0 (by decide) (by decide) g S
  rw [st2_self] at c1
  obtain ⟨T', k2, k3⟩ := k1 (ia g (Z 5)) i5
  have k3' : f_X2_mostPairs_L28 (Z 8) (some (Z 13)) FU 0 0 (st2 Z g (List.replicate 16 (-1)) (ia g (Z 5))) = some (Int32.ofNat p, st2 Z g A' T') := k3 g S
  refine ⟨st2 Z g A' T', ?_, st2_sim S k4.1.1 k2, st2_spd S k4.1.1⟩
  unfold f_X9_leastBlocks f_X2_mostPairs
  rw [rM2 S j, Option.bind_some, j.l.2.2.1.rc S, Option.bind_some, sTL S j, Option.bind_some, rM13 S j, Option.bind_some, Option.bind_some, S.rc (ci := 3) j.gg.2.2.2.2.1, Option.bind_some, c1, Option.bind_some, k3', Option.bind_some, Option.bind_some, nSub (by omega)]
end Least
