/-! The checksum is the county's: asking leaves it. -/
theorem loop_askE {β : Type} {Z : Nat → Nat} {c : HP} {l : List Nat} {F : Nat → β → Int32 → HP → Option (β × HP)} {s : Nat} (hend : ∀ m a g, Sim Z g c → F (m + 1) a (Int32.ofNat l.length) g = some (a, g)) (hstep : ∀ m a i x, s ≤ i → l[i]? = some x → ∃ a', ∀ g, Sim Z g c → ∃ g', F (m + 1) a (Int32.ofNat i) g = F m a' (Int32.ofNat i + 1) g' ∧ Sim Z g' c ∧ Spd Z 0 0 g g') :
    ∀ (m i : Nat) (a : β), s ≤ i → l.length - i < m → i ≤ l.length → ∃ u, Ask Z c (F m a (Int32.ofNat i)) u := by
  intro m
  induction m with
  | zero => intro i a hs hm; omega
  | succ m ih =>
    intro i a hs hm hi
    by_cases hc : i = l.length
    · exact ⟨a, fun g S => ⟨g, by rw [hc, hend m a g S], S, Spd.rf⟩⟩
    · have hlt : i < l.length := by omega
      obtain ⟨x, hx⟩ : ∃ x, l[i]? = some x := ⟨_, List.getElem?_eq_getElem hlt⟩
      obtain ⟨a', h⟩ := hstep m a i x hs hx
      obtain ⟨u, hu⟩ := ih (i + 1) a' (by omega) (by omega) (by omega)
      refine ⟨u, fun g S => ?_⟩
      obtain ⟨g1, h1, h2, h3⟩ := h g S
      obtain ⟨g2, k1, k2, k3⟩ := hu g1 h2
      rw [h1, show Int32.ofNat i + 1 = Int32.ofNat (i + 1) from nAdd i 1]
      exact ⟨g2, k1, k2, h3.tr k3⟩
theorem range_at {n i : Nat} (h : i < n) : (List.range n)[i]? = some i := by rw [List.getElem?_range h]
theorem at_range {n i x : Nat} (h : (List.range n)[i]? = some x) : x = i ∧ i < n := by
  have hi := (List.getElem?_eq_some_iff.mp h).1
  rw [List.length_range] at hi
  rw [List.getElem?_range hi] at h
  exact ⟨(Option.some.inj h).symm, hi⟩
theorem mix_loop {Z : Nat → Nat} {c : HP} {E s : Nat} {F : Nat → Int64 → Int32 → HP → Option (Int64 × HP)} {q : Int32 → HP → Option (Int32 × HP)} {v : Nat → Int32} (hF : ∀ m d i g, Sim Z g c → F (m + 1) d i g = if Int32.ofNat E < i then some (d, g) else (q i g).bind fun x => F m (d * 31 + x.1.toInt64) (i + 1) x.2) (hq : ∀ i, s ≤ i → i ≤ E → Ask Z c (q (Int32.ofNat i)) (v i)) (hE : E ≤ 40) (hs : s ≤ E) (d : Int64) : ∃ u, Ask Z c (F FU d (Int32.ofNat s)) u := by
  refine loop_askE (l := List.range (E + 1)) (s := s) (fun m a g S => ?_) (fun m a i x hsi hx => ?_) FU s d (Nat.le_refl _) (by rw [List.length_range]; show _ < 4096; omega) (by rw [List.length_range]; omega)
  · rw [hF m a _ g S, List.length_range, if_pos ((nLt (by omega) (by omega)).mpr (by omega))]
  · obtain ⟨rfl, hi⟩ := at_range hx
    refine ⟨a * 31 + (v x).toInt64, fun g S => ?_⟩
    obtain ⟨g1, k1, k2, k3⟩ := hq x hsi (by omega) g S
    refine ⟨g1, ?_, k2, k3⟩
    rw [hF m a _ g S, if_neg (fun z => by have := (nLt (a := E) (b := x) (by omega) (by omega)).mp z; omega), k1, Option.bind_some]
section Digest
variable {Z : Nat → Nat} {c : HP}
def bsS (Z : Nat → Nat) (c : HP) (x s y : Nat) (a : Int32 × Int32) (k : Nat) : Int32 × Int32 :=
  if esV Z c x s y k = -1 then a else (if a.1 = -1 then ((20 * Int32.ofNat s) + Int32.ofNat k, esV Z c x s y k) else (if a.2 ≤ esV Z c x s y k then a else ((20 * Int32.ofNat s) + Int32.ofNat k, esV Z c x s y k)))
theorem bs_in (j : J Z c) {x y s : Nat} (hx : x ∈ bks Z c) (hy : y ∈ bks Z c) (hxy : x ≠ y) (hs : s ≤ (rowB c x).length) (a : Int32 × Int32) {g : HP} (S : Sim Z g c) :
    ∃ g', f_X9_bestSwap_L72 (Z 0) (some x) (some y) (Int32.ofNat s) FU a.1 a.2 0 g = some (((List.range ((rowB c y).length + 1)).foldl (bsS Z c x s y) a).1, ((List.range ((rowB c y).length + 1)).foldl (bsS Z c x s y) a).2, g') ∧ Sim Z g' c ∧ Spd Z 0 0 g g' := by
  have ly := j.rlen hy
  have := loop_askG (Z := Z) (c := c) (s := 0) (l := List.range ((rowB c y).length + 1)) (F := fun m (a : Int32 × Int32) i g => f_X9_bestSwap_L72 (Z 0) (some x) (some y) (Int32.ofNat s) m a.1 a.2 i g) (mk := fun a g => (a.1, a.2, g)) (step := bsS Z c x s y) (fun m a g S => by
      have hR := j.row S hy
      show f_X9_bestSwap_L72 (Z 0) (some x) (some y) (Int32.ofNat s) (m + 1) a.1 a.2 _ g = _
      rw [f_X9_bestSwap_L72, j.rBr S hy, Option.bind_some, S.rc (ci := 7) hR.1, Option.bind_some, r_count S hR, Option.bind_some, List.length_range, if_pos ((nLt (by omega) (by omega)).mpr (by omega))]) (fun m a i k g _ S hk => by
      obtain ⟨rfl, hi⟩ := at_range hk
      have hR := j.row S hy
      obtain ⟨g1, k1, k2, k3⟩ := q_emptyOfSwap j hx hy hxy hs (k := k) (by omega) g S
      refine ⟨g1, ?_, k2, k3⟩
      show f_X9_bestSwap_L72 (Z 0) (some x) (some y) (Int32.ofNat s) (m + 1) a.1 a.2 _ g = f_X9_bestSwap_L72 (Z 0) (some x) (some y) (Int32.ofNat s) m (bsS Z c x s y a k).1 (bsS Z c x s y a k).2 _ g1
      rw [f_X9_bestSwap_L72, j.rBr S hy, Option.bind_some, S.rc (ci := 7) hR.1, Option.bind_some, r_count S hR, Option.bind_some, if_neg (fun z => by have := (nLt (a := (rowB c y).length) (b := k) (by omega) (by omega)).mp z; omega), rMv S j, Option.bind_some, k1, Option.bind_some]
      unfold bsS
      by_cases h1 : esV Z c x s y k = -1
      · rw [if_pos h1, if_pos h1]
      · rw [if_neg h1, if_neg h1]
        by_cases h2 : a.1 = -1
        · rw [if_pos h2, if_pos h2]
        · rw [if_neg h2, if_neg h2]
          by_cases h3 : a.2 ≤ esV Z c x s y k
          · rw [if_pos h3, if_pos h3]
          · rw [if_neg h3, if_neg h3]) FU 0 a g (Nat.le_refl _) (by rw [List.length_range]; show _ < 4096; omega) (Nat.zero_le _) S
  exact this
theorem q_bestSwap (j : J Z c) {i k x y : Nat} (hx : (bks Z c)[i]? = some x) (hy : (bks Z c)[k]? = some y) (hik : i ≠ k) : ∃ u, Ask Z c (f_X9_bestSwap (Z 0) (Int32.ofNat i) (Int32.ofNat k)) u := by
  have mx := List.mem_of_getElem? hx
  have my := List.mem_of_getElem? hy
  have hi : i < 8 := by have := (List.getElem?_eq_some_iff.mp hx).1; have := j.b.1; omega
  have hk : k < 8 := by have := (List.getElem?_eq_some_iff.mp hy).1; have := j.b.1; omega
  have hxy : x ≠ y := fun z => by
    obtain ⟨q1, _⟩ := (j.b.2 i x hx).1
    obtain ⟨q2, _⟩ := (j.b.2 k y hy).1
    rw [z, q2] at q1
    exact hik ((nEq (by omega) (by omega)).mp q1).symm
  have lx := j.rlen mx
  refine ⟨((List.range ((rowB c x).length + 1)).foldl (fun a s => (List.range ((rowB c y).length + 1)).foldl (bsS Z c x s y) a) (-1, 0)).1, fun g S => ?_⟩
  obtain ⟨g', a1, a2, a3⟩ := loop_askG (Z := Z) (c := c) (s := 0) (l := List.range ((rowB c x).length + 1)) (F := fun m (a : Int32 × Int32) i g => f_X9_bestSwap_L57 (Z 0) (some x) (some y) m a.1 a.2 i g) (mk := fun a g => (a.1, g)) (step := fun a s => (List.range ((rowB c y).length + 1)).foldl (bsS Z c x s y) a) (fun m a g S => by
      have hR := j.row S mx
      show f_X9_bestSwap_L57 (Z 0) (some x) (some y) (m + 1) a.1 a.2 _ g = _
      rw [f_X9_bestSwap_L57, j.rBr S mx, Option.bind_some, S.rc (ci := 7) hR.1, Option.bind_some, r_count S hR, Option.bind_some, List.length_range, if_pos ((nLt (by omega) (by omega)).mpr (by omega))]) (fun m a i k g _ S hk => by
      obtain ⟨rfl, hi⟩ := at_range hk
      have hR := j.row S mx
      obtain ⟨g1, k1, k2, k3⟩ := bs_in j mx my hxy (s := k) (by omega) a S
      refine ⟨g1, ?_, k2, k3⟩
      show f_X9_bestSwap_L57 (Z 0) (some x) (some y) (m + 1) a.1 a.2 _ g = f_X9_bestSwap_L57 (Z 0) (some x) (some y) m _ _ _ g1
      rw [f_X9_bestSwap_L57, j.rBr S mx, Option.bind_some, S.rc (ci := 7) hR.1, Option.bind_some, r_count S hR, Option.bind_some, if_neg (fun z => by have := (nLt (a := (rowB c x).length) (b := k) (by omega) (by omega)).mp z; omega), k1, Option.bind_some]) FU 0 (-1, 0) g (Nat.le_refl _) (by rw [List.length_range]; show _ < 4096; omega) (Nat.zero_le _) S
  refine ⟨g', ?_, a2, a3⟩
  have a1' : f_X9_bestSwap_L57 (Z 0) (some x) (some y) FU (-1) 0 0 g = some (((List.range ((rowB c x).length + 1)).foldl (fun a s => (List.range ((rowB c y).length + 1)).foldl (bsS Z c x s y) a) (-1, 0)).1, g') := a1
  unfold f_X9_bestSwap
  rw [rMv S j, Option.bind_some, j_blockNumbered S j (by omega), Option.bind_some, Option.bind_some, j_blockNumbered S j (by omega), Option.bind_some, hx, hy, if_neg sn, if_neg sn, if_neg (fun z => hik ((nEq (by omega) (by omega)).mp z)), a1', Option.bind_some]
theorem q_mixTrip (j : J Z c) (d : Int64) {i t : Nat} (h : (tls Z c)[i]? = some t) : ∃ u, Ask Z c (f_X9_mixTrip (Z 0) d (Int32.ofNat i)) u := by
  obtain ⟨u1, h1⟩ := mix_loop (Z := Z) (c := c) (E := 10) (s := 0) (F := f_X9_mixTrip_L6 (Z 0) (Int32.ofNat i)) (q := fun w => f_X9_ofTrip (Z 0) (Int32.ofNat i) w) (v := fun w => vTrip c t (Int32.ofNat w)) (fun m d w g S => by
      rw [f_X9_mixTrip_L6, rMv S j]; rfl) (fun w _ hw => q_ofTrip j h (n0 (by omega)) ((nLe (a := w) (b := 10) (by omega) (by omega)).mpr hw)) (by decide) (by decide) d
  refine ⟨u1 * 31 + (Int32.ofNat (vMay c t)).toInt64, fun g S => ?_⟩
  obtain ⟨g1, a1, a2, a3⟩ := h1 g S
  obtain ⟨g2, b1, b2, b3⟩ := q_mayDelay j h g1 a2
  refine ⟨g2, ?_, b2, a3.tr b3⟩
  have a1' : f_X9_mixTrip_L6 (Z 0) (Int32.ofNat i) FU d 0 g = some (u1, g1) := a1
  unfold f_X9_mixTrip
  rw [a1', Option.bind_some, rMv a2 j, Option.bind_some, b1, Option.bind_some]
  rfl
theorem q_mixDriver (j : J Z c) (d : Int64) {i t : Nat} (h : (dvs Z c)[i]? = some t) : ∃ u, Ask Z c (f_X9_mixDriver (Z 0) d (Int32.ofNat i)) u := by
  obtain ⟨u1, h1⟩ := mix_loop (Z := Z) (c := c) (E := 4) (s := 0) (F := f_X9_mixDriver_L6 (Z 0) (Int32.ofNat i)) (q := fun w => f_X9_ofDriver (Z 0) (Int32.ofNat i) w) (v := fun w => vDrv c t (Int32.ofNat w)) (fun m d w g S => by
      rw [f_X9_mixDriver_L6, rMv S j]; rfl) (fun w _ hw => q_ofDriver j h (n0 (by omega)) ((nLe (a := w) (b := 4) (by omega) (by omega)).mpr hw)) (by decide) (by decide) d
  refine ⟨u1, fun g S => ?_⟩
  obtain ⟨g1, a1, a2, a3⟩ := h1 g S
  refine ⟨g1, ?_, a2, a3⟩
  have a1' : f_X9_mixDriver_L6 (Z 0) (Int32.ofNat i) FU d 0 g = some (u1, g1) := a1
  unfold f_X9_mixDriver
  rw [a1', Option.bind_some]
theorem q_mixBlock (j : J Z c) (d : Int64) {i b : Nat} (h : (bks Z c)[i]? = some b) : ∃ u, Ask Z c (f_X9_mixBlock (Z 0) d (Int32.ofNat i)) u := by
  have hm := List.mem_of_getElem? h
  obtain ⟨u1, h1⟩ := mix_loop (Z := Z) (c := c) (E := 7) (s := 0) (F := f_X9_mixBlock_L6 (Z 0) (Int32.ofNat i)) (q := fun w => f_X9_ofBlock (Z 0) (Int32.ofNat i) w) (v := fun w => vBlk Z c b (Int32.ofNat w)) (fun m d w g S => by
      rw [f_X9_mixBlock_L6, rMv S j]; rfl) (fun w _ hw => q_ofBlock j h (n0 (by omega)) ((nLe (a := w) (b := 7) (by omega) (by omega)).mpr hw)) (by decide) (by decide) d
  have h2 := q_ofBlock j h (w := 3) (by decide) (by decide)
  have e3 : vBlk Z c b 3 = Int32.ofNat (pcs c b).length := rfl
  rw [e3] at h2
  have h40 : (pcs c b).length ≤ 40 := by
    obtain ⟨_, _, _, _, ⟨_, _, _, _, _, q⟩, _⟩ := j.bok hm
    exact q.1.2.2.2
  obtain ⟨u3, h3⟩ := loop_askE (Z := Z) (c := c) (s := 0) (l := pcs c b) (F := f_X9_mixBlock_L44 (Z 0) (Int32.ofNat i) (Int32.ofNat (pcs c b).length)) (fun m a g S => by
      rw [f_X9_mixBlock_L44, if_pos (Int32.le_refl _)]) (fun m a k p _ hp => by
      obtain ⟨u, hu⟩ := mix_loop (Z := Z) (c := c) (E := 5) (s := 0) (F := f_X9_mixBlock_L54 (Z 0) (Int32.ofNat i) (Int32.ofNat (pcs c b).length) (Int32.ofNat k)) (q := fun w => f_X9_ofPiece (Z 0) (Int32.ofNat i) (Int32.ofNat k) w) (v := fun w => vPiece c p (Int32.ofNat w)) (fun m d w g S => by
        rw [f_X9_mixBlock_L54, rMv S j]; rfl) (fun w _ hw => q_ofPiece j h hp (n0 (by omega)) ((nLe (a := w) (b := 5) (by omega) (by omega)).mpr hw)) (by decide) (by decide) a
      refine ⟨u, fun g S => ?_⟩
      obtain ⟨g1, a1, a2, a3⟩ := hu g S
      have a1' : f_X9_mixBlock_L54 (Z 0) (Int32.ofNat i) (Int32.ofNat (pcs c b).length) (Int32.ofNat k) FU a 0 g = some (u, g1) := a1
      refine ⟨g1, ?_, a2, a3⟩
      rw [f_X9_mixBlock_L44, if_neg (nlen h40 hp), a1', Option.bind_some]) FU 0 u1 (Nat.le_refl _) (by show _ < 4096; omega) (Nat.zero_le _)
  have h4 := q_wouldLose j h (w := 600) (by decide) (by decide)
  refine ⟨u3 * 31 + (Int32.ofNat (lostN (dayL c 600 none 0 none (rowB c b))) - Int32.ofNat (lostN (dayB c b))).toInt64, fun g S => ?_⟩
  · obtain ⟨g1, a1, a2, a3⟩ := h1 g S
    obtain ⟨g2, b1, b2, b3⟩ := h2 g1 a2
    obtain ⟨g3, d1, d2, d3⟩ := h3 g2 b2
    obtain ⟨g4, e1, e2, e3⟩ := h4 g3 d2
    refine ⟨g4, ?_, e2, ((a3.tr b3).tr d3).tr e3⟩
    have a1' : f_X9_mixBlock_L6 (Z 0) (Int32.ofNat i) FU d 0 g = some (u1, g1) := a1
    have d1' : f_X9_mixBlock_L44 (Z 0) (Int32.ofNat i) (Int32.ofNat (pcs c b).length) FU u1 0 g2 = some (u3, g3) := d1
    unfold f_X9_mixBlock
    rw [a1', Option.bind_some, rMv a2 j, Option.bind_some, b1, Option.bind_some, d1', Option.bind_some, rMv d2 j, Option.bind_some, e1, Option.bind_some]
    rfl
theorem q_digest (j : J Z c) : ∃ u, Ask Z c (f_X9_digest (Z 0)) u := by
  have h16 := j.t.1
  have h8 := j.b.1
  have h6 := j.d.1
  obtain ⟨u1, h1⟩ := mix_loop (Z := Z) (c := c) (E := 8) (s := 0) (F := f_X9_digest_L6 (Z 0)) (q := fun w => f_X9_many (Z 0) w) (v := fun w => vMany Z c (Int32.ofNat w)) (fun m d w g S => by
      rw [f_X9_digest_L6, rMv S j]; rfl) (fun w _ hw => q_many j (n0 (by omega)) ((nLe (a := w) (b := 8) (by omega) (by omega)).mpr hw)) (by decide) (by decide) 58195
  obtain ⟨u2, h2⟩ := mix_loop (Z := Z) (c := c) (E := 6) (s := 1) (F := f_X9_digest_L30 (Z 0)) (q := fun w => f_X9_lost (Z 0) w) (v := fun w => Int32.ofNat (cntC Z c (Int32.ofNat w))) (fun m d w g S => by
      rw [f_X9_digest_L30, rMv S j]; rfl) (fun w hw1 hw => q_lost j ((nLe (a := 1) (b := w) (by omega) (by omega)).mpr hw1) ((nLe (a := w) (b := 6) (by omega) (by omega)).mpr hw)) (by decide) (by decide) u1
  obtain ⟨u3, h3⟩ := loop_askE (Z := Z) (c := c) (s := 0) (l := tls Z c) (F := f_X9_digest_L54 (Z 0)) (fun m a g S => by
      rw [f_X9_digest_L54, rM2 S j, Option.bind_some, j.l.2.2.1.rc S, Option.bind_some, sTL S j, Option.bind_some, if_pos (Int32.le_refl _)]) (fun m a k t _ ht => by
      obtain ⟨u, hu⟩ := q_mixTrip j a ht
      refine ⟨u, fun g S => ?_⟩
      obtain ⟨g1, a1, a2, a3⟩ := hu g S
      refine ⟨g1, ?_, a2, a3⟩
      rw [f_X9_digest_L54, rM2 S j, Option.bind_some, j.l.2.2.1.rc S, Option.bind_some, sTL S j, Option.bind_some, if_neg (nlen (by omega) ht), rMv S j, Option.bind_some, a1, Option.bind_some]) FU 0 u2 (Nat.le_refl _) (by show _ < 4096; omega) (Nat.zero_le _)
  obtain ⟨u4, h4⟩ := loop_askE (Z := Z) (c := c) (s := 0) (l := bks Z c) (F := f_X9_digest_L80 (Z 0)) (fun m a g S => by
      rw [f_X9_digest_L80, rM4 S j, Option.bind_some, j.l.2.2.2.2.1.rc S, Option.bind_some, sBL S j, Option.bind_some, if_pos (Int32.le_refl _)]) (fun m a k t _ ht => by
      obtain ⟨u, hu⟩ := q_mixBlock j a ht
      refine ⟨u, fun g S => ?_⟩
      obtain ⟨g1, a1, a2, a3⟩ := hu g S
      refine ⟨g1, ?_, a2, a3⟩
      rw [f_X9_digest_L80, rM4 S j, Option.bind_some, j.l.2.2.2.2.1.rc S, Option.bind_some, sBL S j, Option.bind_some, if_neg (nlen (by omega) ht), rMv S j, Option.bind_some, a1, Option.bind_some]) FU 0 u3 (Nat.le_refl _) (by show _ < 4096; omega) (Nat.zero_le _)
  obtain ⟨u5, h5⟩ := loop_askE (Z := Z) (c := c) (s := 0) (l := dvs Z c) (F := f_X9_digest_L106 (Z 0)) (fun m a g S => by
      rw [f_X9_digest_L106, rM5 S j, Option.bind_some, j.l.2.2.2.2.2.rc S, Option.bind_some, sDL S j, Option.bind_some, if_pos (Int32.le_refl _)]) (fun m a k t _ ht => by
      obtain ⟨u, hu⟩ := q_mixDriver j a ht
      refine ⟨u, fun g S => ?_⟩
      obtain ⟨g1, a1, a2, a3⟩ := hu g S
      refine ⟨g1, ?_, a2, a3⟩
      rw [f_X9_digest_L106, rM5 S j, Option.bind_some, j.l.2.2.2.2.2.rc S, Option.bind_some, sDL S j, Option.bind_some, if_neg (nlen (by omega) ht), rMv S j, Option.bind_some, a1, Option.bind_some]) FU 0 u4 (Nat.le_refl _) (by show _ < 4096; omega) (Nat.zero_le _)
  obtain ⟨p, _, h6, _⟩ := q_least j
  have go : ∀ g, Sim Z g c → ∃ g', Sim Z g' c ∧ Spd Z 0 0 g g' ∧ f_X9_digest (Z 0) g = (if 2 ≤ Int32.ofNat (bks Z c).length then (f_X9_bestSwap (Z 0) 0 1 g').bind fun v => some ((u5 * 31 + (Int32.ofNat ((tls Z c).length - p)).toInt64) * 31 + v.1.toInt64, v.2) else some (u5 * 31 + (Int32.ofNat ((tls Z c).length - p)).toInt64, g')) := fun g S => by
    obtain ⟨g1, a1, a2, a3⟩ := h1 g S
    obtain ⟨g2, b1, b2, b3⟩ := h2 g1 a2
    obtain ⟨g3, d1, d2, d3⟩ := h3 g2 b2
    obtain ⟨g4, e1, e2, e3⟩ := h4 g3 d2
    obtain ⟨g5, k1, k2, k3⟩ := h5 g4 e2
    obtain ⟨g6, l1, l2, l3⟩ := h6 g5 k2
    refine ⟨g6, l2, ((((a3.tr b3).tr d3).tr e3).tr k3).tr l3, ?_⟩
    have a1' : f_X9_digest_L6 (Z 0) FU 58195 0 g = some (u1, g1) := a1
    have b1' : f_X9_digest_L30 (Z 0) FU u1 1 g1 = some (u2, g2) := b1
    have d1' : f_X9_digest_L54 (Z 0) FU u2 0 g2 = some (u3, g3) := d1
    have e1' : f_X9_digest_L80 (Z 0) FU u3 0 g3 = some (u4, g4) := e1
    have k1' : f_X9_digest_L106 (Z 0) FU u4 0 g4 = some (u5, g5) := k1
    unfold f_X9_digest
    rw [a1', Option.bind_some, b1', Option.bind_some, d1', Option.bind_some, e1', Option.bind_some, k1', Option.bind_some, rMv k2 j, Option.bind_some, l1, Option.bind_some]
    show (gfR 10 4 (some (Z 0)) g6).bind _ = _
    rw [rM4 l2 j, Option.bind_some, j.l.2.2.2.2.1.rc l2, Option.bind_some, sBL l2 j, Option.bind_some, rMv l2 j, Option.bind_some]
    rfl
  by_cases hb : 2 ≤ (bks Z c).length
  · have hb' : (2 : Int32) ≤ Int32.ofNat (bks Z c).length := (nLe (a := 2) (by omega) (by omega)).mpr hb
    obtain ⟨x, hx⟩ : ∃ x, (bks Z c)[0]? = some x := ⟨_, List.getElem?_eq_getElem (by omega)⟩
    obtain ⟨y, hy⟩ : ∃ x, (bks Z c)[1]? = some x := ⟨_, List.getElem?_eq_getElem (by omega)⟩
    obtain ⟨u, hu⟩ := q_bestSwap j hx hy (by decide)
    refine ⟨(u5 * 31 + (Int32.ofNat ((tls Z c).length - p)).toInt64) * 31 + u.toInt64, fun g S => ?_⟩
    · obtain ⟨g6, l2, l3, l4⟩ := go g S
      obtain ⟨g7, n1, n2, n3⟩ := hu g6 l2
      have n1' : f_X9_bestSwap (Z 0) 0 1 g6 = some (u, g7) := n1
      refine ⟨g7, ?_, n2, l3.tr n3⟩
      rw [l4, if_pos hb', n1', Option.bind_some]
  · have hb' : ¬ (2 : Int32) ≤ Int32.ofNat (bks Z c).length := fun z => hb ((nLe (a := 2) (by omega) (by omega)).mp z)
    refine ⟨u5 * 31 + (Int32.ofNat ((tls Z c).length - p)).toInt64, fun g S => ?_⟩
    · obtain ⟨g6, l2, l3, l4⟩ := go g S
      exact ⟨g6, by rw [l4, if_neg hb'], l2, l3⟩
end Digest
