/-! isSound: the pieces that are given. -/
def GArr (Z : Nat → Nat) (g : HP) (a : Nat) (R : List Nat) : Prop := (tg g a = 23 ∧ oa g a = R.map some ++ List.replicate (16 - R.length) none) ∧ R.length ≤ 16 ∧ a < nx g ∧ a ≠ Z 3 ∧ a ≠ Z 4 ∧ a ≠ Z 5
/-- the rows of what is given: driver, start, end -/
def RWs (Z : Nat → Nat) (g c : HP) (mA pA : Nat) (G R : List Nat) : Prop := R.length = G.length ∧ ∀ (k p : Nat), G[k]? = some p → ∃ r, R[k]? = some r ∧ Arr Z g 20 r [dnP c p, tst c (pfA c p), tend c (pzA c p)] ∧ r ≠ mA ∧ r ≠ pA
section Sound3
variable {Z : Nat → Nat} {g g' c c' : HP} {T n k m t a : Nat} {xs rs fs : List Int32} {R G : List Nat} {mA pA : Nat}
theorem GArr.sp (A : GArr Z g a R) (h : Spd Z k m g g') : GArr Z g' a R := by
  obtain ⟨⟨h1, h2⟩, h3, h4, h5, h6, h7⟩ := A
  obtain ⟨a1, a2, a3, a4, a5, a6⟩ := h
  obtain ⟨b1, b2⟩ := a6 a (by rw [h1]; exact Or.inr (Or.inr (Or.inl rfl))) h4
  exact ⟨⟨b1.trans h1, (b2 h5 h6 h7).2.trans h2⟩, h3, by omega, h5, h6, h7⟩
theorem GArr.setA (A : GArr Z g a R) (b : Nat) (l : List Int32) : GArr Z (setA g b l) a R := A
theorem GArr.nwo (A : GArr Z g a R) (t n : Nat) (il : List Int32) (ol : List (Option Nat)) : GArr Z (newG g t n il ol) a R := by
  obtain ⟨⟨h1, h2⟩, h3, h4, h5⟩ := A
  exact ⟨⟨by rw [tg_newG, if_neg (by omega)]; exact h1, by rw [oa_newG, if_neg (by omega)]; exact h2⟩, h3, Nat.lt_succ_of_lt h4, h5⟩
theorem GArr.ld (A : GArr Z g a R) {i r : Nat} (hi : R[i]? = some r) : ldB (some a) (Int32.ofNat i) g = some (some r) := by
  obtain ⟨⟨h1, h2⟩, h3, _⟩ := A
  have hl := (List.getElem?_eq_some_iff.mp hi).1
  show (if tg g a = 23 ∧ 0 ≤ Int32.ofNat i ∧ (Int32.ofNat i).toNatClampNeg < (oa g a).length then some ((oa g a).getD (Int32.ofNat i).toNatClampNeg none) else none) = _
  rw [nN (by omega), h1, h2, if_pos ⟨rfl, n0 (by omega), by rw [List.length_append, List.length_map]; omega⟩, List.getD_eq_getElem?_getD, List.getElem?_append_left (by rw [List.length_map]; exact hl), List.getElem?_map, hi]; rfl
theorem GArr.st (A : GArr Z g a R) (h16 : R.length < 16) {r : Nat} (hr : tg g r = 20) : stB (some a) (Int32.ofNat R.length) (some r) g = some (setO g a ((R ++ [r]).map some ++ List.replicate (16 - (R ++ [r]).length) none)) := by
  obtain ⟨⟨h1, h2⟩, h3, _⟩ := A
  show (if (tg g a = 23 ∧ tg g r = 20) ∧ 0 ≤ Int32.ofNat R.length ∧ (Int32.ofNat R.length).toNatClampNeg < (oa g a).length then some (setO g a ((oa g a).set (Int32.ofNat R.length).toNatClampNeg (some r))) else none) = _
  rw [nN (by omega), h1, h2, if_pos ⟨⟨rfl, hr⟩, n0 (by omega), by rw [List.length_append, List.length_map, List.length_replicate]; omega⟩]
  congr 2
  rw [List.set_append_right _ _ (by rw [List.length_map]; exact Nat.le_refl _), List.length_map, Nat.sub_self, List.map_append, List.append_assoc, List.length_append]
  congr 1
  rw [show 16 - R.length = (16 - (R.length + [r].length)) + 1 by rw [List.length_singleton]; omega, List.replicate_succ]
  rfl
theorem GArr.set (A : GArr Z g a R) {R' : List Nat} (h : R'.length ≤ 16) : GArr Z (setO g a (R'.map some ++ List.replicate (16 - R'.length) none)) a R' := by
  obtain ⟨⟨h1, h2⟩, h3, h4⟩ := A
  exact ⟨⟨h1, by rw [oa_setO, if_pos rfl]⟩, h, h4⟩
theorem Sim.stO (S : Sim Z g c) (h : tg g a = 23) (l : List (Option Nat)) : Sim Z (setO g a l) c := by
  obtain ⟨s1, s2, s3, s4, s5, s6, s7, z⟩ := S
  have ne : ∀ q, tg c q = 1 → q ≠ a := fun q hq e => by
    have := (s1 q (by omega)).1
    rw [e, h] at this
    rw [e] at hq
    omega
  refine ⟨s1, s2, s3, fun q h1 h2 h3 => ?_, s5, ?_, ?_, z⟩
  · rw [oa_setO, if_neg (ne q h1)]; exact s4 q h1 h2 h3
  · refine ⟨?_, s6.2⟩
    rw [oa_setO, if_neg (ne _ z.1)]; exact s6.1
  · refine ⟨?_, s7.2⟩
    rw [oa_setO, if_neg (ne _ z.2.1)]; exact s7.1
theorem SL.stO (h : n ≤ a) (l : List (Option Nat)) : SL n Z 0 0 g (setO g a l) :=
  ⟨Nat.le_refl _, Nat.le_refl _, Nat.le_refl _, fun q _ hn _ => ⟨rfl, fun _ _ _ => ⟨rfl, by rw [oa_setO, if_neg (by omega)]⟩⟩⟩
theorem Arr.stO {l : List Int32} (A : Arr Z g t a l) (b : Nat) (ol : List (Option Nat)) : Arr Z (setO g b ol) t a l := A
theorem RWs.sp (A : RWs Z g c mA pA G R) (h : Spd Z k m g g') : RWs Z g' c mA pA G R :=
  ⟨A.1, fun i p hp => by obtain ⟨r, h1, h2, h3⟩ := A.2 i p hp; exact ⟨r, h1, h2.sp h (Or.inl rfl), h3⟩⟩
theorem RWs.nwo (A : RWs Z g c mA pA G R) (t n : Nat) (il : List Int32) (ol : List (Option Nat)) : RWs Z (newG g t n il ol) c mA pA G R :=
  ⟨A.1, fun i p hp => by obtain ⟨r, h1, h2, h3⟩ := A.2 i p hp; exact ⟨r, h1, h2.nwo t n il ol, h3⟩⟩
theorem RWs.setA (A : RWs Z g c mA pA G R) {b : Nat} (hb : ∀ r ∈ R, r ≠ b) (l : List Int32) : RWs Z (setA g b l) c mA pA G R :=
  ⟨A.1, fun i p hp => by obtain ⟨r, h1, h2, h3⟩ := A.2 i p hp; exact ⟨r, h1, h2.set' (hb r (List.mem_of_getElem? h1)) l, h3⟩⟩
theorem RWs.setO (A : RWs Z g c mA pA G R) (b : Nat) (ol : List (Option Nat)) : RWs Z (setO g b ol) c mA pA G R := A
theorem RWs.lt (A : RWs Z g c mA pA G R) : ∀ r ∈ R, r < nx g ∧ r ≠ mA ∧ r ≠ pA := fun r hr => by
  obtain ⟨i, hi⟩ := mem_at hr
  have hl := (List.getElem?_eq_some_iff.mp hi).1
  obtain ⟨p, hp⟩ : ∃ p, G[i]? = some p := ⟨_, List.getElem?_eq_getElem (by rw [← A.1]; exact hl)⟩
  obtain ⟨r', h1, h2, h3, h4⟩ := A.2 i p hp
  rw [hi] at h1
  cases h1
  exact ⟨h2.2.1, h3, h4⟩
/-- no two of one driver are too near -/
theorem s740_loop {p gA r' : Nat} {s1 s2 : Option Nat} {p0 p11 p12 : Nat} {p3 p8 p9 p10 p15 p16 p17 p18 : Int32} (A : GArr Z g gA (R ++ [r'])) (W : RWs Z g c mA pA (G ++ [p]) (R ++ [r'])) (hG : G.length ≤ 16) (hN : ∀ q ∈ G, dnP c q = dnP c p → ¬ nearP c p q) :
    ∀ (m k : Nat), G.length - k < m → k ≤ G.length → f_L_isSound_L740 p0 s1 s2 p3 p8 p9 p10 p11 p12 gA (Int32.ofNat G.length) p15 p16 p17 p18 (dnP c p) g m (Int32.ofNat k) = some () := by
  intro m
  induction m with
  | zero => intro k hm; omega
  | succ m ih =>
    intro k hm hk
    have hlen : R.length = G.length := by have := W.1; rw [List.length_append, List.length_append] at this; simpa using this
    rw [f_L_isSound_L740]
    by_cases hc : G.length ≤ k
    · rw [if_pos ((nLe (by omega) (by omega)).mpr hc)]
    · obtain ⟨q, hq⟩ : ∃ q, G[k]? = some q := ⟨_, List.getElem?_eq_getElem (by omega)⟩
      obtain ⟨r, r1, r2, -⟩ := W.2 k q (by rw [List.getElem?_append_left (by omega)]; exact hq)
      obtain ⟨r'', q1, q2, -⟩ := W.2 G.length p (by rw [List.getElem?_append_right (Nat.le_refl _), Nat.sub_self]; rfl)
      have lk := A.ld r1
      have lh := A.ld q1
      have a0 := r2.ld (Or.inl rfl) (i := 0) (show (0 : Nat) < 3 by decide) (by decide)
      have a1 := r2.ld (Or.inl rfl) (i := 1) (show (1 : Nat) < 3 by decide) (by decide)
      have a2 := r2.ld (Or.inl rfl) (i := 2) (show (2 : Nat) < 3 by decide) (by decide)
      have b1 := q2.ld (Or.inl rfl) (i := 1) (show (1 : Nat) < 3 by decide) (by decide)
      have b2 := q2.ld (Or.inl rfl) (i := 2) (show (2 : Nat) < 3 by decide) (by decide)
      have ek : Int32.ofNat k + 1 = Int32.ofNat (k + 1) := nAdd k 1
      have nxt := ih (k + 1) (by omega) (by omega)
      rw [if_neg (fun z => hc ((nLe (by omega) (by omega)).mp z)), lk, Option.bind_some, show ldI (some r) 0 g = some (dnP c q) from a0, Option.bind_some]
      by_cases hd : dnP c q = dnP c p
      · rw [if_pos hd, Option.bind_some, show ldI (some r) 1 g = some (tst c (pfA c q)) from a1, Option.bind_some, lh, Option.bind_some, show ldI (some r'') 2 g = some (tend c (pzA c p)) from b2, Option.bind_some]
        by_cases h1 : tend c (pzA c p) + 10 < tst c (pfA c q)
        · rw [if_pos h1, ek]; exact nxt
        · rw [if_neg h1, Option.bind_some, show ldI (some r) 2 g = some (tend c (pzA c q)) from a2, Option.bind_some, Option.bind_some, show ldI (some r'') 1 g = some (tst c (pfA c p)) from b1, Option.bind_some]
          by_cases h2 : tend c (pzA c q) < tst c (pfA c p) - 10
          · rw [if_pos h2, ek]; exact nxt
          · exact absurd ⟨Int32.not_lt.mp h1, Int32.not_lt.mp h2⟩ (hN q (List.mem_of_getElem? hq) hd)
      · rw [if_neg hd, ek]; exact nxt
/-- of each driver how many minutes, how many pieces -/
def mL (Z : Nat → Nat) (c : HP) (Q : List Nat) : List Int32 := (dvs Z c).map fun d => sumI (minP c) (Q.filter fun p => decide (fr c 85 p = some d))
def pL (Z : Nat → Nat) (c : HP) (Q : List Nat) : List Int32 := (dvs Z c).map fun d => Int32.ofNat (Q.filter fun p => decide (fr c 85 p = some d)).length
def gvn (c : HP) (Q : List Nat) : List Nat := Q.filter fun p => decide (fr c 85 p ≠ none)
theorem mL_snoc (j : J Z c) (Q : List Nat) {p n d : Nat} (hd : (dvs Z c)[n]? = some d) (h : fr c 85 p = some d) : mL Z c (Q ++ [p]) = (mL Z c Q).set n ((mL Z c Q).getD n 0 + minP c p) := by
  apply List.ext_getElem?
  intro w
  have hn := (List.getElem?_eq_some_iff.mp hd).1
  unfold mL
  rw [List.getElem?_set, List.length_map, List.getElem?_map, List.getElem?_map]
  by_cases he : n = w
  · subst he
    rw [if_pos rfl, if_pos hn, List.getD_eq_getElem?_getD, List.getElem?_map, hd]
    show some (sumI (minP c) ((Q ++ [p]).filter fun p => decide (fr c 85 p = some d))) = some (sumI (minP c) (Q.filter fun p => decide (fr c 85 p = some d)) + minP c p)
    rw [List.filter_append, show ([p].filter fun p => decide (fr c 85 p = some d)) = [p] by rw [List.filter_cons, decide_eq_true h]; rfl, sumI_snoc]
  · rw [if_neg he]
    cases hw : (dvs Z c)[w]? with
    | none => rfl
    | some d' =>
      have hne : d ≠ d' := fun z => he (by
        have h1 := (j.d.2 n d hd).1.1
        have h2 := (j.d.2 w d' hw).1.1
        rw [z, h2] at h1
        have := j.d.1
        have hw' := (List.getElem?_eq_some_iff.mp hw).1
        exact ((nEq (by omega) (by omega)).mp h1).symm)
      show some (sumI (minP c) ((Q ++ [p]).filter fun p => decide (fr c 85 p = some d'))) = some (sumI (minP c) (Q.filter fun p => decide (fr c 85 p = some d')))
      rw [List.filter_append, show ([p].filter fun p => decide (fr c 85 p = some d')) = [] by rw [List.filter_cons, decide_eq_false (fun z => hne (by rw [h] at z; exact Option.some.inj z))]; rfl, List.append_nil]
theorem pL_snoc (j : J Z c) (Q : List Nat) {p n d : Nat} (hd : (dvs Z c)[n]? = some d) (h : fr c 85 p = some d) : pL Z c (Q ++ [p]) = (pL Z c Q).set n ((pL Z c Q).getD n 0 + 1) := by
  apply List.ext_getElem?
  intro w
  have hn := (List.getElem?_eq_some_iff.mp hd).1
  unfold pL
  rw [List.getElem?_set, List.length_map, List.getElem?_map, List.getElem?_map]
  by_cases he : n = w
  · subst he
    rw [if_pos rfl, if_pos hn, List.getD_eq_getElem?_getD, List.getElem?_map, hd]
    show some (Int32.ofNat ((Q ++ [p]).filter fun p => decide (fr c 85 p = some d)).length) = some (Int32.ofNat (Q.filter fun p => decide (fr c 85 p = some d)).length + 1)
    rw [List.filter_append, show ([p].filter fun p => decide (fr c 85 p = some d)) = [p] by rw [List.filter_cons, decide_eq_true h]; rfl, List.length_append]
    exact congrArg some (nAdd _ 1).symm
  · rw [if_neg he]
    cases hw : (dvs Z c)[w]? with
    | none => rfl
    | some d' =>
      have hne : d ≠ d' := fun z => he (by
        have h1 := (j.d.2 n d hd).1.1
        have h2 := (j.d.2 w d' hw).1.1
        rw [z, h2] at h1
        have := j.d.1
        have hw' := (List.getElem?_eq_some_iff.mp hw).1
        exact ((nEq (by omega) (by omega)).mp h1).symm)
      show some (Int32.ofNat ((Q ++ [p]).filter fun p => decide (fr c 85 p = some d')).length) = some (Int32.ofNat (Q.filter fun p => decide (fr c 85 p = some d')).length)
      rw [List.filter_append, show ([p].filter fun p => decide (fr c 85 p = some d')) = [] by rw [List.filter_cons, decide_eq_false (fun z => hne (by rw [h] at z; exact Option.some.inj z))]; rfl, List.append_nil]
theorem mL_none (Q : List Nat) {p : Nat} (h : fr c 85 p = none) : mL Z c (Q ++ [p]) = mL Z c Q ∧ pL Z c (Q ++ [p]) = pL Z c Q ∧ gvn c (Q ++ [p]) = gvn c Q := by
  have e : ∀ d, ((Q ++ [p]).filter fun p => decide (fr c 85 p = some d)) = Q.filter fun p => decide (fr c 85 p = some d) := fun d => by
    rw [List.filter_append, show ([p].filter fun p => decide (fr c 85 p = some d)) = [] by rw [List.filter_cons, decide_eq_false (fun z => by rw [h] at z; cases z)]; rfl, List.append_nil]
  refine ⟨?_, ?_, ?_⟩
  · unfold mL; simp only [e]
  · unfold pL; simp only [e]
  · unfold gvn
    rw [List.filter_append, show ([p].filter fun p => decide (fr c 85 p ≠ none)) = [] by rw [List.filter_cons, decide_eq_false (fun z => z h)]; rfl, List.append_nil]
theorem gvn_snoc (Q : List Nat) {p d : Nat} (h : fr c 85 p = some d) : gvn c (Q ++ [p]) = gvn c Q ++ [p] := by
  unfold gvn
  rw [List.filter_append, show ([p].filter fun p => decide (fr c 85 p ≠ none)) = [p] by rw [List.filter_cons, decide_eq_true (by rw [h]; exact sn')]; rfl]
/-- no more pieces than trips -/
theorem pieces_16 (j : J Z c) {L : List Nat} (hn : L.Nodup) (h : ∀ p ∈ L, InP Z c p) : L.length ≤ 16 := by
  have key : (L.map (pfA c)).Nodup := nodup_map_on (fun x hx y hy he => by
    obtain ⟨b1, q1, q2⟩ := h x hx
    obtain ⟨b2, q3, q4⟩ := h y hy
    have l1 := (j.pk q1 q2).2.2.2.2.2.2
    have l2 := (j.pk q3 q4).2.2.2.2.2.2
    rw [he] at l1
    rw [l1] at l2
    exact Option.some.inj l2) hn
  have hs : ∀ t ∈ L.map (pfA c), t ∈ tls Z c := fun t ht => by
    obtain ⟨p, hp, rfl⟩ := List.mem_map.mp ht
    obtain ⟨b, q1, q2⟩ := h p hp
    exact (j.rT q1 (j.pk q1 q2).2.2.2.1).1
  have := subset_len key hs
  rw [List.length_map] at this
  exact Nat.le_trans this j.t.1
end Sound3
