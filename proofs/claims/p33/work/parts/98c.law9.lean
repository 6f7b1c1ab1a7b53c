/-! The law's county is made: places, trips, drivers. -/
def PL (Z : Nat → Nat) (c : HP) (i : Nat) (xs rs : List Int32) : Prop := J Z c ∧ (tls Z c = [] ∧ bks Z c = [] ∧ dvs Z c = []) ∧ (pls Z c)[0]? = some (Z 9) ∧ (xs.length = 8 ∧ rs.length = 8) ∧ (∀ (k p : Nat), (pls Z c)[k]? = some p → (k < i → fi c 97 p = xs.getD k 0 ∧ fi c 99 p = rs.getD k 0) ∧ (i ≤ k → fi c 97 p = 0)) ∧ ∀ (k l : Nat), (lns Z c)[k]? = some l → fi c 65 l = 10
def PI (Z : Nat → Nat) (c : HP) (T nd : Nat) (xs rs fs : List Int32) : Prop := J Z c ∧ ((tls Z c).length = T ∧ (dvs Z c).length = nd ∧ (pls Z c)[0]? = some (Z 9)) ∧ LX Z c xs rs ∧ LFe Z c fs ∧ ∀ t ∈ tls Z c, ndl c t ≤ 44
section Law9
variable {Z : Nat → Nat} {g c c' : HP} {T b xA rA : Nat} {bl xs rs fs : List Int32}
theorem fi_plS {p : Nat} {x w u : Int32} (k q : Nat) : fi (plS c p x w u) k q = if k = 99 ∧ q = p then u else if k = 98 ∧ q = p then w else if k = 97 ∧ q = p then x else fi c k q := by
  unfold plS
  rw [fi_setI, fi_setI, fi_setI]
theorem pl97 {p : Nat} {x w u : Int32} (q : Nat) : fi (plS c p x w u) 97 q = if q = p then x else fi c 97 q := by
  rw [fi_plS, if_neg (fun z => absurd z.1 (by decide)), if_neg (fun z => absurd z.1 (by decide))]
  by_cases h : q = p
  · rw [if_pos ⟨rfl, h⟩, if_pos h]
  · rw [if_neg (fun z => h z.2), if_neg h]
theorem pl99 {p : Nat} {x w u : Int32} (q : Nat) : fi (plS c p x w u) 99 q = if q = p then u else fi c 99 q := by
  rw [fi_plS]
  by_cases h : q = p
  · rw [if_pos ⟨rfl, h⟩, if_pos h]
  · rw [if_neg (fun z => h z.2), if_neg (fun z => absurd z.1 (by decide)), if_neg (fun z => absurd z.1 (by decide)), if_neg h]
theorem pl_step {i : Nat} (h : PL Z c i xs rs) {p n : Nat} {w u : Int32} (hi : (pls Z c)[i]? = some p) (j' : J Z (plS c p (Int32.ofNat n) w u)) : PL Z (plS c p (Int32.ofNat n) w u) (i + 1) (xs.set i (Int32.ofNat n)) (rs.set i u) := by
  obtain ⟨j, h1, h2, ⟨h3, h4⟩, h5, h6⟩ := h
  have hi8 : i < 8 := by have := (List.getElem?_eq_some_iff.mp hi).1; have := j.n.1.1; omega
  refine ⟨j', h1, h2, ⟨by rw [List.length_set]; exact h3, by rw [List.length_set]; exact h4⟩, fun k q hk => ?_, fun k l hl => ?_⟩
  · have hk' : (pls Z c)[k]? = some q := hk
    rw [pl97, pl99, getD_set _ _ _ _ (by omega), getD_set _ _ _ _ (by omega)]
    by_cases e : k = i
    · rw [e, hi] at hk'
      have ep : p = q := Option.some.inj hk'
      rw [if_pos ep.symm, if_pos ep.symm, if_pos e, if_pos e]
      exact ⟨fun _ => ⟨rfl, rfl⟩, fun z => by omega⟩
    · have hne : q ≠ p := fun z => e (by
        have a1 := (j.n.2.1 k q hk').1
        have a2 := (j.n.2.1 i p hi).1
        rw [z, a2] at a1
        have := (List.getElem?_eq_some_iff.mp hk').1
        have := j.n.1.1
        exact ((nEq (by omega) (by omega)).mp a1).symm)
      rw [if_neg hne, if_neg hne, if_neg e, if_neg e]
      obtain ⟨q1, q2⟩ := h5 k q hk'
      exact ⟨fun z => q1 (by omega), fun z => q2 (by omega)⟩
  · rw [fi_plS, if_neg (by omega), if_neg (by omega), if_neg (by omega)]; exact h6 k l hl
theorem l21_loop (n1 : b ≠ xA) (n2 : b ≠ rA) (n3 : xA ≠ rA) (hb : bl.length ≤ 260) : ∀ (m i : Nat) (g c : HP) (xs rs : List Int32), 8 - i < m → i ≤ 8 → Sim Z g c → PL Z c i xs rs → Arr Z g 25 b bl → Arr Z g 20 xA xs → Arr Z g 21 rA rs →
    ∃ w c' xs' rs', f_L_law_L21 (some b) (some (Z 0)) xA rA m (Int32.ofNat i) g = some w ∧ Sim Z w c' ∧ PL Z c' 8 xs' rs' ∧ Arr Z w 25 b bl ∧ Arr Z w 20 xA xs' ∧ Arr Z w 21 rA rs' ∧ SL 0 Z 0 0 g w := by
  intro m
  induction m with
  | zero => intro i g c xs rs hm; omega
  | succ m ih =>
    intro i g c xs rs hm hi S h A1 A2 A3
    have e8 : (8 : Int32) ≤ Int32.ofNat i ↔ 8 ≤ i := nLe (a := 8) (by decide) (by omega)
    rw [f_L_law_L21]
    by_cases hc : 8 ≤ i
    · rw [if_pos (e8.mpr hc)]
      exact ⟨g, c, xs, rs, rfl, S, by rw [show (8 : Nat) = i by omega]; exact h, A1, A2, A3, SL.rf⟩
    · obtain ⟨j, ⟨h1, h2, h3⟩, h4, ⟨h5, h6⟩, h7, h8⟩ := id h
      obtain ⟨p, hp⟩ : ∃ p, (pls Z c)[i]? = some p := ⟨_, List.getElem?_eq_getElem (by have := j.n.1.1; omega)⟩
      obtain ⟨x4, hx4⟩ := lw_cell A1 (Or.inr rfl) (by omega) (i := i) (by omega)
      obtain ⟨n, k1, k2⟩ := lw_below (n := 16) (by decide) (by decide) x4 g
      have st1 := A2.st (i := i) (by omega) (by omega) (Int32.ofNat n)
      have B2 := A2.set (xs.set i (Int32.ofNat n))
      have B1 := A1.set' n1 (xs.set i (Int32.ofNat n))
      have B3 := A3.set' n3.symm (xs.set i (Int32.ofNat n))
      have S1 := S.st A2.2.2.1 A2.2.2.2.1 A2.2.2.2.2 (xs.set i (Int32.ofNat n))
      have s1 : SL 0 Z 0 0 g (setA g xA (xs.set i (Int32.ofNat n))) := SL.st (Nat.zero_le _) _
      generalize hg1 : setA g xA (xs.set i (Int32.ofNat n)) = g1 at *
      obtain ⟨u, hu, hu0, eu⟩ : ∃ u : Int32, (u = 0 ∨ u = 1) ∧ (if i = 0 then 1 else u) = u ∧ (if Int32.ofNat i = 0 then some (1 : Int32) else (f_L_below (x4 >>> (4 &&& 31)) 3 g1).bind fun x7 => (if x7 ≤ 0 then some (0 : Int32) else some (1 : Int32))) = some u := by
        by_cases h0 : i = 0
        · exact ⟨1, Or.inr rfl, if_pos h0, if_pos (by rw [h0]; rfl)⟩
        · have hz : ¬ Int32.ofNat i = 0 := fun z => h0 ((nEq (a := i) (b := 0) (by omega) (by decide)).mp z)
          obtain ⟨q, q1, q2⟩ := lw_below (n := 3) (by decide) (by decide) (x4 >>> (4 &&& 31)) g1
          rw [if_neg hz, show f_L_below (x4 >>> (4 &&& 31)) 3 g1 = some (Int32.ofNat q) from q2, Option.bind_some]
          by_cases hq : Int32.ofNat q ≤ 0
          · exact ⟨0, Or.inl rfl, if_neg h0, if_pos hq⟩
          · exact ⟨1, Or.inr rfl, if_neg h0, if_neg hq⟩
      have st2 := B3.stz (i := i) (by omega) (by omega) hu
      have C3 := B3.set (rs.set i u)
      have C2 := B2.set' n3 (rs.set i u)
      have C1 := B1.set' n2 (rs.set i u)
      have S2 := S1.st B3.2.2.1 B3.2.2.2.1 B3.2.2.2.2 (rs.set i u)
      have s2 : SL 0 Z 0 0 g1 (setA g1 rA (rs.set i u)) := SL.st (Nat.zero_le _) _
      generalize hg2 : setA g1 rA (rs.set i u) = g2 at *
      have ld1 := C2.ld (Or.inl rfl) (i := i) (by rw [List.length_set]; omega) (by omega)
      rw [getD_set _ _ _ _ (by omega), if_pos rfl] at ld1
      have ld2 := C3.ldz (i := i) (by rw [List.length_set]; omega) (by omega)
      rw [getD_set _ _ _ _ (by omega), if_pos rfl] at ld2
      obtain ⟨wq, w1, w2⟩ := lw_below (n := 6) (by decide) (by decide) (x4 >>> (6 &&& 31)) g2
      obtain ⟨g3, e3, S3, s3, j3⟩ := q_place S2 j h1 h2 h3 hp (n := n) (by omega) (w := Int32.ofNat wq) (u := u) (n0 (by omega)) ((nLe (b := 5) (by omega) (by decide)).mpr (by omega)) hu h4
      rw [hu0] at S3 j3
      rw [((h7 i p hp).2 (Nat.le_refl _))] at e3
      obtain ⟨w, c', xs', rs', f1, f2, f3, f4, f5, f6, f7⟩ := ih (i + 1) g3 _ _ _ (by omega) (by omega) S3 (pl_step h hp j3) (C1.sp s3 (Or.inr (Or.inr (Or.inr rfl)))) (C2.sp s3 (Or.inl rfl)) (C3.sp s3 (Or.inr (Or.inl rfl)))
      refine ⟨w, c', xs', rs', ?_, f2, f3, f4, f5, f6, (s1.tr (s2.tr ((s3.sl).tr f7))).up (by omega) (by omega)⟩
      rw [if_neg (fun z => hc (e8.mp z)), hx4 g A1, Option.bind_some, show f_L_below x4 16 g = some (Int32.ofNat n) from k2, Option.bind_some, st1, Option.bind_some, eu, Option.bind_some, st2, Option.bind_some, ld1, Option.bind_some, show f_L_below (x4 >>> (6 &&& 31)) 6 g2 = some (Int32.ofNat wq) from w2, Option.bind_some, ld2, Option.bind_some, rMv S2 j, Option.bind_some, e3, Option.bind_some]
      show (if (0 : Int32) = 0 then f_L_law_L21 (some b) (some (Z 0)) xA rA m (Int32.ofNat i + 1) g3 else none) = _
      rw [if_pos rfl, show Int32.ofNat i + 1 = Int32.ofNat (i + 1) from nAdd i 1, f1]
theorem PI.ag {nd T' nd' : Nat} (h : PI Z c T nd xs rs fs) (A : Ag Z c c') (j' : J Z c') (ht : (tls Z c').length = T') (hd : (dvs Z c').length = nd') (hl : ∀ t ∈ tls Z c', t ∈ tls Z c ∨ fi c' 134 t = 0) : PI Z c' T' nd' xs rs fs := by
  obtain ⟨j, ⟨h1, h2, h3⟩, h4, h5, h6⟩ := h
  refine ⟨j', ⟨ht, hd, by rw [ag_pls A]; exact h3⟩, h4.ag A j, h5.ag A j, fun t hx => ?_⟩
  unfold ndl
  rcases hl t hx with q | q
  · rw [A.2.1 134 t (isT_nz (j.isT q))]; exact h6 t q
  · rw [q]; decide
theorem l125_loop (hb : bl.length ≤ 260) (hT : T ≤ 16) : ∀ (m i : Nat) (g c : HP), T - i < m → i ≤ T → Sim Z g c → PI Z c i 0 xs rs fs → Arr Z g 25 b bl →
    ∃ w c', f_L_law_L125 (some b) (some (Z 0)) xA rA (Int32.ofNat T) m (Int32.ofNat i) g = some w ∧ Sim Z w c' ∧ PI Z c' T 0 xs rs fs ∧ Spd Z (3 * (T - i)) (212 * (T - i)) g w := by
  intro m
  induction m with
  | zero => intro i g c hm; omega
  | succ m ih =>
    intro i g c hm hi S h A1
    rw [f_L_law_L125]
    by_cases hc : T ≤ i
    · rw [if_pos ((nLe (by omega) (by omega)).mpr hc)]
      exact ⟨g, c, rfl, S, by rw [show T = i by omega]; exact h, Spd.rf.up (by omega) (by omega)⟩
    · obtain ⟨j, ⟨h1, h2, h3⟩, h4, h5, h6⟩ := id h
      obtain ⟨r1, hr1, er1⟩ := mod16 (n := i) (by omega)
      obtain ⟨x18, hx18⟩ := lw_cell A1 (Or.inr rfl) (by omega) (i := r1) (by omega)
      obtain ⟨y, hy⟩ : ∃ y, y = x18 + (53 * Int32.ofNat i) := ⟨_, rfl⟩
      obtain ⟨il, a1, a2⟩ := lw_below (n := 4) (by decide) (by decide) y g
      obtain ⟨fo, b1, b2⟩ := lw_below (n := 8) (by decide) (by decide) (y >>> (2 &&& 31)) g
      obtain ⟨to, d1, d2⟩ := lw_below (n := 8) (by decide) (by decide) (y >>> (5 &&& 31)) g
      obtain ⟨s, f1, f2⟩ := lw_below (n := 700) (by decide) (by decide) (y >>> (3 &&& 31)) g
      obtain ⟨q, q1, q2⟩ := lw_below (n := 40) (by decide) (by decide) (y >>> (7 &&& 31)) g
      obtain ⟨l, hl⟩ : ∃ l, (lns Z c)[il]? = some l := ⟨_, List.getElem?_eq_getElem (by have := j.n.1.2.1; omega)⟩
      obtain ⟨fp, hfp⟩ : ∃ l, (pls Z c)[fo]? = some l := ⟨_, List.getElem?_eq_getElem (by have := j.n.1.1; omega)⟩
      obtain ⟨tp, htp⟩ : ∃ l, (pls Z c)[to]? = some l := ⟨_, List.getElem?_eq_getElem (by have := j.n.1.1; omega)⟩
      obtain ⟨g', c', T', e, S', s', j', A, ⟨t1, t2, t3⟩, t4⟩ := q_trip S j (by omega) hl hfp htp (s := s) (n := 5 + q) (by omega) (by omega) (by omega)
      rw [h1] at e
      have PI' : PI Z c' (i + 1) 0 xs rs fs := h.ag A j' (by rw [t1, List.length_append, h1]; rfl) (by rw [t3]; exact h2) (fun t ht => by
        rw [t1] at ht
        rcases List.mem_append.mp ht with z | z
        · exact Or.inl z
        · rw [List.mem_singleton.mp z]; exact Or.inr t4)
      obtain ⟨w, c2, e2, S2, h2', s2⟩ := ih (i + 1) g' c' (by omega) (by omega) S' PI' (A1.sp s' (Or.inr (Or.inr (Or.inr rfl))))
      refine ⟨w, c2, ?_, S2, h2', (s'.tr s2).up (by omega) (by omega)⟩
      rw [if_neg (fun z => hc ((nLe (by omega) (by omega)).mp z)), er1, hx18 g A1, Option.bind_some, ← hy, show f_L_below y 4 g = some (Int32.ofNat il) from a2, Option.bind_some, show f_L_below (y >>> (2 &&& 31)) 8 g = some (Int32.ofNat fo) from b2, Option.bind_some, show f_L_below (y >>> (5 &&& 31)) 8 g = some (Int32.ofNat to) from d2, Option.bind_some, show f_L_below (y >>> (3 &&& 31)) 700 g = some (Int32.ofNat s) from f2, Option.bind_some, show f_L_below (y >>> (7 &&& 31)) 40 g = some (Int32.ofNat q) from q2, Option.bind_some, rMv S j, Option.bind_some, show (5 : Int32) + Int32.ofNat q = Int32.ofNat (5 + q) from nAdd 5 q, e, Option.bind_some]
      show (if Int32.ofNat i = Int32.ofNat i then f_L_law_L125 (some b) (some (Z 0)) xA rA (Int32.ofNat T) m (Int32.ofNat i + 1) g' else none) = _
      rw [if_pos rfl, show Int32.ofNat i + 1 = Int32.ofNat (i + 1) from nAdd i 1, e2]
theorem l215_loop {p4 : Int32} : ∀ (m i : Nat) (g c : HP), 4 - i < m → i ≤ 4 → Sim Z g c → PI Z c T i xs rs fs →
    ∃ w c', f_L_law_L215 (some b) (some (Z 0)) xA rA p4 m (Int32.ofNat i) g = some w ∧ Sim Z w c' ∧ PI Z c' T 4 xs rs fs ∧ Spd Z (3 * (4 - i)) (106 * (4 - i)) g w := by
  intro m
  induction m with
  | zero => intro i g c hm; omega
  | succ m ih =>
    intro i g c hm hi S h
    have e4 : (4 : Int32) ≤ Int32.ofNat i ↔ 4 ≤ i := nLe (a := 4) (by decide) (by omega)
    rw [f_L_law_L215]
    by_cases hc : 4 ≤ i
    · rw [if_pos (e4.mpr hc)]
      exact ⟨g, c, rfl, S, by rw [show (4 : Nat) = i by omega]; exact h, Spd.rf.up (by omega) (by omega)⟩
    · obtain ⟨j, ⟨h1, h2, h3⟩, h4, h5, h6⟩ := id h
      obtain ⟨g', c', D, e, S', s', j', A, t1, t2, t3, t4⟩ := q_driver S j (by omega)
      rw [h2] at e
      have PI' : PI Z c' T (i + 1) xs rs fs := h.ag A j' (by rw [t1]; exact h1) (by rw [t4, List.length_append, h2]; rfl) (fun t ht => by
        rw [t1] at ht; exact Or.inl ht)
      obtain ⟨w, c2, e2, S2, h2', s2⟩ := ih (i + 1) g' c' (by omega) (by omega) S' PI'
      refine ⟨w, c2, ?_, S2, h2', (s'.tr s2).up (by omega) (by omega)⟩
      rw [if_neg (fun z => hc (e4.mp z)), rMv S j, Option.bind_some, e, Option.bind_some]
      show (if Int32.ofNat i = Int32.ofNat i then f_L_law_L215 (some b) (some (Z 0)) xA rA p4 m (Int32.ofNat i + 1) g' else none) = _
      rw [if_pos rfl, show Int32.ofNat i + 1 = Int32.ofNat (i + 1) from nAdd i 1, e2]
end Law9
