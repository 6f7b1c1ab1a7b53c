/-! isSound: the trips, all of them; what is lost by each cause. -/
section Sound2
variable {Z : Nat → Nat} {g c c' : HP} {T : Nat} {xs rs fs : List Int32}
theorem take_snoc {l : List Nat} {i x : Nat} (h : l[i]? = some x) : l.take (i + 1) = l.take i ++ [x] := by
  have hi := (List.getElem?_eq_some_iff.mp h).1
  rw [List.take_succ, h]; rfl
theorem sumI_snoc (f : Nat → Int32) : ∀ (l : List Nat) (x : Nat), sumI f (l ++ [x]) = sumI f l + f x
  | [], x => by show f x + 0 = 0 + f x; rw [Int32.add_zero, Int32.zero_add]
  | y :: ys, x => by
    show f y + sumI f (ys ++ [x]) = (f y + sumI f ys) + f x
    rw [sumI_snoc f ys x, Int32.add_assoc]
theorem woN_snoc (l : List Nat) (t : Nat) : Int32.ofNat ((l ++ [t]).filter fun t => decide (fr c 135 t = none)).length = Int32.ofNat (l.filter fun t => decide (fr c 135 t = none)).length + (if fr c 135 t = none then 1 else 0) := by
  rw [List.filter_append, List.length_append]
  by_cases h : fr c 135 t = none
  · have : ([t].filter fun t => decide (fr c 135 t = none)).length = 1 := by rw [List.filter_cons, decide_eq_true h]; rfl
    rw [this, if_pos h]; exact (nAdd _ 1).symm
  · have : ([t].filter fun t => decide (fr c 135 t = none)).length = 0 := by rw [List.filter_cons, decide_eq_false h]; rfl
    rw [this, if_neg h, Nat.add_zero, Int32.add_zero]
theorem s15_loop (h : LI Z c T xs rs fs) {n0' : Nat} {fA lA0 : Nat} (hne : fA ≠ lA0) (hn : n0' ≤ lA0) {s2 s3 : Option Nat} : ∀ (m i : Nat) (w : HP), T - i < m → i ≤ T → Sim Z w c → Arr Z w 20 fA fs → Arr Z w 20 lA0 (cauL c ((tls Z c).take i)) →
    ∃ w', f_L_isSound_L15 (some (Z 0)) s2 s3 (Int32.ofNat T) (some fA) 5 lA0 m (sumI (payT c) ((tls Z c).take i)) (Int32.ofNat (((tls Z c).take i).filter fun t => decide (fr c 135 t = none)).length) (Int32.ofNat i) w = some (sumI (payT c) (tls Z c), Int32.ofNat (wN Z c), w') ∧ Sim Z w' c ∧ SL n0' Z 0 0 w w' ∧ Arr Z w' 20 fA fs ∧ Arr Z w' 20 lA0 (cauL c (tls Z c)) := by
  intro m
  induction m with
  | zero => intro i w hm; omega
  | succ m ih =>
    intro i w hm hi S F L
    have hT := h.2.1.1
    have hT16 := h.1.t.1
    by_cases hc : T ≤ i
    · have ei : i = T := by omega
      have et : (tls Z c).take i = tls Z c := List.take_of_length_le (by omega)
      rw [f_L_isSound_L15, if_pos ((nLe (by omega) (by omega)).mpr hc), et]
      rw [et] at L
      exact ⟨w, rfl, S, SL.rf, F, L⟩
    · obtain ⟨t, ht⟩ : ∃ t, (tls Z c)[i]? = some t := ⟨_, List.getElem?_eq_getElem (by omega)⟩
      obtain ⟨w1, e1, S1, s1, F1, L1⟩ := s15_step S h F L hne hn ht (s2 := s2) (s3 := s3) m (sumI (payT c) ((tls Z c).take i)) (Int32.ofNat (((tls Z c).take i).filter fun t => decide (fr c 135 t = none)).length)
      rw [← take_snoc ht] at L1
      obtain ⟨w2, e2, S2, s2', F2, L2⟩ := ih (i + 1) w1 (by omega) (by omega) S1 F1 L1
      refine ⟨w2, ?_, S2, (s1.tr s2').up (by omega) (by omega), F2, L2⟩
      rw [e1, ← e2, take_snoc ht, sumI_snoc, woN_snoc]
theorem s262_loop (h : LI Z c T xs rs fs) {lA0 : Nat} {s2 s3 : Option Nat} {p3 p6 p8 : Int32} : ∀ (m i : Nat) (w : HP), 7 - i < m → 1 ≤ i → i ≤ 7 → Sim Z w c → Arr Z w 20 lA0 (cauL c (tls Z c)) →
    ∃ w', f_L_isSound_L262 (some (Z 0)) s2 s3 p3 p6 lA0 p8 m (Int32.ofNat i) w = some w' ∧ Sim Z w' c ∧ Spd Z 0 0 w w' := by
  intro m
  induction m with
  | zero => intro i w hm; omega
  | succ m ih =>
    intro i w hm h1 h7 S L
    have j := h.1
    have e7 : (7 : Int32) ≤ Int32.ofNat i ↔ 7 ≤ i := nLe (a := 7) (by decide) (by omega)
    rw [f_L_isSound_L262]
    by_cases hc : 7 ≤ i
    · rw [if_pos (e7.mpr hc)]; exact ⟨w, rfl, S, Spd.rf⟩
    · obtain ⟨w1, q1, S1, s1⟩ := q_lost j (w := Int32.ofNat i) ((nLe (a := 1) (by decide) (by omega)).mpr h1) ((nLe (b := 6) (by omega) (by decide)).mpr (by omega)) w S
      have L1 := L.sp s1 (Or.inl rfl)
      have ld := L1.ld (Or.inl rfl) (i := i) (by rw [cauL_len]; omega) (by omega)
      rw [cauL_at c _ (by omega)] at ld
      obtain ⟨w2, q2, S2, s2'⟩ := ih (i + 1) w1 (by omega) (by omega) (by omega) S1 L1
      refine ⟨w2, ?_, S2, s1.tr s2'⟩
      rw [if_neg (fun z => hc (e7.mp z)), rMv S j, Option.bind_some, q1, Option.bind_some]
      show ((ldI (some lA0) (Int32.ofNat i) w1).bind _) = _
      rw [ld, Option.bind_some]
      show (if Int32.ofNat (cntC Z c (Int32.ofNat i)) = Int32.ofNat (cntC Z c (Int32.ofNat i)) then f_L_isSound_L262 (some (Z 0)) s2 s3 p3 p6 lA0 p8 m (Int32.ofNat i + 1) w1 else none) = _
      rw [if_pos rfl, show Int32.ofNat i + 1 = Int32.ofNat (i + 1) from nAdd i 1, q2]
/-- a block's trips -/
theorem s398_loop (h : LI Z c T xs rs fs) {xA : Nat} {i b : Nat} (hi : (bks Z c)[i]? = some b) {s2 : Option Nat} {p3 p8 p9 p10 p14 : Int32} {p11 p12 p13 : Nat} : ∀ (m k : Nat) (w : HP), (rowB c b).length - k < m → k ≤ (rowB c b).length → Sim Z w c → Arr Z w 20 xA xs →
    ∃ w', f_L_isSound_L398 (Z 0) (some xA) s2 p3 p8 p9 p10 p11 p12 p13 p14 (Int32.ofNat i) (Int32.ofNat (rowB c b).length) m (Int32.ofNat k) w = some w' ∧ Sim Z w' c ∧ Spd Z 0 0 w w' := by
  intro m
  induction m with
  | zero => intro k w hm; omega
  | succ m ih =>
    intro k w hm hk S A
    have j := h.1
    have hb := List.mem_of_getElem? hi
    have l16 := j.rlen hb
    have hi8 := bi31 j hi
    rw [f_L_isSound_L398]
    by_cases hc : (rowB c b).length ≤ k
    · rw [if_pos ((nLe (by omega) (by omega)).mpr hc)]; exact ⟨w, rfl, S, Spd.rf⟩
    · obtain ⟨t, ht⟩ : ∃ t, (rowB c b)[k]? = some t := ⟨_, List.getElem?_eq_getElem (by omega)⟩
      obtain ⟨htl, hf⟩ := j.rT hb (List.mem_of_getElem? ht)
      obtain ⟨it, hit⟩ := mem_at htl
      obtain ⟨w1, e1, S1, s1⟩ := q_ofTrip j hit (w := 6) (by decide) (by decide) w S
      rw [vT6, (bn_at j htl hi).mpr hf] at e1
      have A1 := A.sp s1 (Or.inl rfl)
      have ek : Int32.ofNat k + 1 = Int32.ofNat (k + 1) := nAdd k 1
      rw [if_neg (fun z => hc ((nLe (by omega) (by omega)).mp z)), rMv S j, Option.bind_some, q_at S j hi (by omega), Option.bind_some, Option.bind_some, vAt_at ht, t128 j hit, e1, Option.bind_some]
      show ∃ w', (if Int32.ofNat i = Int32.ofNat i then (if Int32.ofNat k ≤ 0 then f_L_isSound_L398 (Z 0) (some xA) s2 p3 p8 p9 p10 p11 p12 p13 p14 (Int32.ofNat i) (Int32.ofNat (rowB c b).length) m (Int32.ofNat k + 1) w1 else (rcv 10 (some (Z 0)) w1).bind _) else none) = some w' ∧ _
      rw [if_pos rfl, ek]
      by_cases h0 : k = 0
      · obtain ⟨w2, e2, S2, s2'⟩ := ih (k + 1) w1 (by omega) (by omega) S1 A1
        rw [if_pos (by rw [h0]; decide)]
        exact ⟨w2, e2, S2, s1.tr s2'⟩
      · obtain ⟨a, ha⟩ : ∃ a, (rowB c b)[k - 1]? = some a := ⟨_, List.getElem?_eq_getElem (by omega)⟩
        obtain ⟨hal, -⟩ := j.rT hb (List.mem_of_getElem? ha)
        obtain ⟨ia, hia⟩ := mem_at hal
        obtain ⟨w2, e2, S2, s2'⟩ := lw_follows S1 j h.2.2.1 A1 hit hia
        have hch : canF c a t = true := by
          obtain ⟨_, _, _, _, _, ⟨_, _, hcn⟩, _⟩ := j.bok hb
          exact hcn (k - 1) a t ha (by rw [show k - 1 + 1 = k by omega]; exact ht)
        rw [hch] at e2
        have A2 := A1.sp s2' (Or.inl rfl)
        obtain ⟨w3, e3, S3, s3'⟩ := ih (k + 1) w2 (by omega) (by omega) S2 A2
        refine ⟨w3, ?_, S3, (s1.tr s2').tr s3'⟩
        rw [if_neg (fun z => by have := (nLe (a := k) (b := 0) (by omega) (by decide)).mp z; omega), rMv S1 j, Option.bind_some, q_at S1 j hi (by omega), Option.bind_some, Option.bind_some, show Int32.ofNat k - 1 = Int32.ofNat (k - 1) from nSub (b := 1) (by omega), q_at S1 j hi (by omega), Option.bind_some, vAt_at ht, vAt_at ha, t128 j hit, t128 j hia, e2, Option.bind_some]
        exact (if_neg (show ¬ (1 : Int32) = 0 by decide)).trans e3
end Sound2
