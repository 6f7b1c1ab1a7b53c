/-! The law's steps: isBuilt, isAppended. -/
section Law1
variable {Z : Nat → Nat} {g c c' : HP} {T : Nat} {xs rs fs : List Int32}
theorem lw_isBuilt (S : Sim Z g c) (h : LI Z c T xs rs fs) {q : Nat} (h1 : 50 ≤ q) (h2 : q ≤ 999) : ∃ g' c', f_L_isBuilt (some (Z 0)) (Int32.ofNat q) g = some (1, g') ∧ Sim Z g' c' ∧ Spd Z 96 3392 g g' ∧ LI Z c' T xs rs fs := by
  have j := h.1
  have q1 : (50 : Int32) ≤ Int32.ofNat q := (nLe (a := 50) (by decide) (by omega)).mpr h1
  have q2 : Int32.ofNat q ≤ (999 : Int32) := (nLe (b := 999) (by omega) (by decide)).mpr h2
  obtain ⟨w1, e1, S1, s1⟩ := q_many j (w := 3) (by decide) (by decide) g S
  obtain ⟨w2, e2, S2, s2⟩ := q_many j (w := 1) (by decide) (by decide) w1 S1
  obtain ⟨k, w3, c', e3, S3, s3, j', ⟨A, ⟨b1, b2, b3⟩, b4, b5, b6⟩, hst⟩ := q_build S2 j q1 q2
  obtain ⟨w4, e4, S4, s4⟩ := q_many j' (w := 3) (by decide) (by decide) w3 S3
  obtain ⟨w5, e5, S5, s5⟩ := q_many j' (w := 1) (by decide) (by decide) w4 S4
  obtain ⟨w6, e6, S6, s6⟩ := q_many j' (w := 1) (by decide) (by decide) w5 S5
  obtain ⟨w7, e7, S7, s7⟩ := q_build2 j' q1 q2 hst w6 S6
  rw [vM3, cnt_w j] at e1
  rw [vM3, cnt_w j'] at e4
  rw [vM1] at e2 e5 e6
  have hw : wN Z c ≤ 16 := Nat.le_trans (List.length_filter_le _ _) j.t.1
  have hb8 := j.b.1
  have hb8' := j'.b.1
  refine ⟨w7, c', ?_, S7, (((((s1.tr s2).tr s3).tr s4).tr s5).tr (s6.tr s7)).up (by omega) (by omega), h.ag A j' b1 (by rw [b3])⟩
  unfold f_L_isBuilt
  rw [rMv S j, Option.bind_some, e1, Option.bind_some]
  show Option.bind (rcv 10 (some (Z 0)) w1) _ = _
  rw [rMv S1 j, Option.bind_some, e2, Option.bind_some]
  show Option.bind (rcv 10 (some (Z 0)) w2) _ = _
  rw [rMv S2 j, Option.bind_some, e3, Option.bind_some]
  show Option.bind (rcv 10 (some (Z 0)) w3) _ = _
  rw [rMv S3 j', Option.bind_some, e4, Option.bind_some]
  show (if Int32.ofNat (wN Z c') = Int32.ofNat (wN Z c) - Int32.ofNat k then Option.bind (rcv 10 (some (Z 0)) w4) _ else none) = _
  rw [nSub (by omega), show wN Z c - k = wN Z c' by omega, if_pos rfl, rMv S4 j', Option.bind_some, e5, Option.bind_some]
  show (if Int32.ofNat (bks Z c').length < Int32.ofNat (bks Z c).length then none else Option.bind (rcv 10 (some (Z 0)) w5) _) = _
  rw [if_neg (fun z => by have := (nLt (by omega) (by omega)).mp z; omega), rMv S5 j', Option.bind_some, e6, Option.bind_some]
  show (if Int32.ofNat (bks Z c).length + Int32.ofNat k < Int32.ofNat (bks Z c').length then none else Option.bind (rcv 10 (some (Z 0)) w6) _) = _
  rw [nAdd, if_neg (fun z => by have := (nLt (by omega) (by omega)).mp z; omega), rMv S6 j', Option.bind_some, e7, Option.bind_some]
  show (if (0 : Int32) = 0 then some ((1 : Int32), w7) else none) = _
  rw [if_pos rfl]
theorem bn_neg {t : Nat} (h : fr c 135 t = none) : bnT c t = -1 := by unfold bnT; rw [h]
theorem bn_at (j : J Z c) {t i b : Nat} (ht : t ∈ tls Z c) (hi : (bks Z c)[i]? = some b) : bnT c t = Int32.ofNat i ↔ fr c 135 t = some b := by
  have hi8 := bi31 j hi
  constructor
  · intro h
    cases hf : fr c 135 t with
    | none => rw [bn_neg hf] at h; exact absurd (h ▸ n0 (n := i) (by omega)) (by decide)
    | some b' =>
      obtain ⟨k1, k2⟩ := j.inB ht hf
      obtain ⟨i', hi'⟩ := mem_at k1
      have e1 : fi c 16 b' = Int32.ofNat i' := (j.b.2 i' b' hi').1.1
      have e2 : bnT c t = fi c 16 b' := by unfold bnT; rw [hf]
      have hi8' := bi31 j hi'
      rw [e2, e1] at h
      have := (nEq (by omega) (by omega)).mp h
      rw [this, hi] at hi'
      exact hi'.symm
  · intro h
    unfold bnT
    rw [h]
    exact (j.b.2 i b hi).1.1
theorem bn_pos (j : J Z c) {t b : Nat} (ht : t ∈ tls Z c) (h : fr c 135 t = some b) : ∃ i, (bks Z c)[i]? = some b ∧ bnT c t = Int32.ofNat i ∧ i < 8 := by
  obtain ⟨k1, k2⟩ := j.inB ht h
  obtain ⟨i, hi⟩ := mem_at k1
  exact ⟨i, hi, (bn_at j ht hi).mpr h, by have := (List.getElem?_eq_some_iff.mp hi).1; have := j.b.1; omega⟩
theorem bn_sgn (j : J Z c) {t : Nat} (ht : t ∈ tls Z c) : 0 ≤ bnT c t ↔ fr c 135 t ≠ none := by
  cases hf : fr c 135 t with
  | none => rw [bn_neg hf]; exact ⟨fun h => absurd h (by decide), fun h => absurd rfl h⟩
  | some b =>
    obtain ⟨i, -, h, hi⟩ := bn_pos j ht hf
    rw [h]
    exact ⟨fun _ => sn, fun _ => n0 (by omega)⟩
theorem t128 (j : J Z c) {k t : Nat} (h : (tls Z c)[k]? = some t) : fi c 128 t = Int32.ofNat k := (j.t.2 k t h).1.2.1
theorem vAt_at {b k t : Nat} (h : (rowB c b)[k]? = some t) : vAt c b k = fi c 128 t := by unfold vAt; rw [h]
theorem vAt_no {b k : Nat} (h : (rowB c b)[k]? = none) : vAt c b k = -1 := by unfold vAt; rw [h]
theorem app_is (S : Sim Z g c) (j : J Z c) (hx : LX Z c xs rs) {xA : Nat} (A : Arr Z g 20 xA xs) {i b k t : Nat} (hi : (bks Z c)[i]? = some b) (hk : (tls Z c)[k]? = some t) :
    ∃ w, (if 0 ≤ bnT c t then some ((0 : Int32), g) else (if Int32.ofNat (rowB c b).length = 0 then some ((1 : Int32), g) else
      (rcv 10 (some (Z 0)) g).bind fun b5 => (f_X9_at b5 (Int32.ofNat i) (Int32.ofNat (rowB c b).length - 1) g).bind fun x6 => (f_L_follows (some (Z 0)) (some xA) (Int32.ofNat k) x6 g).bind fun v7 => (if v7.1 = 0 then some ((0 : Int32), v7.2) else some ((1 : Int32), v7.2)))) =
      some ((if fr c 135 t = none ∧ ∀ l, (rowB c b).getLast? = some l → canF c l t = true then 1 else 0), w) ∧ Sim Z w c ∧ Spd Z 0 0 g w := by
  have hb := List.mem_of_getElem? hi
  have ht := List.mem_of_getElem? hk
  have l16 := j.rlen hb
  by_cases hf : fr c 135 t = none
  · rw [if_neg (fun z => (bn_sgn j ht).mp z hf)]
    by_cases h0 : (rowB c b) = []
    · rw [h0, if_pos (show Int32.ofNat ([] : List Nat).length = 0 from rfl), if_pos ⟨hf, fun l z => (by cases z)⟩]
      exact ⟨g, rfl, S, Spd.rf⟩
    · have hlen : 0 < (rowB c b).length := List.length_pos_iff.mpr h0
      rw [if_neg (fun z => by have := (nEq (a := (rowB c b).length) (b := 0) (by omega) (by decide)).mp z; omega), rMv S j, Option.bind_some,
        show Int32.ofNat (rowB c b).length - 1 = Int32.ofNat ((rowB c b).length - 1) from nSub (b := 1) hlen, q_at S j hi (by omega), Option.bind_some]
      obtain ⟨l, hl⟩ : ∃ l, (rowB c b)[(rowB c b).length - 1]? = some l := ⟨_, List.getElem?_eq_getElem (by omega)⟩
      have hlast : (rowB c b).getLast? = some l := by rw [List.getLast?_eq_getElem?]; exact hl
      have hlt := (j.rT hb (List.mem_of_getElem? hl)).1
      obtain ⟨il, hil⟩ := mem_at hlt
      rw [vAt_at hl, t128 j hil]
      obtain ⟨w, e, Sw, sw⟩ := lw_follows S j hx A hk hil
      refine ⟨w, ?_, Sw, sw⟩
      rw [e, Option.bind_some]
      cases hc : canF c l t with
      | true =>
        have e9 : (if fr c 135 t = none ∧ ∀ l, (rowB c b).getLast? = some l → canF c l t = true then (1 : Int32) else 0) = 1 := if_pos ⟨hf, fun l' z => by rw [hlast] at z; cases z; exact hc⟩
        rw [e9]
        exact if_neg (show ¬ (1 : Int32) = 0 by decide)
      | false =>
        have e9 : (if fr c 135 t = none ∧ ∀ l, (rowB c b).getLast? = some l → canF c l t = true then (1 : Int32) else 0) = 0 := if_neg (fun z => by have := z.2 l hlast; rw [hc] at this; cases this)
        rw [e9]
        exact if_pos (show (0 : Int32) = 0 from rfl)
  · rw [if_pos ((bn_sgn j ht).mpr hf), if_neg (fun z => hf z.1)]
    exact ⟨g, rfl, S, Spd.rf⟩
theorem lw_isAppended (S : Sim Z g c) (h : LI Z c T xs rs fs) {xA : Nat} (A : Arr Z g 20 xA xs) {i b k t : Nat} (hi : (bks Z c)[i]? = some b) (hk : (tls Z c)[k]? = some t) :
    ∃ g' c', f_L_isAppended (some (Z 0)) (some xA) (Int32.ofNat i) (Int32.ofNat k) g = some (1, g') ∧ Sim Z g' c' ∧ Spd Z 1 100 g g' ∧ LI Z c' T xs rs fs := by
  have j := h.1
  have hx := h.2.2.1
  have hb := List.mem_of_getElem? hi
  have ht := List.mem_of_getElem? hk
  have l16 := j.rlen hb
  have hk16 := ti31 j hk
  obtain ⟨w1, e1, S1, s1⟩ := q_ofBlock j hi (w := 1) (by decide) (by decide) g S
  obtain ⟨w2, e2, S2, s2⟩ := q_ofTrip j hk (w := 6) (by decide) (by decide) w1 S1
  rw [vB1] at e1
  rw [vT6] at e2
  have A2 := (A.sp s1 (Or.inl rfl)).sp s2 (Or.inl rfl)
  obtain ⟨w3, e3, S3, s3⟩ := app_is S2 j hx A2 hi hk
  have hd : f_L_isAppended (some (Z 0)) (some xA) (Int32.ofNat i) (Int32.ofNat k) g = (fun q8 : Int32 × HP => (rcv 10 (some (Z 0)) q8.2).bind fun b9 => tryG (f_X9_append b9 (Int32.ofNat i) (Int32.ofNat k) q8.2) (x_X9_append b9 (Int32.ofNat i) (Int32.ofNat k) q8.2) (fun v10 =>
      (if v10.1 = Int32.ofNat (rowB c b).length + 1 then (if q8.1 = 0 then none else (rcv 10 (some (Z 0)) v10.2).bind fun b13 => (f_X9_at b13 (Int32.ofNat i) (Int32.ofNat (rowB c b).length) v10.2).bind fun x14 => (if x14 = Int32.ofNat k then (rcv 10 (some (Z 0)) v10.2).bind fun b15 => (f_X9_ofTrip b15 (Int32.ofNat k) 7 v10.2).bind fun v16 => (if v16.1 = (-1) then some ((1 : Int32), v16.2) else none) else none)) else none))
      (fun g12 => (if q8.1 = 0 then (rcv 10 (some (Z 0)) g12).bind fun b17 => (f_X9_ofBlock b17 (Int32.ofNat i) 1 g12).bind fun v18 => (if v18.1 = Int32.ofNat (rowB c b).length then some ((1 : Int32), v18.2) else none) else none)))
      ((if fr c 135 t = none ∧ ∀ l, (rowB c b).getLast? = some l → canF c l t = true then 1 else 0), w3) := by
    unfold f_L_isAppended
    rw [rMv S j, Option.bind_some, e1, Option.bind_some]
    show Option.bind (rcv 10 (some (Z 0)) w1) _ = _
    rw [rMv S1 j, Option.bind_some, e2, Option.bind_some]
    show Option.bind (if 0 ≤ bnT c t then some ((0 : Int32), w2) else (if Int32.ofNat (rowB c b).length = 0 then some ((1 : Int32), w2) else
      (rcv 10 (some (Z 0)) w2).bind fun b5 => (f_X9_at b5 (Int32.ofNat i) (Int32.ofNat (rowB c b).length - 1) w2).bind fun x6 => (f_L_follows (some (Z 0)) (some xA) (Int32.ofNat k) x6 w2).bind fun v7 => (if v7.1 = 0 then some ((0 : Int32), v7.2) else some ((1 : Int32), v7.2)))) _ = _
    rw [e3]
    rfl
  rw [hd]
  by_cases hP : fr c 135 t = none ∧ ∀ l, (rowB c b).getLast? = some l → canF c l t = true
  · rw [if_pos hP]
    obtain ⟨w4, c', e4, S4, s4, j', R, r136⟩ := q_append S3 j hi hk hP.1 hP.2
    obtain ⟨Ag', Sl', tg', R4, R5⟩ := R
    have hi' : (bks Z c')[i]? = some b := by rw [bks_eq Sl'.2.2.1]; exact hi
    have hk' : (tls Z c')[k]? = some t := by rw [tls_eq Sl'.1]; exact hk
    have er : rowB c' b = rowB c b ++ [t] := ((R4 b hb).1).trans (if_pos rfl)
    obtain ⟨w5, e5, S5, s5⟩ := q_ofTrip j' hk' (w := 7) (by decide) (by decide) w4 S4
    rw [vT7, show pnT c' t = -1 by unfold pnT; rw [r136]] at e5
    refine ⟨w5, c', ?_, S5, ((((s1.tr s2).tr s3).tr s4).tr s5).up (by omega) (by omega), h.ag Ag' j' (tls_eq Sl'.1) (by rw [dvs_eq Sl'.2.2.2])⟩
    show ((rcv 10 (some (Z 0)) w3).bind _) = _
    rw [rMv S3 j, Option.bind_some, try_f e4]
    show (if Int32.ofNat ((rowB c b).length + 1) = Int32.ofNat (rowB c b).length + 1 then (if (1 : Int32) = 0 then none else (rcv 10 (some (Z 0)) w4).bind _) else none) = _
    rw [show Int32.ofNat (rowB c b).length + 1 = Int32.ofNat ((rowB c b).length + 1) from nAdd _ 1, if_pos rfl, if_neg (by decide), rMv S4 j', Option.bind_some, q_at S4 j' hi' (by omega), Option.bind_some,
      vAt_at (show (rowB c' b)[(rowB c b).length]? = some t by rw [er, List.getElem?_append_right (Nat.le_refl _), Nat.sub_self]; rfl), t128 j' hk', if_pos rfl, Option.bind_some, e5, Option.bind_some]
    show (if (-1 : Int32) = -1 then some ((1 : Int32), w5) else none) = _
    rw [if_pos rfl]
  · rw [if_neg hP]
    obtain ⟨x1, x2⟩ := xq_append S3 j hi hk hP
    obtain ⟨w5, e5, S5, s5⟩ := q_ofBlock j hi (w := 1) (by decide) (by decide) (bump w3 1 6 0) S3.bump
    rw [vB1] at e5
    refine ⟨w5, c, ?_, S5, ((((s1.tr s2).tr s3).tr spd_bump).tr s5).up (by omega) (by omega), h⟩
    show ((rcv 10 (some (Z 0)) w3).bind _) = _
    rw [rMv S3 j, Option.bind_some, try_x x1 x2]
    show (if (0 : Int32) = 0 then (rcv 10 (some (Z 0)) (bump w3 1 6 0)).bind _ else none) = _
    rw [if_pos rfl, rMv S3.bump j, Option.bind_some, e5, Option.bind_some]
    show (if Int32.ofNat (rowB c b).length = Int32.ofNat (rowB c b).length then some ((1 : Int32), w5) else none) = _
    rw [if_pos rfl]
end Law1
