/-! The law's arms: delays, drivers sick, what may be delayed, a line told. -/
section Law6
variable {Z : Nat → Nat} {g c c' : HP} {T : Nat} {xs rs fs : List Int32}
theorem LI.del (h : LI Z c T xs rs fs) {t n : Nat} (hn : n ≤ 44) (j' : J Z (setI c 134 t (Int32.ofNat n))) : LI Z (setI c 134 t (Int32.ofNat n)) T xs rs fs := by
  obtain ⟨j, h1, ⟨h2, h3⟩, ⟨h4, h5⟩, h6⟩ := h
  refine ⟨j', h1, ⟨h2, fun i p hp => ?_⟩, ⟨h4, fun i p hp => ?_⟩, fun x hx => ?_⟩
  · rw [setI_ne (by omega), setI_ne (by omega)]; exact h3 i p hp
  · rw [setI_ne (by omega)]; exact h5 i p hp
  · unfold ndl
    rw [fi_setI]
    by_cases hc : 134 = 134 ∧ x = t
    · rw [if_pos hc, nN (by omega)]; exact hn
    · rw [if_neg hc]; exact h6 x hx
theorem arm11 (S : Sim Z g c) (h : LI Z c T xs rs fs) {k t : Nat} (hk : (tls Z c)[k]? = some t) (x : Int32) : LwS Z T xs rs fs g ((f_L_below x 45 g).bind fun x84 => (rcv 10 (some (Z 0)) g).bind fun b85 => (f_X9_delay b85 (Int32.ofNat k) x84 g).bind fun v86 => (if v86.1 ≤ 44 then some v86.2 else none)) := by
  have j := h.1
  have ht := List.mem_of_getElem? hk
  obtain ⟨r, r1, r2⟩ := lw_below (n := 45) (by decide) (by decide) x g
  obtain ⟨g', e, S', s', j'⟩ := q_delay S j hk (n := r) (by omega)
  have d1 := (j_tdl j ht).1
  have d2 := h.2.2.2.2 t ht
  have e44 : (44 : Int32) = Int32.ofNat 44 := rfl
  rw [show f_L_below x 45 g = some (Int32.ofNat r) from r2, Option.bind_some, rMv S j, Option.bind_some, e, Option.bind_some]
  exact ⟨g', _, if_pos (show fi c 134 t ≤ 44 by rw [d1, e44]; exact (nLe (by omega) (by omega)).mpr d2), S', (s'.sl).up (by omega) (by omega), h.del (by omega) j'⟩
theorem arm12 (S : Sim Z g c) (h : LI Z c T xs rs fs) (x y : Int32) : LwS Z T xs rs fs g ((f_L_below y 4 g).bind fun x87 => (rcv 10 (some (Z 0)) g).bind fun b88 => (f_X9_ofDriver b88 x87 2 g).bind fun v89 =>
    ((if v89.1 = 1 then some (1 : Int32) else some (0 : Int32))).bind fun q90 => (f_L_below x 4 v89.2).bind fun x91 => ((if x91 = 0 then some (1 : Int32) else some (0 : Int32))).bind fun q92 => (f_L_below y 4 v89.2).bind fun x93 => (rcv 10 (some (Z 0)) v89.2).bind fun b94 => (f_X9_sick b94 x93 q92 v89.2).bind fun v95 =>
    (if v95.1 = q90 then (f_L_below y 4 v95.2).bind fun x96 => (rcv 10 (some (Z 0)) v95.2).bind fun b97 => (f_X9_ofDriver b97 x96 2 v95.2).bind fun v98 => (if q92 = 0 then (if v98.1 = 0 then some v98.2 else none) else (if v98.1 = 1 then some v98.2 else none)) else none)) := by
  have j := h.1
  obtain ⟨n, r1, r2⟩ := lw_below (n := 4) (by decide) (by decide) y g
  have r2' : ∀ w, f_L_below y 4 w = some (Int32.ofNat n) := fun w => r2
  obtain ⟨m, m1, m2⟩ := lw_below (n := 4) (by decide) (by decide) x g
  have m2' : ∀ w, f_L_below x 4 w = some (Int32.ofNat m) := fun w => m2
  obtain ⟨d, hd⟩ : ∃ d, (dvs Z c)[n]? = some d := ⟨_, List.getElem?_eq_getElem (by rw [h.2.1.2.1]; exact r1)⟩
  obtain ⟨v, hv, hv2⟩ : ∃ v : Int32, (if Int32.ofNat m = 0 then some (1 : Int32) else some (0 : Int32)) = some v ∧ (v = 0 ∨ v = 1) := by
    by_cases hc : Int32.ofNat m = 0
    · exact ⟨1, if_pos hc, Or.inr rfl⟩
    · exact ⟨0, if_neg hc, Or.inl rfl⟩
  obtain ⟨w1, e1, S1, s1⟩ := q_ofDriver j hd (w := 2) (by decide) (by decide) g S
  rw [vD2] at e1
  obtain ⟨w2, e2, S2, s2, j2, hb⟩ := q_sick S1 j hd hv2
  have hd2 : (dvs Z (setI c 33 d v))[n]? = some d := hd
  obtain ⟨w3, e3, S3, s3⟩ := q_ofDriver j2 hd2 (w := 2) (by decide) (by decide) w2 S2
  rw [vD2, show fi (setI c 33 d v) 33 d = v by rw [fi_setI, if_pos ⟨rfl, rfl⟩]] at e3
  rw [r2', Option.bind_some, rMv S j, Option.bind_some, e1, Option.bind_some]
  show LwS Z T xs rs fs g ((if (if fi c 33 d = 0 then (0 : Int32) else 1) = 1 then some (1 : Int32) else some (0 : Int32)).bind fun q90 => (f_L_below x 4 w1).bind _)
  have e4 : (if (if fi c 33 d = 0 then (0 : Int32) else 1) = 1 then some (1 : Int32) else some (0 : Int32)) = some (fi c 33 d) := by
    rcases hb with hb | hb <;> rw [hb] <;> decide
  rw [e4, Option.bind_some, m2', Option.bind_some, hv, Option.bind_some, r2', Option.bind_some, rMv S1 j, Option.bind_some, e2, Option.bind_some]
  show LwS Z T xs rs fs g (if fi c 33 d = fi c 33 d then (f_L_below y 4 w2).bind _ else none)
  rw [if_pos rfl, r2', Option.bind_some, rMv S2 j2, Option.bind_some, e3, Option.bind_some]
  refine ⟨w3, _, ?_, S3, ((((s1.tr s2).tr s3)).sl).up (by omega) (by omega), h.told (Or.inr (Or.inl rfl)) j2⟩
  rcases hv2 with rfl | rfl
  · rw [if_pos rfl]; exact if_pos (show (if (0 : Int32) = 0 then (0 : Int32) else 1) = 0 by decide)
  · rw [if_neg (by decide)]; exact if_pos (show (if (1 : Int32) = 0 then (0 : Int32) else 1) = 1 by decide)
/-- what may be delayed, as a search -/
def loD (c : HP) (b t n : Nat) : Nat := lostN (dayL c (fi c 18 b) (some t) (Int32.ofNat n) none (rowB c b))
theorem mayD_spec (b t most : Nat) : ∀ n, mayD c b t most n ≤ n ∧ (0 < mayD c b t most n → loD c b t (mayD c b t most n) ≤ most) ∧ (mayD c b t most n < n → most < loD c b t (mayD c b t most n + 1)) := by
  intro n
  induction n with
  | zero => exact ⟨Nat.le_refl _, fun h => absurd h (Nat.lt_irrefl _), fun h => absurd h (Nat.not_lt_zero _)⟩
  | succ n ih =>
    rw [mayD]
    by_cases hc : most < lostN (dayL c (fi c 18 b) (some t) (Int32.ofNat (n + 1)) none (rowB c b))
    · rw [if_pos hc]
      obtain ⟨i1, i2, i3⟩ := ih
      refine ⟨by omega, i2, fun h => ?_⟩
      by_cases he : mayD c b t most n < n
      · exact i3 he
      · have : mayD c b t most n = n := by omega
        rw [this]
        exact hc
    · rw [if_neg hc]
      exact ⟨Nat.le_refl _, fun _ => Nat.le_of_not_lt hc, fun h => absurd h (Nat.lt_irrefl _)⟩
theorem dayB_ne134 (j : J Z c) {t b' : Nat} {v : Int32} (hb' : b' ∈ bks Z c) (h : fr c 135 t ≠ some b') : dayB (setI c 134 t v) b' = dayB c b' := by
  unfold dayB
  rw [show rowB (setI c 134 t v) b' = rowB c b' from rfl, show fi (setI c 134 t v) 18 b' = fi c 18 b' from setI_ne (by decide)]
  exact day_134n _ (fun z => h (j.rT hb' z).2)
/-- the runs when a trip is delayed by n -/
theorem may_cnt (j : J Z c) {t : Nat} (ht : t ∈ tls Z c) : ∃ K : Nat, ∃ lo : Nat → Nat, (∀ n, n ≤ 120 → cntC Z (setI c 134 t (Int32.ofNat n)) 0 + lo n = K) ∧ lo (vMay c t) ≤ lo 0 ∧ vMay c t ≤ 120 ∧ (vMay c t < 120 → lo 0 < lo (vMay c t + 1)) := by
  have jn : ∀ n, n ≤ 120 → J Z (setI c 134 t (Int32.ofNat n)) := fun n hn => j_setI j (Or.inl rfl) (fun _ => ⟨n, rfl, hn⟩) (fun z => absurd z (by decide)) (fun z => absurd z (by decide))
  cases hb : fr c 135 t with
  | none =>
    refine ⟨cntC Z c 0, fun _ => 0, fun n hn => ?_, Nat.le_refl _, by rw [vMay_none hb]; decide, fun h => ?_⟩
    · rw [cnt_same (c := c) (c' := setI c 134 t (Int32.ofNat n)) rfl j (fun _ => rfl) (fun b' hb' => dayB_ne134 j hb' (by rw [hb]; exact fun z => by cases z))]; rfl
    · rw [vMay_none hb] at h; exact absurd h (by decide)
  | some b =>
    have hbm := (j.inB ht hb).1
    have e0 := vMay_some hb
    obtain ⟨m1, m2, m3⟩ := mayD_spec (c := c) b t (lostN (dayL c (fi c 18 b) (some t) 0 none (rowB c b))) 120
    rw [← e0] at m1 m2 m3
    refine ⟨cntC Z c 0 + lostN (dayB c b), loD c b t, fun n hn => ?_, ?_, m1, m3⟩
    · have hc := cnt_chg (c' := setI c 134 t (Int32.ofNat n)) j (jn n hn) rfl rfl (fun _ => rfl) (fun _ _ => rfl) hbm (fun b' hb' hne => dayB_ne134 j hb' (by rw [hb]; exact fun z => hne (Option.some.inj z).symm))
      have ed : lostN (dayB (setI c 134 t (Int32.ofNat n)) b) = loD c b t n := by
        unfold dayB loD
        rw [show rowB (setI c 134 t (Int32.ofNat n)) b = rowB c b from rfl, show fi (setI c 134 t (Int32.ofNat n)) 18 b = fi c 18 b from setI_ne (by decide), day_134]
      rw [ed] at hc
      exact hc
    · by_cases h0 : 0 < vMay c t
      · exact m2 h0
      · rw [show vMay c t = 0 by omega]; exact Nat.le_refl _
theorem cnt_le (j : J Z c) (w : Int32) : cntC Z c w ≤ (tls Z c).length := List.length_filter_le _ _
theorem armD (S : Sim Z g c) (h : LI Z c T xs rs fs) {k t : Nat} (hk : (tls Z c)[k]? = some t) : LwS Z T xs rs fs g ((rcv 10 (some (Z 0)) g).bind fun b111 => (f_X9_ofTrip b111 (Int32.ofNat k) 5 g).bind fun v112 => (rcv 10 (some (Z 0)) v112.2).bind fun b113 => (f_X9_mayDelay b113 (Int32.ofNat k) v112.2).bind fun v114 => (rcv 10 (some (Z 0)) v114.2).bind fun b115 => (f_X9_delay b115 (Int32.ofNat k) 0 v114.2).bind fun v116 =>
    (if v116.1 = v112.1 then (rcv 10 (some (Z 0)) v116.2).bind fun b117 => (f_X9_many b117 4 v116.2).bind fun v118 => (rcv 10 (some (Z 0)) v118.2).bind fun b119 => (f_X9_delay b119 (Int32.ofNat k) v114.1 v118.2).bind fun v120 =>
    (if v120.1 = 0 then (rcv 10 (some (Z 0)) v120.2).bind fun b121 => (f_X9_many b121 4 v120.2).bind fun v122 =>
    (if Int32.ofNat T - v118.1 < Int32.ofNat T - v122.1 then none else
    ((if 120 ≤ v114.1 then some v122.2 else (rcv 10 (some (Z 0)) v122.2).bind fun b123 => (f_X9_delay b123 (Int32.ofNat k) (v114.1 + 1) v122.2).bind fun v124 =>
    (if v124.1 = v114.1 then (rcv 10 (some (Z 0)) v124.2).bind fun b125 => (f_X9_many b125 4 v124.2).bind fun v126 => (if Int32.ofNat T - v118.1 < Int32.ofNat T - v126.1 then some v126.2 else none) else none))).bind fun q127 =>
    (rcv 10 (some (Z 0)) q127).bind fun b128 => (f_X9_delay b128 (Int32.ofNat k) v112.1 q127).bind fun v129 => (if 0 ≤ v129.1 then some v129.2 else none)) else none) else none)) := by
  have j := h.1
  have ht := List.mem_of_getElem? hk
  have hT := h.2.1.1
  have hT16 := j.t.1
  obtain ⟨d1, d2⟩ := j_tdl j ht
  have jn : ∀ n, n ≤ 120 → J Z (setI c 134 t (Int32.ofNat n)) := fun n hn => j_setI j (Or.inl rfl) (fun _ => ⟨n, rfl, hn⟩) (fun z => absurd z (by decide)) (fun z => absurd z (by decide))
  obtain ⟨K, lo, hK, l1, l2, l3⟩ := may_cnt j ht
  obtain ⟨M, hM⟩ : ∃ M, M = vMay c t := ⟨_, rfl⟩
  rw [← hM] at l1 l2 l3
  have hcn : ∀ n, n ≤ 120 → cntC Z (setI c 134 t (Int32.ofNat n)) 0 ≤ T := fun n hn => by rw [← hT]; exact cnt_le (jn n hn) 0
  have f134 : ∀ n, fi (setI c 134 t (Int32.ofNat n)) 134 t = Int32.ofNat n := fun n => by rw [fi_setI, if_pos ⟨rfl, rfl⟩]
  obtain ⟨w1, e1, S1, s1⟩ := q_ofTrip j hk (w := 5) (by decide) (by decide) g S
  rw [vT5, d1] at e1
  obtain ⟨w2, e2, S2, s2⟩ := q_mayDelay j hk w1 S1
  rw [← hM] at e2
  obtain ⟨w3, e3, S3, s3, j3⟩ := q_delay S2 j hk (n := 0) (by omega)
  rw [d1] at e3
  obtain ⟨w4, e4, S4, s4⟩ := q_many j3 (w := 4) (by decide) (by decide) w3 S3
  rw [vM4] at e4
  obtain ⟨w5, e5, S5, s5, j5⟩ := q_delay S4 j3 (show (tls Z (setI c 134 t (Int32.ofNat 0)))[k]? = some t from hk) (n := M) l2
  rw [setI_set] at S5 j5
  rw [f134] at e5
  obtain ⟨w6, e6, S6, s6⟩ := q_many j5 (w := 4) (by decide) (by decide) w5 S5
  rw [vM4] at e6
  have k0 := hK 0 (by omega)
  have kM := hK M l2
  have c0 := hcn 0 (by omega)
  have cM := hcn M l2
  -- the last telling, out of any of them
  have last : ∀ n (w : HP), n ≤ 120 → Sim Z w (setI c 134 t (Int32.ofNat n)) → SL (nx g) Z 0 0 g w → LwS Z T xs rs fs g ((rcv 10 (some (Z 0)) w).bind fun b128 => (f_X9_delay b128 (Int32.ofNat k) (Int32.ofNat (ndl c t)) w).bind fun v129 => (if 0 ≤ v129.1 then some v129.2 else none)) := fun n w hn Sw sw => by
    obtain ⟨w', e', S', s', j'⟩ := q_delay Sw (jn n hn) (show (tls Z (setI c 134 t (Int32.ofNat n)))[k]? = some t from hk) (n := ndl c t) d2
    rw [setI_set, ← d1, show setI c 134 t (fi c 134 t) = c by have := setI_self (c := c) (k := 134) (a := t) (v := fi c 134 t); rw [setI_set] at this; exact this] at S'
    rw [f134] at e'
    rw [rMv Sw (jn n hn), Option.bind_some, e', Option.bind_some]
    exact ⟨w', c, if_pos (n0 (by omega)), S', (sw.tr (s'.sl)).up (by omega) (by omega), h⟩
  have sl6 : SL (nx g) Z 0 0 g w6 := ((((((s1.tr s2).tr s3).tr s4).tr s5).tr s6).sl).up (by omega) (by omega)
  rw [rMv S j, Option.bind_some, e1, Option.bind_some]
  show LwS Z T xs rs fs g ((rcv 10 (some (Z 0)) w1).bind _)
  rw [rMv S1 j, Option.bind_some, e2, Option.bind_some]
  show LwS Z T xs rs fs g ((rcv 10 (some (Z 0)) w2).bind fun b115 => (f_X9_delay b115 (Int32.ofNat k) (Int32.ofNat 0) w2).bind _)
  rw [rMv S2 j, Option.bind_some, e3, Option.bind_some]
  show LwS Z T xs rs fs g (if Int32.ofNat (ndl c t) = Int32.ofNat (ndl c t) then (rcv 10 (some (Z 0)) w3).bind _ else none)
  rw [if_pos rfl, rMv S3 j3, Option.bind_some, e4, Option.bind_some]
  show LwS Z T xs rs fs g ((rcv 10 (some (Z 0)) w4).bind fun b119 => (f_X9_delay b119 (Int32.ofNat k) (Int32.ofNat M) w4).bind _)
  rw [rMv S4 j3, Option.bind_some, e5, Option.bind_some]
  show LwS Z T xs rs fs g (if Int32.ofNat 0 = 0 then (rcv 10 (some (Z 0)) w5).bind _ else none)
  rw [if_pos (show Int32.ofNat 0 = 0 from rfl), rMv S5 j5, Option.bind_some, e6, Option.bind_some]
  show LwS Z T xs rs fs g (if Int32.ofNat T - Int32.ofNat (cntC Z (setI c 134 t (Int32.ofNat 0)) 0) < Int32.ofNat T - Int32.ofNat (cntC Z (setI c 134 t (Int32.ofNat M)) 0) then none else _)
  rw [nSub c0, nSub cM, if_neg (fun z => by have := (nLt (by omega) (by omega)).mp z; omega)]
  by_cases h120 : 120 ≤ M
  · have e120 : (120 : Int32) ≤ Int32.ofNat M := (nLe (a := 120) (by decide) (by omega)).mpr h120
    show LwS Z T xs rs fs g ((if 120 ≤ Int32.ofNat M then some w6 else _).bind _)
    rw [if_pos e120, Option.bind_some]
    exact last M w6 l2 S6 sl6
  · have e120 : ¬ (120 : Int32) ≤ Int32.ofNat M := fun z => h120 ((nLe (a := 120) (by decide) (by omega)).mp z)
    have hM1 : M + 1 ≤ 120 := by omega
    obtain ⟨w7, e7, S7, s7, j7⟩ := q_delay S6 j5 (show (tls Z (setI c 134 t (Int32.ofNat M)))[k]? = some t from hk) (n := M + 1) hM1
    rw [setI_set] at S7 j7
    rw [f134] at e7
    obtain ⟨w8, e8, S8, s8⟩ := q_many j7 (w := 4) (by decide) (by decide) w7 S7
    rw [vM4] at e8
    have kM1 := hK (M + 1) hM1
    have cM1 := hcn (M + 1) hM1
    have l4 := l3 (by omega)
    show LwS Z T xs rs fs g ((if 120 ≤ Int32.ofNat M then some w6 else (rcv 10 (some (Z 0)) w6).bind fun b123 => (f_X9_delay b123 (Int32.ofNat k) (Int32.ofNat M + 1) w6).bind _).bind _)
    rw [if_neg e120, rMv S6 j5, Option.bind_some, show Int32.ofNat M + 1 = Int32.ofNat (M + 1) from nAdd M 1, e7, Option.bind_some]
    show LwS Z T xs rs fs g ((if Int32.ofNat M = Int32.ofNat M then (rcv 10 (some (Z 0)) w7).bind _ else none).bind _)
    rw [if_pos rfl, rMv S7 j7, Option.bind_some, e8, Option.bind_some]
    show LwS Z T xs rs fs g ((if Int32.ofNat (T - cntC Z (setI c 134 t (Int32.ofNat 0)) 0) < Int32.ofNat T - Int32.ofNat (cntC Z (setI c 134 t (Int32.ofNat (M + 1))) 0) then some w8 else none).bind _)
    rw [nSub cM1, if_pos ((nLt (by omega) (by omega)).mpr (by omega)), Option.bind_some]
    exact last (M + 1) w8 hM1 S8 ((sl6.tr ((s7.tr s8).sl)).up (by omega) (by omega))
end Law6
