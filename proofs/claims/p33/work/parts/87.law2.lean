/-! The law's steps: isCut, isGiven; the arms of its switch. -/
section Law2
variable {Z : Nat → Nat} {g c c' : HP} {T : Nat} {xs rs fs : List Int32}
theorem dn_none {p : Nat} (h : fr c 85 p = none) : dnP c p = -1 := by unfold dnP; rw [h]
theorem lw_isCut (S : Sim Z g c) (h : LI Z c T xs rs fs) {i b : Nat} (hi : (bks Z c)[i]? = some b) :
    ∃ g' c', f_L_isCut (some (Z 0)) (Int32.ofNat i) g = some (1, g') ∧ Sim Z g' c' ∧ Spd Z 33 1702 g g' ∧ LI Z c' T xs rs fs := by
  have j := h.1
  have hb := List.mem_of_getElem? hi
  obtain ⟨w1, e1, S1, s1⟩ := q_ofBlock j hi (w := 3) (by decide) (by decide) g S
  rw [vB3] at e1
  rcases q_cut S1 j hi with ⟨n, g1, a1, S2, s2, hn⟩ | ⟨w2, c', P, e2, S2, s2, j', ⟨A, Sl', R⟩, hP, hl, h85⟩
  · obtain ⟨x1, x2⟩ := xq_cut S1 j hi a1 hn
    obtain ⟨w5, e5, S5, s5⟩ := q_ofBlock j hi (w := 3) (by decide) (by decide) (bump g1 1 6 0) S2.bump
    rw [vB3] at e5
    refine ⟨w5, c, ?_, S5, (((s1.tr s2).tr spd_bump).tr s5).up (by omega) (by omega), h⟩
    unfold f_L_isCut
    rw [rMv S j, Option.bind_some, e1, Option.bind_some]
    show (rcv 10 (some (Z 0)) w1).bind _ = _
    rw [rMv S1 j, Option.bind_some, try_x x1 x2, rMv S2.bump j, Option.bind_some, e5, Option.bind_some]
    show (if Int32.ofNat (pcs c b).length = Int32.ofNat (pcs c b).length then some ((1 : Int32), w5) else none) = _
    rw [if_pos rfl]
  · have hi' : (bks Z c')[i]? = some b := by rw [bks_eq Sl'.2.2.1]; exact hi
    have ep : pcs c' b = P := ((R b hb).2).trans (if_pos rfl)
    have hpos : 0 < P.length := List.length_pos_iff.mpr hP
    obtain ⟨p, hp⟩ : ∃ p, P[P.length - 1]? = some p := ⟨_, List.getElem?_eq_getElem (by omega)⟩
    obtain ⟨w3, e3, S3, s3⟩ := q_ofBlock j' hi' (w := 3) (by decide) (by decide) w2 S2
    obtain ⟨w4, e4, S4, s4⟩ := q_ofPiece j' hi' (k := P.length - 1) (by rw [ep]; exact hp) (w := 4) (by decide) (by decide) w3 S3
    rw [vB3, ep] at e3
    rw [vP4, dn_none (h85 p (List.mem_of_getElem? hp))] at e4
    refine ⟨w4, c', ?_, S4, (((s1.tr s2).tr s3).tr s4).up (by omega) (by omega), h.ag A j' (tls_eq Sl'.1) (by rw [dvs_eq Sl'.2.2.2])⟩
    unfold f_L_isCut
    rw [rMv S j, Option.bind_some, e1, Option.bind_some]
    show (rcv 10 (some (Z 0)) w1).bind _ = _
    rw [rMv S1 j, Option.bind_some, try_f e2]
    show (rcv 10 (some (Z 0)) w2).bind _ = _
    rw [rMv S2 j', Option.bind_some, e3, Option.bind_some]
    show (if Int32.ofNat P.length = Int32.ofNat P.length then (rcv 10 (some (Z 0)) w3).bind fun b9 => (f_X9_ofPiece b9 (Int32.ofNat i) (Int32.ofNat P.length - 1) 4 w3).bind _ else none) = _
    rw [if_pos rfl, rMv S3 j', Option.bind_some, show Int32.ofNat P.length - 1 = Int32.ofNat (P.length - 1) from nSub (b := 1) hpos, e4, Option.bind_some]
    show (if (-1 : Int32) = -1 then some ((1 : Int32), w4) else none) = _
    rw [if_pos rfl]
theorem lw_isGiven (S : Sim Z g c) (h : LI Z c T xs rs fs) {i b k p n d : Nat} (hi : (bks Z c)[i]? = some b) (hk : (pcs c b)[k]? = some p) (hn : (dvs Z c)[n]? = some d) :
    ∃ g' c', f_L_isGiven (some (Z 0)) (Int32.ofNat i) (Int32.ofNat k) (Int32.ofNat n) g = some (1, g') ∧ Sim Z g' c' ∧ Spd Z 1 100 g g' ∧ LI Z c' T xs rs fs := by
  have j := h.1
  have hb := List.mem_of_getElem? hi
  obtain ⟨w1, e1, S1, s1⟩ := q_ofPiece j hi hk (w := 4) (by decide) (by decide) g S
  rw [vP4] at e1
  by_cases hP : fr c 85 p = none ∧ CanG c d p
  · obtain ⟨w2, c', e2, S2, s2, j', ⟨A, Sl', tg', R, -⟩, h85⟩ := q_give S1 j hi hk hn hP.1 hP.2
    have hi' : (bks Z c')[i]? = some b := by rw [bks_eq Sl'.2.2.1]; exact hi
    have hk' : (pcs c' b)[k]? = some p := by rw [(R b hb).2]; exact hk
    have hn' : (dvs Z c')[n]? = some d := by rw [dvs_eq Sl'.2.2.2]; exact hn
    obtain ⟨w3, e3, S3, s3⟩ := q_ofPiece j' hi' hk' (w := 4) (by decide) (by decide) w2 S2
    obtain ⟨w4, e4, S4, s4⟩ := q_ofDriver j' hn' (w := 1) (by decide) (by decide) w3 S3
    have ed : dnP c' p = Int32.ofNat n := by unfold dnP; rw [h85]; exact (j'.d.2 n d hn').1.1
    rw [vP4, ed] at e3
    rw [vD1] at e4
    rw [dn_none hP.1] at e1
    refine ⟨w4, c', ?_, S4, (((s1.tr s2).tr s3).tr s4).up (by omega) (by omega), h.ag A j' (tls_eq Sl'.1) (by rw [dvs_eq Sl'.2.2.2])⟩
    unfold f_L_isGiven
    rw [rMv S j, Option.bind_some, e1, Option.bind_some]
    show (rcv 10 (some (Z 0)) w1).bind _ = _
    rw [rMv S1 j, Option.bind_some, try_f e2]
    show (if (-1 : Int32) = -1 then (rcv 10 (some (Z 0)) w2).bind _ else none) = _
    rw [if_pos rfl, rMv S2 j', Option.bind_some, e3, Option.bind_some]
    show (if Int32.ofNat n = Int32.ofNat n then (rcv 10 (some (Z 0)) w3).bind _ else none) = _
    rw [if_pos rfl, rMv S3 j', Option.bind_some, e4, Option.bind_some]
    show (if sumI (minP c') (dps c' d) = sumI (minP c') (dps c' d) then some ((1 : Int32), w4) else none) = _
    rw [if_pos rfl]
  · obtain ⟨x1, x2⟩ := xq_give S1 j hi hk hn hP
    obtain ⟨w5, e5, S5, s5⟩ := q_ofPiece j hi hk (w := 4) (by decide) (by decide) (bump w1 1 6 0) S1.bump
    rw [vP4] at e5
    refine ⟨w5, c, ?_, S5, ((s1.tr spd_bump).tr s5).up (by omega) (by omega), h⟩
    unfold f_L_isGiven
    rw [rMv S j, Option.bind_some, e1, Option.bind_some]
    show (rcv 10 (some (Z 0)) w1).bind _ = _
    rw [rMv S1 j, Option.bind_some, try_x x1 x2, rMv S1.bump j, Option.bind_some, e5, Option.bind_some]
    show (if dnP c p = dnP c p then some ((1 : Int32), w5) else none) = _
    rw [if_pos rfl]
/-- one step of the law: the heap and the county that come of it -/
def LwS (Z : Nat → Nat) (T : Nat) (xs rs fs : List Int32) (g : HP) (o : Option HP) : Prop := ∃ g' c', o = some g' ∧ Sim Z g' c' ∧ SL (nx g) Z 200 8000 g g' ∧ LI Z c' T xs rs fs
def BQ (Z : Nat → Nat) (c : HP) (q : Int32) : Prop := (q = -1 ∧ bks Z c = []) ∨ ∃ i b, q = Int32.ofNat i ∧ (bks Z c)[i]? = some b
theorem stp_same (S : Sim Z g c) (h : LI Z c T xs rs fs) : LwS Z T xs rs fs g (some g) := ⟨g, c, rfl, S, SL.rf.up (by omega) (by omega), h⟩
theorem neg1 : ((-1 : Int32) < 0) := by decide
theorem ofn_nn {i : Nat} (h : i < 2147483648) : ¬ (Int32.ofNat i < 0) := Int32.not_lt.mpr (n0 h)
theorem arm0 (S : Sim Z g c) (h : LI Z c T xs rs fs) (x y : Int32) : LwS Z T xs rs fs g ((f_L_below x 3 g).bind fun x46 => (if x46 = 0 then (f_L_below y 400 g).bind fun x47 => (f_L_isBuilt (some (Z 0)) (80 + x47) g).bind fun v48 => (if v48.1 = 0 then none else some v48.2) else some g)) := by
  obtain ⟨r, r1, r2⟩ := lw_below (n := 3) (by decide) (by decide) x g
  obtain ⟨r', q1, q2⟩ := lw_below (n := 400) (by decide) (by decide) y g
  rw [show f_L_below x 3 g = some (Int32.ofNat r) from r2, Option.bind_some]
  by_cases h0 : Int32.ofNat r = 0
  · rw [if_pos h0, show f_L_below y 400 g = some (Int32.ofNat r') from q2, Option.bind_some, show (80 : Int32) + Int32.ofNat r' = Int32.ofNat (80 + r') from nAdd 80 r']
    obtain ⟨g', c', e, S', s', h'⟩ := lw_isBuilt S h (q := 80 + r') (by omega) (by omega)
    rw [e, Option.bind_some]
    exact ⟨g', c', if_neg (show ¬ (1 : Int32) = 0 by decide), S', (s'.sl).up (by omega) (by omega), h'⟩
  · rw [if_neg h0]; exact stp_same S h
theorem arm1 (S : Sim Z g c) (h : LI Z c T xs rs fs) (x : Int32) : LwS Z T xs rs fs g (if 8 ≤ Int32.ofNat (bks Z c).length then some g else (f_L_below x 300 g).bind fun x49 => (rcv 10 (some (Z 0)) g).bind fun b50 => (f_X9_block b50 (80 + x49) g).bind fun v51 => (if v51.1 = Int32.ofNat (bks Z c).length then some v51.2 else none)) := by
  have j := h.1
  have hb8 := j.b.1
  obtain ⟨r, r1, r2⟩ := lw_below (n := 300) (by decide) (by decide) x g
  have e8 : (8 : Int32) ≤ Int32.ofNat (bks Z c).length ↔ 8 ≤ (bks Z c).length := nLe (a := 8) (by decide) (by omega)
  by_cases h0 : 8 ≤ (bks Z c).length
  · rw [if_pos (e8.mpr h0)]; exact stp_same S h
  · have q1 : (50 : Int32) ≤ Int32.ofNat (80 + r) := (nLe (a := 50) (by decide) (by omega)).mpr (by omega)
    have q2 : Int32.ofNat (80 + r) ≤ (999 : Int32) := (nLe (b := 999) (by omega) (by decide)).mpr (by omega)
    obtain ⟨g', c', B, e, S', s', j', A, b1, b2, b3, b4⟩ := q_block S j (by omega) q1 q2
    rw [if_neg (fun z => h0 (e8.mp z)), show f_L_below x 300 g = some (Int32.ofNat r) from r2, Option.bind_some, rMv S j, Option.bind_some, show (80 : Int32) + Int32.ofNat r = Int32.ofNat (80 + r) from nAdd 80 r, e, Option.bind_some]
    exact ⟨g', c', if_pos rfl, S', (s'.sl).up (by omega) (by omega), h.ag A j' b1 (by rw [b3])⟩
theorem arm2 (S : Sim Z g c) (h : LI Z c T xs rs fs) {xA : Nat} (A : Arr Z g 20 xA xs) {q : Int32} (hq : BQ Z c q) {k t : Nat} (hk : (tls Z c)[k]? = some t) : LwS Z T xs rs fs g (if q < 0 then some g else (f_L_isAppended (some (Z 0)) (some xA) q (Int32.ofNat k) g).bind fun v52 => (if v52.1 = 0 then none else some v52.2)) := by
  rcases hq with ⟨rfl, -⟩ | ⟨i, b, rfl, hi⟩
  · rw [if_pos neg1]; exact stp_same S h
  · have := bi31 h.1 hi
    obtain ⟨g', c', e, S', s', h'⟩ := lw_isAppended S h A hi hk
    rw [if_neg (ofn_nn (by omega)), e, Option.bind_some]
    exact ⟨g', c', if_neg (show ¬ (1 : Int32) = 0 by decide), S', (s'.sl).up (by omega) (by omega), h'⟩
theorem arm5 (S : Sim Z g c) (h : LI Z c T xs rs fs) {q : Int32} (hq : BQ Z c q) : LwS Z T xs rs fs g (if q < 0 then some g else (rcv 10 (some (Z 0)) g).bind fun b55 => (f_X9_ofBlock b55 q 1 g).bind fun v56 => (if v56.1 ≤ 0 then some v56.2 else
    (rcv 10 (some (Z 0)) v56.2).bind fun b57 => (f_X9_takeOff b57 q v56.2).bind fun v58 => (if v58.1 < 0 then none else (rcv 10 (some (Z 0)) v58.2).bind fun b59 => (f_X9_ofBlock b59 q 3 v58.2).bind fun v60 => (if v60.1 = 0 then some v60.2 else none)))) := by
  have j := h.1
  rcases hq with ⟨rfl, -⟩ | ⟨i, b, rfl, hi⟩
  · rw [if_pos neg1]; exact stp_same S h
  · have hi8 := bi31 j hi
    have hb := List.mem_of_getElem? hi
    have l16 := j.rlen hb
    obtain ⟨w1, e1, S1, s1⟩ := q_ofBlock j hi (w := 1) (by decide) (by decide) g S
    rw [vB1] at e1
    rw [if_neg (ofn_nn (by omega)), rMv S j, Option.bind_some, e1, Option.bind_some]
    show LwS Z T xs rs fs g (if Int32.ofNat (rowB c b).length ≤ 0 then some w1 else (rcv 10 (some (Z 0)) w1).bind _)
    by_cases h0 : (rowB c b).length = 0
    · rw [if_pos (by rw [h0]; decide)]
      exact ⟨w1, c, rfl, S1, (s1.sl).up (by omega) (by omega), h⟩
    · rw [if_neg (fun z => by have := (nLe (b := 0) (by omega) (by decide)).mp z; omega)]
      obtain ⟨l, hl⟩ : ∃ l, (rowB c b).getLast? = some l := ⟨_, List.getLast?_eq_some_getLast (fun z => h0 (by rw [z]; rfl))⟩
      obtain ⟨il, hil⟩ := mem_at (j.rT hb (List.mem_of_getLast? hl)).1
      obtain ⟨w2, c', e2, S2, s2, j', A, Sl', tg', R, -⟩ := q_takeOff S1 j hi hl
      have hi' : (bks Z c')[i]? = some b := by rw [bks_eq Sl'.2.2.1]; exact hi
      obtain ⟨w3, e3, S3, s3⟩ := q_ofBlock j' hi' (w := 3) (by decide) (by decide) w2 S2
      rw [t128 j hil] at e2
      rw [vB3, show pcs c' b = [] from ((R b hb).2).trans (if_pos rfl)] at e3
      have := ti31 j hil
      rw [rMv S1 j, Option.bind_some, e2, Option.bind_some]
      show LwS Z T xs rs fs g (if Int32.ofNat il < 0 then none else (rcv 10 (some (Z 0)) w2).bind _)
      rw [if_neg (ofn_nn (by omega)), rMv S2 j', Option.bind_some, e3, Option.bind_some]
      exact ⟨w3, c', if_pos rfl, S3, (((s1.tr s2).tr s3).sl).up (by omega) (by omega), h.ag A j' (tls_eq Sl'.1) (by rw [dvs_eq Sl'.2.2.2])⟩
theorem arm7 (S : Sim Z g c) (h : LI Z c T xs rs fs) {q : Int32} (hq : BQ Z c q) : LwS Z T xs rs fs g (if q < 0 then some g else (f_L_isCut (some (Z 0)) q g).bind fun v68 => (if v68.1 = 0 then none else some v68.2)) := by
  rcases hq with ⟨rfl, -⟩ | ⟨i, b, rfl, hi⟩
  · rw [if_pos neg1]; exact stp_same S h
  · have := bi31 h.1 hi
    obtain ⟨g', c', e, S', s', h'⟩ := lw_isCut S h hi
    rw [if_neg (ofn_nn (by omega)), e, Option.bind_some]
    exact ⟨g', c', if_neg (show ¬ (1 : Int32) = 0 by decide), S', (s'.sl).up (by omega) (by omega), h'⟩
theorem arm9 (S : Sim Z g c) (h : LI Z c T xs rs fs) {q : Int32} (hq : BQ Z c q) (x y : Int32) : LwS Z T xs rs fs g (if q < 0 then some g else (rcv 10 (some (Z 0)) g).bind fun b70 => (f_X9_ofBlock b70 q 3 g).bind fun v71 => (if v71.1 ≤ 0 then some v71.2 else
    (rcv 10 (some (Z 0)) v71.2).bind fun b72 => (f_X9_ofBlock b72 q 3 v71.2).bind fun v73 => (f_L_below x v73.1 v73.2).bind fun x74 => (f_L_below y 4 v73.2).bind fun x75 => (f_L_isGiven (some (Z 0)) q x74 x75 v73.2).bind fun v76 => (if v76.1 = 0 then none else some v76.2))) := by
  have j := h.1
  rcases hq with ⟨rfl, -⟩ | ⟨i, b, rfl, hi⟩
  · rw [if_pos neg1]; exact stp_same S h
  · have hi8 := bi31 j hi
    have hb := List.mem_of_getElem? hi
    have l40 : (pcs c b).length ≤ 40 := (j.bz hb).2.2.2.1.2.2.2
    obtain ⟨w1, e1, S1, s1⟩ := q_ofBlock j hi (w := 3) (by decide) (by decide) g S
    obtain ⟨w2, e2, S2, s2⟩ := q_ofBlock j hi (w := 3) (by decide) (by decide) w1 S1
    rw [vB3] at e1 e2
    rw [if_neg (ofn_nn (by omega)), rMv S j, Option.bind_some, e1, Option.bind_some]
    show LwS Z T xs rs fs g (if Int32.ofNat (pcs c b).length ≤ 0 then some w1 else (rcv 10 (some (Z 0)) w1).bind _)
    by_cases h0 : (pcs c b).length = 0
    · rw [if_pos (by rw [h0]; decide)]
      exact ⟨w1, c, rfl, S1, (s1.sl).up (by omega) (by omega), h⟩
    · rw [if_neg (fun z => by have := (nLe (b := 0) (by omega) (by decide)).mp z; omega)]
      obtain ⟨r, r1, r2⟩ := lw_below (n := (pcs c b).length) (by omega) (by omega) x w2
      obtain ⟨n, q1, q2⟩ := lw_below (n := 4) (by decide) (by decide) y w2
      obtain ⟨p, hp⟩ : ∃ p, (pcs c b)[r]? = some p := ⟨_, List.getElem?_eq_getElem r1⟩
      obtain ⟨d, hd⟩ : ∃ d, (dvs Z c)[n]? = some d := ⟨_, List.getElem?_eq_getElem (by rw [h.2.1.2.1]; exact q1)⟩
      obtain ⟨w3, c', e3, S3, s3, h'⟩ := lw_isGiven S2 h hi hp hd
      rw [rMv S1 j, Option.bind_some, e2, Option.bind_some]
      show LwS Z T xs rs fs g ((f_L_below x (Int32.ofNat (pcs c b).length) w2).bind fun x74 => (f_L_below y (Int32.ofNat 4) w2).bind _)
      rw [r2, Option.bind_some, q2, Option.bind_some, e3, Option.bind_some]
      exact ⟨w3, c', if_neg (show ¬ (1 : Int32) = 0 by decide), S3, (((s1.tr s2).tr s3).sl).up (by omega) (by omega), h'⟩
end Law2
