/-! A breakdown, a delay told: the days that come of it. isBroken. -/
theorem sn' {α : Type} {x : α} : ¬ (some x = none) := fun z => by cases z
section Law5
variable {Z : Nat → Nat} {g c c' : HP} {T : Nat} {xs rs fs : List Int32}
theorem dayL_cg {br : Int32} {del del' : Option Nat} {dl dl' : Int32} : ∀ (L : List Nat) (ran : Option (Nat × Int32)), (∀ x ∈ L, ∀ rs, causeF c' br x rs = causeF c br x rs) → (∀ x ∈ L, ∀ ran, dayStart c' ran x = dayStart c ran x) → (∀ x ∈ L, ∀ rs, dayEnd c' del' dl' x rs = dayEnd c del dl x rs) → dayL c' br del' dl' ran L = dayL c br del dl ran L
  | [], _, _, _, _ => rfl
  | t :: ts, ran, h1, h2, h3 => by
    have e1 := h2 t List.mem_cons_self ran
    have e2 := h1 t List.mem_cons_self (dayStart c ran t)
    have e3 := h3 t List.mem_cons_self (dayStart c ran t)
    rw [dayL, dayL]
    simp only [e1, e2, e3]
    rw [dayL_cg ts _ (fun x hx => h1 x (List.mem_cons_of_mem _ hx)) (fun x hx => h2 x (List.mem_cons_of_mem _ hx)) (fun x hx => h3 x (List.mem_cons_of_mem _ hx))]
theorem tst_setI {k a t : Nat} {v : Int32} (h : 132 ≠ k) : tst (setI c k a v) t = tst c t := setI_ne h
theorem cause_setI {k a : Nat} {v : Int32} (h : k = 18 ∨ k = 134) (br : Int32) (x : Nat) (rs : Int32) : causeF (setI c k a v) br x rs = causeF c br x rs := by
  have e1 : fi (setI c k a v) 66 (lA (setI c k a v) x) = fi c 66 (lA c x) := setI_ne (by omega)
  have e2 : tst (setI c k a v) x = tst c x := tst_setI (by omega)
  have e3 : ∀ d, fi (setI c k a v) 33 d = fi c 33 d := fun d => setI_ne (by omega)
  unfold causeF
  rw [e1, e2]
  simp only [fr_setI, e3]
theorem start_setI {k a : Nat} {v : Int32} (h : k = 18 ∨ k = 134) (ran : Option (Nat × Int32)) (x : Nat) : dayStart (setI c k a v) ran x = dayStart c ran x := by
  unfold dayStart
  rw [tst_setI (by omega)]
  cases ran with
  | none => rfl
  | some q =>
    have : dist (setI c k a v) (tA (setI c k a v) q.1) (fA (setI c k a v) x) = dist c (tA c q.1) (fA c x) := by
      show dist (setI c k a v) (tA c q.1) (fA c x) = _
      unfold dist
      rw [setI_ne (by omega), setI_ne (by omega)]
    show maxI _ (q.2 + dist (setI c k a v) (tA (setI c k a v) q.1) (fA (setI c k a v) x)) = maxI _ (q.2 + dist c (tA c q.1) (fA c x))
    rw [this]
theorem day_18 {b : Nat} {v : Int32} (br : Int32) (L : List Nat) : dayL (setI c 18 b v) br none 0 none L = dayL c br none 0 none L := by
  refine dayL_cg L none (fun x _ rs => cause_setI (Or.inl rfl) br x rs) (fun x _ ran => start_setI (Or.inl rfl) ran x) (fun x _ rs => ?_)
  unfold dayEnd
  rw [if_neg sn', if_neg sn', show tmn (setI c 18 b v) x = tmn c x from setI_ne (by decide), setI_ne (by decide)]
theorem day_134 {t : Nat} {v : Int32} (br : Int32) (L : List Nat) : dayL (setI c 134 t v) br none 0 none L = dayL c br (some t) v none L := by
  refine dayL_cg L none (fun x _ rs => cause_setI (Or.inr rfl) br x rs) (fun x _ ran => start_setI (Or.inr rfl) ran x) (fun x _ rs => ?_)
  unfold dayEnd
  rw [if_neg sn', show tmn (setI c 134 t v) x = tmn c x from setI_ne (by decide), fi_setI]
  by_cases h : x = t
  · rw [if_pos ⟨rfl, h⟩, if_pos (by rw [h])]
  · rw [if_neg (fun z => h z.2), if_neg (fun z => h (Option.some.inj z))]
theorem day_134n {t : Nat} {v : Int32} (br : Int32) {L : List Nat} (ht : t ∉ L) : dayL (setI c 134 t v) br none 0 none L = dayL c br none 0 none L := by
  refine dayL_cg L none (fun x _ rs => cause_setI (Or.inr rfl) br x rs) (fun x _ ran => start_setI (Or.inr rfl) ran x) (fun x hx rs => ?_)
  unfold dayEnd
  rw [if_neg sn', if_neg sn', show tmn (setI c 134 t v) x = tmn c x from setI_ne (by decide), fi_setI, if_neg (fun z => ht (by rw [← z.2]; exact hx))]
theorem LI.told (h : LI Z c T xs rs fs) {k a : Nat} {v : Int32} (hk : k = 18 ∨ k = 33 ∨ k = 66) (j' : J Z (setI c k a v)) : LI Z (setI c k a v) T xs rs fs := by
  obtain ⟨j, h1, ⟨h2, h3⟩, ⟨h4, h5⟩, h6⟩ := h
  refine ⟨j', h1, ⟨h2, fun i p hp => ?_⟩, ⟨h4, fun i p hp => ?_⟩, fun t ht => ?_⟩
  · rw [setI_ne (by omega), setI_ne (by omega)]; exact h3 i p hp
  · rw [setI_ne (by omega)]; exact h5 i p hp
  · unfold ndl
    rw [setI_ne (by omega)]; exact h6 t ht
theorem lost_le (j : J Z c) {b : Nat} (hb : b ∈ bks Z c) (br : Int32) (del : Option Nat) (dl : Int32) : lostN (dayL c br del dl none (rowB c b)) ≤ 16 := by
  refine Nat.le_trans (List.length_filter_le _ _) ?_
  rw [dayL_len]
  exact j.rlen hb
theorem dayB_ne18 {b b' : Nat} {v : Int32} (h : b' ≠ b) : dayB (setI c 18 b v) b' = dayB c b' := by
  unfold dayB
  rw [show rowB (setI c 18 b v) b' = rowB c b' from rfl, fi_setI, if_neg (fun z => h z.2), day_18]
theorem lw_isBroken (S : Sim Z g c) (h : LI Z c T xs rs fs) {i b n : Nat} (hi : (bks Z c)[i]? = some b) (hn : n < 900) :
    ∃ g' c', f_L_isBroken (some (Z 0)) (Int32.ofNat i) (Int32.ofNat n) g = some (1, g') ∧ Sim Z g' c' ∧ Spd Z 0 0 g g' ∧ LI Z c' T xs rs fs := by
  have j := h.1
  have hb := List.mem_of_getElem? hi
  have n1 : -1 ≤ Int32.ofNat n := Int32.le_trans (by decide) (n0 (n := n) (by omega))
  have n2 : Int32.ofNat n ≤ (1600 : Int32) := (nLe (b := 1600) (by omega) (by decide)).mpr (by omega)
  obtain ⟨_, _, _, ⟨_, o1, o2⟩, _⟩ := j.bok hb
  obtain ⟨w1, e1, S1, s1⟩ := q_many j (w := 4) (by decide) (by decide) g S
  obtain ⟨w2, e2, S2, s2⟩ := q_wouldLose j hi (w := Int32.ofNat n) (n0 (by omega)) n2 w1 S1
  obtain ⟨w3, e3, S3, s3, j1⟩ := q_breakdown S2 j hi n1 n2
  have hi1 : (bks Z (setI c 18 b (Int32.ofNat n)))[i]? = some b := hi
  obtain ⟨w4, e4, S4, s4⟩ := q_many j1 (w := 4) (by decide) (by decide) w3 S3
  obtain ⟨w5, e5, S5, s5, j2⟩ := q_breakdown S4 j1 hi1 o1 o2
  rw [setI_self] at S5 j2
  obtain ⟨w6, e6, S6, s6⟩ := q_many j (w := 4) (by decide) (by decide) w5 S5
  obtain ⟨w7, e7, S7, s7, -⟩ := q_breakdown S6 j hi n1 n2
  rw [vM4] at e1 e4 e6
  have b18 : fi (setI c 18 b (Int32.ofNat n)) 18 b = Int32.ofNat n := by rw [fi_setI, if_pos ⟨rfl, rfl⟩]
  rw [b18] at e5
  have hl := lost_le j hb (Int32.ofNat n) none 0
  have ed : dayB (setI c 18 b (Int32.ofNat n)) b = dayL c (Int32.ofNat n) none 0 none (rowB c b) := by
    unfold dayB
    rw [b18, show rowB (setI c 18 b (Int32.ofNat n)) b = rowB c b from rfl, day_18]
  have hcnt := cnt_chg (c' := setI c 18 b (Int32.ofNat n)) j j1 rfl rfl (fun _ => rfl) (fun _ _ => rfl) hb (fun b' _ hne => dayB_ne18 hne)
  rw [ed] at hcnt
  have hsub := int_sub hcnt
  have hd : f_L_isBroken (some (Z 0)) (Int32.ofNat i) (Int32.ofNat n) g = (if 0 < Int32.ofNat n - Int32.ofNat n / 3 * 3 then some (1, w6) else some (1, w7)) := by
    unfold f_L_isBroken
    rw [rMv S j, Option.bind_some, e1, Option.bind_some]
    show (rcv 10 (some (Z 0)) w1).bind _ = _
    rw [rMv S1 j, Option.bind_some, e2, Option.bind_some]
    show (rcv 10 (some (Z 0)) w2).bind _ = _
    rw [rMv S2 j, Option.bind_some, e3, Option.bind_some]
    show (rcv 10 (some (Z 0)) w3).bind _ = _
    rw [rMv S3 j1, Option.bind_some, e4, Option.bind_some]
    show (if Int32.ofNat (cntC Z (setI c 18 b (Int32.ofNat n)) 0) = Int32.ofNat (cntC Z c 0) - (Int32.ofNat (lostN (dayL c (Int32.ofNat n) none 0 none (rowB c b))) - Int32.ofNat (lostN (dayB c b))) then (rcv 10 (some (Z 0)) w4).bind _ else none) = _
    rw [if_pos hsub, rMv S4 j1, Option.bind_some]
    show (f_X9_breakdown (Z 0) (Int32.ofNat i) (fi c 18 b) w4).bind _ = _
    rw [e5, Option.bind_some]
    show (if Int32.ofNat n = Int32.ofNat n then (rcv 10 (some (Z 0)) w5).bind _ else none) = _
    rw [if_pos rfl, rMv S5 j, Option.bind_some, e6, Option.bind_some]
    show (if Int32.ofNat (cntC Z c 0) = Int32.ofNat (cntC Z c 0) then (if 0 < Int32.ofNat n - Int32.ofNat n / 3 * 3 then some ((1 : Int32), w6) else (rcv 10 (some (Z 0)) w6).bind _) else none) = _
    rw [if_pos rfl, rMv S6 j, Option.bind_some, e7, Option.bind_some]
    show (if 0 < Int32.ofNat n - Int32.ofNat n / 3 * 3 then some ((1 : Int32), w6) else (if fi c 18 b = fi c 18 b then some ((1 : Int32), w7) else none)) = _
    rw [if_pos (rfl : fi c 18 b = fi c 18 b)]
  rw [hd]
  by_cases hc : 0 < Int32.ofNat n - Int32.ofNat n / 3 * 3
  · rw [if_pos hc]
    exact ⟨w6, c, rfl, S6, (((((s1.tr s2).tr s3).tr s4).tr s5).tr s6).up (by omega) (by omega), h⟩
  · rw [if_neg hc]
    exact ⟨w7, _, rfl, S7, ((((((s1.tr s2).tr s3).tr s4).tr s5).tr s6).tr s7).up (by omega) (by omega), h.told (Or.inl rfl) j1⟩
theorem arm13 (S : Sim Z g c) (h : LI Z c T xs rs fs) {q : Int32} (hq : BQ Z c q) (x : Int32) : LwS Z T xs rs fs g (if q < 0 then some g else (f_L_below x 900 g).bind fun x99 => (f_L_isBroken (some (Z 0)) q x99 g).bind fun v100 => (if v100.1 = 0 then none else some v100.2)) := by
  rcases hq with ⟨rfl, -⟩ | ⟨i, b, rfl, hi⟩
  · rw [if_pos neg1]; exact stp_same S h
  · have := bi31 h.1 hi
    obtain ⟨r, r1, r2⟩ := lw_below (n := 900) (by decide) (by decide) x g
    obtain ⟨g', c', e, S', s', h'⟩ := lw_isBroken S h hi r1
    rw [if_neg (ofn_nn (by omega)), show f_L_below x 900 g = some (Int32.ofNat r) from r2, Option.bind_some, e, Option.bind_some]
    exact ⟨g', c', if_neg (show ¬ (1 : Int32) = 0 by decide), S', (s'.sl).up (by omega) (by omega), h'⟩
end Law5
