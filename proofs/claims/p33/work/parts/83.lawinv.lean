/-! What is so of the county wherever the law stands. -/
def LX (Z : Nat → Nat) (c : HP) (xs rs : List Int32) : Prop := (xs.length = 8 ∧ rs.length = 8) ∧ ∀ i p, (pls Z c)[i]? = some p → fi c 97 p = xs.getD i 0 ∧ fi c 99 p = rs.getD i 0
def LFe (Z : Nat → Nat) (c : HP) (fs : List Int32) : Prop := fs.length = 4 ∧ ∀ i l, (lns Z c)[i]? = some l → fi c 65 l = fs.getD i 0 ∧ ∃ n, fs.getD i 0 = Int32.ofNat n ∧ n ≤ 29
def LI (Z : Nat → Nat) (c : HP) (T : Nat) (xs rs fs : List Int32) : Prop := J Z c ∧ ((tls Z c).length = T ∧ (dvs Z c).length = 4 ∧ (pls Z c)[0]? = some (Z 9)) ∧ LX Z c xs rs ∧ LFe Z c fs ∧ ∀ t ∈ tls Z c, ndl c t ≤ 44
section LawInv
variable {Z : Nat → Nat} {g c c' : HP} {T : Nat} {xs rs fs : List Int32}
theorem LX.ag (A : Ag Z c c') (j : J Z c) (h : LX Z c xs rs) : LX Z c' xs rs := by
  refine ⟨h.1, fun i p hp => ?_⟩
  rw [ag_pls A] at hp
  have ht : tg c p ≠ 0 := by rw [j.l.1.tg hp]; decide
  rw [A.2.1 97 p ht, A.2.1 99 p ht]
  exact h.2 i p hp
theorem LFe.ag (A : Ag Z c c') (j : J Z c) (h : LFe Z c fs) : LFe Z c' fs := by
  refine ⟨h.1, fun i p hp => ?_⟩
  rw [ag_lns A] at hp
  have ht : tg c p ≠ 0 := by rw [j.l.2.1.tg hp]; decide
  rw [A.2.1 65 p ht]
  exact h.2 i p hp
theorem LI.ag (h : LI Z c T xs rs fs) (A : Ag Z c c') (j' : J Z c') (ht : tls Z c' = tls Z c) (hd : (dvs Z c').length = (dvs Z c).length) : LI Z c' T xs rs fs := by
  obtain ⟨j, ⟨h1, h2, h3⟩, h4, h5, h6⟩ := h
  refine ⟨j', ⟨by rw [ht]; exact h1, by rw [hd]; exact h2, by rw [ag_pls A]; exact h3⟩, h4.ag A j, h5.ag A j, fun t hx => ?_⟩
  rw [ht] at hx
  unfold ndl
  rw [A.2.1 134 t (isT_nz (j.isT hx))]
  exact h6 t hx
theorem vT0 {t : Nat} : vTrip c t 0 = fi c 64 (lA c t) := by unfold vTrip; rw [if_pos rfl]
theorem vT1 {t : Nat} : vTrip c t 1 = fi c 96 (fA c t) := by unfold vTrip; rw [if_neg (by decide), if_pos rfl]
theorem vT2 {t : Nat} : vTrip c t 2 = fi c 96 (tA c t) := by unfold vTrip; rw [if_neg (by decide), if_neg (by decide), if_pos rfl]
theorem vT3 {t : Nat} : vTrip c t 3 = tst c t := by unfold vTrip; rw [if_neg (by decide), if_neg (by decide), if_neg (by decide), if_pos rfl]
theorem vT4 {t : Nat} : vTrip c t 4 = tend c t := by unfold vTrip; rw [if_neg (by decide), if_neg (by decide), if_neg (by decide), if_neg (by decide), if_pos rfl]
theorem vT5 {t : Nat} : vTrip c t 5 = fi c 134 t := by unfold vTrip; rw [if_neg (by decide), if_neg (by decide), if_neg (by decide), if_neg (by decide), if_neg (by decide), if_pos rfl]
theorem vT6 {t : Nat} : vTrip c t 6 = bnT c t := by unfold vTrip; rw [if_neg (by decide), if_neg (by decide), if_neg (by decide), if_neg (by decide), if_neg (by decide), if_neg (by decide), if_pos rfl]
theorem vT7 {t : Nat} : vTrip c t 7 = pnT c t := by unfold vTrip; rw [if_neg (by decide), if_neg (by decide), if_neg (by decide), if_neg (by decide), if_neg (by decide), if_neg (by decide), if_neg (by decide), if_pos rfl]
theorem vT8 {t : Nat} : vTrip c t 8 = cauT c t := by unfold vTrip; rw [if_neg (by decide), if_neg (by decide), if_neg (by decide), if_neg (by decide), if_neg (by decide), if_neg (by decide), if_neg (by decide), if_neg (by decide), if_pos rfl]
theorem vT9 {t : Nat} : vTrip c t 9 = if cauT c t = 0 then lateT c t else -1 := by unfold vTrip; rw [if_neg (by decide), if_neg (by decide), if_neg (by decide), if_neg (by decide), if_neg (by decide), if_neg (by decide), if_neg (by decide), if_neg (by decide), if_neg (by decide), if_pos rfl]
theorem vT10 {t : Nat} : vTrip c t 10 = if cauT c t = 0 then rndT c t else -1 := by unfold vTrip; rw [if_neg (by decide), if_neg (by decide), if_neg (by decide), if_neg (by decide), if_neg (by decide), if_neg (by decide), if_neg (by decide), if_neg (by decide), if_neg (by decide), if_neg (by decide)]
theorem vB0 {b : Nat} : vBlk Z c b 0 = fi c 17 b := by unfold vBlk; rw [if_pos rfl]
theorem vB1 {b : Nat} : vBlk Z c b 1 = Int32.ofNat (rowB c b).length := by unfold vBlk; rw [if_neg (by decide), if_pos rfl]
theorem vB3 {b : Nat} : vBlk Z c b 3 = Int32.ofNat (pcs c b).length := by unfold vBlk; rw [if_neg (by decide), if_neg (by decide), if_neg (by decide), if_pos rfl]
theorem vB4 {b : Nat} : vBlk Z c b 4 = (if 0 ≤ chB Z c b then 0 else 1) := by unfold vBlk; rw [if_neg (by decide), if_neg (by decide), if_neg (by decide), if_neg (by decide), if_pos rfl]
theorem vB5 {b : Nat} : vBlk Z c b 5 = chB Z c b := by unfold vBlk; rw [if_neg (by decide), if_neg (by decide), if_neg (by decide), if_neg (by decide), if_neg (by decide), if_pos rfl]
theorem vP0 {p : Nat} : vPiece c p 0 = fi c 128 (pfA c p) := by unfold vPiece; rw [if_pos rfl]
theorem vP1 {p : Nat} : vPiece c p 1 = fi c 128 (pzA c p) := by unfold vPiece; rw [if_neg (by decide), if_pos rfl]
theorem vP2 {p : Nat} : vPiece c p 2 = fi c 84 p := by unfold vPiece; rw [if_neg (by decide), if_neg (by decide), if_pos rfl]
theorem vP3 {p : Nat} : vPiece c p 3 = minP c p := by unfold vPiece; rw [if_neg (by decide), if_neg (by decide), if_neg (by decide), if_pos rfl]
theorem vP4 {p : Nat} : vPiece c p 4 = dnP c p := by unfold vPiece; rw [if_neg (by decide), if_neg (by decide), if_neg (by decide), if_neg (by decide), if_pos rfl]
theorem vD0 {d : Nat} : vDrv c d 0 = Int32.ofNat (dps c d).length := by unfold vDrv; rw [if_pos rfl]
theorem vD1 {d : Nat} : vDrv c d 1 = sumI (minP c) (dps c d) := by unfold vDrv; rw [if_neg (by decide), if_pos rfl]
theorem vD2 {d : Nat} : vDrv c d 2 = (if fi c 33 d = 0 then 0 else 1) := by unfold vDrv; rw [if_neg (by decide), if_neg (by decide), if_pos rfl]
theorem vD3 {d : Nat} : vDrv c d 3 = wkD c d := by unfold vDrv; rw [if_neg (by decide), if_neg (by decide), if_neg (by decide), if_pos rfl]
theorem vD4 {d : Nat} : vDrv c d 4 = payD c d := by unfold vDrv; rw [if_neg (by decide), if_neg (by decide), if_neg (by decide), if_neg (by decide)]
theorem vM1 : vMany Z c 1 = Int32.ofNat (bks Z c).length := by unfold vMany; rw [if_neg (by decide), if_pos rfl]
theorem vM3 : vMany Z c 3 = Int32.ofNat (cntC Z c 1) := by unfold vMany; rw [if_neg (by decide), if_neg (by decide), if_neg (by decide), if_pos rfl]
theorem vM4 : vMany Z c 4 = Int32.ofNat (cntC Z c 0) := by unfold vMany; rw [if_neg (by decide), if_neg (by decide), if_neg (by decide), if_neg (by decide), if_pos rfl]
theorem vM5 : vMany Z c 5 = sumI (payT c) (tls Z c) := by unfold vMany; rw [if_neg (by decide), if_neg (by decide), if_neg (by decide), if_neg (by decide), if_neg (by decide), if_pos rfl]
theorem vM6 : vMany Z c 6 = sumI (payD c) (dvs Z c) := by unfold vMany; rw [if_neg (by decide), if_neg (by decide), if_neg (by decide), if_neg (by decide), if_neg (by decide), if_neg (by decide), if_pos rfl]
theorem vM7 : vMany Z c 7 = sumI (fun b => emptyR c (Z 9) (rowB c b)) (bks Z c) := by unfold vMany; rw [if_neg (by decide), if_neg (by decide), if_neg (by decide), if_neg (by decide), if_neg (by decide), if_neg (by decide), if_neg (by decide), if_pos rfl]
theorem abs_nat : ∀ u, u < 16 → ∀ v, v < 16 → (if 0 ≤ Int32.ofNat u - Int32.ofNat v then Int32.ofNat u - Int32.ofNat v else 0 - (Int32.ofNat u - Int32.ofNat v)) = Int32.ofNat (if v ≤ u then u - v else v - u) := by decide +kernel
theorem lw_follows (S : Sim Z g c) (j : J Z c) (hx : LX Z c xs rs) {xA : Nat} (A : Arr Z g 20 xA xs) {i k t a : Nat} (ht : (tls Z c)[i]? = some t) (ha : (tls Z c)[k]? = some a) :
    ∃ g', f_L_follows (some (Z 0)) (some xA) (Int32.ofNat i) (Int32.ofNat k) g = some (b32 (canF c a t), g') ∧ Sim Z g' c ∧ Spd Z 0 0 g g' := by
  have mt := List.mem_of_getElem? ht
  have ma := List.mem_of_getElem? ha
  obtain ⟨b1, b2, -⟩ := j_tpl j mt
  obtain ⟨d1, d2, -⟩ := j_tpl j ma
  obtain ⟨p1, p2, ia, p3, p4, p5⟩ := j_place j d2
  obtain ⟨r1, r2, it, r3, r4, r5⟩ := j_place j b1
  obtain ⟨w1, e1, S1, s1⟩ := q_ofTrip j ha (w := 4) (by decide) (by decide) g S
  obtain ⟨w2, e2, S2, s2⟩ := q_ofTrip j ha (w := 2) (by decide) (by decide) w1 S1
  obtain ⟨w3, e3, S3, s3⟩ := q_ofTrip j ht (w := 1) (by decide) (by decide) w2 S2
  obtain ⟨w4, e4, S4, s4⟩ := q_ofTrip j ht (w := 3) (by decide) (by decide) w3 S3
  rw [vT4] at e1
  rw [vT2, p5] at e2
  rw [vT1, r5] at e3
  rw [vT3] at e4
  have A2 := (A.sp s1 (Or.inl rfl)).sp s2 (Or.inl rfl)
  have A3 := A2.sp s3 (Or.inl rfl)
  have l5 := A2.ld (Or.inl rfl) (i := ia) (by rw [hx.1.1]; exact p3) (by omega)
  have l8 := A3.ld (Or.inl rfl) (i := it) (by rw [hx.1.1]; exact r3) (by omega)
  rw [← (hx.2 ia _ p4).1, p1] at l5
  rw [← (hx.2 it _ r4).1, r1] at l8
  refine ⟨w4, ?_, S4, (((s1.tr s2).tr s3).tr s4)⟩
  unfold f_L_follows
  rw [rMv S j, Option.bind_some, e1, Option.bind_some]
  show Option.bind (rcv 10 (some (Z 0)) w1) _ = _
  rw [rMv S1 j, Option.bind_some, e2, Option.bind_some]
  show Option.bind (ldI (some xA) (Int32.ofNat ia) w2) _ = _
  rw [l5, Option.bind_some]
  show Option.bind (rcv 10 (some (Z 0)) w2) _ = _
  rw [rMv S2 j, Option.bind_some, e3, Option.bind_some]
  show Option.bind (ldI (some xA) (Int32.ofNat it) w3) _ = _
  rw [l8, Option.bind_some]
  show Option.bind (rcv 10 (some (Z 0)) w3) _ = _
  rw [rMv S3 j, Option.bind_some, e4, Option.bind_some, abs_nat _ (by omega) _ (by omega)]
  have ed : dist c (tA c a) (fA c t) = Int32.ofNat (if npx c (fA c t) ≤ npx c (tA c a) then npx c (tA c a) - npx c (fA c t) else npx c (fA c t) - npx c (tA c a)) := (j_dist j d2 b1).1
  rw [← ed]
  unfold canF b32
  by_cases h : tst c t < (tend c a + dist c (tA c a) (fA c t)) + 4
  · rw [if_pos h, if_neg (by rw [decide_eq_true_iff]; exact fun z => z h)]
  · rw [if_neg h, if_pos (by rw [decide_eq_true_iff]; exact h)]
end LawInv
