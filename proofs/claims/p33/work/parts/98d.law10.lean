/-! What is late in the mean; the law's end; the law is true. -/
def meanB (n s : Nat) : Bool := match okD (FP.ddiv (FP.i2d (Int32.ofNat s)) (FP.i2d (Int32.ofNat n))) with
  | some v => decide (Op.cmpValue (FP.dcmp v 4629137466983448576) .l ≤ 0)
  | none => false
theorem mean_all : ((List.range 16).all fun n => (List.range (30 * (n + 1) + 1)).all fun s => meanB (n + 1) s) = true := by decide +kernel
theorem mean_ok {n s : Nat} (hn : 0 < n) (h16 : n ≤ 16) (hs : s ≤ 30 * n) : ∃ v, okD (FP.ddiv (FP.i2d (Int32.ofNat s)) (FP.i2d (Int32.ofNat n))) = some v ∧ Op.cmpValue (FP.dcmp v 4629137466983448576) .l ≤ 0 := by
  obtain ⟨m, rfl⟩ : ∃ m, n = m + 1 := ⟨n - 1, by omega⟩
  have h : meanB (m + 1) s = true := List.all_eq_true.mp (List.all_eq_true.mp mean_all m (List.mem_range.mpr (by omega))) s (List.mem_range.mpr (by omega))
  unfold meanB at h
  cases ho : okD (FP.ddiv (FP.i2d (Int32.ofNat s)) (FP.i2d (Int32.ofNat (m + 1)))) with
  | none => rw [ho] at h; cases h
  | some v => rw [ho] at h; exact ⟨v, rfl, of_decide_eq_true h⟩
section Law10
variable {Z : Nat → Nat} {g c c' : HP} {T b xA rA fA : Nat} {bl xs rs fs : List Int32}
theorem runN_nat (j : J Z c) : ∃ n s, runN Z c = (Int32.ofNat n, Int32.ofNat s) ∧ n ≤ 16 ∧ s ≤ 30 * n := by
  have key : ∀ (l : List Nat), (∀ t ∈ l, t ∈ tls Z c) → ∀ n s, s ≤ 30 * n → ∃ n' s', l.foldl (fun (a : Int32 × Int32) t => if cauT c t = 0 then (a.1 + 1, a.2 + lateT c t) else a) (Int32.ofNat n, Int32.ofNat s) = (Int32.ofNat n', Int32.ofNat s') ∧ n' ≤ n + l.length ∧ s' ≤ 30 * n' := by
    intro l
    induction l with
    | nil => intro _ n s h; exact ⟨n, s, rfl, Nat.le_add_right _ _, h⟩
    | cons t l ih =>
      intro hl n s h
      rw [List.foldl_cons]
      have ht := hl t List.mem_cons_self
      have hl' := fun x hx => hl x (List.mem_cons_of_mem _ hx)
      by_cases h0 : cauT c t = 0
      · obtain ⟨q, q1, q2, -⟩ := late_nat j ht h0
        rw [if_pos h0, q2]
        obtain ⟨n', s', e, k1, k2⟩ := ih hl' (n + 1) (s + q) (by omega)
        refine ⟨n', s', ?_, by rw [List.length_cons]; omega, k2⟩
        rw [← e]
        show List.foldl _ (Int32.ofNat n + 1, Int32.ofNat s + Int32.ofNat q) l = _
        rw [show Int32.ofNat n + 1 = Int32.ofNat (n + 1) from nAdd n 1, nAdd]
      · rw [if_neg h0]
        obtain ⟨n', s', e, k1, k2⟩ := ih hl' n s h
        exact ⟨n', s', e, by rw [List.length_cons]; omega, k2⟩
  obtain ⟨n, s, e, h1, h2⟩ := key (tls Z c) (fun _ h => h) 0 0 (Nat.le_refl _)
  exact ⟨n, s, e, by have := j.t.1; omega, h2⟩
theorem q_mean (j : J Z c) : ∃ v, Ask Z c (f_X9_meanLate (Z 0)) v ∧ Op.cmpValue (FP.dcmp v 4629137466983448576) .l ≤ 0 := by
  obtain ⟨n, s, e, h1, h2⟩ := runN_nat j
  by_cases h0 : n = 0
  · refine ⟨FP.dconst0, q_meanLate j ?_, by decide +kernel⟩
    rw [e, h0]; exact if_pos rfl
  · obtain ⟨v, k1, k2⟩ := mean_ok (n := n) (s := s) (by omega) h1 h2
    refine ⟨v, q_meanLate j ?_, k2⟩
    rw [e]
    exact (if_neg (fun z => h0 ((nEq (a := n) (b := 0) (by omega) (by decide)).mp z))).trans k1
theorem lg_same (u : Int64) : lg_cmp u u = 0 := by unfold lg_cmp; rw [if_neg (fun z : u > u => absurd z Int64.lt_irrefl), if_pos rfl]
theorem pi_0 (h : PL Z c 8 xs rs) : PI Z c 0 0 xs rs [10, 10, 10, 10] := by
  obtain ⟨j, ⟨h1, h2, h3⟩, h4, ⟨h5, h6⟩, h7, h8⟩ := h
  refine ⟨j, ⟨by rw [h1]; rfl, by rw [h3]; rfl, h4⟩, ⟨⟨h5, h6⟩, fun i p hp => (h7 i p hp).1 (by have := (List.getElem?_eq_some_iff.mp hp).1; have := j.n.1.1; omega)⟩, ⟨rfl, fun i q hq => ?_⟩, fun t ht => by rw [h1] at ht; cases ht⟩
  have hi : i < 4 := by have := (List.getElem?_eq_some_iff.mp hq).1; have := j.n.1.2.1; omega
  have e : ([10, 10, 10, 10] : List Int32).getD i 0 = 10 := by
    rcases (show i = 0 ∨ i = 1 ∨ i = 2 ∨ i = 3 by omega) with rfl | rfl | rfl | rfl <;> rfl
  rw [e]
  exact ⟨h8 i q hq, 10, rfl, by decide⟩
theorem law_run {g0 g1 : HP} (hn : nx g0 = Z 0) (e1 : f_X9_init (nx g0) (newG g0 11 14 [] []) = some g1) (S1 : Sim Z g1 c) (hP : PL Z c 0 (List.replicate 8 0) (List.replicate 8 0)) (B1 : Arr Z g1 25 b bl) (hb : bl.length ≤ 260) : ∃ g', f_L_law (some b) g0 = some (1, g') ∧ SL 0 Z 12100 415000 g1 g' := by
  have S2 := S1.nwa 20 8 (List.replicate 8 0) []
  have X2 := Arr.nwa S1 20 8 (List.replicate 8 0)
  have B2 := B1.nwo 20 8 (List.replicate 8 0) []
  have s2 : SL 0 Z 1 8 g1 _ := SL.nwa S1 20 8 (List.replicate 8 0) []
  obtain ⟨g2, hg2⟩ : ∃ g2, g2 = newG g1 20 8 (List.replicate 8 0) [] := ⟨_, rfl⟩
  rw [← hg2] at S2 X2 B2 s2
  have n2 : nx g2 = nx g1 + 1 := by rw [hg2]; rfl
  have S3 := S2.nwa 21 8 (List.replicate 8 0) []
  have R3 := Arr.nwa S2 21 8 (List.replicate 8 0)
  have X3 := X2.nwo 21 8 (List.replicate 8 0) []
  have B3 := B2.nwo 21 8 (List.replicate 8 0) []
  have s3 : SL 0 Z 1 8 g2 _ := SL.nwa S2 21 8 (List.replicate 8 0) []
  obtain ⟨g3, hg3⟩ : ∃ g3, g3 = newG g2 21 8 (List.replicate 8 0) [] := ⟨_, rfl⟩
  rw [← hg3] at S3 R3 X3 B3 s3
  have hb1 := B1.2.1
  obtain ⟨w4, c4, xs, rs, e4, S4, P4, B4, X4, R4, s4⟩ := l21_loop (show b ≠ nx g1 by omega) (show b ≠ nx g2 by omega) (show nx g1 ≠ nx g2 by omega) hb FU 0 g3 c _ _ (by show _ < 4096; decide) (by decide) S3 hP B3 X3 R3
  obtain ⟨x16, hx16⟩ := lw_cell B4 (Or.inr rfl) (by omega) (i := 8) (by decide)
  have e16 := hx16 w4 B4
  obtain ⟨r, hr, er⟩ := lw_below (n := 12) (by decide) (by decide) x16 w4
  obtain ⟨w5, c5, e5, S5, P5, s5⟩ := l125_loop (xA := nx g1) (rA := nx g2) (T := 5 + r) hb (by omega) FU 0 w4 c4 (by show _ < 4096; omega) (Nat.zero_le _) S4 (pi_0 P4) B4
  obtain ⟨w6, c6, e6, S6, P6, s6⟩ := l215_loop (b := b) (xA := nx g1) (rA := nx g2) (p4 := Int32.ofNat (5 + r)) FU 0 w5 c5 (by show _ < 4096; decide) (by decide) S5 P5
  have B6 := (B4.sp s5 (Or.inr (Or.inr (Or.inr rfl)))).sp s6 (Or.inr (Or.inr (Or.inr rfl)))
  have X6 := (X4.sp s5 (Or.inl rfl)).sp s6 (Or.inl rfl)
  have R6 := (R4.sp s5 (Or.inr (Or.inl rfl))).sp s6 (Or.inr (Or.inl rfl))
  have S7 := S6.nwa 20 4 (List.replicate 4 0) []
  have F7 := Arr.nwa S6 20 4 (List.replicate 4 0)
  have B7 := B6.nwo 20 4 (List.replicate 4 0) []
  have X7 := X6.nwo 20 4 (List.replicate 4 0) []
  have R7 := R6.nwo 20 4 (List.replicate 4 0) []
  have s7 : SL 0 Z 1 4 w6 _ := SL.nwa S6 20 4 (List.replicate 4 0) []
  obtain ⟨w7, hw7⟩ : ∃ w7, w7 = newG w6 20 4 (List.replicate 4 0) [] := ⟨_, rfl⟩
  rw [← hw7] at S7 F7 B7 X7 R7 s7
  have nb := B6.2.1
  have nX := X6.2.1
  have nR := R6.2.1
  have st : ∀ (l : List Int32) (k : HP), Sim Z k c6 → Arr Z k 25 b bl → Arr Z k 20 (nx g1) xs → Arr Z k 21 (nx g2) rs → Arr Z k 20 (nx w6) l → l.length = 4 → ∀ i, i < 4 → ∃ k', stI (some (nx w6)) (Int32.ofNat i) 10 k = some k' ∧ Sim Z k' c6 ∧ Arr Z k' 25 b bl ∧ Arr Z k' 20 (nx g1) xs ∧ Arr Z k' 21 (nx g2) rs ∧ Arr Z k' 20 (nx w6) (l.set i 10) ∧ SL 0 Z 0 0 k k' := by
    intro l k S B X R F hl i hi
    exact ⟨_, F.st (i := i) (by omega) (by omega) 10, S.st F.2.2.1 F.2.2.2.1 F.2.2.2.2 _, B.set' (by omega) _, X.set' (by omega) _, R.set' (by omega) _, F.set _, SL.st (Nat.zero_le _) _⟩
  obtain ⟨k0, f0, Sa, Ba, Xa, Ra, Fa, sa⟩ := st _ w7 S7 B7 X7 R7 F7 rfl 0 (by decide)
  obtain ⟨k1, f1, Sb, Bb, Xb, Rb, Fb, sb⟩ := st _ k0 Sa Ba Xa Ra Fa rfl 1 (by decide)
  obtain ⟨k2, f2, Sc, Bc, Xc, Rc, Fc, sc⟩ := st _ k1 Sb Bb Xb Rb Fb rfl 2 (by decide)
  obtain ⟨k3, f3, Sd, Bd, Xd, Rd, Fd, sd⟩ := st _ k2 Sc Bc Xc Rc Fc rfl 3 (by decide)
  have L0 : LoS Z b bl (nx g1) (nx g2) (nx w6) (5 + r) xs rs k3 c6 [10, 10, 10, 10] := ⟨Sd, P6, Bd, Xd, Rd, Fd⟩
  obtain ⟨w9, e9, c9, fs9, L9, s9⟩ := s269_loop nb nX nR (show 0 < 5 + r by omega) hb FU 0 k3 c6 _ (by show _ < 4096; omega) (Nat.zero_le _) L0
  have S9 := L9.1
  have j := L9.2.1.1
  have hT := L9.2.1.2.1.1
  obtain ⟨u, hu⟩ := q_digest j
  obtain ⟨p, lp, hp, -⟩ := q_least j
  obtain ⟨v, hv, hv30⟩ := q_mean j
  obtain ⟨wa, ea, Se, se⟩ := hu w9 S9
  obtain ⟨wb, eb, Sf, sf⟩ := hp wa Se
  obtain ⟨wc, ec, Sg, sg⟩ := hv wb Sf
  obtain ⟨wd, ed, Sh, sh⟩ := hu wc Sg
  refine ⟨wd, ?_, ((((s2.tr s3).tr s4).tr ((s5.tr s6).sl)).tr ((((s7.tr sa).tr sb).tr sc).tr (sd.tr ((s9.lo (Nat.zero_le _)).tr (((se.tr sf).tr sg).tr sh).sl)))).up (by omega) (by omega)⟩
  unfold f_L_law
  rw [e1, Option.bind_some, hn]
  show ((nwI 20 (Int32.ofNat 8) g1).bind _) = _
  rw [nwI_eq 20 8 g1 (by decide), Option.bind_some, ← hg2]
  show ((nwI 21 (Int32.ofNat 8) g2).bind _) = _
  rw [nwI_eq 21 8 g2 (by decide), Option.bind_some, ← hg3]
  show ((f_L_law_L21 (some b) (some (Z 0)) (nx g1) (nx g2) FU (Int32.ofNat 0) g3).bind _) = _
  rw [e4, Option.bind_some]
  show ((f_L_cell (some b) (Int32.ofNat 8) w4).bind _) = _
  rw [e16, Option.bind_some]
  show ((f_L_below x16 (Int32.ofNat 12) w4).bind _) = _
  rw [er, Option.bind_some, show (5 : Int32) + Int32.ofNat r = Int32.ofNat (5 + r) from nAdd 5 r]
  show ((f_L_law_L125 (some b) (some (Z 0)) (nx g1) (nx g2) (Int32.ofNat (5 + r)) FU (Int32.ofNat 0) w4).bind _) = _
  rw [e5, Option.bind_some]
  show ((f_L_law_L215 (some b) (some (Z 0)) (nx g1) (nx g2) (Int32.ofNat (5 + r)) FU (Int32.ofNat 0) w5).bind _) = _
  rw [e6, Option.bind_some]
  show ((nwI 20 (Int32.ofNat 4) w6).bind _) = _
  rw [nwI_eq 20 4 w6 (by decide), Option.bind_some, ← hw7]
  show ((stI (some (nx w6)) (Int32.ofNat 0) 10 w7).bind _) = _
  rw [f0, Option.bind_some]
  show ((stI (some (nx w6)) (Int32.ofNat 1) 10 k0).bind _) = _
  rw [f1, Option.bind_some]
  show ((stI (some (nx w6)) (Int32.ofNat 2) 10 k1).bind _) = _
  rw [f2, Option.bind_some]
  show ((stI (some (nx w6)) (Int32.ofNat 3) 10 k2).bind _) = _
  rw [f3, Option.bind_some]
  show ((f_L_law_L269 (some b) (some (Z 0)) (nx g1) (nx g2) (Int32.ofNat (5 + r)) 5 (nx w6) FU (Int32.ofNat 0) k3).bind _) = _
  rw [e9, Option.bind_some, rMv S9 j, Option.bind_some, ea, Option.bind_some]
  show ((rcv 10 (some (Z 0)) wa).bind _) = _
  rw [rMv Se j, Option.bind_some, eb, Option.bind_some]
  show (if Int32.ofNat (5 + r) < Int32.ofNat ((tls Z c9).length - p) then none else _) = _
  rw [if_neg (fun z => by have := (nLt (by omega) (by omega)).mp z; omega)]
  show ((rcv 10 (some (Z 0)) wb).bind _) = _
  rw [rMv Sf j, Option.bind_some, ec, Option.bind_some]
  show (if Op.cmpValue (FP.dcmp v 4629137466983448576) .l ≤ 0 then _ else none) = _
  rw [if_pos hv30]
  show ((rcv 10 (some (Z 0)) wc).bind _) = _
  rw [rMv Sg j, Option.bind_some, ed, Option.bind_some]
  exact if_pos (lg_same u)
end Law10
theorem law_true : LawTrue := by
  intro b e n l hl hb he hbe
  obtain ⟨g1, c1, e1, S1, j1, t0, p0, px, lf, ⟨y1, y2, y3, y4, y5⟩, fr1⟩ := q_new (g0H b e n l)
  have tb : tg (g0H b e n l) b = 25 := by rw [tg_g0H, if_pos rfl]
  obtain ⟨m1, m2, -⟩ := fr1 b hb (by rw [tb]; exact Or.inr (Or.inr (Or.inr rfl)))
  have ib : ia (g0H b e n l) b = l := if_pos rfl
  have hn : nx (g0H b e n l) = n := rfl
  have hx : ex (g0H b e n l) = 0 := rfl
  have hs : sl (g0H b e n l) = 0 := rfl
  have B1 : Arr (Zb (nx (g0H b e n l))) g1 25 b l := ⟨⟨m1.trans tb, m2.trans ib⟩, by omega, by show b ≠ n + 12; omega, by show b ≠ n + 14; omega, by show b ≠ n + 15; omega⟩
  obtain ⟨g', e2, s⟩ := law_run (Z := Zb (nx (g0H b e n l))) rfl e1 S1 ⟨j1, t0, p0, ⟨rfl, rfl⟩, fun k p hp => ⟨fun z => absurd z (Nat.not_lt_zero _), fun _ => px k p hp⟩, lf⟩ B1 hl
  obtain ⟨z1, z2, z3, z4⟩ := s
  have hc : cu g1 = ex g1 + nx g1 := rfl
  exact ⟨g', e2, by omega, by omega⟩
