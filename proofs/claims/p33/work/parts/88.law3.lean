/-! The law's steps: isSwapped. -/
section Law3
variable {Z : Nat → Nat} {g c c' : HP} {T : Nat} {xs rs fs : List Int32}
theorem cj_back {A B U : List Nat} {s o : Nat} (hA : chn c A) (hs : s ≤ A.length) (ho : o ≤ B.length) : cjV c (A.take s ++ U) s (B.take o ++ A.drop s) o = true := by
  have h2 : (B.take o ++ A.drop s)[o]? = A[s]? := by
    rw [List.getElem?_append_right (by rw [List.length_take]; omega), List.length_take, Nat.min_eq_left ho, Nat.sub_self, List.getElem?_drop, Nat.add_zero]
  unfold cjV prv
  by_cases h0 : s = 0
  · rw [if_pos h0]
  · rw [if_neg h0, h2, List.getElem?_append_left (by rw [List.length_take]; omega), List.getElem?_take_of_lt (by omega)]
    obtain ⟨a, ha⟩ : ∃ a, A[s - 1]? = some a := ⟨_, List.getElem?_eq_getElem (by omega)⟩
    rw [ha]
    cases ht : A[s]? with
    | none => rfl
    | some t =>
      exact hA (s - 1) a t ha (by rw [show s - 1 + 1 = s by omega]; exact ht)
theorem sw_back {A B : List Nat} {s o : Nat} (hs : s ≤ A.length) (ho : o ≤ B.length) : (A.take s ++ B.drop o).take s ++ (B.take o ++ A.drop s).drop o = A := by
  have e1 : (A.take s ++ B.drop o).take s = A.take s := List.take_left' (by rw [List.length_take, Nat.min_eq_left hs])
  have e2 : (B.take o ++ A.drop s).drop o = A.drop s := List.drop_left' (by rw [List.length_take, Nat.min_eq_left ho])
  rw [e1, e2, List.take_append_drop]
theorem sw_len {A B : List Nat} {s o : Nat} (hs : s ≤ A.length) : (A.take s ++ B.drop o).length = s + (B.length - o) := by
  rw [List.length_append, List.length_take, List.length_drop, Nat.min_eq_left hs]
theorem lw_isSwapped (S : Sim Z g c) (h : LI Z c T xs rs fs) {i k x y s o : Nat} (hx : (bks Z c)[i]? = some x) (hy : (bks Z c)[k]? = some y) (hik : i ≠ k) (hs : s ≤ (rowB c x).length) (ho : o ≤ (rowB c y).length) :
    ∃ g' c', f_L_isSwapped (some (Z 0)) (Int32.ofNat i) (Int32.ofNat k) (Int32.ofNat s) (Int32.ofNat o) g = some (1, g') ∧ Sim Z g' c' ∧ SL (nx g) Z 66 6420 g g' ∧ LI Z c' T xs rs fs := by
  have j := h.1
  have mx := List.mem_of_getElem? hx
  have my := List.mem_of_getElem? hy
  have hxy := bks_ne j hx hy hik
  have lx := j.rlen mx
  have ly := j.rlen my
  have hi8 := bi31 j hx
  have hk8 := bi31 j hy
  obtain ⟨A, hA⟩ : ∃ A, A = rowB c x := ⟨_, rfl⟩
  obtain ⟨B, hB⟩ : ∃ B, B = rowB c y := ⟨_, rfl⟩
  have lA : A.length ≤ 16 := by rw [hA]; exact lx
  have lB : B.length ≤ 16 := by rw [hB]; exact ly
  obtain ⟨w1, e1, S1, s1⟩ := q_many j (w := 7) (by decide) (by decide) g S
  obtain ⟨E, hE⟩ : ∃ E, E = vMany Z c 7 := ⟨_, rfl⟩
  rw [← hE] at e1
  have n1 := s1.2.1
  have S2 := S1.nwa 20 2 (List.replicate 2 0) []
  have A2 : Arr Z (newG w1 20 2 (List.replicate 2 0) []) 20 (nx w1) (List.replicate 2 0) := Arr.nwa S1 20 2 _
  obtain ⟨w3, e3, S3, s3⟩ := q_ofBlock j hx (w := 1) (by decide) (by decide) _ S2
  rw [vB1, ← hA] at e3
  have A3 := A2.sp s3 (Or.inl rfl)
  have t3 := A3.st (i := 0) (by decide) (by decide) (Int32.ofNat A.length)
  have A4 := A3.set (List.set (List.replicate 2 0) 0 (Int32.ofNat A.length))
  have S4 := S3.st A3.2.2.1 A3.2.2.2.1 A3.2.2.2.2 (List.set (List.replicate 2 0) 0 (Int32.ofNat A.length))
  obtain ⟨w5, e5, S5, s5⟩ := q_ofBlock j hy (w := 1) (by decide) (by decide) _ S4
  rw [vB1, ← hB] at e5
  have A5 := A4.sp s5 (Or.inl rfl)
  have t5 := A5.st (i := 1) (show (1 : Nat) < 2 by decide) (by decide) (Int32.ofNat B.length)
  have A6 := A5.set (List.set (List.set (List.replicate 2 0) 0 (Int32.ofNat A.length)) 1 (Int32.ofNat B.length))
  have S6 := S5.st A5.2.2.1 A5.2.2.2.1 A5.2.2.2.2 (List.set (List.set (List.replicate 2 0) 0 (Int32.ofNat A.length)) 1 (Int32.ofNat B.length))
  have el : List.set (List.set (List.replicate 2 0) 0 (Int32.ofNat A.length)) 1 (Int32.ofNat B.length) = [Int32.ofNat A.length, Int32.ofNat B.length] := rfl
  have sl6 : SL (nx g) Z 1 2 g (setA w5 (nx w1) (List.set (List.set (List.replicate 2 0) 0 (Int32.ofNat A.length)) 1 (Int32.ofNat B.length))) :=
    (((((s1.sl).tr (SL.nwa S1 20 2 (List.replicate 2 0) [])).tr (s3.sl)).tr (SL.st n1 _)).tr ((s5.sl).tr (SL.st n1 _))).up (by omega) (by omega)
  generalize hg6 : setA w5 (nx w1) (List.set (List.set (List.replicate 2 0) 0 (Int32.ofNat A.length)) 1 (Int32.ofNat B.length)) = g6 at A6 S6 t5 sl6
  rw [el] at A6
  have r0 : ∀ {w : HP}, Arr Z w 20 (nx w1) [Int32.ofNat A.length, Int32.ofNat B.length] → ldI (some (nx w1)) 0 w = some (Int32.ofNat A.length) := fun a => a.ld (Or.inl rfl) (i := 0) (show (0 : Nat) < 2 by decide) (by decide)
  have r1 : ∀ {w : HP}, Arr Z w 20 (nx w1) [Int32.ofNat A.length, Int32.ofNat B.length] → ldI (some (nx w1)) 1 w = some (Int32.ofNat B.length) := fun a => a.ld (Or.inl rfl) (i := 1) (show (1 : Nat) < 2 by decide) (by decide)
  -- the trip that the tail begins with
  obtain ⟨q13, hq13, tq⟩ : ∃ q13 : Int32, (if Int32.ofNat A.length ≤ Int32.ofNat s then some (-1 : Int32) else (rcv 10 (some (Z 0)) g6).bind fun b11 => (f_X9_at b11 (Int32.ofNat i) (Int32.ofNat s) g6).bind fun x12 => some x12) = some q13 ∧ (q13 = -1 ∨ ∃ it t, q13 = Int32.ofNat it ∧ (tls Z c)[it]? = some t ∧ A[s]? = some t) := by
    by_cases hc : A.length ≤ s
    · exact ⟨-1, if_pos ((nLe (by omega) (by omega)).mpr hc), Or.inl rfl⟩
    · obtain ⟨t, ht⟩ : ∃ t, A[s]? = some t := ⟨_, List.getElem?_eq_getElem (by omega)⟩
      have ht' : (rowB c x)[s]? = some t := by rw [← hA]; exact ht
      obtain ⟨it, hit⟩ := mem_at (j.rT mx (List.mem_of_getElem? ht')).1
      refine ⟨Int32.ofNat it, ?_, Or.inr ⟨it, t, rfl, hit, ht⟩⟩
      rw [if_neg (fun z => hc ((nLe (by omega) (by omega)).mp z)), rMv S6 j, Option.bind_some, q_at S6 j hx (by omega), Option.bind_some, vAt_at ht', t128 j hit]
  by_cases hcs : csV c (rowB c x) s (rowB c y) o = true
  · -- it goes
    obtain ⟨w7, c1, e7, S7, s7, j1, G1, L1, t1, R1, -⟩ := q_swap S6 j hx hy hik hs ho hcs
    rw [← hA, ← hB] at e7
    have A7 := A6.sp s7 (Or.inl rfl)
    have hx1 : (bks Z c1)[i]? = some x := by rw [bks_eq L1.2.2.1]; exact hx
    have hy1 : (bks Z c1)[k]? = some y := by rw [bks_eq L1.2.2.1]; exact hy
    have ex1 : rowB c1 x = A.take s ++ B.drop o := by rw [(R1 x mx).1, hA, hB]; unfold swR; rw [if_pos rfl]
    have ey1 : rowB c1 y = B.take o ++ A.drop s := by rw [(R1 y my).1, hA, hB]; unfold swR; rw [if_neg hxy.symm, if_pos rfl]
    have hsA : s ≤ A.length := by rw [hA]; exact hs
    have hoB : o ≤ B.length := by rw [hB]; exact ho
    have lx1 := sw_len (A := A) (B := B) (o := o) hsA
    have ly1 := sw_len (A := B) (B := A) (o := s) hoB
    obtain ⟨w8, e8, S8, s8⟩ := q_ofBlock j1 hx1 (w := 1) (by decide) (by decide) w7 S7
    obtain ⟨w9, e9, S9, s9⟩ := q_ofBlock j1 hy1 (w := 1) (by decide) (by decide) w8 S8
    rw [vB1, ex1, lx1] at e8
    rw [vB1, ey1, ly1] at e9
    have A8 := A7.sp s8 (Or.inl rfl)
    have A9 := A8.sp s9 (Or.inl rfl)
    -- the tail's first trip
    obtain ⟨w10, e10, S10, s10⟩ : ∃ w10, (if q13 < 0 then some w9 else (rcv 10 (some (Z 0)) w9).bind fun b26 => (f_X9_ofTrip b26 q13 6 w9).bind fun v27 => (if v27.1 = Int32.ofNat k then some v27.2 else none)) = some w10 ∧ Sim Z w10 c1 ∧ Spd Z 0 0 w9 w10 := by
      rcases tq with rfl | ⟨it, t, rfl, hit, ht⟩
      · exact ⟨w9, if_pos neg1, S9, Spd.rf⟩
      · have hit1 : (tls Z c1)[it]? = some t := by rw [tls_eq L1.1]; exact hit
        have hty : t ∈ rowB c1 y := by rw [ey1]; exact List.mem_append_right _ (List.mem_of_getElem? (i := 0) (by rw [List.getElem?_drop, Nat.add_zero]; exact ht))
        obtain ⟨w10, e10, S10, s10⟩ := q_ofTrip j1 hit1 (w := 6) (by decide) (by decide) w9 S9
        have my1 := List.mem_of_getElem? hy1
        rw [vT6, (bn_at j1 (List.mem_of_getElem? hit1) hy1).mpr (j1.rT my1 hty).2] at e10
        have := ti31 j1 hit1
        refine ⟨w10, ?_, S10, s10⟩
        rw [if_neg (ofn_nn (by omega)), rMv S9 j1, Option.bind_some, e10, Option.bind_some]
        exact if_pos rfl
    have A10 := A9.sp s10 (Or.inl rfl)
    -- and back
    have hcA : chn c A := by
      rw [hA]
      obtain ⟨_, _, _, _, _, ⟨_, _, hc⟩, _⟩ := j.bok mx
      exact hc
    have hcB : chn c B := by
      rw [hB]
      obtain ⟨_, _, _, _, _, ⟨_, _, hc⟩, _⟩ := j.bok my
      exact hc
    have iA : ∀ t ∈ A, IsT c t := fun t ht => j.isT (j.rT mx (by rw [← hA]; exact ht)).1
    have iB : ∀ t ∈ B, IsT c t := fun t ht => j.isT (j.rT my (by rw [← hB]; exact ht)).1
    have hcs1 : csV c1 (rowB c1 x) s (rowB c1 y) o = true := by
      unfold csV
      rw [ex1, ey1, cj_back (ag_chn G1 iA hcA) hsA hoB, cj_back (ag_chn G1 iB hcB) hoB hsA]
      rfl
    obtain ⟨w11, c2, e11, S11, s11, j2, G2, L2, t2, R2, -⟩ := q_swap S10 j1 hx1 hy1 hik (by rw [ex1, lx1]; omega) (by rw [ey1, ly1]; omega) hcs1
    rw [ex1, ey1, lx1, ly1] at e11
    have A11 := A10.sp s11 (Or.inl rfl)
    have mx1 := List.mem_of_getElem? hx1
    have my1 := List.mem_of_getElem? hy1
    have hx2 : (bks Z c2)[i]? = some x := by rw [bks_eq L2.2.2.1]; exact hx1
    have hy2 : (bks Z c2)[k]? = some y := by rw [bks_eq L2.2.2.1]; exact hy1
    have ex2 : rowB c2 x = A := by rw [(R2 x mx1).1]; unfold swR; rw [if_pos rfl, ex1, ey1]; exact sw_back hsA hoB
    have ey2 : rowB c2 y = B := by rw [(R2 y my1).1]; unfold swR; rw [if_neg hxy.symm, if_pos rfl, ex1, ey1]; exact sw_back hoB hsA
    have eb2 : bks Z c2 = bks Z c := (bks_eq L2.2.2.1).trans (bks_eq L1.2.2.1)
    have er2 : ∀ b ∈ bks Z c, rowB c2 b = rowB c b := fun b hb => by
      by_cases h1 : b = x
      · rw [h1, ex2, hA]
      · by_cases h2 : b = y
        · rw [h2, ey2, hB]
        · rw [(R2 b (by rw [bks_eq L1.2.2.1]; exact hb)).1]
          unfold swR
          rw [if_neg h1, if_neg h2, (R1 b hb).1]
          unfold swR
          rw [if_neg h1, if_neg h2]
    have px2 : pcs c2 x = [] := by rw [(R2 x mx1).2]; unfold swP; rw [if_pos rfl]
    have py2 : pcs c2 y = [] := by rw [(R2 y my1).2]; unfold swP; rw [if_neg hxy.symm, if_pos rfl]
    have G := G1.tr G2
    have eE : vMany Z c2 7 = E := by
      rw [hE, vM7, vM7, eb2]
      refine sumI_congr fun b hb => ?_
      rw [er2 b hb]
      exact ag_emptyR G (fun t ht => j.isT (j.rT hb ht).1) j.gg.2.2.2.2.2.2.2.1
    obtain ⟨w12, e12, S12, s12⟩ := q_many j2 (w := 7) (by decide) (by decide) w11 S11
    obtain ⟨w13, e13, S13, s13⟩ := q_ofBlock j2 hx2 (w := 1) (by decide) (by decide) w12 S12
    obtain ⟨w14, e14, S14, s14⟩ := q_ofBlock j2 hx2 (w := 3) (by decide) (by decide) w13 S13
    obtain ⟨w15, e15, S15, s15⟩ := q_ofBlock j2 hy2 (w := 3) (by decide) (by decide) w14 S14
    rw [eE] at e12
    rw [vB1, ex2] at e13
    rw [vB3, px2] at e14
    rw [vB3, py2] at e15
    have A13 := (A11.sp s12 (Or.inl rfl)).sp s13 (Or.inl rfl)
    refine ⟨w15, c2, ?_, S15, (sl6.tr ((((((((s7.tr s8).tr s9).tr s10).tr s11).tr s12).tr s13).tr (s14.tr s15)).sl)).up (by omega) (by omega), h.ag G j2 ((tls_eq L2.1).trans (tls_eq L1.1)) (by rw [dvs_eq L2.2.2.2, dvs_eq L1.2.2.2])⟩
    unfold f_L_isSwapped
    rw [rMv S j, Option.bind_some, e1, Option.bind_some]
    show (nwI 20 (Int32.ofNat 2) w1).bind _ = _
    rw [nwI_eq 20 2 w1 (by decide), Option.bind_some]
    show (rcv 10 (some (Z 0)) (newG w1 20 2 (List.replicate 2 0) [])).bind _ = _
    rw [rMv S2 j, Option.bind_some, e3, Option.bind_some]
    show (stI (some (nx w1)) 0 (Int32.ofNat A.length) w3).bind _ = _
    rw [show stI (some (nx w1)) 0 (Int32.ofNat A.length) w3 = some (setA w3 (nx w1) (List.set (List.replicate 2 0) 0 (Int32.ofNat A.length))) from t3, Option.bind_some, rMv S4 j, Option.bind_some, e5, Option.bind_some]
    show (stI (some (nx w1)) 1 (Int32.ofNat B.length) w5).bind _ = _
    rw [show stI (some (nx w1)) 1 (Int32.ofNat B.length) w5 = some g6 from t5, Option.bind_some, r0 A6, Option.bind_some, hq13, Option.bind_some, rMv S6 j, Option.bind_some, try_f e7]
    show (ldI (some (nx w1)) 0 w7).bind _ = _
    rw [r0 A7, Option.bind_some, r1 A7, Option.bind_some]
    show (if Int32.ofNat (A.length - s + B.length - o) = ((Int32.ofNat A.length - Int32.ofNat s) + Int32.ofNat B.length) - Int32.ofNat o then (rcv 10 (some (Z 0)) w7).bind _ else none) = _
    rw [nSub hsA, nAdd, nSub (by omega), if_pos rfl, rMv S7 j1, Option.bind_some, e8, Option.bind_some]
    show (ldI (some (nx w1)) 1 w8).bind _ = _
    rw [r1 A8, Option.bind_some]
    show (if Int32.ofNat (s + (B.length - o)) = (Int32.ofNat s + Int32.ofNat B.length) - Int32.ofNat o then (rcv 10 (some (Z 0)) w8).bind _ else none) = _
    rw [nAdd, nSub (by omega), show s + B.length - o = s + (B.length - o) by omega, if_pos rfl, rMv S8 j1, Option.bind_some, e9, Option.bind_some]
    show (ldI (some (nx w1)) 0 w9).bind _ = _
    rw [r0 A9, Option.bind_some]
    show (if Int32.ofNat (o + (A.length - s)) = (Int32.ofNat o + Int32.ofNat A.length) - Int32.ofNat s then Option.bind (if q13 < 0 then some w9 else (rcv 10 (some (Z 0)) w9).bind fun b26 => (f_X9_ofTrip b26 q13 6 w9).bind fun v27 => (if v27.1 = Int32.ofNat k then some v27.2 else none)) _ else none) = _
    rw [nAdd, nSub (by omega), show o + A.length - s = o + (A.length - s) by omega, if_pos rfl, e10, Option.bind_some, rMv S10 j1, Option.bind_some, try_f e11]
    show (if Int32.ofNat (s + (B.length - o) - s + (o + (A.length - s)) - o) = Int32.ofNat (A.length - s + B.length - o) then (rcv 10 (some (Z 0)) w11).bind _ else none) = _
    rw [show s + (B.length - o) - s + (o + (A.length - s)) - o = A.length - s + B.length - o by omega, if_pos rfl, rMv S11 j2, Option.bind_some, e12, Option.bind_some]
    show (if E = E then (rcv 10 (some (Z 0)) w12).bind _ else none) = _
    rw [if_pos rfl, rMv S12 j2, Option.bind_some, e13, Option.bind_some]
    show (ldI (some (nx w1)) 0 w13).bind _ = _
    rw [r0 A13, Option.bind_some]
    show (if Int32.ofNat A.length = Int32.ofNat A.length then (rcv 10 (some (Z 0)) w13).bind _ else none) = _
    rw [if_pos rfl, rMv S13 j2, Option.bind_some, e14, Option.bind_some]
    show (rcv 10 (some (Z 0)) w14).bind _ = _
    rw [rMv S14 j2, Option.bind_some, e15, Option.bind_some]
    exact if_pos rfl
  · -- it doesn't
    have hcf : csV c (rowB c x) s (rowB c y) o = false := by cases hv : csV c (rowB c x) s (rowB c y) o with | false => rfl | true => exact absurd hv hcs
    obtain ⟨x1, x2⟩ := xq_swap S6 j hx hy hik hs ho hcf
    have A7 := A6.sp (spd_bump (Z := Z) (g := g6)) (Or.inl rfl)
    obtain ⟨w8, e8, S8, s8⟩ := q_ofBlock j hx (w := 1) (by decide) (by decide) _ S6.bump
    obtain ⟨w9, e9, S9, s9⟩ := q_many j (w := 7) (by decide) (by decide) w8 S8
    rw [vB1, ← hA] at e8
    rw [← hE] at e9
    have A8 := A7.sp s8 (Or.inl rfl)
    refine ⟨w9, c, ?_, S9, (sl6.tr (((spd_bump.tr s8).tr s9).sl)).up (by omega) (by omega), h⟩
    unfold f_L_isSwapped
    rw [rMv S j, Option.bind_some, e1, Option.bind_some]
    show (nwI 20 (Int32.ofNat 2) w1).bind _ = _
    rw [nwI_eq 20 2 w1 (by decide), Option.bind_some]
    show (rcv 10 (some (Z 0)) (newG w1 20 2 (List.replicate 2 0) [])).bind _ = _
    rw [rMv S2 j, Option.bind_some, e3, Option.bind_some]
    show (stI (some (nx w1)) 0 (Int32.ofNat A.length) w3).bind _ = _
    rw [show stI (some (nx w1)) 0 (Int32.ofNat A.length) w3 = some (setA w3 (nx w1) (List.set (List.replicate 2 0) 0 (Int32.ofNat A.length))) from t3, Option.bind_some, rMv S4 j, Option.bind_some, e5, Option.bind_some]
    show (stI (some (nx w1)) 1 (Int32.ofNat B.length) w5).bind _ = _
    rw [show stI (some (nx w1)) 1 (Int32.ofNat B.length) w5 = some g6 from t5, Option.bind_some, r0 A6, Option.bind_some, hq13, Option.bind_some, rMv S6 j, Option.bind_some, try_x x1 x2, rMv S6.bump j, Option.bind_some, e8, Option.bind_some]
    show (ldI (some (nx w1)) 0 w8).bind _ = _
    rw [r0 A8, Option.bind_some]
    show (if Int32.ofNat A.length = Int32.ofNat A.length then (rcv 10 (some (Z 0)) w8).bind _ else none) = _
    rw [if_pos rfl, rMv S8 j, Option.bind_some, e9, Option.bind_some]
    exact if_pos rfl
theorem arm6 (S : Sim Z g c) (h : LI Z c T xs rs fs) {q q' : Int32} (hq : BQ Z c q) (hq' : BQ Z c q') (x y : Int32) : LwS Z T xs rs fs g (if q < 0 then some g else (if q = q' then some g else
    (rcv 10 (some (Z 0)) g).bind fun b61 => (f_X9_ofBlock b61 q 1 g).bind fun v62 => (f_L_below x (v62.1 + 1) v62.2).bind fun x63 => (rcv 10 (some (Z 0)) v62.2).bind fun b64 => (f_X9_ofBlock b64 q' 1 v62.2).bind fun v65 => (f_L_below y (v65.1 + 1) v65.2).bind fun x66 =>
    (f_L_isSwapped (some (Z 0)) q q' x63 x66 v65.2).bind fun v67 => (if v67.1 = 0 then none else some v67.2))) := by
  have j := h.1
  rcases hq with ⟨rfl, -⟩ | ⟨i, b, rfl, hi⟩
  · rw [if_pos neg1]; exact stp_same S h
  · have hi8 := bi31 j hi
    rw [if_neg (ofn_nn (by omega))]
    rcases hq' with ⟨-, h0⟩ | ⟨k, b', rfl, hk⟩
    · rw [h0] at hi; simp at hi
    · have hk8 := bi31 j hk
      by_cases hik : i = k
      · rw [if_pos (by rw [hik])]; exact stp_same S h
      · rw [if_neg (fun z => hik ((nEq (by omega) (by omega)).mp z))]
        have lx := j.rlen (List.mem_of_getElem? hi)
        have ly := j.rlen (List.mem_of_getElem? hk)
        obtain ⟨w1, e1, S1, s1⟩ := q_ofBlock j hi (w := 1) (by decide) (by decide) g S
        obtain ⟨w2, e2, S2, s2⟩ := q_ofBlock j hk (w := 1) (by decide) (by decide) w1 S1
        rw [vB1] at e1 e2
        obtain ⟨s, p1, p2⟩ := lw_below (n := (rowB c b).length + 1) (by omega) (by omega) x w1
        obtain ⟨o, q1, q2⟩ := lw_below (n := (rowB c b').length + 1) (by omega) (by omega) y w2
        obtain ⟨w3, c', e3, S3, s3, h'⟩ := lw_isSwapped S2 h hi hk hik (show s ≤ _ by omega) (show o ≤ _ by omega)
        rw [rMv S j, Option.bind_some, e1, Option.bind_some]
        show LwS Z T xs rs fs g ((f_L_below x (Int32.ofNat (rowB c b).length + 1) w1).bind fun x63 => (rcv 10 (some (Z 0)) w1).bind _)
        rw [show Int32.ofNat (rowB c b).length + 1 = Int32.ofNat ((rowB c b).length + 1) from nAdd _ 1, p2, Option.bind_some, rMv S1 j, Option.bind_some, e2, Option.bind_some]
        show LwS Z T xs rs fs g ((f_L_below y (Int32.ofNat (rowB c b').length + 1) w2).bind _)
        rw [show Int32.ofNat (rowB c b').length + 1 = Int32.ofNat ((rowB c b').length + 1) from nAdd _ 1, q2, Option.bind_some, e3, Option.bind_some]
        refine ⟨w3, c', if_neg (show ¬ (1 : Int32) = 0 by decide), S3, ?_, h'⟩
        have n12 := s1.2.1
        have n23 := s2.2.1
        exact (((s1.tr s2).sl).tr (s3.lo (by omega))).up (by omega) (by omega)
end Law3
