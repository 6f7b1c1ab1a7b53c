/-! isSound, whole. -/
section Sound7
variable {Z : Nat → Nat} {g c c' : HP} {T : Nat} {xs rs fs : List Int32}
theorem nwA_16 (g : HP) : nwA 23 16 g = some (nx g, newG g 23 16 [] (List.replicate 16 none)) := nwA_eq (t := 23) (n := 16) (g := g) (by decide)
theorem GArr.new (S : Sim Z g c) : GArr Z (newG g 23 16 [] (List.replicate 16 none)) (nx g) [] := by
  refine ⟨⟨by rw [tg_newG, if_pos rfl], by rw [oa_newG, if_pos rfl]; rfl⟩, by decide, Nat.lt_succ_self _, ?_, ?_, ?_⟩
  · exact (S.ne (a := Z 3) (by rw [S.2.2.2.2.2.2.2.2.2.1]; decide)).symm
  · exact (S.ne (a := Z 4) (by rw [S.2.2.2.2.2.2.2.2.2.2.1]; decide)).symm
  · exact (S.ne (a := Z 5) (by rw [S.2.2.2.2.2.2.2.2.2.2.2.1]; decide)).symm
theorem mL_nil (h : (dvs Z c).length = 4) : mL Z c [] = List.replicate 4 0 ∧ pL Z c [] = List.replicate 4 0 := by
  constructor
  · unfold mL
    show (dvs Z c).map (fun _ => (0 : Int32)) = _
    rw [List.map_const', h]
  · unfold pL
    show (dvs Z c).map (fun _ => (0 : Int32)) = _
    rw [List.map_const', h]
theorem lw_isSound (S : Sim Z g c) (h : LI Z c T xs rs fs) {xA rA fA : Nat} (Ax : Arr Z g 20 xA xs) (Ar : Arr Z g 21 rA rs) (Af : Arr Z g 20 fA fs) : ∃ g', f_L_isSound (some (Z 0)) (some xA) (some rA) (Int32.ofNat T) (some fA) 5 g = some (1, g') ∧ Sim Z g' c ∧ SL (nx g) Z 40 200 g g' := by
  have j := h.1
  have hT := h.2.1.1
  have hT16 := j.t.1
  have hd4 := h.2.1.2.1
  -- the trips
  have S1 := S.nwa 20 7 (List.replicate 7 0) []
  have L1 : Arr Z (newG g 20 7 (List.replicate 7 0) []) 20 (nx g) (cauL c ((tls Z c).take 0)) := Arr.nwa S 20 7 _
  have F1 := Af.nwo 20 7 (List.replicate 7 0) []
  have sl1 : SL (nx g) Z 1 7 g (newG g 20 7 (List.replicate 7 0) []) := SL.nwa S 20 7 _ []
  obtain ⟨w2, e2, S2, sl2, F2, L2⟩ := s15_loop h (n0' := nx g) (s2 := some xA) (s3 := some rA) (show fA ≠ nx g by have := Af.2.1; omega) (Nat.le_refl _) FU 0 _ (by show _ < 4096; omega) (Nat.zero_le _) S1 F1 L1
  obtain ⟨w3, e3, S3, s3⟩ := s262_loop h (s2 := some xA) (s3 := some rA) (p3 := Int32.ofNat T) (p6 := sumI (payT c) (tls Z c)) (p8 := Int32.ofNat (wN Z c)) FU 1 w2 (by decide) (by decide) (by decide) S2 L2
  obtain ⟨w4, e4, S4, s4⟩ := q_many j (w := 4) (by decide) (by decide) w3 S3
  rw [vM4] at e4
  have L4 := (L2.sp s3 (Or.inl rfl)).sp s4 (Or.inl rfl)
  have ld0 := L4.ld (Or.inl rfl) (i := 0) (by rw [cauL_len]; decide) (by decide)
  rw [cauL_at c _ (by decide)] at ld0
  obtain ⟨w5, e5, S5, s5⟩ := q_many j (w := 5) (by decide) (by decide) w4 S4
  rw [vM5] at e5
  obtain ⟨w6, e6, S6, s6⟩ := q_many j (w := 3) (by decide) (by decide) w5 S5
  rw [vM3, cnt_w j] at e6
  have sl6 := (sl1.tr sl2).tr ((((s3.tr s4).tr s5).tr s6).sl)
  have Ax6 := Ax.sl sl6 (Or.inl rfl) Ax.2.1
  have Ar6 := Ar.sl sl6 (Or.inr (Or.inl rfl)) Ar.2.1
  have nx6 := sl6.1
  -- the tables
  have S7 := S6.nwa 20 4 (List.replicate 4 0) []
  have M7 := Arr.nwa S6 20 4 (List.replicate 4 0)
  have S8 := S7.nwa 20 4 (List.replicate 4 0) []
  have P8 := Arr.nwa S7 20 4 (List.replicate 4 0)
  have M8 := M7.nwo 20 4 (List.replicate 4 0) []
  have S9 := S8.nwa 23 16 [] (List.replicate 16 none)
  have G9 := GArr.new S8
  have P9 := P8.nwo 23 16 [] (List.replicate 16 none)
  have M9 := M8.nwo 23 16 [] (List.replicate 16 none)
  have Ax9 := ((Ax6.nwo 20 4 (List.replicate 4 0) []).nwo 20 4 (List.replicate 4 0) []).nwo 23 16 [] (List.replicate 16 none)
  have Ar9 := ((Ar6.nwo 20 4 (List.replicate 4 0) []).nwo 20 4 (List.replicate 4 0) []).nwo 23 16 [] (List.replicate 16 none)
  have sl9 := ((sl6.tr (SL.nwa (n := nx g) S6 20 4 (List.replicate 4 0) [])).tr (SL.nwa (n := nx g) S7 20 4 (List.replicate 4 0) [])).tr (SL.nwa (n := nx g) S8 23 16 [] (List.replicate 16 none))
  generalize hw7 : newG w6 20 4 (List.replicate 4 0) [] = w7 at *
  have nx7 : nx w7 = nx w6 + 1 := by rw [← hw7]; rfl
  generalize hw8 : newG w7 20 4 (List.replicate 4 0) [] = w8 at *
  have nx8 : nx w8 = nx w7 + 1 := by rw [← hw8]; rfl
  generalize hw9 : newG w8 23 16 [] (List.replicate 16 none) = w9 at *
  obtain ⟨z1, z2⟩ := mL_nil (Z := Z) (c := c) hd4
  have P0 : PSt Z w9 c (nx w6) (nx w7) (nx w8) rA rs (([] : List Nat).flatMap (pcs c)) [] := by
    refine ⟨S9, Ar9, ?_, ?_, G9, rfl, fun k p hk => by cases hk⟩
    · show Arr Z w9 20 (nx w6) (mL Z c []); rw [z1]; exact M9
    · show Arr Z w9 20 (nx w7) (pL Z c []); rw [z2]; exact P9
  obtain ⟨w10, R10, e10, P10, sl10⟩ := s354_loop h (n0' := nx g) (show nx w6 ≠ nx w7 by omega) (by omega) (by omega) (by omega) Ar.2.1 Ax.2.1 (p3 := Int32.ofNat T) (p8 := Int32.ofNat (wN Z c)) (bks Z c) [] [] FU w9 rfl (by have := j.b.1; show _ < 4096; omega) P0 Ax9
  obtain ⟨hnP, hiP⟩ := j_allP j j.bN (fun b hb => hb)
  have p16 := pieces_16 j hnP hiP
  obtain ⟨S10, _, Qm, Qp, _⟩ := P10
  obtain ⟨w11, e11, S11, s11⟩ := s873_loop h (p3 := Int32.ofNat T) (p8 := Int32.ofNat (wN Z c)) (p9 := Int32.ofNat (nonE c (bks Z c))) (p10 := Int32.ofNat ((bks Z c).flatMap (rowB c)).length) FU 0 w10 (by decide) (by decide) S10 Qm Qp
  obtain ⟨w12, e12, S12, s12⟩ := q_many j (w := 6) (by decide) (by decide) w11 S11
  rw [vM6] at e12
  have rc := rows_cnt j
  obtain ⟨p, lp, ask, hp⟩ := q_least j
  obtain ⟨w13, e13, S13, s13⟩ := ask w12 S12
  have slE : SL (nx g) Z 40 200 g w12 := ((sl9.tr sl10).tr (s11.tr s12).sl).up (by omega) (by omega)
  have main : f_L_isSound (some (Z 0)) (some xA) (some rA) (Int32.ofNat T) (some fA) 5 g = (if 0 < Int32.ofNat (wN Z c) then some (1, w12) else (rcv 10 (some (Z 0)) w12).bind fun b151 => (f_X9_leastBlocks b151 w12).bind fun v152 => (if Int32.ofNat (nonE c (bks Z c)) < v152.1 then none else some (1, v152.2))) := by
    unfold f_L_isSound
    show ((nwI 20 (Int32.ofNat 7) g).bind _) = _
    rw [nwI_eq 20 7 g (by decide), Option.bind_some]
    show ((f_L_isSound_L15 (some (Z 0)) (some xA) (some rA) (Int32.ofNat T) (some fA) 5 (nx g) FU (sumI (payT c) ((tls Z c).take 0)) (Int32.ofNat (((tls Z c).take 0).filter fun t => decide (fr c 135 t = none)).length) (Int32.ofNat 0) (newG g 20 7 (List.replicate 7 0) [])).bind _) = _
    rw [e2, Option.bind_some]
    show ((f_L_isSound_L262 (some (Z 0)) (some xA) (some rA) (Int32.ofNat T) (sumI (payT c) (tls Z c)) (nx g) (Int32.ofNat (wN Z c)) FU (Int32.ofNat 1) w2).bind _) = _
    rw [e3, Option.bind_some, rMv S3 j, Option.bind_some, e4, Option.bind_some]
    show ((ldI (some (nx g)) (Int32.ofNat 0) w4).bind _) = _
    rw [ld0, Option.bind_some]
    show (if Int32.ofNat (cntC Z c 0) = Int32.ofNat (cntC Z c 0) then (rcv 10 (some (Z 0)) w4).bind _ else none) = _
    rw [if_pos rfl, rMv S4 j, Option.bind_some, e5, Option.bind_some]
    show (if sumI (payT c) (tls Z c) = sumI (payT c) (tls Z c) then (rcv 10 (some (Z 0)) w5).bind _ else none) = _
    rw [if_pos rfl, rMv S5 j, Option.bind_some, e6, Option.bind_some]
    show (if Int32.ofNat (wN Z c) = Int32.ofNat (wN Z c) then (nwI 20 (Int32.ofNat 4) w6).bind _ else none) = _
    rw [if_pos rfl, nwI_eq 20 4 w6 (by decide), Option.bind_some, hw7]
    show ((nwI 20 (Int32.ofNat 4) w7).bind _) = _
    rw [nwI_eq 20 4 w7 (by decide), Option.bind_some, hw8]
    show ((nwA 23 16 w8).bind _) = _
    rw [nwA_16, Option.bind_some, hw9]
    show ((f_L_isSound_L354 (Z 0) (some xA) (some rA) (Int32.ofNat T) (Int32.ofNat (wN Z c)) (nx w6) (nx w7) (nx w8) FU (Int32.ofNat (nonE c [])) (Int32.ofNat (([] : List Nat).flatMap (rowB c)).length) (Int32.ofNat (gvn c (([] : List Nat).flatMap (pcs c))).length) (Int32.ofNat ([] : List Nat).length) w9).bind _) = _
    rw [e10, Option.bind_some]
    show ((f_L_isSound_L873 (Z 0) (Int32.ofNat T) (Int32.ofNat (wN Z c)) (Int32.ofNat (nonE c (bks Z c))) (Int32.ofNat ((bks Z c).flatMap (rowB c)).length) (nx w6) (nx w7) FU (sumI (payD c) ((dvs Z c).take 0)) (Int32.ofNat 0) w10).bind _) = _
    rw [e11, Option.bind_some]
    show (if Int32.ofNat ((bks Z c).flatMap (rowB c)).length + Int32.ofNat (wN Z c) = Int32.ofNat T then (rcv 10 (some (Z 0)) w11).bind _ else none) = _
    rw [if_pos (by rw [nAdd, rc, hT]), rMv S11 j, Option.bind_some, e12, Option.bind_some]
    show (if sumI (payD c) (dvs Z c) = sumI (payD c) (dvs Z c) then _ else none) = _
    rw [if_pos rfl]
  rw [main]
  by_cases hw : wN Z c = 0
  · have hl := least_ok j hw hp
    refine ⟨w13, ?_, S13, (slE.tr s13.sl).up (by omega) (by omega)⟩
    rw [hw, if_neg (by decide), rMv S12 j, Option.bind_some, e13, Option.bind_some]
    have : (nonE c (bks Z c)) ≤ 8 := Nat.le_trans (List.length_filter_le _ _) j.b.1
    exact if_neg (fun z => by have := (nLt (by omega) (by omega)).mp z; omega)
  · refine ⟨w12, ?_, S12, slE⟩
    exact if_pos (show (0 : Int32) < Int32.ofNat (wN Z c) from (nLt (a := 0) (b := wN Z c) (by decide) (by omega)).mpr (by omega))
end Sound7
