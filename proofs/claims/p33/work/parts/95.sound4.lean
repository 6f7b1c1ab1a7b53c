/-! isSound: the pieces of a block. -/
def PSt (Z : Nat → Nat) (w c : HP) (mA pA gA rA : Nat) (rs : List Int32) (Q R : List Nat) : Prop := Sim Z w c ∧ Arr Z w 21 rA rs ∧ Arr Z w 20 mA (mL Z c Q) ∧ Arr Z w 20 pA (pL Z c Q) ∧ GArr Z w gA R ∧ RWs Z w c mA pA (gvn c Q) R
section Sound4
variable {Z : Nat → Nat} {g g' c c' : HP} {T : Nat} {xs rs fs : List Int32} {mA pA gA rA n0' : Nat}
theorem PSt.sp {w w' : HP} {Q R : List Nat} {k m : Nat} (P : PSt Z w c mA pA gA rA rs Q R) (S : Sim Z w' c) (h : Spd Z k m w w') : PSt Z w' c mA pA gA rA rs Q R := by
  obtain ⟨p1, p2, p3, p4, p5, p6⟩ := P
  exact ⟨S, p2.sp h (Or.inr (Or.inl rfl)), p3.sp h (Or.inl rfl), p4.sp h (Or.inl rfl), p5.sp h, p6.sp h⟩
theorem dn_some (j : J Z c) {p n d : Nat} (hd : (dvs Z c)[n]? = some d) (h : fr c 85 p = some d) : dnP c p = Int32.ofNat n := by unfold dnP; rw [h]; exact (j.d.2 n d hd).1.1
theorem j_place2 (j : J Z c) (hx : LX Z c xs rs) {t : Nat} (ht : t ∈ tls Z c) : ∃ ip, ip < 8 ∧ fi c 96 (tA c t) = Int32.ofNat ip ∧ rs.getD ip 0 = fi c 99 (tA c t) := by
  obtain ⟨p1, p2, ip, p3, p4, p5⟩ := j_place j (j_tpl j ht).2.1
  exact ⟨ip, p3, p5, (hx.2 ip _ p4).2.symm⟩
theorem s534_step (h : LI Z c T xs rs fs) (hmp : mA ≠ pA) (n1 : n0' ≤ mA) (n2 : n0' ≤ pA) (n3 : n0' ≤ gA) (n4 : rA < n0') {i b : Nat} (hi : (bks Z c)[i]? = some b) {Q R : List Nat} {w : HP} (P : PSt Z w c mA pA gA rA rs Q R) {u p a n : Nat} (hp : (pcs c b)[u]? = some p)
    (c1 : 0 < n) (c2 : fi c 84 p = Int32.ofNat n) (c3 : (rowB c b)[a]? = some (pfA c p)) (c4 : (rowB c b)[a + n - 1]? = some (pzA c p)) (c5 : a + n < (rowB c b).length → fi c 99 (tA c (pzA c p)) ≠ 0) (c6 : tend c (pzA c p) - tst c (pfA c p) ≤ 600)
    (hQn : (Q ++ [p]).Nodup) (hQi : ∀ q ∈ Q ++ [p], InP Z c q) {s1 : Option Nat} {p3 p8 p9 p10 : Int32} (m : Nat) :
    ∃ w' R', f_L_isSound_L534 (Z 0) s1 (some rA) p3 p8 p9 p10 mA pA gA (Int32.ofNat i) (Int32.ofNat (rowB c b).length) (m + 1) (Int32.ofNat (gvn c Q).length) (Int32.ofNat a) (Int32.ofNat u) w =
      f_L_isSound_L534 (Z 0) s1 (some rA) p3 p8 p9 p10 mA pA gA (Int32.ofNat i) (Int32.ofNat (rowB c b).length) m (Int32.ofNat (gvn c (Q ++ [p])).length) (Int32.ofNat (a + n)) (Int32.ofNat (u + 1)) w' ∧ PSt Z w' c mA pA gA rA rs (Q ++ [p]) R' ∧ SL n0' Z 1 3 w w' := by
  have j := h.1
  have hb := List.mem_of_getElem? hi
  have hpm := List.mem_of_getElem? hp
  have hi8 := bi31 j hi
  have l16 := j.rlen hb
  have l40 : (pcs c b).length ≤ 40 := (j.bz hb).2.2.2.1.2.2.2
  have hu := (List.getElem?_eq_some_iff.mp hp).1
  have ha := (List.getElem?_eq_some_iff.mp c3).1
  have han := (List.getElem?_eq_some_iff.mp c4).1
  obtain ⟨itf, hitf⟩ := mem_at (j.rT hb (List.mem_of_getElem? c3)).1
  obtain ⟨itl, hitl⟩ := mem_at (j.rT hb (List.mem_of_getElem? c4)).1
  have ef := t128 j hitf
  have el := t128 j hitl
  obtain ⟨S, Pr, Pm, Pp, Pg, Pw⟩ := id P
  obtain ⟨w1, e1, S1, s1'⟩ := q_ofBlock j hi (w := 3) (by decide) (by decide) w S
  obtain ⟨w2, e2, S2, s2'⟩ := q_ofPiece j hi hp (w := 0) (by decide) (by decide) w1 S1
  obtain ⟨w3, e3, S3, s3'⟩ := q_ofPiece j hi hp (w := 2) (by decide) (by decide) w2 S2
  obtain ⟨w4, e4, S4, s4'⟩ := q_ofPiece j hi hp (w := 1) (by decide) (by decide) w3 S3
  rw [vB3] at e1
  rw [vP0, ef] at e2
  rw [vP2, c2] at e3
  rw [vP1, el] at e4
  have t4 := ((s1'.tr s2').tr s3').tr s4'
  have P4 := P.sp S4 t4
  -- it ends where it may
  obtain ⟨w5, e5, S5, s5'⟩ : ∃ w5, (if Int32.ofNat (rowB c b).length ≤ Int32.ofNat a + Int32.ofNat n then some w4 else (rcv 10 (some (Z 0)) w4).bind fun b86 => (f_X9_ofTrip b86 (Int32.ofNat itl) 2 w4).bind fun v87 => (ldZ (some rA) v87.1 v87.2).bind fun x88 => (if x88 = 0 then none else some v87.2)) = some w5 ∧ Sim Z w5 c ∧ Spd Z 0 0 w4 w5 := by
    by_cases hc : (rowB c b).length ≤ a + n
    · exact ⟨w4, if_pos (by rw [nAdd]; exact (nLe (by omega) (by omega)).mpr hc), S4, Spd.rf⟩
    · obtain ⟨w5, e5, S5, s5'⟩ := q_ofTrip j hitl (w := 2) (by decide) (by decide) w4 S4
      obtain ⟨ip, r1, r2, r3⟩ := j_place2 j h.2.2.1 (List.mem_of_getElem? hitl)
      rw [vT2, r2] at e5
      have ldz := (P4.2.1.sp s5' (Or.inr (Or.inl rfl))).ldz (i := ip) (by rw [h.2.2.1.1.2]; exact r1) (by omega)
      rw [r3] at ldz
      refine ⟨w5, ?_, S5, s5'⟩
      rw [if_neg (by rw [nAdd]; exact fun z => hc ((nLe (by omega) (by omega)).mp z)), rMv S4 j, Option.bind_some, e5, Option.bind_some]
      show ((ldZ (some rA) (Int32.ofNat ip) w5).bind _) = _
      rw [ldz, Option.bind_some]
      exact if_neg (c5 (by omega))
  obtain ⟨w6, e6, S6, s6'⟩ := q_ofPiece j hi hp (w := 3) (by decide) (by decide) w5 S5
  obtain ⟨w7, e7, S7, s7'⟩ := q_ofTrip j hitl (w := 4) (by decide) (by decide) w6 S6
  obtain ⟨w8, e8, S8, s8'⟩ := q_ofPiece j hi hp (w := 0) (by decide) (by decide) w7 S7
  obtain ⟨w9, e9, S9, s9'⟩ := q_ofTrip j hitf (w := 3) (by decide) (by decide) w8 S8
  obtain ⟨w10, e10, S10, s10'⟩ := q_ofPiece j hi hp (w := 3) (by decide) (by decide) w9 S9
  obtain ⟨w11, e11, S11, s11'⟩ := q_ofPiece j hi hp (w := 4) (by decide) (by decide) w10 S10
  rw [vP3] at e6 e10
  rw [vT4] at e7
  rw [vP0, ef] at e8
  rw [vT3] at e9
  rw [vP4] at e11
  have t11 := (t4.tr s5').tr (((((s6'.tr s7').tr s8').tr s9').tr s10').tr s11')
  have P11 := P.sp S11 t11
  have sl11 : SL n0' Z 0 0 w w11 := (t11.sl).up (by omega) (by omega)
  have ean : Int32.ofNat a + Int32.ofNat n = Int32.ofNat (a + n) := nAdd a n
  have eu : Int32.ofNat u + 1 = Int32.ofNat (u + 1) := nAdd u 1
  -- the walk as far as whether it is given
  obtain ⟨K, hK⟩ : ∃ K : Option (Int32 × Int32 × HP), K = (if 0 ≤ dnP c p then
      (nwI 20 3 w11).bind fun a102 => (stI (some a102.1) 0 (dnP c p) a102.2).bind fun g103 => (rcv 10 (some (Z 0)) g103).bind fun b104 => (f_X9_ofPiece b104 (Int32.ofNat i) (Int32.ofNat u) 0 g103).bind fun v105 => (rcv 10 (some (Z 0)) v105.2).bind fun b106 => (f_X9_ofTrip b106 v105.1 3 v105.2).bind fun v107 =>
      (stI (some a102.1) 1 v107.1 v107.2).bind fun g108 => (rcv 10 (some (Z 0)) g108).bind fun b109 => (f_X9_ofTrip b109 (Int32.ofNat itl) 4 g108).bind fun v110 => (stI (some a102.1) 2 v110.1 v110.2).bind fun g111 => (stB (some gA) (Int32.ofNat (gvn c Q).length) (some a102.1) g111).bind fun g112 =>
      (f_L_isSound_L740 (Z 0) s1 (some rA) p3 p8 p9 p10 mA pA gA (Int32.ofNat (gvn c Q).length) (Int32.ofNat i) (Int32.ofNat (rowB c b).length) (Int32.ofNat a + Int32.ofNat n) (Int32.ofNat u) (dnP c p) g112 FU 0).bind fun q123 => (ldI (some mA) (dnP c p) g112).bind fun x124 => (rcv 10 (some (Z 0)) g112).bind fun b125 => (f_X9_ofPiece b125 (Int32.ofNat i) (Int32.ofNat u) 3 g112).bind fun v126 =>
      (stI (some mA) (dnP c p) (x124 + v126.1) v126.2).bind fun g127 => (ldI (some pA) (dnP c p) g127).bind fun x128 => (stI (some pA) (dnP c p) (x128 + 1) g127).bind fun g129 =>
      f_L_isSound_L534 (Z 0) s1 (some rA) p3 p8 p9 p10 mA pA gA (Int32.ofNat i) (Int32.ofNat (rowB c b).length) m (Int32.ofNat (gvn c Q).length + 1) (Int32.ofNat a + Int32.ofNat n) (Int32.ofNat u + 1) g129
      else f_L_isSound_L534 (Z 0) s1 (some rA) p3 p8 p9 p10 mA pA gA (Int32.ofNat i) (Int32.ofNat (rowB c b).length) m (Int32.ofNat (gvn c Q).length) (Int32.ofNat a + Int32.ofNat n) (Int32.ofNat u + 1) w11) := ⟨_, rfl⟩
  have hd : f_L_isSound_L534 (Z 0) s1 (some rA) p3 p8 p9 p10 mA pA gA (Int32.ofNat i) (Int32.ofNat (rowB c b).length) (m + 1) (Int32.ofNat (gvn c Q).length) (Int32.ofNat a) (Int32.ofNat u) w = K := by
    rw [f_L_isSound_L534, rMv S j, Option.bind_some, e1, Option.bind_some]
    show (if Int32.ofNat (pcs c b).length ≤ Int32.ofNat u then _ else (rcv 10 (some (Z 0)) w1).bind _) = _
    rw [if_neg (fun z => by have := (nLe (by omega) (by omega)).mp z; omega), rMv S1 j, Option.bind_some, e2, Option.bind_some]
    show ((rcv 10 (some (Z 0)) w2).bind _) = _
    rw [rMv S2 j, Option.bind_some, q_at S2 j hi (by omega), Option.bind_some, vAt_at c3, ef]
    show (if Int32.ofNat itf = Int32.ofNat itf then ((some (Z 0)).bind _) else none) = _
    rw [if_pos rfl, Option.bind_some, e3, Option.bind_some]
    show ((rcv 10 (some (Z 0)) w3).bind _) = _
    rw [rMv S3 j, Option.bind_some, e4, Option.bind_some]
    show ((rcv 10 (some (Z 0)) w4).bind fun b84 => (f_X9_at b84 (Int32.ofNat i) ((Int32.ofNat a + Int32.ofNat n) - 1) w4).bind _) = _
    rw [rMv S4 j, Option.bind_some, ean, show Int32.ofNat (a + n) - 1 = Int32.ofNat (a + n - 1) from nSub (b := 1) (by omega), q_at S4 j hi (by omega), Option.bind_some, vAt_at c4, el]
    rw [ean, rMv S4 j] at e5
    show (if Int32.ofNat itl = Int32.ofNat itl then (Option.bind (if Int32.ofNat (rowB c b).length ≤ Int32.ofNat (a + n) then some w4 else (some (Z 0)).bind fun b86 => (f_X9_ofTrip b86 (Int32.ofNat itl) 2 w4).bind fun v87 => (ldZ (some rA) v87.1 v87.2).bind fun x88 => (if x88 = 0 then none else some v87.2)) _) else none) = _
    rw [if_pos rfl, e5, Option.bind_some, rMv S5 j, Option.bind_some, e6, Option.bind_some]
    show ((rcv 10 (some (Z 0)) w6).bind fun b92 => (f_X9_ofTrip b92 (Int32.ofNat itl) 4 w6).bind _) = _
    rw [rMv S6 j, Option.bind_some, e7, Option.bind_some]
    show ((rcv 10 (some (Z 0)) w7).bind _) = _
    rw [rMv S7 j, Option.bind_some, e8, Option.bind_some]
    show ((rcv 10 (some (Z 0)) w8).bind fun b96 => (f_X9_ofTrip b96 (Int32.ofNat itf) 3 w8).bind _) = _
    rw [rMv S8 j, Option.bind_some, e9, Option.bind_some]
    show (if minP c p = tend c (pzA c p) - tst c (pfA c p) then (rcv 10 (some (Z 0)) w9).bind _ else none) = _
    rw [if_pos (show minP c p = tend c (pzA c p) - tst c (pfA c p) from rfl), rMv S9 j, Option.bind_some, e10, Option.bind_some]
    show (if minP c p ≤ 600 then (rcv 10 (some (Z 0)) w10).bind _ else none) = _
    rw [if_pos (show minP c p ≤ 600 from c6), rMv S10 j, Option.bind_some, e11, Option.bind_some, hK, ean]
  rw [hd, hK]
  cases h85 : fr c 85 p with
  | none =>
    obtain ⟨m1, m2, m3⟩ := mL_none (Z := Z) (c := c) Q h85
    rw [dn_none h85, if_neg (by decide), ean, eu]
    refine ⟨w11, R, by rw [m3], ?_, sl11.up (by omega) (by omega)⟩
    unfold PSt
    rw [m1, m2, m3]
    exact P11
  | some d =>
    have t6 := (j.pk hb hpm).1
    obtain ⟨hdm, hpd⟩ := j.q p d t6 h85
    obtain ⟨n', hn'⟩ := mem_at hdm
    have hn4 : n' < 4 := by have := (List.getElem?_eq_some_iff.mp hn').1; have := h.2.1.2.1; omega
    have ldv : (dvs Z c).length = 4 := h.2.1.2.1
    have edn := dn_some j hn' h85
    have eg := gvn_snoc (c := c) Q h85
    have g16 : (gvn c Q).length < 16 := by
      have := pieces_16 j (L := gvn c (Q ++ [p])) ((List.filter_sublist).nodup hQn) (fun q hq => hQi q (List.mem_filter.mp hq).1)
      rw [eg, List.length_append, List.length_singleton] at this
      omega
    obtain ⟨_, Qr, Qm, Qp, Qg, Qw⟩ := P11
    have hRl : R.length = (gvn c Q).length := Qw.1
    -- the new row
    have S12 := S11.nwa 20 3 (List.replicate 3 0) []
    have A12 : Arr Z (newG w11 20 3 (List.replicate 3 0) []) 20 (nx w11) (List.replicate 3 0) := Arr.nwa S11 20 3 _
    have r12 := A12.st (i := 0) (by decide) (by decide) (Int32.ofNat n')
    have A13 := A12.set (List.set (List.replicate 3 0) 0 (Int32.ofNat n'))
    have S13 := S12.st A12.2.2.1 A12.2.2.2.1 A12.2.2.2.2 (List.set (List.replicate 3 0) 0 (Int32.ofNat n'))
    have gm : mA ≠ nx w11 := by have := Qm.2.1; omega
    have gp : pA ≠ nx w11 := by have := Qp.2.1; omega
    have gr : rA ≠ nx w11 := by have := Qr.2.1; omega
    have rlt := Qw.lt
    have nwn : n0' ≤ nx w11 := by have := Qm.2.1; omega
    obtain ⟨w14, e14, S14, s14⟩ := q_ofPiece j hi hp (w := 0) (by decide) (by decide) _ S13
    rw [vP0, ef] at e14
    obtain ⟨w15, e15, S15, s15⟩ := q_ofTrip j hitf (w := 3) (by decide) (by decide) w14 S14
    rw [vT3] at e15
    have A15 := (A13.sp s14 (Or.inl rfl)).sp s15 (Or.inl rfl)
    have r15 := A15.st (i := 1) (show (1 : Nat) < 3 by decide) (by decide) (tst c (pfA c p))
    have A16 := A15.set (List.set (List.set (List.replicate 3 0) 0 (Int32.ofNat n')) 1 (tst c (pfA c p)))
    have S16 := S15.st A15.2.2.1 A15.2.2.2.1 A15.2.2.2.2 (List.set (List.set (List.replicate 3 0) 0 (Int32.ofNat n')) 1 (tst c (pfA c p)))
    obtain ⟨w17, e17, S17, s17⟩ := q_ofTrip j hitl (w := 4) (by decide) (by decide) _ S16
    rw [vT4] at e17
    have A17 := A16.sp s17 (Or.inl rfl)
    have r17 := A17.st (i := 2) (show (2 : Nat) < 3 by decide) (by decide) (tend c (pzA c p))
    have A18 := A17.set (List.set (List.set (List.set (List.replicate 3 0) 0 (Int32.ofNat n')) 1 (tst c (pfA c p))) 2 (tend c (pzA c p)))
    have S18 := S17.st A17.2.2.1 A17.2.2.2.1 A17.2.2.2.2 (List.set (List.set (List.set (List.replicate 3 0) 0 (Int32.ofNat n')) 1 (tst c (pfA c p))) 2 (tend c (pzA c p)))
    have er : List.set (List.set (List.set (List.replicate 3 0) 0 (Int32.ofNat n')) 1 (tst c (pfA c p))) 2 (tend c (pzA c p)) = [dnP c p, tst c (pfA c p), tend c (pzA c p)] := by rw [edn]; rfl
    rw [er] at A18 S18 r17
    -- what lay there before
    have M13 := (Qm.nwo 20 3 (List.replicate 3 0) []).set' gm (List.set (List.replicate 3 0) 0 (Int32.ofNat n'))
    have M16 := ((M13.sp s14 (Or.inl rfl)).sp s15 (Or.inl rfl)).set' gm (List.set (List.set (List.replicate 3 0) 0 (Int32.ofNat n')) 1 (tst c (pfA c p)))
    have M18 := (M16.sp s17 (Or.inl rfl)).set' gm [dnP c p, tst c (pfA c p), tend c (pzA c p)]
    have N13 := (Qp.nwo 20 3 (List.replicate 3 0) []).set' gp (List.set (List.replicate 3 0) 0 (Int32.ofNat n'))
    have N16 := ((N13.sp s14 (Or.inl rfl)).sp s15 (Or.inl rfl)).set' gp (List.set (List.set (List.replicate 3 0) 0 (Int32.ofNat n')) 1 (tst c (pfA c p)))
    have N18 := (N16.sp s17 (Or.inl rfl)).set' gp [dnP c p, tst c (pfA c p), tend c (pzA c p)]
    have B13 := (Qr.nwo 20 3 (List.replicate 3 0) []).set' gr (List.set (List.replicate 3 0) 0 (Int32.ofNat n'))
    have B16 := ((B13.sp s14 (Or.inr (Or.inl rfl))).sp s15 (Or.inr (Or.inl rfl))).set' gr (List.set (List.set (List.replicate 3 0) 0 (Int32.ofNat n')) 1 (tst c (pfA c p)))
    have B18 := (B16.sp s17 (Or.inr (Or.inl rfl))).set' gr [dnP c p, tst c (pfA c p), tend c (pzA c p)]
    have G13 := (Qg.nwo 20 3 (List.replicate 3 0) []).setA (nx w11) (List.set (List.replicate 3 0) 0 (Int32.ofNat n'))
    have G16 := ((G13.sp s14).sp s15).setA (nx w11) (List.set (List.set (List.replicate 3 0) 0 (Int32.ofNat n')) 1 (tst c (pfA c p)))
    have G18 := (G16.sp s17).setA (nx w11) [dnP c p, tst c (pfA c p), tend c (pzA c p)]
    have rne : ∀ r ∈ R, r ≠ nx w11 := fun r hr => by have := (rlt r hr).1; omega
    have W13 := (Qw.nwo 20 3 (List.replicate 3 0) []).setA rne (List.set (List.replicate 3 0) 0 (Int32.ofNat n'))
    have W16 := ((W13.sp s14).sp s15).setA rne (List.set (List.set (List.replicate 3 0) 0 (Int32.ofNat n')) 1 (tst c (pfA c p)))
    have W18 := (W16.sp s17).setA rne [dnP c p, tst c (pfA c p), tend c (pzA c p)]
    have sl18 : SL n0' Z 1 3 w (setA w17 (nx w11) [dnP c p, tst c (pfA c p), tend c (pzA c p)]) :=
      (sl11.tr (((SL.nwa S11 20 3 (List.replicate 3 0) []).tr (SL.st nwn _)).tr ((((s14.tr s15).sl).tr (SL.st nwn _)).tr ((s17.sl).tr (SL.st nwn _))))).up (by omega) (by omega)
    generalize hg18 : setA w17 (nx w11) [dnP c p, tst c (pfA c p), tend c (pzA c p)] = w18 at *
    have st18 := G18.st (by rw [hRl]; exact g16) (r := nx w11) A18.1.1
    rw [hRl] at st18
    have G19 := G18.set (R' := R ++ [nx w11]) (by rw [List.length_append, List.length_singleton, hRl]; omega)
    have S19 := S18.stO G18.1.1 ((R ++ [nx w11]).map some ++ List.replicate (16 - (R ++ [nx w11]).length) none)
    have sl19 := sl18.tr (SL.stO (Z := Z) (g := w18) n3 ((R ++ [nx w11]).map some ++ List.replicate (16 - (R ++ [nx w11]).length) none))
    have W19 : RWs Z (setO w18 gA ((R ++ [nx w11]).map some ++ List.replicate (16 - (R ++ [nx w11]).length) none)) c mA pA (gvn c Q ++ [p]) (R ++ [nx w11]) := by
      refine ⟨by rw [List.length_append, List.length_append, hRl]; rfl, fun k q hk => ?_⟩
      by_cases hkl : k < (gvn c Q).length
      · rw [List.getElem?_append_left hkl] at hk
        obtain ⟨r, r1, r2, r3⟩ := W18.2 k q hk
        exact ⟨r, by rw [List.getElem?_append_left (by omega)]; exact r1, r2, r3⟩
      · have hlt := (List.getElem?_eq_some_iff.mp hk).1
        rw [List.length_append, List.length_singleton] at hlt
        have ek : k = (gvn c Q).length := by omega
        rw [List.getElem?_append_right (by omega), ek, Nat.sub_self] at hk
        have eq : p = q := Option.some.inj hk
        refine ⟨nx w11, by rw [ek, List.getElem?_append_right (by omega), hRl, Nat.sub_self]; rfl, ?_, gm.symm, gp.symm⟩
        rw [← eq]; exact A18
    generalize hg19 : setO w18 gA ((R ++ [nx w11]).map some ++ List.replicate (16 - (R ++ [nx w11]).length) none) = w19 at st18 G19 S19 sl19 W19
    have M19 : Arr Z w19 20 mA (mL Z c Q) := by rw [← hg19]; exact M18
    have N19 : Arr Z w19 20 pA (pL Z c Q) := by rw [← hg19]; exact N18
    have B19 : Arr Z w19 21 rA rs := by rw [← hg19]; exact B18
    -- not too near
    have hnear : ∀ q ∈ gvn c Q, dnP c q = dnP c p → ¬ nearP c p q := fun q hq he => by
      obtain ⟨hqQ, hqn⟩ := List.mem_filter.mp hq
      rw [decide_eq_true_iff] at hqn
      cases hq85 : fr c 85 q with
      | none => exact absurd hq85 hqn
      | some d' =>
        obtain ⟨b', hb', hqb'⟩ := hQi q (List.mem_append_left _ hqQ)
        obtain ⟨hdm', hqd⟩ := j.q q d' (j.pk hb' hqb').1 hq85
        obtain ⟨n'', hn''⟩ := mem_at hdm'
        have h6 := j.d.1
        have a1 := (List.getElem?_eq_some_iff.mp hn'').1
        have en := dn_some j hn'' hq85
        rw [en, edn] at he
        have en' := (nEq (by omega) (by omega)).mp he
        rw [en', hn'] at hn''
        have edd : d = d' := Option.some.inj hn''
        rw [← edd] at hqd
        have hne : p ≠ q := fun z => by
          have := (List.nodup_append.mp hQn).2.2 q hqQ p (List.mem_singleton.mpr rfl)
          exact this z.symm
        obtain ⟨_, _, _, _, _, _, hnr, _⟩ := j.dok hdm
        exact hnr p hpd q hqd hne
    have r740 := s740_loop (Z := Z) (g := w19) (c := c) (R := R) (G := gvn c Q) (mA := mA) (pA := pA) (p := p) (gA := gA) (r' := nx w11) (s1 := s1) (s2 := some rA) (p0 := Z 0) (p11 := mA) (p12 := pA) (p3 := p3) (p8 := p8) (p9 := p9) (p10 := p10) (p15 := Int32.ofNat i) (p16 := Int32.ofNat (rowB c b).length) (p17 := Int32.ofNat a + Int32.ofNat n) (p18 := Int32.ofNat u) G19 W19 (by omega) hnear FU 0 (by show _ < 4096; omega) (Nat.zero_le _)
    rw [edn] at r740
    have lm := M19.ld (Or.inl rfl) (i := n') (by unfold mL; rw [List.length_map, ldv]; exact hn4) (by omega)
    obtain ⟨w20, e20, S20, s20⟩ := q_ofPiece j hi hp (w := 3) (by decide) (by decide) w19 S19
    rw [vP3] at e20
    have M20 := M19.sp s20 (Or.inl rfl)
    have N20 := N19.sp s20 (Or.inl rfl)
    have B20 := B19.sp s20 (Or.inr (Or.inl rfl))
    have G20 := G19.sp s20
    have W20 := W19.sp s20
    have sm := M20.st (i := n') (by unfold mL; rw [List.length_map, ldv]; exact hn4) (by omega) ((mL Z c Q).getD n' 0 + minP c p)
    rw [← mL_snoc j Q hn' h85] at sm
    have M21 := M20.set (mL Z c (Q ++ [p]))
    have N21 := N20.set' hmp.symm (mL Z c (Q ++ [p]))
    have B21 := B20.set' (show rA ≠ mA by omega) (mL Z c (Q ++ [p]))
    have G21 := G20.setA mA (mL Z c (Q ++ [p]))
    have W21 := W20.setA (fun r hr => (W20.lt r hr).2.1) (mL Z c (Q ++ [p]))
    have S21 := S20.st M20.2.2.1 M20.2.2.2.1 M20.2.2.2.2 (mL Z c (Q ++ [p]))
    have lp := N21.ld (Or.inl rfl) (i := n') (by unfold pL; rw [List.length_map, ldv]; exact hn4) (by omega)
    have sp' := N21.st (i := n') (by unfold pL; rw [List.length_map, ldv]; exact hn4) (by omega) ((pL Z c Q).getD n' 0 + 1)
    rw [← pL_snoc j Q hn' h85] at sp'
    have M22 := M21.set' hmp (pL Z c (Q ++ [p]))
    have N22 := N21.set (pL Z c (Q ++ [p]))
    have B22 := B21.set' (show rA ≠ pA by omega) (pL Z c (Q ++ [p]))
    have G22 := G21.setA pA (pL Z c (Q ++ [p]))
    have W22 := W21.setA (fun r hr => (W21.lt r hr).2.2) (pL Z c (Q ++ [p]))
    have S22 := S21.st N21.2.2.1 N21.2.2.2.1 N21.2.2.2.2 (pL Z c (Q ++ [p]))
    have sl22 := sl19.tr (((s20.sl).tr (SL.st n1 (mL Z c (Q ++ [p])))).tr (SL.st n2 (pL Z c (Q ++ [p]))))
    rw [← eg] at W22
    refine ⟨_, R ++ [nx w11], ?_, ⟨S22, B22, M22, N22, G22, W22⟩, sl22.up (by omega) (by omega)⟩
    rw [edn, if_pos (n0 (by omega))]
    show ((nwI 20 (Int32.ofNat 3) w11).bind _) = _
    rw [nwI_eq 20 3 w11 (by decide), Option.bind_some]
    show ((stI (some (nx w11)) (Int32.ofNat 0) (Int32.ofNat n') (newG w11 20 3 (List.replicate 3 0) [])).bind _) = _
    rw [r12, Option.bind_some, rMv S13 j, Option.bind_some, e14, Option.bind_some]
    show ((rcv 10 (some (Z 0)) w14).bind fun b106 => (f_X9_ofTrip b106 (Int32.ofNat itf) 3 w14).bind _) = _
    rw [rMv S14 j, Option.bind_some, e15, Option.bind_some]
    show ((stI (some (nx w11)) (Int32.ofNat 1) (tst c (pfA c p)) w15).bind _) = _
    rw [r15, Option.bind_some, rMv S16 j, Option.bind_some, e17, Option.bind_some]
    show ((stI (some (nx w11)) (Int32.ofNat 2) (tend c (pzA c p)) w17).bind _) = _
    rw [r17, Option.bind_some, st18, Option.bind_some]
    show ((f_L_isSound_L740 (Z 0) s1 (some rA) p3 p8 p9 p10 mA pA gA (Int32.ofNat (gvn c Q).length) (Int32.ofNat i) (Int32.ofNat (rowB c b).length) (Int32.ofNat a + Int32.ofNat n) (Int32.ofNat u) (Int32.ofNat n') w19 FU (Int32.ofNat 0)).bind _) = _
    rw [r740, Option.bind_some, lm, Option.bind_some, rMv S19 j, Option.bind_some, e20, Option.bind_some]
    show ((stI (some mA) (Int32.ofNat n') ((mL Z c Q).getD n' 0 + minP c p) w20).bind _) = _
    rw [sm, Option.bind_some, lp, Option.bind_some, sp', Option.bind_some, ean, eu, eg, List.length_append]
    rw [show Int32.ofNat (gvn c Q).length + 1 = Int32.ofNat ((gvn c Q).length + [p].length) from nAdd _ 1]
end Sound4
