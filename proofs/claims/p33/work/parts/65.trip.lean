/-! A new trip. -/
section Trip
variable {Z : Nat → Nat} {g c c' : HP}
/-- one more entry in a list of the county, at the place n -/
theorem Sim.addAt (S : Sim Z g c) {b x n : Nat} (hb : tg c b = 1) (h1 : b ≠ Z 1) (h2 : b ≠ Z 2) (hx1 : 1 ≤ tg c x) (hx2 : tg c x ≤ 11) (hl : (oa c b).length ≤ 60) (hn : n ≤ (oa c b).length) :
    ∃ g', al_addAt b (Int32.ofNat n) (some x) g = some g' ∧ Sim Z g' (setO c b ((oa c b).take n ++ some x :: (oa c b).drop n)) ∧ Spd Z 1 100 g g' := by
  have eo := S.2.2.2.1 b hb h1 h2
  have tb := S.tag (n := 0) hb
  have hbn := S.lt (a := b) (by omega)
  refine ⟨_, by unfold al_addAt; rw [if_pos ⟨tb, okE_of S hx1 hx2, by rw [eo]; omega, n0 (by omega), by rw [nN (by omega), eo]; exact hn⟩], ?_, ?_⟩
  · rw [eo, nN (by omega)]
    rcases room_eff b g with h | ⟨_, h⟩
    · rw [h]; exact S.wO h1 h2
    · rw [h]; exact (S.grow hb (fun z => by rcases z with z | z; exact absurd z h1; exact absurd z h2)).wO h1 h2
  · rcases room_eff b g with h | ⟨hf, h⟩
    · rw [h]; exact (Spd.wO tb).up (Nat.zero_le _) (Nat.zero_le _)
    · rw [h]
      have hcap : gcap (capL g b) ≤ 100 := by
        have : capL g b ≤ 60 := by rw [eo] at hf; omega
        unfold gcap
        split
        · omega
        · split <;> omega
      exact ((Spd.grow S (n := gcap (capL g b)) h1 h2).tr (Spd.wO (b := b) (by rw [tg_grow, if_neg (by omega)]; exact tb))).up (by omega) (by omega)
theorem ab_loop (S : Sim Z g c) {T s : Nat} {L : List Nat} (t0 : tg c (Z 0) = 11) (f0 : fr c 163 (Z 0) = some (Z 14)) (t1 : tg c (Z 14) = 1) (o1 : oa c (Z 14) = L.map some) (z1 : Z 14 ≠ Z 1) (z2 : Z 14 ≠ Z 2) (hl : L.length ≤ 16) (tT : tg c T = 9) (sT : fi c 132 T = Int32.ofNat s) (hs : s ≤ 699) (hL : ∀ x ∈ L, tg c x = 9 ∧ fi c 132 x = Int32.ofNat (nst c x) ∧ nst c x ≤ 699) :
    ∀ (m u : Nat), L.length - u < m → u ≤ L.length → (∀ k x, k < u → L[k]? = some x → nst c x ≤ s) → ∃ q, f_X9_addByStart_L2 (Z 0) (some T) g m (Int32.ofNat u) = some (Int32.ofNat q) ∧ q ≤ L.length ∧ (∀ k x, k < q → L[k]? = some x → nst c x ≤ s) ∧ ∀ x, L[q]? = some x → s < nst c x := by
  have e3 : gfR 10 3 (some (Z 0)) g = some (some (Z 14)) := by rw [S.rdR (ci := 10) t0 (by decide) (by decide) 3]; exact congrArg some f0
  have eZ : al_size (Z 14) g = some (Int32.ofNat L.length) := by rw [S.sz t1 z1 z2, o1, List.length_map]
  have eT : gfI 8 4 (some T) g = some (Int32.ofNat s) := by rw [S.rdT tT 4 rfl]; exact congrArg some sT
  intro m
  induction m with
  | zero => intro u hm; omega
  | succ m ih =>
    intro u hm hu hk
    rw [f_X9_addByStart_L2, e3, Option.bind_some, S.rc (ci := 0) t1, Option.bind_some, eZ, Option.bind_some]
    by_cases hc : L.length ≤ u
    · rw [if_pos ((nLe (by omega) (by omega)).mpr hc)]
      exact ⟨u, rfl, hu, hk, fun x hx => by have := (List.getElem?_eq_some_iff.mp hx).1; omega⟩
    · obtain ⟨x, hx⟩ : ∃ x, L[u]? = some x := ⟨_, List.getElem?_eq_getElem (by omega)⟩
      obtain ⟨q1, q2, q3⟩ := hL x (List.mem_of_getElem? hx)
      have eG : al_get (Z 14) (Int32.ofNat u) g = some (some x) := by
        rw [S.at t1 z1 z2 (by rw [o1, List.length_map]; omega) (by omega), o1, List.getD_eq_getElem?_getD, List.getElem?_map, hx]; rfl
      have eX : gfI 8 4 (some x) g = some (Int32.ofNat (nst c x)) := by rw [S.rdT q1 4 rfl]; exact congrArg some q2
      rw [if_neg (fun z => hc ((nLe (by omega) (by omega)).mp z)), Option.bind_some, S.rc (ci := 0) t1, Option.bind_some, eG, Option.bind_some, S.cs (ci := 8) q1, Option.bind_some, eX, Option.bind_some, eT, Option.bind_some]
      by_cases hlt : s < nst c x
      · rw [if_pos ((nLt (by omega) (by omega)).mpr hlt)]
        exact ⟨u, rfl, hu, hk, fun y hy => by rw [hx] at hy; rw [← Option.some.inj hy]; exact hlt⟩
      · rw [if_neg (fun z => hlt ((nLt (by omega) (by omega)).mp z)), show Int32.ofNat u + 1 = Int32.ofNat (u + 1) from nAdd u 1]
        refine ih (u + 1) (by omega) (by omega) fun k y hk1 hk2 => ?_
        by_cases e : k = u
        · rw [e, hx] at hk2
          rw [← Option.some.inj hk2]; omega
        · exact hk k y (by omega) hk2
theorem q_trip (S : Sim Z g c) (j : J Z c) (h16 : (tls Z c).length < 16) {il fo to l fp tp : Nat} (hl : (lns Z c)[il]? = some l) (hf : (pls Z c)[fo]? = some fp) (ht : (pls Z c)[to]? = some tp) {s n : Nat} (hs : s ≤ 699) (hn1 : 5 ≤ n) (hn2 : n ≤ 44) :
    ∃ g' c' T, f_X9_trip (Z 0) (Int32.ofNat il) (Int32.ofNat fo) (Int32.ofNat to) (Int32.ofNat s) (Int32.ofNat n) g = some (Int32.ofNat (tls Z c).length, g') ∧ Sim Z g' c' ∧ Spd Z 3 212 g g' ∧ J Z c' ∧ Ag Z c c' ∧ (tls Z c' = tls Z c ++ [T] ∧ bks Z c' = bks Z c ∧ dvs Z c' = dvs Z c) ∧ fi c' 134 T = 0 := by
  have kT := j.l.2.2.1
  have kS := j.l.2.2.2.1
  have zT1 := kT.z1 j.gg (by decide)
  have zT2 := kT.z2 j.gg (by decide)
  have zS1 := kS.z1 j.gg (by decide)
  have zS2 := kS.z2 j.gg (by decide)
  have hTS : Z 13 ≠ Z 14 := kT.ne kS (by decide)
  have il4 : il < 4 := by have := (List.getElem?_eq_some_iff.mp hl).1; have := j.n.1.2.1; omega
  have fo8 : fo < 8 := by have := (List.getElem?_eq_some_iff.mp hf).1; have := j.n.1.1; omega
  have to8 : to < 8 := by have := (List.getElem?_eq_some_iff.mp ht).1; have := j.n.1.1; omega
  have tl : tg c l = 5 := j.l.2.1.tg hl
  have tfp : tg c fp = 7 := j.l.1.tg hf
  have ttp : tg c tp = 7 := j.l.1.tg ht
  obtain ⟨T, hT⟩ : ∃ T, T = nx g := ⟨_, rfl⟩
  have S1 : Sim Z (newG g 9 12 [] []) (nwC c T 9) := by rw [hT]; exact S.nw (by decide) (by decide)
  have fresh : tg c T = 0 := by rw [hT]; exact S.fresh
  have p1 : Spd Z 1 12 g (newG g 9 12 [] []) := Spd.nw S (t := 9)
  have tT1 : tg (nwC c T 9) T = 9 := by rw [tg_nwC, if_pos rfl]
  have tn : tg (newG g 9 12 [] []) T = 8 + 1 := by rw [tg_newG, hT, if_pos rfl]
  generalize hg1 : newG g 9 12 [] [] = g1 at S1 p1 tn
  have eini : f_X7_init T (Int32.ofNat (tls Z c).length) (some l) (some fp) (some tp) (Int32.ofNat s) (Int32.ofNat n) g1 = some (setI (setI (setR (setR (setR (setI g1 128 T (Int32.ofNat (tls Z c).length)) 129 T (some l)) 130 T (some fp)) 131 T (some tp)) 132 T (Int32.ofNat s)) 133 T (Int32.ofNat n)) := by
    unfold f_X7_init
    rw [pfI_eq (ci := 8) tn, Option.bind_some, pfR_eq (ci := 8) (by exact tn), Option.bind_some, pfR_eq (ci := 8) (by exact tn), Option.bind_some, pfR_eq (ci := 8) (by exact tn), Option.bind_some, pfI_eq (ci := 8) (by exact tn), Option.bind_some, pfI_eq (ci := 8) (by exact tn), Option.bind_some]
  have t2 : 2 ≤ tg (nwC c T 9) T := by rw [tT1]; decide
  have S2 : Sim Z (setI (setI (setR (setR (setR (setI g1 128 T (Int32.ofNat (tls Z c).length)) 129 T (some l)) 130 T (some fp)) 131 T (some tp)) 132 T (Int32.ofNat s)) 133 T (Int32.ofNat n)) (setI (setI (setR (setR (setR (setI (nwC c T 9) 128 T (Int32.ofNat (tls Z c).length)) 129 T (some l)) 130 T (some fp)) 131 T (some tp)) 132 T (Int32.ofNat s)) 133 T (Int32.ofNat n)) := ((((S1.wI.wR t2).wR t2).wR t2).wI).wI
  have p2 : Spd Z 0 0 g1 (setI (setI (setR (setR (setR (setI g1 128 T (Int32.ofNat (tls Z c).length)) 129 T (some l)) 130 T (some fp)) 131 T (some tp)) 132 T (Int32.ofNat s)) 133 T (Int32.ofNat n)) := (((((Spd.wI (Z := Z) (g := g1)).tr (Spd.wR S1.wI t2)).tr (Spd.wR (S1.wI.wR t2) t2)).tr (Spd.wR ((S1.wI.wR t2).wR t2) t2)).tr Spd.wI).tr Spd.wI
  generalize hg2 : setI (setI (setR (setR (setR (setI g1 128 T (Int32.ofNat (tls Z c).length)) 129 T (some l)) 130 T (some fp)) 131 T (some tp)) 132 T (Int32.ofNat s)) 133 T (Int32.ofNat n) = g2 at S2 p2 eini
  obtain ⟨c2, hc2⟩ : ∃ c2, c2 = setI (setI (setR (setR (setR (setI (nwC c T 9) 128 T (Int32.ofNat (tls Z c).length)) 129 T (some l)) 130 T (some fp)) 131 T (some tp)) 132 T (Int32.ofNat s)) 133 T (Int32.ofNat n) := ⟨_, rfl⟩
  rw [← hc2] at S2
  have new : ∀ x, tg c x ≠ 0 → x ≠ T := fun x h z => h (by rw [z]; exact fresh)
  have u1 : ∀ a, tg c2 a = if a = T then 9 else tg c a := fun a => by rw [hc2]; rfl
  have u2 : ∀ a, oa c2 a = if a = T then [] else oa c a := fun a => by rw [hc2]; rfl
  have u3 : ∀ k a, a ≠ T → fi c2 k a = fi c k a := fun k a h => by
    rw [hc2, fi_setI, if_neg fun z => h z.2, fi_setI, if_neg fun z => h z.2, fi_setR, fi_setR, fi_setR, fi_setI, if_neg fun z => h z.2, fi_nwC, if_neg h]
  have u4 : ∀ k a, a ≠ T → fr c2 k a = fr c k a := fun k a h => by
    rw [hc2, fr_setI, fr_setI, fr_setR, if_neg fun z => h z.2, fr_setR, if_neg fun z => h z.2, fr_setR, if_neg fun z => h z.2, fr_setI, fr_nwC, if_neg h]
  have v128 : fi c2 128 T = Int32.ofNat (tls Z c).length := by rw [hc2, fi_setI, if_neg fun z => by have := z.1; omega, fi_setI, if_neg fun z => by have := z.1; omega, fi_setR, fi_setR, fi_setR, fi_setI, if_pos ⟨rfl, rfl⟩]
  have v132 : fi c2 132 T = Int32.ofNat s := by rw [hc2, fi_setI, if_neg fun z => by have := z.1; omega, fi_setI, if_pos ⟨rfl, rfl⟩]
  have v133 : fi c2 133 T = Int32.ofNat n := by rw [hc2, fi_setI, if_pos ⟨rfl, rfl⟩]
  have v134 : fi c2 134 T = 0 := by rw [hc2, fi_setI, if_neg fun z => by have := z.1; omega, fi_setI, if_neg fun z => by have := z.1; omega, fi_setR, fi_setR, fi_setR, fi_setI, if_neg fun z => by have := z.1; omega, fi_nwC, if_pos rfl]
  have v129 : fr c2 129 T = some l := by rw [hc2, fr_setI, fr_setI, fr_setR, if_neg fun z => by have := z.1; omega, fr_setR, if_neg fun z => by have := z.1; omega, fr_setR, if_pos ⟨rfl, rfl⟩]
  have v130 : fr c2 130 T = some fp := by rw [hc2, fr_setI, fr_setI, fr_setR, if_neg fun z => by have := z.1; omega, fr_setR, if_pos ⟨rfl, rfl⟩]
  have v131 : fr c2 131 T = some tp := by rw [hc2, fr_setI, fr_setI, fr_setR, if_pos ⟨rfl, rfl⟩]
  have vno : ∀ k, k = 135 ∨ k = 136 → fr c2 k T = none := fun k hk => by
    rw [hc2, fr_setI, fr_setI, fr_setR, if_neg fun z => by have := z.1; omega, fr_setR, if_neg fun z => by have := z.1; omega, fr_setR, if_neg fun z => by have := z.1; omega, fr_setI, fr_nwC, if_pos rfl]
  have nz13 := new (Z 13) (by rw [kT.1.1]; decide)
  have nz14 := new (Z 14) (by rw [kS.1.1]; decide)
  have nz0 := new (Z 0) (by rw [j.f.1]; decide)
  have t13 : tg c2 (Z 13) = 1 := by rw [u1, if_neg nz13]; exact kT.1.1
  have o13 : oa c2 (Z 13) = (tls Z c).map some := by rw [u2, if_neg nz13]; exact kT.oc
  have tT2 : tg c2 T = 9 := by rw [u1, if_pos rfl]
  obtain ⟨g3, a3, S3, p3, -⟩ := S2.add (b := Z 13) (x := T) t13 zT1 zT2 (by rw [tT2]; decide) (by rw [tT2]; decide) (by rw [o13, List.length_map]; omega)
  rw [o13, show (tls Z c).map some ++ [some T] = (tls Z c ++ [T]).map some by rw [List.map_append]; rfl] at S3
  obtain ⟨c3, hc3⟩ : ∃ c3, c3 = setO c2 (Z 13) ((tls Z c ++ [T]).map some) := ⟨_, rfl⟩
  rw [← hc3] at S3
  have w1 : ∀ a, tg c3 a = tg c2 a := fun a => by rw [hc3]; rfl
  have w2 : ∀ k a, fi c3 k a = fi c2 k a := fun k a => by rw [hc3]; rfl
  have w3 : ∀ k a, fr c3 k a = fr c2 k a := fun k a => by rw [hc3]; rfl
  have w4 : ∀ a, a ≠ Z 13 → oa c3 a = oa c2 a := fun a h => by rw [hc3, oa_setO, if_neg h]
  have bl : (bss Z c).length ≤ 15 := by have := j.s.2.1; omega
  have o14 : oa c3 (Z 14) = (bss Z c).map some := by rw [w4 _ hTS.symm, u2, if_neg nz14]; exact kS.oc
  have t14 : tg c3 (Z 14) = 1 := by rw [w1, u1, if_neg nz14]; exact kS.1.1
  have nn : ∀ x, x ∈ tls Z c → nst c3 x = nst c x ∧ x ≠ T := fun x hx => by
    have h := new x (isT_nz (j.isT hx))
    exact ⟨by unfold nst; rw [w2, u3 132 x h], h⟩
  obtain ⟨q, e4, q1, q2, q3⟩ := ab_loop S3 (T := T) (s := s) (L := bss Z c) (by rw [w1, u1, if_neg nz0]; exact j.f.1) (by rw [w3, u4 163 _ nz0]; exact j.f.2.2.2.2.1) t14 o14 zS1 zS2 (by omega) (by rw [w1]; exact tT2) (by rw [w2]; exact v132) hs (fun x hx => by
      have hxt := j.s.1 x hx
      obtain ⟨m1, m2⟩ := nn x hxt
      rw [w1, u1, if_neg m2, w2, u3 132 x m2, m1]
      exact ⟨(j.isT hxt).1, (j_tst j hxt).1, (j_tst j hxt).2⟩) FU 0 (by show _ < 4096; omega) (Nat.zero_le _) (fun k x hk => absurd hk (Nat.not_lt_zero _))
  obtain ⟨g4, a4, S4, p4⟩ := S3.addAt (b := Z 14) (x := T) (n := q) t14 zS1 zS2 (by rw [w1, tT2]; decide) (by rw [w1, tT2]; decide) (by rw [o14, List.length_map]; omega) (by rw [o14, List.length_map]; exact q1)
  rw [o14, show ((bss Z c).map some).take q ++ some T :: ((bss Z c).map some).drop q = ((bss Z c).take q ++ T :: (bss Z c).drop q).map some by rw [List.map_append, List.map_cons, List.map_take, List.map_drop]] at S4
  obtain ⟨c', hc'⟩ : ∃ c', c' = setO c3 (Z 14) (((bss Z c).take q ++ T :: (bss Z c).drop q).map some) := ⟨_, rfl⟩
  rw [← hc'] at S4
  have ft : ∀ a, tg c' a = if a = T then 9 else tg c a := fun a => by rw [hc']; show tg c3 a = _; rw [w1, u1]
  have fI : ∀ k a, fi c' k a = fi c2 k a := fun k a => by rw [hc']; exact w2 k a
  have fR : ∀ k a, fr c' k a = fr c2 k a := fun k a => by rw [hc']; exact w3 k a
  have e14 : oa c' (Z 14) = ((bss Z c).take q ++ T :: (bss Z c).drop q).map some := by rw [hc', oa_setO, if_pos rfl]
  have e13 : oa c' (Z 13) = (tls Z c ++ [T]).map some := by rw [hc', oa_setO, if_neg hTS, hc3, oa_setO, if_pos rfl]
  have old1 : ∀ a, tg c a ≠ 0 → tg c' a = tg c a := fun a h => by rw [ft, if_neg (new a h)]
  have old2 : ∀ k a, tg c a ≠ 0 → fi c' k a = fi c k a := fun k a h => by rw [fI, u3 k a (new a h)]
  have old3 : ∀ k a, tg c a ≠ 0 → fr c' k a = fr c k a := fun k a h => by rw [fR, u4 k a (new a h)]
  have old4 : ∀ a, tg c a ≠ 0 → a ≠ Z 13 → a ≠ Z 14 → oa c' a = oa c a := fun a h h1 h2 => by
    rw [hc', oa_setO, if_neg h2, w4 a h1, u2, if_neg (new a h)]
  have oL : ∀ {a k o n}, LK c a k o n → k ≠ 3 → k ≠ 4 → oa c' a = oa c a := fun h hk hk2 => old4 _ (by rw [h.1.1]; decide) (h.ne kT hk) (h.ne kS hk2)
  have A : Ag Z c c' := ⟨old1, old2, fun k a h _ _ _ => old3 k a h, oL j.l.1 (by decide) (by decide), oL j.l.2.1 (by decide) (by decide)⟩
  have e15 : oa c' (Z 15) = oa c (Z 15) := oL j.l.2.2.2.2.1 (by decide) (by decide)
  have e16 : oa c' (Z 16) = oa c (Z 16) := oL j.l.2.2.2.2.2 (by decide) (by decide)
  have et : tls Z c' = tls Z c ++ [T] := refs_of e13
  have es : bss Z c' = (bss Z c).take q ++ T :: (bss Z c).drop q := refs_of e14
  have eb : bks Z c' = bks Z c := refs_eq e15
  have ed : dvs Z c' = dvs Z c := refs_eq e16
  have hB : ∀ i b, (bks Z c)[i]? = some b → BOk Z c' i b ∧ rowB c' b = rowB c b ∧ pcs c' b = pcs c b := fun i b hb => by
    have hm := List.mem_of_getElem? hb
    obtain ⟨_, _, k1, k2⟩ := j.bz hm
    refine bok_ag A j hb (oL k1 (by decide) (by decide)) (oL k2 (by decide) (by decide)) (fun t ht => by rw [et]; exact List.mem_append_left _ ht) (fun t ht => ?_) (fun q hq => ?_)
    · rw [old3 135 t (isT_nz (j.isT (j.rT hm ht).1))]; exact (j.rT hm ht).2
    · have l := j.pk hm hq
      rw [old3 136 _ (isT_nz (j.isT (j.rT hm l.2.2.2.1).1))]; exact l.2.2.2.2.2.2
  have hin : ∀ q, InP Z c q → InP Z c' q := fun q ⟨b, hb, hq⟩ => by
    obtain ⟨k, hk⟩ := mem_at hb
    exact ⟨b, by rw [eb]; exact hb, by rw [(hB k b hk).2.2]; exact hq⟩
  have hDd : ∀ i d, (dvs Z c)[i]? = some d → DOk Z c' i d ∧ dps c' d = dps c d := fun i d hd => by
    have hm := List.mem_of_getElem? hd
    refine dok_ag A j hd (oL (j.dz hm).2 (by decide) (by decide)) (fun p hp => ?_) (fun p hp => hin p (j_dIn j hm hp))
    rw [old3 85 p (by rw [(j.dp hm hp).1]; decide)]; exact (j.dp hm hp).2.1
  have nsT : nst c' T = s := by unfold nst; rw [fI, v132, nN (by omega)]
  have nso : ∀ x ∈ tls Z c, nst c' x = nst c x := fun x hx => by unfold nst; rw [old2 132 x (isT_nz (j.isT hx))]
  have hNew : TOk Z c' (tls Z c).length T := by
    have el : lA c' T = l := by unfold lA; rw [fR, v129]; rfl
    have ef : fA c' T = fp := by unfold fA; rw [fR, v130]; rfl
    have eto : tA c' T = tp := by unfold tA; rw [fR, v131]; rfl
    refine ⟨⟨⟨by rw [ft, if_pos rfl], ⟨by rw [el, fR]; exact v129, by rw [el, old1 l (by omega)]; exact tl⟩, ⟨by rw [ef, fR]; exact v130, by rw [ef, old1 fp (by omega)]; exact tfp⟩, ⟨by rw [eto, fR]; exact v131, by rw [eto, old1 tp (by omega)]; exact ttp⟩⟩, by rw [fI]; exact v128, by rw [el, ag_lns A]; exact List.mem_of_getElem? hl, by rw [ef, ag_pls A]; exact List.mem_of_getElem? hf, by rw [eto, ag_pls A]; exact List.mem_of_getElem? ht⟩, ?_, fun b hb => ?_, fun p hp => ?_⟩
    · rw [nsT]
      unfold nmn ndl
      rw [fI, fI, fI, v132, v133, v134, nN (by omega)]
      exact ⟨rfl, hs, rfl, hn1, hn2, rfl, by decide⟩
    · rw [fR, vno 135 (Or.inl rfl)] at hb; cases hb
    · rw [fR, vno 136 (Or.inr rfl)] at hp; cases hp
  have j' : J Z c' := by
    refine j.mk' A ⟨lk_nw kT (old1 _ (by rw [kT.1.1]; decide)) (old2 9 _ (by rw [kT.1.1]; decide)) (old3 9 _ (by rw [kT.1.1]; decide)) e13 (fun b hb => ?_) (by rw [List.length_append, List.length_singleton]; omega), lk_nw kS (old1 _ (by rw [kS.1.1]; decide)) (old2 9 _ (by rw [kS.1.1]; decide)) (old3 9 _ (by rw [kS.1.1]; decide)) e14 (fun b hb => ?_) (by rw [List.length_append, List.length_cons, List.length_take, List.length_drop]; omega), lk_ag A j.l.2.2.2.2.1 e15 (by decide), lk_ag A j.l.2.2.2.2.2 e16 (by decide)⟩ ⟨by rw [et, List.length_append, List.length_singleton]; omega, fun i t ht => ?_⟩ ⟨by rw [eb]; exact j.b.1, fun i b hb => ?_⟩ ⟨by rw [ed]; exact j.d.1, fun i d hd => ?_⟩ (fun q d' hq h85 => ?_) ?_
    · rcases List.mem_append.mp hb with h | h
      · rw [old1 b (isT_nz (j.isT h))]; exact (j.isT h).1
      · rw [List.mem_singleton.mp h, ft, if_pos rfl]
    · have hb' : b ∈ bss Z c ∨ b = T := by
        rcases List.mem_append.mp hb with h | h
        · exact Or.inl (List.mem_of_mem_take h)
        · rcases List.mem_cons.mp h with h | h
          · exact Or.inr h
          · exact Or.inl (List.mem_of_mem_drop h)
      rcases hb' with h | h
      · have := j.isT (j.s.1 b h)
        rw [old1 b (isT_nz this)]; exact this.1
      · rw [h, ft, if_pos rfl]
    · rw [et] at ht
      by_cases h : i < (tls Z c).length
      · rw [List.getElem?_append_left h] at ht
        have hm := List.mem_of_getElem? ht
        have nz := isT_nz (j.isT hm)
        have k := j.t.2 i t ht
        refine tok_ag A k (fun b hb => ?_) (fun q hq => ?_)
        · rw [old3 135 t nz] at hb
          obtain ⟨k1, k2⟩ := j.inB hm hb
          obtain ⟨n, hn⟩ := mem_at k1
          rw [eb, (hB n b hn).2.1]
          exact ⟨k1, k2⟩
        · rw [old3 136 t nz] at hq
          obtain ⟨q1, q2⟩ := k.2.2.2 q hq
          rw [old3 135 t nz, old1 q (by omega)]
          exact ⟨q1, q2⟩
      · have hlt := (List.getElem?_eq_some_iff.mp ht).1
        rw [List.length_append, List.length_singleton] at hlt
        have hi : i = (tls Z c).length := by omega
        rw [List.getElem?_append_right (by omega), hi, Nat.sub_self] at ht
        have e : T = t := Option.some.inj ht
        rw [← e, hi]; exact hNew
    · rw [eb] at hb
      exact (hB i b hb).1
    · rw [ed] at hd
      exact (hDd i d hd).1
    · have hq' : tg c q = 6 := by
        rw [ft] at hq
        split at hq
        · omega
        · exact hq
      rw [old3 85 q (by omega)] at h85
      obtain ⟨k1, k2⟩ := j.q q d' hq' h85
      obtain ⟨n, hn'⟩ := mem_at k1
      rw [ed, (hDd n d' hn').2]
      exact ⟨k1, k2⟩
    · obtain ⟨s1, s2, s3⟩ := j.s
      unfold JS
      rw [et, es]
      refine ⟨fun x hx => ?_, by rw [List.length_append, List.length_cons, List.length_take, List.length_drop, List.length_append, List.length_singleton]; omega, ?_⟩
      · rcases List.mem_append.mp hx with h | h
        · exact List.mem_append_left _ (s1 x (List.mem_of_mem_take h))
        · rcases List.mem_cons.mp h with h | h
          · rw [h]; simp
          · exact List.mem_append_left _ (s1 x (List.mem_of_mem_drop h))
      · have sorted : ∀ x y : Nat, ∀ a b : Nat, a < b → (bss Z c)[a]? = some x → (bss Z c)[b]? = some y → nst c x ≤ nst c y := fun x y a b hab hx hy => by
          have hp := List.pairwise_iff_getElem.mp s3 a b (List.getElem?_eq_some_iff.mp hx).1 (List.getElem?_eq_some_iff.mp hy).1 hab
          rw [(List.getElem?_eq_some_iff.mp hx).2, (List.getElem?_eq_some_iff.mp hy).2] at hp
          exact hp
        have below : ∀ x ∈ (bss Z c).take q, nst c x ≤ s := fun x hx => by
          obtain ⟨k, hk⟩ := mem_at hx
          rw [List.getElem?_take] at hk
          split at hk
          · rename_i h
            have := q2 k x h hk
            rwa [(nn x (s1 x (List.mem_of_getElem? hk))).1] at this
          · cases hk
        have above : ∀ x ∈ (bss Z c).drop q, s ≤ nst c x := fun x hx => by
          obtain ⟨k, hk⟩ := mem_at hx
          rw [List.getElem?_drop] at hk
          obtain ⟨y, hy⟩ : ∃ y, (bss Z c)[q]? = some y := ⟨_, List.getElem?_eq_getElem (by have := (List.getElem?_eq_some_iff.mp hk).1; omega)⟩
          have h1 := q3 y hy
          rw [(nn y (s1 y (List.mem_of_getElem? hy))).1] at h1
          by_cases h0 : k = 0
          · rw [h0, Nat.add_zero, hy] at hk
            rw [← Option.some.inj hk]; omega
          · have := sorted y x q (q + k) (by omega) hy hk
            omega
        have m1 : ∀ x ∈ (bss Z c).take q, x ∈ tls Z c := fun x hx => s1 x (List.mem_of_mem_take hx)
        have m2 : ∀ x ∈ (bss Z c).drop q, x ∈ tls Z c := fun x hx => s1 x (List.mem_of_mem_drop hx)
        refine List.pairwise_append.mpr ⟨(s3.sublist (List.take_sublist _ _)).imp_of_mem fun {x y} hx hy h => by rw [nso x (m1 x hx), nso y (m1 y hy)]; exact h, List.pairwise_cons.mpr ⟨fun x hx => by rw [nsT, nso x (m2 x hx)]; exact above x hx, (s3.sublist (List.drop_sublist _ _)).imp_of_mem fun {x y} hx hy h => by rw [nso x (m2 x hx), nso y (m2 y hy)]; exact h⟩, fun x hx y hy => ?_⟩
        rw [nso x (m1 x hx)]
        rcases List.mem_cons.mp hy with h | h
        · rw [h, nsT]; exact below x hx
        · rw [nso y (m2 y h)]
          exact Nat.le_trans (below x hx) (above y h)
  refine ⟨g4, c', T, ?_, S4, (((p1.tr p2).tr p3).tr p4).up (by omega) (by omega), j', A, ⟨et, eb, ed⟩, by rw [fI]; exact v134⟩
  have e10 : gfR 10 2 (some (Z 0)) g2 = some (some (Z 13)) := by
    rw [S2.rdR (ci := 10) (by rw [u1, if_neg nz0]; exact j.f.1) (by decide) (by decide) 2, u4 _ _ nz0]
    exact congrArg some j.f.2.2.2.1
  have e11 : gfR 10 3 (some (Z 0)) g3 = some (some (Z 14)) := by
    rw [S3.rdR (ci := 10) (by rw [w1, u1, if_neg nz0]; exact j.f.1) (by decide) (by decide) 3, w3, u4 _ _ nz0]
    exact congrArg some j.f.2.2.2.2.1
  have e12 : rcv 10 (some (Z 0)) g3 = some (Z 0) := S3.rc (ci := 10) (by rw [w1, u1, if_neg nz0]; exact j.f.1)
  have e4' : f_X9_addByStart_L2 (Z 0) (some T) g3 FU 0 = some (Int32.ofNat q) := e4
  have eb1 : f_X9_isOutside (Int32.ofNat s) 0 1439 g = some 0 := nout (n0 (by omega)) ((nLe (b := 1439) (by omega) (by omega)).mpr (by omega)) g
  have eb2 : f_X9_isOutside (Int32.ofNat n) 5 120 g = some 0 := nout ((nLe (a := 5) (by omega) (by omega)).mpr hn1) ((nLe (b := 120) (by omega) (by omega)).mpr (by omega)) g
  unfold f_X9_trip f_X9_addByStart
  rw [rMv S j, Option.bind_some, j_lineNumbered S j (by omega), Option.bind_some, Option.bind_some, j_placeNumbered S j (by omega), Option.bind_some, Option.bind_some, j_placeNumbered S j (by omega), Option.bind_some, hl, hf, ht, if_neg sn, if_neg sn, if_neg sn, eb1, Option.bind_some, if_pos rfl, eb2, Option.bind_some, if_pos rfl, rM2 S j, Option.bind_some, kT.rc S, Option.bind_some, sTL S j, Option.bind_some, if_pos (show Int32.ofNat (tls Z c).length < (16 : Int32) from (nLt (b := 16) (by omega) (by omega)).mpr h16), hg1, ← hT, eini, Option.bind_some, e10, Option.bind_some, S2.rc (ci := 0) t13, Option.bind_some, a3, Option.bind_some]
  show Option.bind (rcv 10 (some (Z 0)) g3) _ = _
  rw [e12, Option.bind_some]
  show Option.bind (Option.bind (f_X9_addByStart_L2 (Z 0) (some T) g3 FU 0) _) _ = _
  rw [e4', Option.bind_some]
  show Option.bind (Option.bind (gfR 10 3 (some (Z 0)) g3) _) _ = _
  rw [e11, Option.bind_some]
  show Option.bind (Option.bind (rcv 0 (some (Z 14)) g3) _) _ = _
  rw [S3.rc (ci := 0) t14, Option.bind_some]
  show Option.bind (Option.bind (al_addAt (Z 14) (Int32.ofNat q) (some T) g3) _) _ = _
  rw [a4, Option.bind_some, Option.bind_some]
end Trip
