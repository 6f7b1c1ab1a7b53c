/-! A piece is laid, all are. -/
theorem add_ia {b a : Nat} {x : Option Nat} {g : HP} {r : Int32 × HP} (h : al_add b x g = some r) (hn : a ≠ nx g) : ia r.2 a = ia g a := by
  unfold al_add at h
  split at h
  · cases h
    show ia (setO (al_room b g) b _) a = _
    rw [ia_setO]
    rcases room_eff b g with e | ⟨_, e⟩
    · rw [e]
    · rw [e, ia_grow, if_neg hn]
  · cases h
theorem nodup_far {R : List Nat} (hn : R.Nodup) {k i n f : Nat} (hf : R[k]? = some f) (hk : k < i) : f ∉ (R.take n).drop i := fun h => by
  obtain ⟨q, hq⟩ := mem_at h
  rw [List.getElem?_drop, List.getElem?_take] at hq
  split at hq
  · have a1 := List.getElem?_eq_some_iff.mp hf
    have a2 := List.getElem?_eq_some_iff.mp hq
    have := (List.getElem_inj hn).mp (a1.2.trans a2.2.symm)
    omega
  · cases hq
section Cut2
variable {Z : Nat → Nat} {g c v : HP}
theorem r_addPiece (S : Sim Z g v) (j : J Z c) {b i e : Nat} {E P : List Nat} (hb : b ∈ bks Z c) (hPE : P.length ≤ 16) (M : Md Z b c v (rowB c b) i P) (D : Desc v (rowB c b) (rwA c b) 0 E P) (hE : endI 0 E = i) (he : PcE c (rowB c b) i e) :
    ∃ w' v' p, f_X0_addPiece b (Int32.ofNat i) (Int32.ofNat e) g = some w' ∧ Sim Z w' v' ∧ Spd Z 2 106 g w' ∧ ia w' (Z 3) = ia g (Z 3) ∧ Md Z b c v' (rowB c b) (e + 1) (P ++ [p]) ∧ Desc v' (rowB c b) (rwA c b) 0 (E ++ [e]) (P ++ [p]) := by
  obtain ⟨⟨A, s⟩, m2, m3, m4, m5, m6, m7, m8, m9⟩ := M
  obtain ⟨he1, he2, -, f, z, hf, hz, -⟩ := he
  obtain ⟨nb, nr, k1, k2⟩ := j.bz hb
  obtain ⟨_, _, _, h1, ⟨h2, h3, h4, h5, h6, h7⟩, _⟩ := j.bok hb
  have tb := j.tb hb
  have l16 := j.rlen hb
  have hR : ∀ t ∈ rowB c b, IsT c t := fun t ht => j.isT (j.rT hb ht).1
  have nl : tg c (rlB c b) ≠ 0 := by rw [k1.1.1]; decide
  have np : tg c (plB c b) ≠ 0 := by rw [k2.1.1]; decide
  have fresh := S.fresh
  have hpc : tg c (nx g) = 0 := Decidable.not_not.mp fun h => h ((A.1 _ h).symm.trans fresh)
  have nep : ∀ a, tg c a ≠ 0 → a ≠ nx g := fun a ha e => ha (by rw [e]; exact hpc)
  have nevp : ∀ a, tg v a ≠ 0 → a ≠ nx g := fun a ha e => ha (by rw [e]; exact fresh)
  have hRow : RowIs g v (rwA c b) (rowB c b) := by
    have er : rlA v (rwA c b) = rlB c b := by unfold rlB rlA; rw [m5 112 _ nr (by decide)]
    have lne : rlB c b ≠ plB c b := k1.ne k2 (by decide)
    refine ⟨(A.1 _ nr).trans h3, by rw [er, m5 112 _ nr (by decide)]; exact h4, by rw [er, A.1 _ nl]; exact k1.1.1, ?_, by omega, fun t ht => ag_isT A (hR t ht)⟩
    rw [er, S.2.2.2.1 (rlB c b) (by rw [A.1 _ nl]; exact k1.1.1) (k1.z1 j.gg (by decide)) (k1.z2 j.gg (by decide)), m2 _ k1.1.1 lne]
    exact k1.oc
  have eb3 : gfR 1 3 (some b) g = some (some (rwA c b)) := by rw [S.rdR (ci := 1) ((A.1 b nb).trans tb) (by decide) (by decide) 3]; exact congrArg some ((m5 19 b nb (by decide)).trans h2)
  -- the new object
  have S1 : Sim Z (newG g 6 6 [] []) (nwC v (nx g) 6) := S.nw (by decide) (by decide)
  have t1 : ∀ a, tg c a ≠ 0 → tg (nwC v (nx g) 6) a = tg c a := fun a h => by rw [tg_nwC, if_neg (nep a h)]; exact A.1 a h
  have tp1 : tg (nwC v (nx g) 6) (nx g) = 6 := by rw [tg_nwC, if_pos rfl]
  have f1 : ∀ k a, tg c a ≠ 0 → k ≠ 136 → fr (nwC v (nx g) 6) k a = fr c k a := fun k a h hk => by rw [fr_nwC, if_neg (nep a h)]; exact m5 k a h hk
  have eb4 : gfR 1 4 (some b) (newG g 6 6 [] []) = some (some (plB c b)) := by rw [S1.rdR (ci := 1) ((t1 b nb).trans tb) (by decide) (by decide) 4]; exact congrArg some ((f1 20 b nb (by decide)).trans h6)
  have eb31 : gfR 1 3 (some b) (newG g 6 6 [] []) = some (some (rwA c b)) := by rw [S1.rdR (ci := 1) ((t1 b nb).trans tb) (by decide) (by decide) 3]; exact congrArg some ((f1 19 b nb (by decide)).trans h2)
  have z1 := k2.z1 j.gg (by decide)
  have z2 := k2.z2 j.gg (by decide)
  have tpl1 : tg (nwC v (nx g) 6) (plB c b) = 1 := (t1 _ np).trans k2.1.1
  have eop1 : oa (nwC v (nx g) 6) (plB c b) = P.map some := by rw [oa_nwC, if_neg (nep _ np)]; exact m3
  have esz : al_size (plB c b) (newG g 6 6 [] []) = some (Int32.ofNat P.length) := by rw [S1.sz tpl1 z1 z2, eop1, List.length_map]
  -- its fields
  obtain ⟨cnt, hcnt⟩ : ∃ cnt, cnt = (Int32.ofNat e - Int32.ofNat i) + 1 := ⟨_, rfl⟩
  have ecnt : cnt = Int32.ofNat (e - i + 1) := by rw [hcnt, nSub he1]; exact nAdd (e - i) 1
  have S2 : Sim Z (setI (setR (setR (setR (setI (newG g 6 6 [] []) 80 (nx g) (Int32.ofNat P.length)) 81 (nx g) (some (rwA c b))) 82 (nx g) (some f)) 83 (nx g) (some z)) 84 (nx g) cnt) (setI (setR (setR (setR (setI (nwC v (nx g) 6) 80 (nx g) (Int32.ofNat P.length)) 81 (nx g) (some (rwA c b))) 82 (nx g) (some f)) 83 (nx g) (some z)) 84 (nx g) cnt) := by
    have t2 : 2 ≤ tg (nwC v (nx g) 6) (nx g) := by rw [tp1]; decide
    exact ((((S1.wI).wR t2).wR t2).wR t2).wI
  have eini : f_X4_init (nx g) (Int32.ofNat P.length) (some (rwA c b)) (some f) (some z) ((Int32.ofNat e - Int32.ofNat i) + 1) (newG g 6 6 [] []) = some (setI (setR (setR (setR (setI (newG g 6 6 [] []) 80 (nx g) (Int32.ofNat P.length)) 81 (nx g) (some (rwA c b))) 82 (nx g) (some f)) 83 (nx g) (some z)) 84 (nx g) cnt) := by
    have tn : tg (newG g 6 6 [] []) (nx g) = 5 + 1 := by rw [tg_newG, if_pos rfl]
    unfold f_X4_init
    rw [pfI_eq (ci := 5) tn, Option.bind_some, pfR_eq (ci := 5) (by exact tn), Option.bind_some, pfR_eq (ci := 5) (by exact tn), Option.bind_some, pfR_eq (ci := 5) (by exact tn), Option.bind_some, pfI_eq (ci := 5) (by exact tn), Option.bind_some, ← hcnt]
  generalize hg2 : setI (setR (setR (setR (setI (newG g 6 6 [] []) 80 (nx g) (Int32.ofNat P.length)) 81 (nx g) (some (rwA c b))) 82 (nx g) (some f)) 83 (nx g) (some z)) 84 (nx g) cnt = g2 at S2 eini
  obtain ⟨v2, hv2⟩ : ∃ v2, v2 = setI (setR (setR (setR (setI (nwC v (nx g) 6) 80 (nx g) (Int32.ofNat P.length)) 81 (nx g) (some (rwA c b))) 82 (nx g) (some f)) 83 (nx g) (some z)) 84 (nx g) cnt := ⟨_, rfl⟩
  rw [← hv2] at S2
  have q1 : ∀ a, tg v2 a = tg (nwC v (nx g) 6) a := fun a => by rw [hv2]; rfl
  have q2 : ∀ a, oa v2 a = oa (nwC v (nx g) 6) a := fun a => by rw [hv2]; rfl
  have q3 : ∀ k a, a ≠ nx g → fr v2 k a = fr v k a := fun k a h => by
    rw [hv2, fr_setI, fr_setR, if_neg (fun z => h z.2), fr_setR, if_neg (fun z => h z.2), fr_setR, if_neg (fun z => h z.2), fr_setI, fr_nwC, if_neg h]
  have q4 : ∀ k a, a ≠ nx g → fi v2 k a = fi v k a := fun k a h => by
    rw [hv2, fi_setI, if_neg (fun z => h z.2), fi_setR, fi_setR, fi_setR, fi_setI, if_neg (fun z => h z.2), fi_nwC, if_neg h]
  have p81 : fr v2 81 (nx g) = some (rwA c b) := by rw [hv2, fr_setI, fr_setR, if_neg (fun z => by have := z.1; omega), fr_setR, if_neg (fun z => by have := z.1; omega), fr_setR, if_pos ⟨rfl, rfl⟩]
  have p82 : fr v2 82 (nx g) = some f := by rw [hv2, fr_setI, fr_setR, if_neg (fun z => by have := z.1; omega), fr_setR, if_pos ⟨rfl, rfl⟩]
  have p83 : fr v2 83 (nx g) = some z := by rw [hv2, fr_setI, fr_setR, if_pos ⟨rfl, rfl⟩]
  have p84 : fi v2 84 (nx g) = Int32.ofNat (e - i + 1) := by rw [hv2, fi_setI, if_pos ⟨rfl, rfl⟩]; exact ecnt
  have p85 : fr v2 85 (nx g) = none := by rw [hv2, fr_setI, fr_setR, if_neg (fun z => by have := z.1; omega), fr_setR, if_neg (fun z => by have := z.1; omega), fr_setR, if_neg (fun z => by have := z.1; omega), fr_setI, fr_nwC, if_pos rfl]
  have tv2 : ∀ a, tg c a ≠ 0 → tg v2 a = tg c a := fun a h => (q1 a).trans (t1 a h)
  have eb42 : gfR 1 4 (some b) g2 = some (some (plB c b)) := by rw [S2.rdR (ci := 1) ((tv2 b nb).trans tb) (by decide) (by decide) 4]; exact congrArg some ((q3 20 b (nep b nb)).trans ((m5 20 b nb (by decide)).trans h6))
  have tpl2 : tg v2 (plB c b) = 1 := (tv2 _ np).trans k2.1.1
  have eop2 : oa v2 (plB c b) = P.map some := (q2 _).trans eop1
  obtain ⟨g3, a1, S3, a3, a4⟩ := S2.add (b := plB c b) (x := nx g) tpl2 z1 z2 (by rw [q1, tp1]; decide) (by rw [q1, tp1]; decide) (by rw [eop2, List.length_map]; omega)
  have eo3 : oa v2 (plB c b) ++ [some (nx g)] = (P ++ [nx g]).map some := by rw [eop2, List.map_append]; rfl
  rw [eo3] at S3
  obtain ⟨v3, hv3⟩ : ∃ v3, v3 = setO v2 (plB c b) ((P ++ [nx g]).map some) := ⟨_, rfl⟩
  rw [← hv3] at S3
  have r1 : ∀ a, tg v3 a = tg v2 a := fun a => by rw [hv3]; rfl
  have r2 : ∀ k a, fi v3 k a = fi v2 k a := fun k a => by rw [hv3]; rfl
  have r3 : ∀ k a, fr v3 k a = fr v2 k a := fun k a => by rw [hv3]; rfl
  have r4 : ∀ a, a ≠ plB c b → oa v3 a = oa v2 a := fun a h => by rw [hv3, oa_setO, if_neg h]
  have r5 : oa v3 (plB c b) = (P ++ [nx g]).map some := by rw [hv3, oa_setO, if_pos rfl]
  have lne : rlB c b ≠ plB c b := k1.ne k2 (by decide)
  have hol : oa g3 (rlB c b) = (rowB c b).map some := by
    rw [S3.2.2.2.1 (rlB c b) (by rw [r1, tv2 _ nl]; exact k1.1.1) (k1.z1 j.gg (by decide)) (k1.z2 j.gg (by decide)), r4 _ lne, q2, oa_nwC, if_neg (nep _ nl), m2 _ k1.1.1 lne]
    exact k1.oc
  obtain ⟨w', v', x1, S4, x3, x3', x4, x5, x6, x7, x8⟩ := a7_loop (p := nx g) (R := rowB c b) hR l16 he2 tb h2 h3 h4 k1.1.1 FU i g3 v3 (by show _ < 4096; omega) (by omega) S3 (fun a h => (r1 a).trans (tv2 a h)) (fun k a h hk => by rw [r3, q3 k a (nep a h)]; exact m5 k a h hk) hol
  have e3g : Z 3 ≠ nx g := S.ne (a := Z 3) (by rw [S.2.2.2.2.2.2.2.2.2.1]; decide)
  have e3g2 : Z 3 ≠ nx g2 := S2.ne (a := Z 3) (by rw [S2.2.2.2.2.2.2.2.2.2.1]; decide)
  have hfi : f ∈ ((rowB c b).take (e + 1)).drop i := List.mem_of_getElem? (i := 0) (by rw [List.getElem?_drop, List.getElem?_take, if_pos (by omega)]; exact hf)
  have u1 : ∀ a, tg v' a = if a = nx g then 6 else tg v a := fun a => by rw [x4, r1, q1, tg_nwC]
  have u2 : ∀ k a, a ≠ nx g → fi v' k a = fi v k a := fun k a h => by rw [x5, r2, q4 k a h]
  have u3 : ∀ k a, a ≠ nx g → k ≠ 136 → fr v' k a = fr v k a := fun k a h hk => by rw [x7 k a hk, r3, q3 k a h]
  have u6 : ∀ x, x ≠ nx g → fr v' 136 x = if x ∈ ((rowB c b).take (e + 1)).drop i then some (nx g) else fr v 136 x := fun x h => by rw [x8, r3, q3 136 x h]
  have hPn : ∀ q ∈ P, q ≠ nx g := fun q hq => nevp q (by rw [(m9 q hq).2.1]; decide)
  have tn : (rowB c b).take (e + 1) = (rowB c b).take i ++ ((rowB c b).take (e + 1)).drop i := by
    have h := List.take_append_drop i ((rowB c b).take (e + 1))
    rw [List.take_take, Nat.min_eq_left (by omega)] at h
    exact h.symm
  refine ⟨w', v', nx g, ?_, S4, ?_, ?_, ⟨⟨⟨fun a h => ?_, fun k a h => ?_, fun k a h h1 h2 h3 => ?_, ?_, ?_⟩, ?_, ?_, ?_, ?_⟩, fun a h hne => ?_, ?_, fun a h => ?_, fun k a h hk => ?_, fun x h hx => ?_, fun x hx => ?_, ?_, fun q hq => ?_⟩, ?_⟩
  · have x1' : f_X0_addPiece_L70 b (Int32.ofNat e) (some (nx g)) FU (Int32.ofNat i) g3 = some w' := x1
    unfold f_X0_addPiece
    rw [eb3, Option.bind_some, S.rc (ci := 7) hRow.1, Option.bind_some, r_rget S hRow (by omega), Option.bind_some, Option.bind_some, S.rc (ci := 7) hRow.1, Option.bind_some, r_rget S hRow (by omega), Option.bind_some, hf, hz, if_neg sn, if_neg sn, eb4, Option.bind_some, S1.rc (ci := 0) tpl1, Option.bind_some, esz, Option.bind_some, eb31, Option.bind_some, eini, Option.bind_some, eb42, Option.bind_some, S2.rc (ci := 0) tpl2, Option.bind_some, a1, Option.bind_some]
    show Option.bind (f_X0_addPiece_L70 b (Int32.ofNat e) (some (nx g)) FU (Int32.ofNat i) g3) _ = _
    rw [x1']
    rfl
  · refine Spd.up (k1 := 1 + (0 + (1 + 0))) (m1 := 6 + (0 + (100 + 0))) ((Spd.nw S (t := 6)).tr (Spd.tr (g1 := g2) ?_ (a3.tr x3))) (by omega) (by omega)
    have t2 : 2 ≤ tg (nwC v (nx g) 6) (nx g) := by rw [tp1]; decide
    rw [← hg2]
    exact (((Spd.wI (Z := Z) (g := newG g 6 6 [] [])).tr (Spd.wR (S1.wI) t2)).tr (Spd.wR (S1.wI.wR t2) t2)).tr (Spd.wR ((S1.wI.wR t2).wR t2) t2) |>.tr Spd.wI
  · rw [x3', add_ia a1 e3g2, ← hg2]
    show ia (newG g 6 6 [] []) (Z 3) = _
    rw [ia_newG, if_neg e3g]
  · rw [u1, if_neg (nep a h)]; exact A.1 a h
  · rw [u2 k a (nep a h)]; exact A.2.1 k a h
  · rw [u3 k a (nep a h) h2]; exact m5 k a h h2
  · rw [x6, r4 _ (j.l.1.ne k2 (by decide)), q2, oa_nwC, if_neg (nep _ (by rw [j.l.1.1.1]; decide))]; exact A.2.2.2.1
  · rw [x6, r4 _ (j.l.2.1.ne k2 (by decide)), q2, oa_nwC, if_neg (nep _ (by rw [j.l.2.1.1.1]; decide))]; exact A.2.2.2.2
  · rw [x6, r4 _ (j.l.2.2.1.ne k2 (by decide)), q2, oa_nwC, if_neg (nep _ (by rw [j.l.2.2.1.1.1]; decide))]; exact s.1
  · rw [x6, r4 _ (j.l.2.2.2.1.ne k2 (by decide)), q2, oa_nwC, if_neg (nep _ (by rw [j.l.2.2.2.1.1.1]; decide))]; exact s.2.1
  · rw [x6, r4 _ (j.l.2.2.2.2.1.ne k2 (by decide)), q2, oa_nwC, if_neg (nep _ (by rw [j.l.2.2.2.2.1.1.1]; decide))]; exact s.2.2.1
  · rw [x6, r4 _ (j.l.2.2.2.2.2.ne k2 (by decide)), q2, oa_nwC, if_neg (nep _ (by rw [j.l.2.2.2.2.2.1.1]; decide))]; exact s.2.2.2
  · rw [x6, r4 _ hne, q2, oa_nwC, if_neg (nep a (by omega))]; exact m2 a h hne
  · rw [x6]; exact r5
  · rw [u1] at h
    by_cases e : a = nx g
    · right; rw [e]; simp
    · rw [if_neg e] at h
      rcases m4 a h with h | h
      · exact Or.inl h
      · exact Or.inr (List.mem_append_left _ h)
  · rw [u3 k a (nep a h) hk]; exact m5 k a h hk
  · rw [tn] at hx
    rw [u6 x (nep x h), if_neg fun z => hx (List.mem_append_right _ z)]
    exact m6 x h fun z => hx (List.mem_append_left _ z)
  · have hxR := List.mem_of_mem_take hx
    have hxn := nep x (isT_nz (hR x hxR))
    rw [u6 x hxn]
    by_cases e : x ∈ ((rowB c b).take (e + 1)).drop i
    · rw [if_pos e]; exact ⟨nx g, by simp, rfl⟩
    · rw [if_neg e]
      rw [tn] at hx
      obtain ⟨q, q1, q2⟩ := m7 x ((List.mem_append.mp hx).resolve_right e)
      exact ⟨q, List.mem_append_left _ q1, q2⟩
  · exact nodup_app m8 (List.nodup_cons.mpr ⟨List.not_mem_nil, List.nodup_nil⟩) fun x hx z => hPn x hx (List.mem_singleton.mp z)
  · rcases List.mem_append.mp hq with h | h
    · obtain ⟨y1, y2, y3⟩ := m9 q h
      have := hPn q h
      exact ⟨y1, by rw [u1, if_neg this]; exact y2, by rw [u3 85 q this (by decide)]; exact y3⟩
    · have := List.mem_singleton.mp h
      rw [this]
      exact ⟨hpc, by rw [u1, if_pos rfl], by rw [x7 85 _ (by decide), r3]; exact p85⟩
  · refine desc_snoc (desc_mv D (fun q hq => ?_) (fun k y hk hy => ?_)) ?_
    · have := hPn q hq
      exact ⟨by rw [u1, if_neg this], u3 81 q this (by decide), u2 84 q this, u3 82 q this (by decide), u3 83 q this (by decide)⟩
    · rw [hE] at hk
      rw [u6 y (nep y (isT_nz (hR y (List.mem_of_getElem? hy)))), if_neg (nodup_far (j.rN hb) hy hk)]
    · rw [hE]
      refine ⟨he1, by rw [u1, if_pos rfl], by rw [x7 81 _ (by decide), r3]; exact p81, by rw [x5, r2]; exact p84, f, z, hf, hz, by rw [x7 82 _ (by decide), r3]; exact p82, by rw [x7 83 _ (by decide), r3]; exact p83, ?_⟩
      rw [u6 f (nep f (isT_nz (hR f (List.mem_of_getElem? hf)))), if_pos hfi]
end Cut2
