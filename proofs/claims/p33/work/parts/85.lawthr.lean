/-! Where the four throw, the county is as it was. -/
section LawThr
variable {Z : Nat → Nat} {g c c' : HP} {T : Nat} {xs rs fs : List Int32}
theorem try_f {α β : Type} {o : Option α} {x : Option HP} {k1 : α → Option β} {k2 : HP → Option β} {a : α} (h : o = some a) : tryG o x k1 k2 = k1 a := by rw [h]; rfl
theorem try_x {α β : Type} {o : Option α} {x : Option HP} {k1 : α → Option β} {k2 : HP → Option β} {h : HP} (h1 : o = none) (h2 : x = some h) : tryG o x k1 k2 = k2 (bump h 1 6 0) := by rw [h1, h2]; rfl
theorem xq_append (S : Sim Z g c) (j : J Z c) {i k b t : Nat} (hi : (bks Z c)[i]? = some b) (hk : (tls Z c)[k]? = some t) (hn : ¬ (fr c 135 t = none ∧ ∀ l, (rowB c b).getLast? = some l → canF c l t = true)) :
    f_X9_append (Z 0) (Int32.ofNat i) (Int32.ofNat k) g = none ∧ x_X9_append (Z 0) (Int32.ofNat i) (Int32.ofNat k) g = some g := by
  have hb := List.mem_of_getElem? hi
  have ht := List.mem_of_getElem? hk
  have hT := j.isT ht
  have hR := j.row S hb
  have e7 : gfR 8 7 (some t) g = some (fr c 135 t) := S.rdR (ci := 8) hT.1 (by decide) (by decide) 7
  have hi8 := bi31 j hi
  have hk16 := ti31 j hk
  cases hf : fr c 135 t with
  | some b' =>
    rw [hf] at e7
    constructor
    · unfold f_X9_append
      rw [rMv S j, Option.bind_some, j_blockNumbered S j (by omega), Option.bind_some, Option.bind_some, j_tripNumbered S j (by omega), Option.bind_some, hi, hk, if_neg sn, if_neg sn, j.rBr S hb, Option.bind_some, S.rc (ci := 7) hR.1, Option.bind_some, r_rlast S hR, Option.bind_some, e7, Option.bind_some, if_neg sn]
    · unfold x_X9_append
      rw [rMv S j, Option.bind_some, j_blockNumbered S j (by omega), Option.bind_some, Option.bind_some, j_tripNumbered S j (by omega), Option.bind_some, hi, hk, if_neg sn, if_neg sn, j.rBr S hb, Option.bind_some, S.rc (ci := 7) hR.1, Option.bind_some, r_rlast S hR, Option.bind_some, e7, Option.bind_some, if_neg sn]
  | none =>
    rw [hf] at e7
    obtain ⟨l, hl, hc⟩ : ∃ l, (rowB c b).getLast? = some l ∧ canF c l t = false := by
      cases hl : (rowB c b).getLast? with
      | none => exact absurd ⟨hf, fun l z => by rw [hl] at z; cases z⟩ hn
      | some l =>
        refine ⟨l, rfl, ?_⟩
        cases hc : canF c l t with
        | false => rfl
        | true => exact absurd ⟨hf, fun l' z => by rw [hl] at z; cases z; exact hc⟩ hn
    have hlm : l ∈ rowB c b := List.mem_of_getLast? hl
    have ec : f_X7_canFollow t (some l) g = some 0 := by rw [r_canFollow S hT (j.isT (j.rT hb hlm).1), hc]; rfl
    constructor
    · unfold f_X9_append
      rw [rMv S j, Option.bind_some, j_blockNumbered S j (by omega), Option.bind_some, Option.bind_some, j_tripNumbered S j (by omega), Option.bind_some, hi, hk, if_neg sn, if_neg sn, j.rBr S hb, Option.bind_some, S.rc (ci := 7) hR.1, Option.bind_some, r_rlast S hR, Option.bind_some, e7, Option.bind_some, if_pos rfl, hl, if_neg sn, S.rc (ci := 8) hT.1, Option.bind_some, ec, Option.bind_some, if_pos rfl]
      rfl
    · unfold x_X9_append
      rw [rMv S j, Option.bind_some, j_blockNumbered S j (by omega), Option.bind_some, Option.bind_some, j_tripNumbered S j (by omega), Option.bind_some, hi, hk, if_neg sn, if_neg sn, j.rBr S hb, Option.bind_some, S.rc (ci := 7) hR.1, Option.bind_some, r_rlast S hR, Option.bind_some, e7, Option.bind_some, if_pos rfl, hl, if_neg sn, S.rc (ci := 8) hT.1, Option.bind_some, ec, Option.bind_some, if_pos rfl]
theorem xq_swap (S : Sim Z g c) (j : J Z c) {i k x y s o : Nat} (hx : (bks Z c)[i]? = some x) (hy : (bks Z c)[k]? = some y) (hik : i ≠ k) (hs : s ≤ (rowB c x).length) (ho : o ≤ (rowB c y).length) (hc : csV c (rowB c x) s (rowB c y) o = false) :
    f_X9_swap (Z 0) (Int32.ofNat i) (Int32.ofNat s) (Int32.ofNat k) (Int32.ofNat o) g = none ∧ x_X9_swap (Z 0) (Int32.ofNat i) (Int32.ofNat s) (Int32.ofNat k) (Int32.ofNat o) g = some g := by
  have mx := List.mem_of_getElem? hx
  have my := List.mem_of_getElem? hy
  have lx := j.rlen mx
  have ly := j.rlen my
  have hR := j.row S mx
  have hT := j.row S my
  have hx8 := bi31 j hx
  have hy8 := bi31 j hy
  have eik : ¬ Int32.ofNat i = Int32.ofNat k := fun z => hik ((nEq (by omega) (by omega)).mp z)
  have z1 : f_X9_isOutside (Int32.ofNat s) 0 (Int32.ofNat (rowB c x).length) g = some 0 := nout (n0 (by omega)) ((nLe (by omega) (by omega)).mpr hs) g
  have z2 : f_X9_isOutside (Int32.ofNat o) 0 (Int32.ofNat (rowB c y).length) g = some 0 := nout (n0 (by omega)) ((nLe (by omega) (by omega)).mpr ho) g
  have ecs : f_X9_canSwap (some (rwA c x)) (Int32.ofNat s) (some (rwA c y)) (Int32.ofNat o) g = some 0 := by rw [r_canSwap S hR hT (by omega) (by omega), hc]; rfl
  constructor
  · unfold f_X9_swap
    rw [rMv S j, Option.bind_some, j_blockNumbered S j (by omega), Option.bind_some, Option.bind_some, j_blockNumbered S j (by omega), Option.bind_some, hx, hy, if_neg sn, if_neg sn, j.rBr S mx, Option.bind_some, j.rBr S my, Option.bind_some, if_neg eik, S.rc (ci := 7) hR.1, Option.bind_some, r_count S hR, Option.bind_some, z1, Option.bind_some, if_pos rfl, S.rc (ci := 7) hT.1, Option.bind_some, r_count S hT, Option.bind_some, z2, Option.bind_some, if_pos rfl, ecs, Option.bind_some, if_pos rfl]
  · unfold x_X9_swap
    rw [rMv S j, Option.bind_some, j_blockNumbered S j (by omega), Option.bind_some, Option.bind_some, j_blockNumbered S j (by omega), Option.bind_some, hx, hy, if_neg sn, if_neg sn, j.rBr S mx, Option.bind_some, j.rBr S my, Option.bind_some, if_neg eik, S.rc (ci := 7) hR.1, Option.bind_some, r_count S hR, Option.bind_some, z1, Option.bind_some, if_pos rfl, S.rc (ci := 7) hT.1, Option.bind_some, r_count S hT, Option.bind_some, z2, Option.bind_some, if_pos rfl, ecs, Option.bind_some, if_pos rfl]
theorem xq_cut (S : Sim Z g c) (j : J Z c) {i b : Nat} (hi : (bks Z c)[i]? = some b) {n : Int32} {g1 : HP} (h : f_X8_planPieces (Z 10) (some (rwA c b)) (some (Z 3)) g = some (n, g1)) (hn : n = 0) :
    f_X9_cut (Z 0) (Int32.ofNat i) g = none ∧ x_X9_cut (Z 0) (Int32.ofNat i) g = some g1 := by
  have hb := List.mem_of_getElem? hi
  have hi8 := bi31 j hi
  constructor
  · unfold f_X9_cut
    rw [rMv S j, Option.bind_some, j_blockNumbered S j (by omega), Option.bind_some, hi, if_neg sn, rM7 S j, Option.bind_some, j.rBr S hb, Option.bind_some, rM12 S j, Option.bind_some, S.rc (ci := 9) j.gg.2.2.2.2.2.2.2.2.1, Option.bind_some, h, Option.bind_some, if_pos hn]
  · unfold x_X9_cut
    rw [rMv S j, Option.bind_some, j_blockNumbered S j (by omega), Option.bind_some, hi, if_neg sn, rM7 S j, Option.bind_some, j.rBr S hb, Option.bind_some, rM12 S j, Option.bind_some, S.rc (ci := 9) j.gg.2.2.2.2.2.2.2.2.1, Option.bind_some, h, Option.bind_some, if_pos hn]
theorem xq_give (S : Sim Z g c) (j : J Z c) {i b k p n d : Nat} (hi : (bks Z c)[i]? = some b) (hk : (pcs c b)[k]? = some p) (hn : (dvs Z c)[n]? = some d) (h0 : ¬ (fr c 85 p = none ∧ CanG c d p)) :
    f_X9_give (Z 0) (Int32.ofNat i) (Int32.ofNat k) (Int32.ofNat n) g = none ∧ x_X9_give (Z 0) (Int32.ofNat i) (Int32.ofNat k) (Int32.ofNat n) g = some g := by
  have hb := List.mem_of_getElem? hi
  have hp := List.mem_of_getElem? hk
  have hd := List.mem_of_getElem? hn
  have hI : InP Z c p := ⟨b, hb, hp⟩
  have tp := (ag_InP_t j hI).1
  have hi8 := bi31 j hi
  have hn6 : n < 6 := by have := (List.getElem?_eq_some_iff.mp hn).1; have := j.d.1; omega
  have hk40 : k < 40 := by have := (List.getElem?_eq_some_iff.mp hk).1; have : (pcs c b).length ≤ 40 := (j.bz hb).2.2.2.1.2.2.2; omega
  have e5 : gfR 5 5 (some p) g = some (fr c 85 p) := S.rdR (ci := 5) tp (by decide) (by decide) 5
  cases hf : fr c 85 p with
  | some d' =>
    rw [hf] at e5
    constructor
    · unfold f_X9_give
      rw [rMv S j, Option.bind_some, j_pieceNumbered S j hi (by omega), Option.bind_some, Option.bind_some, j_driverNumbered S j (by omega), Option.bind_some, hk, hn, if_neg sn, if_neg sn, e5, Option.bind_some, if_neg sn]
    · unfold x_X9_give
      rw [rMv S j, Option.bind_some, j_pieceNumbered S j hi (by omega), Option.bind_some, Option.bind_some, j_driverNumbered S j (by omega), Option.bind_some, hk, hn, if_neg sn, if_neg sn, e5, Option.bind_some, if_neg sn]
  | none =>
    rw [hf] at e5
    have hG : ¬ CanG c d p := fun z => h0 ⟨hf, z⟩
    constructor
    · unfold f_X9_give
      rw [rMv S j, Option.bind_some, j_pieceNumbered S j hi (by omega), Option.bind_some, Option.bind_some, j_driverNumbered S j (by omega), Option.bind_some, hk, hn, if_neg sn, if_neg sn, e5, Option.bind_some, if_pos rfl, S.rc (ci := 2) (j.td hd), Option.bind_some, (r_canGet S j hd hI).2 hG, Option.bind_some, if_pos rfl]
    · unfold x_X9_give
      rw [rMv S j, Option.bind_some, j_pieceNumbered S j hi (by omega), Option.bind_some, Option.bind_some, j_driverNumbered S j (by omega), Option.bind_some, hk, hn, if_neg sn, if_neg sn, e5, Option.bind_some, if_pos rfl, S.rc (ci := 2) (j.td hd), Option.bind_some, (r_canGet S j hd hI).2 hG, Option.bind_some, if_pos rfl]
end LawThr
