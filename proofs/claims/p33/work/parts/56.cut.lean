/-! cut, as it answers. -/
/-- the county with a new object at the address a -/
def nwC (c : HP) (a t : Nat) : HP := newG (c.1, c.2.1, c.2.2.1, c.2.2.2.1, c.2.2.2.2.1, a, c.2.2.2.2.2.2) t 0 [] []
theorem tg_nwC (c : HP) (a t x : Nat) : tg (nwC c a t) x = if x = a then t else tg c x := rfl
theorem fi_nwC (c : HP) (a t k x : Nat) : fi (nwC c a t) k x = if x = a then 0 else fi c k x := rfl
theorem fr_nwC (c : HP) (a t k x : Nat) : fr (nwC c a t) k x = if x = a then none else fr c k x := rfl
theorem oa_nwC (c : HP) (a t x : Nat) : oa (nwC c a t) x = if x = a then [] else oa c x := rfl
section New
variable {Z : Nat → Nat} {g c v : HP}
theorem Sim.ne (S : Sim Z g c) {a : Nat} (h : tg c a ≠ 0) : a ≠ nx g := by have := S.lt h; omega
theorem Sim.fresh (S : Sim Z g c) : tg c (nx g) = 0 := Decidable.not_not.mp fun h => absurd (S.lt h) (Nat.lt_irrefl _)
theorem Sim.nw (S : Sim Z g c) {t n : Nat} (h2 : 2 ≤ t) (h11 : t ≤ 11) : Sim Z (newG g t n [] []) (nwC c (nx g) t) := by
  have far : ∀ a, tg c a ≠ 0 → a ≠ nx g := fun a h => S.ne h
  obtain ⟨s1, s2, s3, s4, s5, s6, s7, z1, z2, z3, z4, z5, z6, z7⟩ := S
  have f1 := far (Z 1) (by omega)
  have f2 := far (Z 2) (by omega)
  have f3 := far (Z 3) (by omega)
  have f4 := far (Z 4) (by omega)
  have f5 := far (Z 5) (by omega)
  refine ⟨fun a h => ?_, fun a j h1 h2 h3 => ?_, fun a j h1 h2 => ?_, fun a h1 h2 h3 => ?_, ?_, ?_, ?_, ?_⟩
  · rw [tg_nwC] at h
    rw [tg_newG, tg_nwC]
    by_cases e : a = nx g
    · rw [if_pos e, if_pos e]; exact ⟨rfl, by rw [e]; exact Nat.lt_succ_self _⟩
    · rw [if_neg e] at h ⊢
      rw [if_neg e]
      exact ⟨(s1 a h).1, Nat.lt_succ_of_lt (s1 a h).2⟩
  · rw [fi_newG, fi_nwC]
    by_cases e : a = nx g
    · rw [if_pos e, if_pos e]
    · rw [if_neg e, if_neg e]
      rw [tg_nwC, if_neg e] at h1 h2 h3
      exact s2 a j h1 h2 h3
  · rw [fr_newG, fr_nwC]
    by_cases e : a = nx g
    · rw [if_pos e, if_pos e]
    · rw [if_neg e, if_neg e]
      rw [tg_nwC, if_neg e] at h1 h2
      exact s3 a j h1 h2
  · rw [oa_newG, oa_nwC]
    rw [tg_nwC] at h1
    by_cases e : a = nx g
    · rw [if_pos e] at h1; omega
    · rw [if_neg e] at h1
      rw [if_neg e, if_neg e]
      exact s4 a h1 h2 h3
  · rw [ia_newG, ia_newG, ia_newG, if_neg f3, if_neg f4, if_neg f5]; exact s5
  · refine ⟨by rw [oa_newG, if_neg f1]; exact s6.1, ?_⟩
    unfold capL
    rw [fr_newG, if_neg f1]; exact s6.2
  · refine ⟨by rw [oa_newG, if_neg f2]; exact s7.1, ?_⟩
    unfold capL
    rw [fr_newG, if_neg f2]; exact s7.2
  · unfold ZT
    rw [tg_nwC, tg_nwC, tg_nwC, tg_nwC, tg_nwC, if_neg f1, if_neg f2, if_neg f3, if_neg f4, if_neg f5]
    exact ⟨z1, z2, z3, z4, z5, z6, z7⟩
theorem Spd.nw (S : Sim Z g c) {t n : Nat} : Spd Z 1 n g (newG g t n [] []) := by
  have f1 := S.ne (a := Z 1) (by rw [S.2.2.2.2.2.2.2.1]; decide)
  have f2 := S.ne (a := Z 2) (by rw [S.2.2.2.2.2.2.2.2.1]; decide)
  have ep : pot Z (newG g t n [] []) = pot Z g := by
    unfold pot capL
    rw [fr_newG, fr_newG, if_neg f1, if_neg f2]
  have en : nx (newG g t n [] []) = nx g + 1 := rfl
  have es : sl (newG g t n [] []) = sl g + n := rfl
  refine ⟨rfl, Nat.le_succ _, Nat.le_add_right _ _, by rw [ep, en]; omega, by rw [ep, es]; omega, fun a ha hl => ?_⟩
  have hne : a ≠ nx g := by omega
  rw [tg_newG, ia_newG, oa_newG, if_neg hne, if_neg hne, if_neg hne]
  exact ⟨rfl, fun _ _ _ => ⟨rfl, rfl⟩⟩
/-- what a new piece has -/
def PcF (v : HP) (R : List Nat) (r i e p : Nat) : Prop := i ≤ e ∧ tg v p = 6 ∧ fr v 81 p = some r ∧ fi v 84 p = Int32.ofNat (e - i + 1) ∧ ∃ f z, R[i]? = some f ∧ R[e]? = some z ∧ fr v 82 p = some f ∧ fr v 83 p = some z ∧ fr v 136 f = some p
def Desc (v : HP) (R : List Nat) (r : Nat) : Nat → List Nat → List Nat → Prop
  | _, [], [] => True
  | i, e :: es, p :: ps => PcF v R r i e p ∧ Desc v R r (e + 1) es ps
  | _, _, _ => False
def endI : Nat → List Nat → Nat
  | i, [] => i
  | _, e :: es => endI (e + 1) es
theorem desc_snoc {v : HP} {R : List Nat} {r e p : Nat} : ∀ {E P : List Nat} {i : Nat}, Desc v R r i E P → PcF v R r (endI i E) e p → Desc v R r i (E ++ [e]) (P ++ [p])
  | [], [], _, _, h => ⟨h, trivial⟩
  | [], _ :: _, _, h, _ => h.elim
  | _ :: _, [], _, h, _ => h.elim
  | _ :: _, _ :: _, _, h, h2 => ⟨h.1, desc_snoc h.2 h2⟩
theorem desc_le {v : HP} {R : List Nat} {r : Nat} : ∀ {E P : List Nat} {i : Nat}, Desc v R r i E P → i ≤ endI i E
  | [], [], _, _ => Nat.le_refl _
  | [], _ :: _, _, h => h.elim
  | _ :: _, [], _, h => h.elim
  | _ :: _, _ :: _, _, h => by have := desc_le h.2; have := h.1.1; unfold endI; omega
theorem desc_mv {v v' : HP} {R : List Nat} {r : Nat} : ∀ {E P : List Nat} {i : Nat}, Desc v R r i E P → (∀ p ∈ P, tg v' p = tg v p ∧ fr v' 81 p = fr v 81 p ∧ fi v' 84 p = fi v 84 p ∧ fr v' 82 p = fr v 82 p ∧ fr v' 83 p = fr v 83 p) → (∀ k f, k < endI i E → R[k]? = some f → fr v' 136 f = fr v 136 f) → Desc v' R r i E P
  | [], [], _, _, _, _ => trivial
  | [], _ :: _, _, h, _, _ => h.elim
  | _ :: _, [], _, h, _, _ => h.elim
  | e :: es, p :: ps, i, h, h1, h2 => by
    obtain ⟨⟨a0, a1, a2, a3, f, z, a4, a5, a6, a7, a8⟩, hd⟩ := h
    obtain ⟨b1, b2, b3, b4, b5⟩ := h1 p List.mem_cons_self
    have := desc_le hd
    refine ⟨⟨a0, by rw [b1]; exact a1, by rw [b2]; exact a2, by rw [b3]; exact a3, f, z, a4, a5, by rw [b4]; exact a6, by rw [b5]; exact a7, ?_⟩, desc_mv hd (fun q hq => h1 q (List.mem_cons_of_mem _ hq)) (fun k f hk => h2 k f hk)⟩
    rw [h2 i f (by show i < endI (e + 1) es; omega) a4]; exact a8
theorem endI_app : ∀ (E : List Nat) (i e : Nat), endI i (E ++ [e]) = e + 1
  | [], _, _ => rfl
  | x :: xs, _, e => endI_app xs (x + 1) e
theorem desc_cuts {v : HP} {R : List Nat} {r : Nat} (hR : ∀ t ∈ R, IsT v t) : ∀ {E P : List Nat} {i : Nat}, Desc v R r i E P → Plan v R i E → Cuts v R i P
  | [], [], _, _, h => h
  | [], _ :: _, _, h, _ => h.elim
  | _ :: _, [], _, h, _ => h.elim
  | e :: es, p :: ps, i, h, h2 => by
    obtain ⟨⟨a0, a1, a2, a3, f, z, a4, a5, a6, a7, a8⟩, hd⟩ := h
    obtain ⟨⟨b1, b2, b3, f', z', b4, b5, b6⟩, hp⟩ := h2
    have ef : pfA v p = f := by unfold pfA; rw [a6]; rfl
    have ez : pzA v p = z := by unfold pzA; rw [a7]; rfl
    have e1 : f' = f := by rw [a4] at b4; exact (Option.some.inj b4).symm
    have e2 : z' = z := by rw [a5] at b5; exact (Option.some.inj b5).symm
    refine ⟨e - i + 1, by omega, a3, by rw [ef]; exact a4, by rw [ez, ← a5]; congr 1; omega, fun hlt => ?_, by rw [ef, ez, ← e1, ← e2]; exact b6, ?_⟩
    · obtain ⟨z2, q1, q2⟩ := b3 (by omega)
      rw [a5] at q1
      rw [ez, Option.some.inj q1]; exact q2
    · have : i + (e - i + 1) = e + 1 := by omega
      rw [this]
      exact desc_cuts hR hd hp
theorem plan_ag {c' : HP} (A : Ag Z c c') {R : List Nat} (hR : ∀ t ∈ R, IsT c t) : ∀ {E : List Nat} {i : Nat}, Plan c R i E → Plan c' R i E
  | [], _, h => h
  | e :: es, i, ⟨⟨b1, b2, b3, f, z, b4, b5, b6⟩, hp⟩ => by
    refine ⟨⟨b1, b2, fun hlt => ?_, f, z, b4, b5, ?_⟩, plan_ag A hR hp⟩
    · obtain ⟨z2, q1, q2⟩ := b3 hlt
      have hz := hR z2 (List.mem_of_getElem? q1)
      refine ⟨z2, q1, ?_⟩
      rw [ag_tA A (isT_nz hz), A.2.1 99 _ (isT_tz hz)]; exact q2
    · rw [ag_tend A (isT_nz (hR z (List.mem_of_getElem? b5))), ag_tst A (isT_nz (hR f (List.mem_of_getElem? b4)))]; exact b6
/-- while the pieces P come: v is the heap's county, c the sound one behind which it comes -/
def Md (Z : Nat → Nat) (b : Nat) (c v : HP) (R : List Nat) (i : Nat) (P : List Nat) : Prop :=
  (Ag Z c v ∧ Sl Z c v) ∧ (∀ a, tg c a = 1 → a ≠ plB c b → oa v a = oa c a) ∧ oa v (plB c b) = P.map some ∧ (∀ a, tg v a ≠ 0 → tg c a ≠ 0 ∨ a ∈ P) ∧ (∀ k x, tg c x ≠ 0 → k ≠ 136 → fr v k x = fr c k x) ∧ (∀ x, tg c x ≠ 0 → x ∉ R.take i → fr v 136 x = fr c 136 x) ∧
  (∀ x ∈ R.take i, ∃ p ∈ P, fr v 136 x = some p) ∧ P.Nodup ∧ ∀ p ∈ P, tg c p = 0 ∧ tg v p = 6 ∧ fr v 85 p = none
theorem a7_loop {b r l p : Nat} {R : List Nat} (hR : ∀ t ∈ R, IsT c t) (h16 : R.length ≤ 16) {e : Nat} (he : e < R.length) (tb : tg c b = 2) (f19 : fr c 19 b = some r) (tr : tg c r = 8) (f112 : fr c 112 r = some l) (tl : tg c l = 1) : ∀ (m i : Nat) (w v : HP), e + 1 - i < m → i ≤ e + 1 → Sim Z w v → (∀ a, tg c a ≠ 0 → tg v a = tg c a) → (∀ k a, tg c a ≠ 0 → k ≠ 136 → fr v k a = fr c k a) → oa w l = R.map some →
    ∃ w' v', f_X0_addPiece_L70 b (Int32.ofNat e) (some p) m (Int32.ofNat i) w = some w' ∧ Sim Z w' v' ∧ Spd Z 0 0 w w' ∧ ia w' = ia w ∧ (∀ a, tg v' a = tg v a) ∧ (∀ k a, fi v' k a = fi v k a) ∧ (∀ a, oa v' a = oa v a) ∧ (∀ k a, k ≠ 136 → fr v' k a = fr v k a) ∧ ∀ x, fr v' 136 x = if x ∈ (R.take (e + 1)).drop i then some p else fr v 136 x := by
  intro m
  induction m with
  | zero => intro i w v hm; omega
  | succ m ih =>
    intro i w v hm hi S e1 e2 ho
    rw [f_X0_addPiece_L70]
    by_cases hc : e < i
    · rw [if_pos ((nLt (by omega) (by omega)).mpr hc)]
      exact ⟨w, v, rfl, S, Spd.rf, rfl, fun _ => rfl, fun _ _ => rfl, fun _ => rfl, fun _ _ _ => rfl, fun x => by rw [List.drop_eq_nil_of_le (by rw [List.length_take]; omega), if_neg List.not_mem_nil]⟩
    · obtain ⟨x, hx⟩ : ∃ x, R[i]? = some x := ⟨_, List.getElem?_eq_getElem (by omega)⟩
      have htc := hR x (List.mem_of_getElem? hx)
      have ht : tg v x = 9 := (e1 x (isT_nz htc)).trans htc.1
      have nb : tg c b ≠ 0 := by omega
      have nr : tg c r ≠ 0 := by omega
      have nl : tg c l ≠ 0 := by omega
      have g1 : gfR 1 3 (some b) w = some (some r) := by rw [S.rdR (ci := 1) ((e1 b nb).trans tb) (by decide) (by decide) 3]; exact congrArg some ((e2 19 b nb (by decide)).trans f19)
      have g2 : gfR 7 0 (some r) w = some (some l) := by rw [S.rdR (ci := 7) ((e1 r nr).trans tr) (by decide) (by decide) 0]; exact congrArg some ((e2 112 r nr (by decide)).trans f112)
      have g3 : al_get l (Int32.ofNat i) w = some (some x) := by
        unfold al_get
        rw [ho, nN (by omega), if_pos ⟨S.tag (n := 0) ((e1 l nl).trans tl), n0 (by omega), by rw [List.length_map]; omega⟩, List.getD_eq_getElem?_getD, List.getElem?_map, hx]
        rfl
      have S1 : Sim Z (setR w 136 x (some p)) (setR v 136 x (some p)) := S.wR (by rw [ht]; decide)
      have epf : pfR 8 8 (some x) (some p) w = some (setR w 136 x (some p)) := pfR_eq (ci := 8) (S.tag ht)
      obtain ⟨w', v', k1, k2, k3, k3', k4, k5, k6, k7, k8⟩ := ih (i + 1) _ _ (by omega) (by omega) S1 (fun a h => e1 a h) (fun k a h hk => by rw [fr_setR, if_neg fun z => hk z.1]; exact e2 k a h hk) ho
      rw [if_neg (fun z => hc ((nLt (by omega) (by omega)).mp z)), g1, Option.bind_some, g2, Option.bind_some, S.rc (ci := 0) ((e1 l nl).trans tl), Option.bind_some, g3, Option.bind_some, S.cs (ci := 8) ht, Option.bind_some, epf, Option.bind_some, show Int32.ofNat i + 1 = Int32.ofNat (i + 1) from nAdd i 1]
      have hx' : (R.take (e + 1))[i]? = some x := by rw [List.getElem?_take, if_pos (by omega)]; exact hx
      refine ⟨w', v', k1, k2, (Spd.wR S (by rw [ht]; decide)).tr k3, k3', k4, k5, k6, fun k a hk => (k7 k a hk).trans (by rw [fr_setR, if_neg fun z => hk z.1]), fun y => ?_⟩
      rw [k8, drop_cons hx', fr_setR]
      by_cases h1 : y ∈ (R.take (e + 1)).drop (i + 1)
      · rw [if_pos h1, if_pos (List.mem_cons_of_mem _ h1)]
      · rw [if_neg h1]
        by_cases h2 : y = x
        · rw [if_pos ⟨rfl, h2⟩, if_pos (by rw [h2]; exact List.mem_cons_self)]
        · rw [if_neg fun z => h2 z.2, if_neg fun z => (List.mem_cons.mp z).elim h2 h1]
end New
