/-! Changes of the county: what a change of a list leaves, numbers, and that the invariant lasts. -/
theorem map_getD (x : List Nat) : (x.map some).map (fun v : Option Nat => v.getD 0) = x := by
  rw [List.map_map]
  exact (List.map_congr_left (g := id) fun _ _ => rfl).trans (List.map_id x)
theorem refs_o {c : HP} {l a : Nat} {x : List (Option Nat)} (h : a ≠ l) : refs (setO c l x) a = refs c a := by
  unfold refs; rw [oa_setO, if_neg h]
theorem refs_self {c : HP} {l : Nat} {x : List Nat} : refs (setO c l (x.map some)) l = x := by
  unfold refs; rw [oa_setO, if_pos rfl, map_getD]
theorem refs_of {c : HP} {a : Nat} {x : List Nat} (h : oa c a = x.map some) : refs c a = x := by
  unfold refs; rw [h, map_getD]
theorem refs_eq {c c' : HP} {a : Nat} (h : oa c' a = oa c a) : refs c' a = refs c a := by
  unfold refs; rw [h]
/-- what every change but of lines, places and delays leaves; new objects may come -/
def Ag (Z : Nat → Nat) (c c' : HP) : Prop := (∀ a, tg c a ≠ 0 → tg c' a = tg c a) ∧ (∀ k a, tg c a ≠ 0 → fi c' k a = fi c k a) ∧ (∀ k a, tg c a ≠ 0 → k ≠ 135 → k ≠ 136 → k ≠ 85 → fr c' k a = fr c k a) ∧ (oa c' (Z 11) = oa c (Z 11) ∧ oa c' (Z 12) = oa c (Z 12))
theorem Ag.rf {Z : Nat → Nat} {c : HP} : Ag Z c c := ⟨fun _ _ => rfl, fun _ _ _ => rfl, fun _ _ _ _ _ _ => rfl, rfl, rfl⟩
theorem Ag.tr {Z : Nat → Nat} {c c1 c2 : HP} (A : Ag Z c c1) (B : Ag Z c1 c2) : Ag Z c c2 := by
  refine ⟨fun a h => (B.1 a (by rw [A.1 a h]; exact h)).trans (A.1 a h), fun k a h => (B.2.1 k a (by rw [A.1 a h]; exact h)).trans (A.2.1 k a h), fun k a h h1 h2 h3 => (B.2.2.1 k a (by rw [A.1 a h]; exact h) h1 h2 h3).trans (A.2.2.1 k a h h1 h2 h3), B.2.2.2.1.trans A.2.2.2.1, B.2.2.2.2.trans A.2.2.2.2⟩
theorem lk_cg {c c' : HP} {a o n : Nat} {k : Int32} (h : LK c a k o n) (ht : ∀ a, tg c a ≠ 0 → tg c' a = tg c a) (hf : fi c' 9 a = fi c 9 a) (hr : fr c' 9 a = fr c 9 a) (ho : oa c' a = oa c a) (hn : n ≠ 0) : LK c' a k o n := by
  obtain ⟨⟨h1, h2, h3, h4⟩, h5, h6⟩ := h
  have er := refs_eq ho
  refine ⟨⟨by rw [ht a (by omega)]; exact h1, by rw [ho, er]; exact h2, fun x hx => ?_, by rw [er]; exact h4⟩, hf.trans h5, hr.trans h6⟩
  rw [er] at hx
  have := h3 x hx
  rw [ht x (by omega)]; exact this
theorem lk_ag {Z : Nat → Nat} {c c' : HP} (A : Ag Z c c') {a o n : Nat} {k : Int32} (h : LK c a k o n) (ho : oa c' a = oa c a) (hn : n ≠ 0) : LK c' a k o n :=
  lk_cg h A.1 (A.2.1 9 a (by rw [h.1.1]; decide)) (A.2.2.1 9 a (by rw [h.1.1]; decide) (by decide) (by decide) (by decide)) ho hn
/-- a list's contents anew -/
theorem lk_nw {c c' : HP} {a o n : Nat} {k : Int32} (h : LK c a k o n) (ht : tg c' a = tg c a) (hf : fi c' 9 a = fi c 9 a) (hr : fr c' 9 a = fr c 9 a) {x : List Nat} (ho : oa c' a = x.map some) (hx : ∀ t ∈ x, tg c' t = n) (hl : x.length ≤ 40) : LK c' a k o n := by
  have er := refs_of ho
  exact ⟨⟨ht.trans h.1.1, by rw [ho, er], by rw [er]; exact hx, by rw [er]; exact hl⟩, hf.trans h.2.1, hr.trans h.2.2⟩
theorem ZT.ag {Z : Nat → Nat} {c c' : HP} (A : Ag Z c c') (h : ZT Z c) : ZT Z c' := by
  obtain ⟨h1, h2, h3, h4, h5, h6, h7⟩ := h
  exact ⟨by rw [A.1 _ (by omega)]; exact h1, by rw [A.1 _ (by omega)]; exact h2, by rw [A.1 _ (by omega)]; exact h3, by rw [A.1 _ (by omega)]; exact h4, by rw [A.1 _ (by omega)]; exact h5, h6, h7⟩
theorem JF.ag {Z : Nat → Nat} {c c' : HP} (A : Ag Z c c') (h : JF Z c) : JF Z c' := by
  obtain ⟨h0, h⟩ := h
  have n0 : tg c (Z 0) ≠ 0 := by omega
  have e : ∀ k, 160 ≤ k → fr c' k (Z 0) = fr c k (Z 0) := fun k hk => A.2.2.1 k _ n0 (by omega) (by omega) (by omega)
  unfold JF
  rw [A.1 _ n0, e 160 (by decide), e 161 (by decide), e 162 (by decide), e 163 (by decide), e 164 (by decide), e 165 (by decide), e 166 (by decide), e 167 (by decide), e 170 (by decide), e 171 (by decide), e 172 (by decide), e 173 (by decide)]
  exact ⟨h0, h⟩
theorem JG.ag {Z : Nat → Nat} {c c' : HP} (A : Ag Z c c') (h : JG Z c) : JG Z c' := by
  obtain ⟨h1, h2, h3, h4, h5, h6, h7, h8, h9, h10, h11, h12⟩ := h
  have z := ZT.ag A h12
  have e : ∀ k a, tg c a ≠ 0 → k < 85 ∨ k = 112 → fr c' k a = fr c k a := fun k a ha hk => A.2.2.1 k a ha (by omega) (by omega) (by omega)
  unfold JG
  rw [A.1 _ (show tg c (Z 6) ≠ 0 by omega), A.1 _ (show tg c (Z 7) ≠ 0 by omega), A.1 _ (show tg c (Z 8) ≠ 0 by omega), A.1 _ (show tg c (Z 9) ≠ 0 by omega), A.1 _ (show tg c (Z 10) ≠ 0 by omega), e 112 _ (show tg c (Z 6) ≠ 0 by omega) (Or.inr rfl), e 112 _ (show tg c (Z 7) ≠ 0 by omega) (Or.inr rfl),
    e 48 _ (show tg c (Z 8) ≠ 0 by omega) (Or.inl (by decide)), e 49 _ (show tg c (Z 8) ≠ 0 by omega) (Or.inl (by decide)), A.2.1 9 (Z 1) (by rw [h12.1]; decide), A.2.1 9 (Z 2) (by rw [h12.2.1]; decide)]
  exact ⟨h1, h2, h3, h4, h5, h6, h7, h8, h9, h10, h11, z⟩
theorem JC.ag {Z : Nat → Nat} {c c' : HP} (A : Ag Z c c') (f : JF Z c) (g : JG Z c) (h : JC Z c) : JC Z c' := by
  have n0 : tg c (Z 0) ≠ 0 := by rw [f.1]; decide
  have n1 : tg c (Z 10) ≠ 0 := by rw [g.2.2.2.2.2.2.2.2.1]; decide
  unfold JC
  rw [A.2.1 168 _ n0, A.2.1 169 _ n0, A.2.1 144 _ n1, A.2.1 145 _ n1]
  exact h
theorem ag_pls {Z : Nat → Nat} {c c' : HP} (A : Ag Z c c') : pls Z c' = pls Z c := refs_eq A.2.2.2.1
theorem ag_lns {Z : Nat → Nat} {c c' : HP} (A : Ag Z c c') : lns Z c' = lns Z c := refs_eq A.2.2.2.2
theorem JN.ag {Z : Nat → Nat} {c c' : HP} (A : Ag Z c c') (l : JL Z c) (h : JN Z c) : JN Z c' := by
  obtain ⟨h1, h2, h3⟩ := h
  unfold JN
  rw [ag_pls A, ag_lns A]
  refine ⟨h1, fun i p hp => ?_, fun i q hq => ?_⟩
  · have ht := l.1.tg hp
    unfold npx
    rw [A.2.1 96 p (by omega), A.2.1 97 p (by omega)]
    exact h2 i p hp
  · rw [A.2.1 64 q (by rw [l.2.1.tg hq]; decide)]
    exact h3 i q hq
/-- the invariant out of what a change may touch -/
theorem J.mk' {Z : Nat → Nat} {c c' : HP} (A : Ag Z c c') (j : J Z c) (hL : LK c' (Z 13) 3 0 9 ∧ LK c' (Z 14) 4 0 9 ∧ LK c' (Z 15) 5 0 2 ∧ LK c' (Z 16) 6 0 3) (hT : JT Z c') (hB : JB Z c') (hD : JD Z c') (hQ : JQ Z c') (hS : JS Z c') : J Z c' :=
  ⟨⟨j.f.ag A, j.gg.ag A, j.cc.ag A j.f j.gg, lk_ag A j.l.1 A.2.2.2.1 (by decide), lk_ag A j.l.2.1 A.2.2.2.2 (by decide), hL⟩, ⟨j.n.ag A j.l, hT, hB, hD, hQ⟩, hS⟩
/-- the four other lists are as they were -/
def Sl (Z : Nat → Nat) (c c' : HP) : Prop := oa c' (Z 13) = oa c (Z 13) ∧ oa c' (Z 14) = oa c (Z 14) ∧ oa c' (Z 15) = oa c (Z 15) ∧ oa c' (Z 16) = oa c (Z 16)
theorem Sl.lk {Z : Nat → Nat} {c c' : HP} (s : Sl Z c c') (A : Ag Z c c') (j : J Z c) : LK c' (Z 13) 3 0 9 ∧ LK c' (Z 14) 4 0 9 ∧ LK c' (Z 15) 5 0 2 ∧ LK c' (Z 16) 6 0 3 :=
  ⟨lk_ag A j.l.2.2.1 s.1 (by decide), lk_ag A j.l.2.2.2.1 s.2.1 (by decide), lk_ag A j.l.2.2.2.2.1 s.2.2.1 (by decide), lk_ag A j.l.2.2.2.2.2 s.2.2.2 (by decide)⟩
theorem Sl.rf {Z : Nat → Nat} {c : HP} : Sl Z c c := ⟨rfl, rfl, rfl, rfl⟩
theorem Sl.tr {Z : Nat → Nat} {c c1 c2 : HP} (A : Sl Z c c1) (B : Sl Z c1 c2) : Sl Z c c2 := ⟨B.1.trans A.1, B.2.1.trans A.2.1, B.2.2.1.trans A.2.2.1, B.2.2.2.trans A.2.2.2⟩
section Nums
variable {Z : Nat → Nat} {c c' : HP}
theorem tls_eq (s : oa c' (Z 13) = oa c (Z 13)) : tls Z c' = tls Z c := refs_eq s
theorem bss_eq (s : oa c' (Z 14) = oa c (Z 14)) : bss Z c' = bss Z c := refs_eq s
theorem bks_eq (s : oa c' (Z 15) = oa c (Z 15)) : bks Z c' = bks Z c := refs_eq s
theorem dvs_eq (s : oa c' (Z 16) = oa c (Z 16)) : dvs Z c' = dvs Z c := refs_eq s
theorem JS.ag (A : Ag Z c c') (j : J Z c) (s : Sl Z c c') : JS Z c' := by
  obtain ⟨h1, h2, h3⟩ := j.s
  unfold JS
  rw [tls_eq s.1, bss_eq s.2.1]
  refine ⟨h1, h2, h3.imp_of_mem fun {x y} hx hy h => ?_⟩
  unfold nst at *
  rw [A.2.1 132 x (by rw [(j.isT (h1 x hx)).1]; decide), A.2.1 132 y (by rw [(j.isT (h1 y hy)).1]; decide)]
  exact h
/-! what a trip's numbers are -/
theorem j_tst (j : J Z c) {t : Nat} (h : t ∈ tls Z c) : tst c t = Int32.ofNat (nst c t) ∧ nst c t ≤ 699 := by
  obtain ⟨_, _, _, k⟩ := j.tok h
  exact ⟨k.2.1.1, k.2.1.2.1⟩
theorem j_tmn (j : J Z c) {t : Nat} (h : t ∈ tls Z c) : tmn c t = Int32.ofNat (nmn c t) ∧ 5 ≤ nmn c t ∧ nmn c t ≤ 44 := by
  obtain ⟨_, _, _, k⟩ := j.tok h
  exact ⟨k.2.1.2.2.1, k.2.1.2.2.2.1, k.2.1.2.2.2.2.1⟩
theorem j_tdl (j : J Z c) {t : Nat} (h : t ∈ tls Z c) : fi c 134 t = Int32.ofNat (ndl c t) ∧ ndl c t ≤ 120 := by
  obtain ⟨_, _, _, k⟩ := j.tok h
  exact k.2.1.2.2.2.2.2
def nen (c : HP) (t : Nat) : Nat := nst c t + nmn c t
theorem j_tend (j : J Z c) {t : Nat} (h : t ∈ tls Z c) : tend c t = Int32.ofNat (nen c t) := by
  have h1 := (j_tst j h).1
  have h2 := (j_tmn j h).1
  unfold tst at h1
  unfold tmn at h2
  show fi c 132 t + fi c 133 t = _
  rw [h1, h2, nAdd]; rfl
theorem j_place (j : J Z c) {p : Nat} (h : p ∈ pls Z c) : fi c 97 p = Int32.ofNat (npx c p) ∧ npx c p ≤ 15 ∧ ∃ i, i < 8 ∧ (pls Z c)[i]? = some p ∧ fi c 96 p = Int32.ofNat i := by
  obtain ⟨i, hi⟩ := mem_at h
  obtain ⟨a, b, d⟩ := j.n.2.1 i p hi
  exact ⟨b, d, i, by have := (List.getElem?_eq_some_iff.mp hi).1; have := j.n.1.1; omega, hi, a⟩
def nds (c : HP) (p q : Nat) : Nat := if npx c q ≤ npx c p then npx c p - npx c q else npx c q - npx c p
theorem j_dist (j : J Z c) {p q : Nat} (hp : p ∈ pls Z c) (hq : q ∈ pls Z c) : dist c p q = Int32.ofNat (nds c p q) ∧ nds c p q ≤ 15 := by
  obtain ⟨a1, a2, -⟩ := j_place j hp
  obtain ⟨b1, b2, -⟩ := j_place j hq
  unfold dist nds
  rw [a1, b1]
  by_cases h : npx c q ≤ npx c p
  · rw [if_pos h, if_pos ((nLe (by omega) (by omega)).mpr h), nSub h]; exact ⟨rfl, by omega⟩
  · rw [if_neg h, if_neg (fun z => h ((nLe (by omega) (by omega)).mp z)), nSub (by omega)]; exact ⟨rfl, by omega⟩
theorem j_tpl (j : J Z c) {t : Nat} (h : t ∈ tls Z c) : fA c t ∈ pls Z c ∧ tA c t ∈ pls Z c ∧ lA c t ∈ lns Z c := by
  obtain ⟨_, _, _, k⟩ := j.tok h
  exact ⟨k.1.2.2.2.1, k.1.2.2.2.2, k.1.2.2.1⟩
theorem j_canF (j : J Z c) {a t : Nat} (ha : a ∈ tls Z c) (ht : t ∈ tls Z c) : canF c a t = true ↔ nen c a + nds c (tA c a) (fA c t) + 4 ≤ nst c t := by
  obtain ⟨d1, d2⟩ := j_dist j (j_tpl j ha).2.1 (j_tpl j ht).1
  obtain ⟨s1, s2⟩ := j_tst j ht
  have e1 := j_tend j ha
  have := (j_tst j ha).2
  have := (j_tmn j ha).2.2
  have e4 : (4 : Int32) = Int32.ofNat 4 := rfl
  unfold canF
  rw [decide_eq_true_iff, d1, e1, s1, e4, nAdd, nAdd, nLt (by omega) (by unfold nen; omega)]
  omega
theorem chn_lt (j : J Z c) {R : List Nat} (hR : ∀ t ∈ R, t ∈ tls Z c) (hc : chn c R) : ∀ (d i : Nat) (x y : Nat), R[i]? = some x → R[i + d]? = some y → nst c x + 9 * d ≤ nst c y := by
  intro d
  induction d with
  | zero =>
    intro i x y hx hy
    rw [Nat.add_zero, hx] at hy
    cases hy
    omega
  | succ d ih =>
    intro i x y hx hy
    have hlt := (List.getElem?_eq_some_iff.mp hy).1
    obtain ⟨z, hz⟩ : ∃ z, R[i + d]? = some z := ⟨_, List.getElem?_eq_getElem (by omega)⟩
    have h1 := ih i x z hx hz
    have h2 := (j_canF j (hR z (List.mem_of_getElem? hz)) (hR y (List.mem_of_getElem? hy))).mp (hc (i + d) z y hz hy)
    have := (j_tmn j (hR z (List.mem_of_getElem? hz))).2.1
    unfold nen at h2
    omega
end Nums
