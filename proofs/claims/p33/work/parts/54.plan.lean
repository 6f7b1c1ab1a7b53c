/-! Where the pieces of a row may end. -/
/-- a piece of the row may go from its place i to its place e -/
def PcE (c : HP) (R : List Nat) (i e : Nat) : Prop := i ≤ e ∧ e < R.length ∧ (e + 1 < R.length → ∃ z, R[e]? = some z ∧ fi c 99 (tA c z) ≠ 0) ∧ ∃ f z, R[i]? = some f ∧ R[e]? = some z ∧ tend c z - tst c f ≤ 600
def Plan (c : HP) (R : List Nat) : Nat → List Nat → Prop
  | i, [] => i = R.length
  | i, e :: es => PcE c R i e ∧ Plan c R (e + 1) es
def goodE (c : HP) (R : List Nat) (i : Nat) (x : Int32) : Prop := x = -1 ∨ ∃ e, x = Int32.ofNat e ∧ PcE c R i e
section Plan
variable {Z : Nat → Nat} {g c : HP}
theorem e_tail (S : Sim Z g c) (j : J Z c) {r : Nat} {R : List Nat} (hR : RowIs g c r R) {i f : Nat} (hf : R[i]? = some f) {K : Int32 → Int32 → Option Nat → Int32 → Option Int32}
    (hK : ∀ lo sp k x, R[k]? = some x → i ≤ k → goodE c R i lo → ∃ y, K lo sp (some x) (Int32.ofNat k + 1) = some y ∧ goodE c R i y) {lo sp : Int32} {k x : Nat} (hx : R[k]? = some x) (hik : i ≤ k) (hlo : goodE c R i lo) (h16 : R.length ≤ 40) :
    ∃ y, ((rcv 8 (some x) g).bind fun b11 => (f_X7_end b11 g).bind fun x12 => (gfI 8 4 (some f) g).bind fun x13 => (gfI 9 0 (some (Z 10)) g).bind fun x14 => (if x12 - x13 ≤ x14 then (gfR 8 3 (some b11) g).bind fun r15 => (gfI 6 3 r15 g).bind fun x16 =>
      (if x16 = 0 then (rcv 7 (some r) g).bind fun b17 => (f_X6_count b17 g).bind fun x18 => (if Int32.ofNat k = x18 - 1 then K (Int32.ofNat k) sp (some b11) (Int32.ofNat k + 1) else K lo sp (some b11) (Int32.ofNat k + 1)) else K (Int32.ofNat k) sp (some b11) (Int32.ofNat k + 1)) else some lo)) = some y ∧ goodE c R i y := by
  have ht := hR.tr hx
  have hft := hR.tr hf
  have hlt := (List.getElem?_eq_some_iff.mp hx).1
  have e4 : gfI 8 4 (some f) g = some (tst c f) := S.rdT hft.1 4 rfl
  have e0 : gfI 9 0 (some (Z 10)) g = some 600 := by
    rw [S.rdI (ci := 9) j.gg.2.2.2.2.2.2.2.2.1 (by decide) (by decide) (by decide) 0]
    exact congrArg some j.cc.2.2.1
  have e3 : gfI 6 3 (some (tA c x)) g = some (fi c 99 (tA c x)) := S.rdI (ci := 6) ht.2.2.2.2 (by decide) (by decide) (by decide) 3
  rw [S.rc (ci := 8) ht.1, Option.bind_some, r_end S ht.1, Option.bind_some, e4, Option.bind_some, e0, Option.bind_some]
  by_cases h1 : tend c x - tst c f ≤ 600
  · rw [if_pos h1, rT_to S ht, Option.bind_some, e3, Option.bind_some]
    by_cases h2 : fi c 99 (tA c x) = 0
    · rw [if_pos h2, S.rc (ci := 7) hR.1, Option.bind_some, r_count S hR, Option.bind_some, show Int32.ofNat R.length - 1 = Int32.ofNat (R.length - 1) from nSub (b := 1) (by omega)]
      by_cases h3 : k = R.length - 1
      · rw [if_pos (by rw [h3])]
        exact hK _ _ k x hx hik (Or.inr ⟨k, rfl, hik, hlt, fun z => by omega, f, x, hf, hx, h1⟩)
      · rw [if_neg (fun z => h3 ((nEq (by omega) (by omega)).mp z))]
        exact hK _ _ k x hx hik hlo
    · rw [if_neg h2]
      exact hK _ _ k x hx hik (Or.inr ⟨k, rfl, hik, hlt, fun _ => ⟨x, hx, h2⟩, f, x, hf, hx, h1⟩)
  · rw [if_neg h1]
    exact ⟨lo, rfl, hlo⟩
theorem e_loop (S : Sim Z g c) (j : J Z c) {r : Nat} {R : List Nat} (hR : RowIs g c r R) {i f : Nat} (hf : R[i]? = some f) (h16 : R.length ≤ 40) : ∀ (m k : Nat) (lo sp : Int32) (ah : Option Nat), R.length - k < m → k ≤ R.length → i ≤ k → goodE c R i lo → (∀ a, ah = some a → IsT c a) →
    ∃ y, f_X8_endOfLongest_L18 (Z 10) r (some f) g m lo sp ah (Int32.ofNat k) = some y ∧ goodE c R i y := by
  intro m
  induction m with
  | zero => intro k lo sp ah hm; omega
  | succ m ih =>
    intro k lo sp ah hm hk hik hlo hah
    have e1 : gfI 9 1 (some (Z 10)) g = some 240 := by
      rw [S.rdI (ci := 9) j.gg.2.2.2.2.2.2.2.2.1 (by decide) (by decide) (by decide) 1]
      exact congrArg some j.cc.2.2.2
    rw [f_X8_endOfLongest_L18, S.rc (ci := 7) hR.1, Option.bind_some, r_count S hR, Option.bind_some]
    by_cases hc : R.length ≤ k
    · rw [if_pos ((nLe (by omega) (by omega)).mpr hc)]
      exact ⟨lo, rfl, hlo⟩
    · obtain ⟨x, hx⟩ : ∃ x, R[k]? = some x := ⟨_, List.getElem?_eq_getElem (by omega)⟩
      have ht := hR.tr hx
      have e5 : gfI 8 5 (some x) g = some (tmn c x) := S.rdT ht.1 5 rfl
      have hK : ∀ lo sp k x, R[k]? = some x → R.length - (k + 1) < m → i ≤ k → goodE c R i lo → ∃ y, f_X8_endOfLongest_L18 (Z 10) r (some f) g m lo sp (some x) (Int32.ofNat k + 1) = some y ∧ goodE c R i y := fun lo sp k x hx hm hik hlo => by
        rw [show Int32.ofNat k + 1 = Int32.ofNat (k + 1) from nAdd k 1]
        exact ih (k + 1) lo sp (some x) hm (by have := (List.getElem?_eq_some_iff.mp hx).1; omega) (by omega) hlo (fun a ha => by cases ha; exact hR.tr hx)
      rw [if_neg (fun z => hc ((nLe (by omega) (by omega)).mp z)), if_neg sn, hR.l S, Option.bind_some, hR.v S, Option.bind_some, hR.at S hx, Option.bind_some, S.cs (ci := 8) ht.1, Option.bind_some]
      have tail : ∀ sp, ∃ y, ((rcv 8 (some x) g).bind fun b11 => (f_X7_end b11 g).bind fun x12 => (gfI 8 4 (some f) g).bind fun x13 => (gfI 9 0 (some (Z 10)) g).bind fun x14 => (if x12 - x13 ≤ x14 then (gfR 8 3 (some b11) g).bind fun r15 => (gfI 6 3 r15 g).bind fun x16 =>
          (if x16 = 0 then (rcv 7 (some r) g).bind fun b17 => (f_X6_count b17 g).bind fun x18 => (if Int32.ofNat k = x18 - 1 then f_X8_endOfLongest_L18 (Z 10) r (some f) g m (Int32.ofNat k) sp (some b11) (Int32.ofNat k + 1) else f_X8_endOfLongest_L18 (Z 10) r (some f) g m lo sp (some b11) (Int32.ofNat k + 1)) else f_X8_endOfLongest_L18 (Z 10) r (some f) g m (Int32.ofNat k) sp (some b11) (Int32.ofNat k + 1)) else some lo)) = some y ∧ goodE c R i y := fun sp =>
        e_tail S j hR hf (K := fun lo sp ah k' => if k' = Int32.ofNat k + 1 then f_X8_endOfLongest_L18 (Z 10) r (some f) g m lo sp ah k' else some (-1)) (fun lo sp k2 x2 hx2 hik2 hlo2 => by
          show ∃ y, (if Int32.ofNat k2 + 1 = Int32.ofNat k + 1 then _ else some (-1)) = some y ∧ _
          by_cases he : k2 = k
          · rw [he, if_pos rfl]
            exact hK lo sp k x2 (by rw [← he]; exact hx2) (by omega) hik hlo2
          · have hlt2 := (List.getElem?_eq_some_iff.mp hx2).1
            rw [if_neg (fun z => he ?_)]
            · exact ⟨-1, rfl, Or.inl rfl⟩
            · rw [show Int32.ofNat k2 + 1 = Int32.ofNat (k2 + 1) from nAdd k2 1, show Int32.ofNat k + 1 = Int32.ofNat (k + 1) from nAdd k 1] at z
              have := (nEq (by omega) (by omega)).mp z
              omega) (sp := sp) hx hik hlo h16 |> fun h => by simpa only [if_pos] using h
      cases ah with
      | none =>
        rw [if_pos rfl, e5, Option.bind_some, e1, Option.bind_some]
        by_cases h1 : 240 < sp + tmn c x
        · rw [if_pos h1]; exact ⟨lo, rfl, hlo⟩
        · rw [if_neg h1]
          have h := tail (sp + tmn c x)
          rw [S.rc (ci := 7) hR.1] at h
          exact h
      | some a =>
        have ha := hah a rfl
        rw [if_neg sn, S.rc (ci := 8) ha.1, Option.bind_some, r_tEmpty S ha ht, Option.bind_some, e1, Option.bind_some]
        by_cases h1 : sp + dist c (tA c a) (fA c x) ≤ 240
        · rw [if_pos h1, S.rc (ci := 8) ht.1, Option.bind_some, r_wait S ht ha, Option.bind_some]
          have key : ∀ q, ∃ y, ((gfI 8 5 (some x) g).bind fun x25 => (gfI 9 1 (some (Z 10)) g).bind fun x26 => (if x26 < q + x25 then some lo else (rcv 8 (some x) g).bind fun b27 => (f_X7_end b27 g).bind fun x28 => (gfI 8 4 (some f) g).bind fun x29 => (gfI 9 0 (some (Z 10)) g).bind fun x30 => (if x28 - x29 ≤ x30 then (gfR 8 3 (some x) g).bind fun r31 => (gfI 6 3 r31 g).bind fun x32 =>
              (if x32 = 0 then (rcv 7 (some r) g).bind fun b33 => (f_X6_count b33 g).bind fun x34 => (if Int32.ofNat k = x34 - 1 then f_X8_endOfLongest_L18 (Z 10) r (some f) g m (Int32.ofNat k) (q + x25) (some x) (Int32.ofNat k + 1) else f_X8_endOfLongest_L18 (Z 10) r (some f) g m lo (q + x25) (some x) (Int32.ofNat k + 1)) else f_X8_endOfLongest_L18 (Z 10) r (some f) g m (Int32.ofNat k) (q + x25) (some x) (Int32.ofNat k + 1)) else some lo))) = some y ∧ goodE c R i y := fun q => by
            rw [e5, Option.bind_some, e1, Option.bind_some]
            by_cases h2 : 240 < q + tmn c x
            · rw [if_pos h2]; exact ⟨lo, rfl, hlo⟩
            · rw [if_neg h2]
              have h := tail (q + tmn c x)
              rw [S.rc (ci := 8) ht.1, Option.bind_some] at h ⊢
              exact h
          by_cases h3 : (tst c x - tend c a) - dist c (tA c a) (fA c x) < 20
          · rw [if_pos h3, Option.bind_some]
            have h := key (sp + dist c (tA c a) (fA c x))
            rw [e1, S.rc (ci := 7) hR.1] at h
            exact h
          · rw [if_neg h3, Option.bind_some]
            have h := key 0
            rw [e1, S.rc (ci := 7) hR.1] at h
            exact h
        · rw [if_neg h1]; exact ⟨lo, rfl, hlo⟩
theorem r_eol (S : Sim Z g c) (j : J Z c) {r : Nat} {R : List Nat} (hR : RowIs g c r R) {i : Nat} (hi : i < R.length) : ∃ y, f_X8_endOfLongest (Z 10) (some r) (Int32.ofNat i) g = some y ∧ goodE c R i y := by
  have h40 := hR.le
  obtain ⟨f, hf⟩ : ∃ x, R[i]? = some x := ⟨_, List.getElem?_eq_getElem hi⟩
  obtain ⟨y, h1, h2⟩ := e_loop S j hR hf h40 FU i (-1) 0 none (by show _ < 4096; omega) (by omega) (Nat.le_refl _) (Or.inl rfl) (fun a ha => by cases ha)
  refine ⟨y, ?_, h2⟩
  unfold f_X8_endOfLongest
  rw [S.rc (ci := 7) hR.1, Option.bind_some, r_rget S hR (by omega), Option.bind_some, hf, h1]
  rfl
end Plan
