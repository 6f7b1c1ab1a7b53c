/-! The pieces are planned: their ends come into an array of the county's own. -/
theorem ia_dropL {p2 : Nat} {q : Option Nat} {w : HP} : ∀ (m : Nat) (u : Int32) (g' : HP), f_X1_drop_L2 p2 q w m u = some g' → ia g' = ia w := by
  intro m
  induction m with
  | zero => intro u g' h; cases h
  | succ m ih =>
    intro u g' h
    rw [f_X1_drop_L2] at h
    obtain ⟨_, _, h⟩ := bd h
    obtain ⟨_, _, h⟩ := bd h
    obtain ⟨_, _, h⟩ := bd h
    split at h
    · cases h; rfl
    · obtain ⟨_, _, h⟩ := bd h
      obtain ⟨_, _, h⟩ := bd h
      obtain ⟨_, _, h⟩ := bd h
      split at h
      · obtain ⟨_, _, h⟩ := bd h
        obtain ⟨_, _, h⟩ := bd h
        obtain ⟨v, h1, h⟩ := bd h
        cases h
        unfold al_remove at h1
        split at h1
        · cases h1; rfl
        · cases h1
      · exact ih _ _ h
theorem ia_pfR {ci k : Nat} {r v : Option Nat} {g g' : HP} (h : pfR ci k r v g = some g') : ia g' = ia g := by
  unfold pfR at h
  split at h
  · cases h
  · split at h
    · cases h; rfl
    · cases h
theorem ia_release {b : Nat} {g g' : HP} (h : f_X4_release b g = some g') : ia g' = ia g := by
  unfold f_X4_release at h
  obtain ⟨_, _, h⟩ := bd h
  split at h
  · cases h; rfl
  · obtain ⟨_, _, h⟩ := bd h
    obtain ⟨_, _, h⟩ := bd h
    obtain ⟨_, h1, h⟩ := bd h
    obtain ⟨_, h2, h⟩ := bd h
    cases h
    exact (ia_pfR h2).trans (ia_dropL _ _ _ h1)
theorem ia_fg2 {b : Nat} : ∀ (m : Nat) (u : Int32) (w g' : HP), f_X0_forgetPieces_L2 b m u w = some g' → ia g' = ia w := by
  intro m
  induction m with
  | zero => intro u w g' h; cases h
  | succ m ih =>
    intro u w g' h
    rw [f_X0_forgetPieces_L2] at h
    obtain ⟨_, _, h⟩ := bd h
    obtain ⟨_, _, h⟩ := bd h
    obtain ⟨_, _, h⟩ := bd h
    split at h
    · cases h; rfl
    · obtain ⟨_, _, h⟩ := bd h
      obtain ⟨_, _, h⟩ := bd h
      obtain ⟨_, _, h⟩ := bd h
      obtain ⟨_, _, h⟩ := bd h
      obtain ⟨_, _, h⟩ := bd h
      obtain ⟨_, h1, h⟩ := bd h
      exact (ih _ _ _ h).trans (ia_release h1)
theorem ia_fg42 {b : Nat} : ∀ (m : Nat) (u : Int32) (w g' : HP), f_X0_forgetPieces_L42 b m u w = some g' → ia g' = ia w := by
  intro m
  induction m with
  | zero => intro u w g' h; cases h
  | succ m ih =>
    intro u w g' h
    rw [f_X0_forgetPieces_L42] at h
    obtain ⟨_, _, h⟩ := bd h
    obtain ⟨_, _, h⟩ := bd h
    obtain ⟨_, _, h⟩ := bd h
    split at h
    · cases h; rfl
    · obtain ⟨_, _, h⟩ := bd h
      obtain ⟨_, _, h⟩ := bd h
      obtain ⟨_, _, h⟩ := bd h
      obtain ⟨_, _, h⟩ := bd h
      obtain ⟨_, _, h⟩ := bd h
      obtain ⟨_, h1, h⟩ := bd h
      exact (ih _ _ _ h).trans (ia_pfR h1)
theorem ia_forget {b : Nat} {g g' : HP} (h : f_X0_forgetPieces b g = some g') : ia g' = ia g := by
  unfold f_X0_forgetPieces at h
  obtain ⟨_, h1, h⟩ := bd h
  obtain ⟨_, _, h⟩ := bd h
  obtain ⟨_, _, h⟩ := bd h
  obtain ⟨_, h2, h⟩ := bd h
  obtain ⟨_, h3, h⟩ := bd h
  cases h
  refine (ia_fg42 _ _ _ _ h3).trans (Eq.trans ?_ (ia_fg2 _ _ _ _ h1))
  unfold al_clear at h2
  split at h2
  · cases h2; rfl
  · cases h2
section Ends
variable {Z : Nat → Nat} {g c : HP}
theorem r_ln3 (S : Sim Z g c) : lnI (some (Z 3)) g = some 16 := by
  unfold lnI
  dsimp only
  rw [if_pos (Or.inl (S.tag (n := 19) S.2.2.2.2.2.2.2.2.2.1)), S.2.2.2.2.1.1]; rfl
theorem r_ld3 (S : Sim Z g c) {i : Nat} (hi : i < 16) : ldI (some (Z 3)) (Int32.ofNat i) g = some ((ia g (Z 3)).getD i 0) := by
  unfold ldI
  dsimp only
  rw [if_pos ⟨Or.inl (S.tag (n := 19) S.2.2.2.2.2.2.2.2.2.1), n0 (by omega), by rw [nN (by omega), S.2.2.2.2.1.1]; exact hi⟩, nN (by omega)]
theorem r_st3 (S : Sim Z g c) {i : Nat} {v : Int32} (hi : i < 16) : stI (some (Z 3)) (Int32.ofNat i) v g = some (setA g (Z 3) ((ia g (Z 3)).set i v)) := by
  unfold stI
  dsimp only
  rw [if_pos ⟨S.tag (n := 19) S.2.2.2.2.2.2.2.2.2.1, n0 (by omega), by rw [nN (by omega), S.2.2.2.2.1.1]; exact hi⟩, nN (by omega)]
theorem take_set {l : List Int32} {n : Nat} {v : Int32} (h : n < l.length) : (l.set n v).take (n + 1) = l.take n ++ [v] := by
  rw [List.take_add_one, List.take_set_of_le (Nat.le_refl _), List.getElem?_set_self h]
  rfl
theorem pl_loop (j : J Z c) {r : Nat} {R : List Nat} (h16 : R.length ≤ 16) : ∀ (m i : Nat) (E : List Nat) (w : HP), R.length - i < m → i ≤ R.length → E.length ≤ i → Sim Z w c → RowIs w c r R → (∀ es, Plan c R i es → Plan c R 0 (E ++ es)) → (ia w (Z 3)).take E.length = E.map Int32.ofNat →
    ∃ n w', f_X8_planPieces_L5 (Z 10) (some r) (some (Z 3)) m (Int32.ofNat i) (Int32.ofNat E.length) w = some (n, w') ∧ Sim Z w' c ∧ Spd Z 0 0 w w' ∧ (∀ a, oa w' a = oa w a) ∧
      (n = 0 ∨ ∃ E' : List Nat, E' ≠ [] ∧ n = Int32.ofNat E'.length ∧ E'.length ≤ 16 ∧ Plan c R 0 E' ∧ (ia w' (Z 3)).take E'.length = E'.map Int32.ofNat) := by
  intro m
  induction m with
  | zero => intro i E w hm; omega
  | succ m ih =>
    intro i E w hm hi hE S hR hP hA
    rw [f_X8_planPieces_L5, S.rc (ci := 7) hR.1, Option.bind_some, r_count S hR, Option.bind_some]
    by_cases hc : R.length ≤ i
    · rw [if_pos ((nLe (by omega) (by omega)).mpr hc)]
      refine ⟨_, w, rfl, S, Spd.rf, fun _ => rfl, ?_⟩
      by_cases h0 : E = []
      · left; rw [h0]; rfl
      · right
        have := hP [] (show i = R.length by omega)
        rw [List.append_nil] at this
        exact ⟨E, h0, rfl, by omega, this, hA⟩
    · obtain ⟨y, e1, e2⟩ := r_eol S j hR (i := i) (by omega)
      rw [if_neg (fun z => hc ((nLe (by omega) (by omega)).mp z)), r_ln3 S, Option.bind_some, if_neg (fun z => by have := (nLe (a := 16) (b := E.length) (by omega) (by omega)).mp z; omega), S.rc (ci := 9) j.gg.2.2.2.2.2.2.2.2.1, Option.bind_some]
      show ∃ n w', (Option.bind (f_X8_endOfLongest (Z 10) (some r) (Int32.ofNat i) w) _) = some (n, w') ∧ _
      rw [e1, Option.bind_some]
      rcases e2 with rfl | ⟨e, rfl, he⟩
      · rw [if_neg (Int32.not_le.mpr (Int32.lt_of_lt_of_le (by decide) (n0 (n := i) (by omega))))]
        exact ⟨0, w, rfl, S, Spd.rf, fun _ => rfl, Or.inl rfl⟩
      · obtain ⟨he1, he2, he3⟩ := id he
        rw [if_pos ((nLe (by omega) (by omega)).mpr he1), r_st3 S (by omega), Option.bind_some, show Int32.ofNat e + 1 = Int32.ofNat (e + 1) from nAdd e 1, show Int32.ofNat E.length + 1 = Int32.ofNat (E ++ [e]).length by rw [List.length_append]; exact nAdd E.length 1]
        have hl : (ia w (Z 3)).length = 16 := S.2.2.2.2.1.1
        have S1 : Sim Z (setA w (Z 3) ((ia w (Z 3)).set E.length (Int32.ofNat e))) c := S.wA (by rw [List.length_set]; exact hl)
        obtain ⟨n, w', k1, k2, k3, k4, k5⟩ := ih (e + 1) (E ++ [e]) _ (by omega) (by omega) (by rw [List.length_append, List.length_singleton]; omega) S1 (hR.same fun _ => rfl) (fun es hes => by
          rw [List.append_assoc]
          exact hP (e :: es) ⟨he, hes⟩) (by
          rw [ia_setA, if_pos rfl, List.length_append, List.length_singleton, take_set (by omega), hA, List.map_append]; rfl)
        exact ⟨n, w', k1, k2, (Spd.wA S (Or.inl rfl)).tr k3, fun a => k4 a, k5⟩
theorem r_plan (S : Sim Z g c) (j : J Z c) {r : Nat} {R : List Nat} (hR : RowIs g c r R) (h16 : R.length ≤ 16) : ∃ n g', f_X8_planPieces (Z 10) (some r) (some (Z 3)) g = some (n, g') ∧ Sim Z g' c ∧ Spd Z 0 0 g g' ∧ (∀ a, oa g' a = oa g a) ∧
      (n = 0 ∨ ∃ E' : List Nat, E' ≠ [] ∧ n = Int32.ofNat E'.length ∧ E'.length ≤ 16 ∧ Plan c R 0 E' ∧ (ia g' (Z 3)).take E'.length = E'.map Int32.ofNat) :=
  pl_loop j h16 FU 0 [] g (by show _ < 4096; omega) (Nat.zero_le _) (Nat.zero_le _) S hR (fun es h => h) rfl
end Ends
