theorem View.tb {κ : KK} {h g : HP} (V : View κ h g) {b : Nat} (hb : tg g b = 1) : tg h b = 0 + 1 := by rw [V.2.2.1, hb]; rfl
theorem View.te {κ : KK} {h g : HP} (V : View κ h g) {b : Nat} (hb : tg g b = 30) : tg h b = 22 := by rw [V.2.2.1, hb]; rfl
theorem View.tE {κ : KK} {h g : HP} (V : View κ h g) : tg h (kE κ) = 24 ∧ oa h (kE κ) = [] := by
  have h1 := V.2.2.2.2.2.2.2.1
  have hn : nonL (tg g (kE κ)) := by unfold nonL; omega
  exact ⟨by rw [V.2.2.1, h1]; rfl, by rw [V.2.2.2.2.2.1 _ hn]; exact V.2.2.2.2.2.2.2.2.1⟩
/-- how often a list was changed, nobody asks -/
theorem View.mod {κ : KK} {h g : HP} (V : View κ h g) {b : Nat} (hb : tg g b = 1) (x : Int32) : View κ (setI h 0 b x) g := by
  refine ⟨V.1, V.2.1, V.2.2.1, fun j q hq => ⟨?_, (V.2.2.2.1 j q hq).2⟩, V.2.2.2.2.1, V.2.2.2.2.2.1, fun a ha => ?_, V.2.2.2.2.2.2.2.1, V.2.2.2.2.2.2.2.2.1, fun a ha => by rw [fi_setI, if_neg (by omega)]; exact V.2.2.2.2.2.2.2.2.2 a ha⟩
  · rw [fi_setI, if_neg (fun z => hq.1 (by rw [z.2]; exact hb))]
    exact (V.2.2.2.1 j q hq).1
  · obtain ⟨q1, q2⟩ := V.2.2.2.2.2.2.1 a ha
    exact ⟨by rw [fi_setI, if_neg (by omega)]; exact q1, q2⟩
/-- what grow leaves -/
def Grown (h h' : HP) (b c : Nat) (l : List (Option Nat)) : Prop :=
  (∀ q, tg h' q = if q = nx h then 22 else tg h q) ∧ nx h' = nx h + 1 ∧ se h' = ((se h).1 + c, (se h).2) ∧ (∀ j q, q ≠ nx h → ¬ (j = 1 ∧ q = b) → fr h' j q = fr h j q) ∧ fr h' 1 b = some (nx h) ∧ (∀ q, q ≠ nx h → ia h' q = ia h q) ∧ ia h' (nx h) = [] ∧ (∀ j q, q ≠ nx h → fi h' j q = fi h j q) ∧ (∀ q, q ≠ nx h → oa h' q = oa h q) ∧ oa h' (nx h) = l ++ List.replicate (c - l.length) none
theorem grow_ok {κ : KK} {h g : HP} (V : View κ h g) (own : ∀ q, tg g q ≠ 0 → q < nx g) {b : Nat} (hb : tg g b = 1) (hfull : ¬ (oa g b).length < capL g b) (hlen : (oa g b).length ≤ 20000) :
    ∃ h', f_Jx4a65c_grow_d5877 (kE κ) (kM κ) b h = some (some (nx h), h') ∧ Grown h h' b (gcap (capL g b)) (oa g b) ∧ (oa g b).length < gcap (capL g b) ∧ gcap (capL g b) ≤ 40000 := by
  have tb := V.tb hb
  have hbn : b ≠ nx h := by have := own b (by omega); rw [V.1]; omega
  obtain ⟨q1, q2, q3, q4⟩ := V.2.2.2.2.2.2.1 b hb
  unfold f_Jx4a65c_grow_d5877
  rw [gfI_eq tb]
  dsimp only [Option.bind_some]
  rw [rcv_eq tb]
  dsimp only [Option.bind_some]
  unfold f_Jx4a65c_grow_92f84
  rw [gfR_eq tb]
  dsimp only [Option.bind_some]
  have e16 : 16 * 0 + 1 = 1 := rfl
  have e17 : 16 * 0 + 2 = 2 := rfl
  rw [e16, e17, q1]
  rcases q4 with ⟨w1, w2, w3⟩ | ⟨e, c, w1, w2, w3, w4, w5, w6, w7, w8⟩
  · have hcap : capL g b = 0 := by unfold capL; rw [w1]; rfl
    obtain ⟨tE, oE⟩ := V.tE
    rw [w3, lnA_eq (Or.inr tE), oE, w2]
    dsimp only [Option.bind_some, List.length_nil]
    rw [if_neg (by decide), if_pos rfl]
    have : (if (10 : Int32) < Int32.ofNat 0 + 1 then Int32.ofNat 0 + 1 else 10) = Int32.ofNat 10 := by decide
    rw [this, nwA_eq (by omega)]
    dsimp only [Option.bind_some]
    have tb' : tg (newG h 22 10 [] (List.replicate 10 none)) b = 0 + 1 := by rw [tg_newG, if_neg hbn]; exact tb
    rw [pfR_eq tb']
    dsimp only [Option.bind_some]
    refine ⟨_, rfl, ?_, ?_, ?_⟩
    · rw [hcap]
      refine ⟨fun q => rfl, rfl, rfl, fun j q h1 h2 => ?_, ?_, fun q h1 => ?_, ?_, fun j q h1 => ?_, fun q h1 => ?_, ?_⟩
      · rw [fr_setR, if_neg h2, fr_newG, if_neg h1]
      · rw [fr_setR, if_pos ⟨rfl, rfl⟩]
      · rw [ia_setR, ia_newG, if_neg h1]
      · rw [ia_setR, ia_newG, if_pos rfl]
      · rw [fi_setR, fi_newG, if_neg h1]
      · rw [oa_setR, oa_newG, if_neg h1]
      · rw [oa_setR, oa_newG, if_pos rfl]; rfl
    · rw [hcap]; decide
    · rw [hcap]; decide
  · have hcap : capL g b = c := by unfold capL; rw [w1]; rfl
    have hc : (oa g b).length = c := by rw [hcap] at hfull; omega
    have te := V.te w5
    have hen : e ≠ nx h := by have := own e (by omega); rw [V.1]; omega
    have oe : oa h e = oa g b := by rw [w8, hc, Nat.sub_self]; simp
    have c20 : c ≤ 20000 := by omega
    rw [w4, lnA_eq (Or.inl te), oe, hc]
    dsimp only [Option.bind_some]
    have h0c : (0 : Int32) < Int32.ofNat c := by
      have := (nLt (a := 0) (b := c) (by omega) (by omega)).mpr w2
      simpa using this
    rw [if_pos h0c]
    have e1 : Int32.ofNat c + 1 - Int32.ofNat c = Int32.ofNat 1 := by
      have : Int32.ofNat c + 1 = Int32.ofNat (c + 1) := nAdd c 1
      rw [this, nSub (by omega), Nat.add_sub_cancel_left]
    rw [e1, nHalf (by omega)]
    unfold f_J8_newLength_cabcc
    have e2 : Int32.ofNat c + (if Int32.ofNat 1 < Int32.ofNat (c / 2) then Int32.ofNat (c / 2) else Int32.ofNat 1) = Int32.ofNat (gcap c) := by
      unfold gcap
      rw [if_neg (show ¬ c = 0 by omega)]
      by_cases h2 : 1 < c / 2
      · rw [if_pos ((nLt (by omega) (by omega)).mpr h2), if_pos h2, nAdd]
      · rw [if_neg (fun z => h2 ((nLt (by omega) (by omega)).mp z)), if_neg h2, nAdd]
    have hg1 : c < gcap c ∧ gcap c ≤ 40000 := by
      unfold gcap
      rw [if_neg (show ¬ c = 0 by omega)]
      split <;> omega
    rw [e2, if_neg (by
      intro z
      have := (nLe (a := gcap c) (b := 0) (by omega) (by omega)).mp (by simpa using z)
      omega), if_neg (by
      intro z
      have h1 : Int32.ofNat 2147483647 ≥ Int32.ofNat 2147483639 := by decide
      have h2 : (2147483639 : Int32) = Int32.ofNat 2147483639 := by decide
      rw [h2] at z
      have := (nLt (a := 2147483639) (b := gcap c) (by omega) (by omega)).mp z
      omega)]
    dsimp only [Option.bind_some]
    unfold f_J7_copyOf_1904c
    have egt : gtC (some e) (kM κ) h = some (some (kM κ)) := if_pos te
    rw [egt]
    dsimp only [Option.bind_some]
    unfold f_J7_copyOf_6403c
    rw [if_pos rfl, nwA_eq (by omega)]
    dsimp only [Option.bind_some]
    have te' : tg (newG h 22 (gcap c) [] (List.replicate (gcap c) none)) e = 22 := by rw [tg_newG, if_neg hen]; exact te
    have oe' : oa (newG h 22 (gcap c) [] (List.replicate (gcap c) none)) e = oa g b := by rw [oa_newG, if_neg hen]; exact oe
    have tn' : tg (newG h 22 (gcap c) [] (List.replicate (gcap c) none)) (nx h) = 22 := by rw [tg_newG, if_pos rfl]
    have on' : oa (newG h 22 (gcap c) [] (List.replicate (gcap c) none)) (nx h) = List.replicate (gcap c) none := by rw [oa_newG, if_pos rfl]
    rw [lnA_eq (Or.inl te'), oe', hc]
    dsimp only [Option.bind_some]
    rw [if_neg (fun z => by have := (nLt (by omega) (by omega)).mp z; omega)]
    have hel : (oa (newG h 22 (gcap c) [] (List.replicate (gcap c) none)) e).all (okE (newG h 22 (gcap c) [] (List.replicate (gcap c) none))) = true := by
      rw [oe']
      rw [List.all_eq_true] at q3 ⊢
      intro v hv
      have h1 := V.okv (q3 v hv)
      have h2 := q3 v hv
      cases v with
      | none => rfl
      | some x =>
        have e' : (Nat.ble 1 (tg g x) && Nat.ble (tg g x) 11) = true := h2
        rw [Bool.and_eq_true] at e'
        have := Nat.le_of_ble_eq_true e'.1
        have hx : x ≠ nx h := by have := own x (by omega); rw [V.1]; omega
        show (Nat.ble 1 (tg _ x) && Nat.ble (tg _ x) 11) = true
        rw [tg_newG, if_neg hx]
        exact h1
    have hcp := cpA_eq (g := newG h 22 (gcap c) [] (List.replicate (gcap c) none)) (a0 := e) (a := nx h) (sp := 0) (dp := 0) (n := c) te' tn' (by omega) (by omega) (by omega) (by rw [oe', hc]; omega) (by rw [on', List.length_replicate]; omega) hel
    rw [oe', on'] at hcp
    have e0 : Int32.ofNat 0 = 0 := rfl
    rw [e0] at hcp
    rw [hcp]
    dsimp only [Option.bind_some]
    have tb' : tg (setO (newG h 22 (gcap c) [] (List.replicate (gcap c) none)) (nx h) (cpL (oa g b) (List.replicate (gcap c) none) 0 0 c)) b = 0 + 1 := by rw [tg_setO, tg_newG, if_neg hbn]; exact tb
    rw [pfR_eq tb']
    dsimp only [Option.bind_some]
    have ecp : cpL (oa g b) (List.replicate (gcap c) none) 0 0 c = oa g b ++ List.replicate (gcap c - (oa g b).length) none := by
      have := cpL_grow (oa g b) (gcap c) (by omega)
      rw [hc] at this ⊢
      exact this
    refine ⟨_, rfl, ?_, by rw [hcap]; exact hg1.1, by rw [hcap]; exact hg1.2⟩
    rw [hcap]
    refine ⟨fun q => rfl, rfl, rfl, fun j q h1 h2 => ?_, ?_, fun q h1 => ?_, ?_, fun j q h1 => ?_, fun q h1 => ?_, ?_⟩
    · rw [fr_setR, if_neg h2, fr_setO, fr_newG, if_neg h1]
    · rw [fr_setR, if_pos ⟨rfl, rfl⟩]
    · rw [ia_setR, ia_setO, ia_newG, if_neg h1]
    · rw [ia_setR, ia_setO, ia_newG, if_pos rfl]
    · rw [fi_setR, fi_setO, fi_newG, if_neg h1]
    · rw [oa_setR, oa_setO, if_neg h1, oa_newG, if_neg h1]
    · rw [oa_setR, oa_setO, if_pos rfl]; exact ecp
/-- before a new entry: the array behind, with room -/
theorem room_ok {κ : KK} {h g : HP} (V : View κ h g) {b : Nat} (hb : tg g b = 1) (hroom : (oa g b).length < capL g b) :
    ∃ e c, capL g b = c ∧ fr g 0 b = some c ∧ 0 < c ∧ c ≤ 40000 ∧ fr h 1 b = some e ∧ tg g e = 30 ∧ fr g 2 e = some b ∧ oa h e = oa g b ++ List.replicate (c - (oa g b).length) none := by
  obtain ⟨q1, q2, q3, q4⟩ := V.2.2.2.2.2.2.1 b hb
  rcases q4 with ⟨w1, w2, w3⟩ | ⟨e, c, w1, w2, w3, w4, w5, w6, w7, w8⟩
  · have : capL g b = 0 := by unfold capL; rw [w1]; rfl
    omega
  · exact ⟨e, c, by unfold capL; rw [w1]; rfl, w1, w2, w3, w4, w5, w6, w8⟩
/-- the length of the array behind, against the list's -/
theorem full_iff {κ : KK} {h g : HP} (V : View κ h g) {b : Nat} (hb : tg g b = 1) : ∃ r : Nat, fr h 1 b = some r ∧ lnA (some r) h = some (Int32.ofNat (capL g b)) ∧ (oa g b).length ≤ capL g b ∧ capL g b ≤ 40000 := by
  obtain ⟨q1, q2, q3, q4⟩ := V.2.2.2.2.2.2.1 b hb
  rcases q4 with ⟨w1, w2, w3⟩ | ⟨e, c, w1, w2, w3, w4, w5, w6, w7, w8⟩
  · have hc : capL g b = 0 := by unfold capL; rw [w1]; rfl
    obtain ⟨tE, oE⟩ := V.tE
    exact ⟨_, w3, by rw [lnA_eq (Or.inr tE), oE, hc]; rfl, by rw [w2]; simp, by omega⟩
  · have hc : capL g b = c := by unfold capL; rw [w1]; rfl
    refine ⟨_, w4, ?_, by omega, by omega⟩
    rw [lnA_eq (Or.inl (V.te w5)), w8, hc]
    congr 2
    simp; omega
