/-! small ints -/
theorem n0 {n : Nat} (h : n < 2147483648) : (0 : Int32) ≤ Int32.ofNat n := by
  rw [Int32.le_iff_toInt_le, Int32.toInt_ofNat_small h]
  simp
theorem nN {n : Nat} (h : n < 2147483648) : (Int32.ofNat n).toNatClampNeg = n := Int32.toNatClampNeg_ofNat_of_lt h
theorem nEq {a b : Nat} (ha : a < 2147483648) (hb : b < 2147483648) : Int32.ofNat a = Int32.ofNat b ↔ a = b := by
  constructor
  · intro h
    have := congrArg Int32.toInt h
    rw [Int32.toInt_ofNat_small ha, Int32.toInt_ofNat_small hb] at this
    omega
  · intro h; rw [h]
theorem nLt {a b : Nat} (ha : a < 2147483648) (hb : b < 2147483648) : Int32.ofNat a < Int32.ofNat b ↔ a < b := by
  rw [Int32.lt_iff_toInt_lt, Int32.toInt_ofNat_small ha, Int32.toInt_ofNat_small hb]; omega
theorem nLe {a b : Nat} (ha : a < 2147483648) (hb : b < 2147483648) : Int32.ofNat a ≤ Int32.ofNat b ↔ a ≤ b := by
  rw [Int32.le_iff_toInt_le, Int32.toInt_ofNat_small ha, Int32.toInt_ofNat_small hb]; omega
theorem nAdd (a b : Nat) : Int32.ofNat a + Int32.ofNat b = Int32.ofNat (a + b) := by
  apply Int32.toBitVec_inj.mp
  simp [Int32.toBitVec_add]
theorem nSub {a b : Nat} (h : b ≤ a) : Int32.ofNat a - Int32.ofNat b = Int32.ofNat (a - b) := by
  have : Int32.ofNat a = Int32.ofNat (a - b) + Int32.ofNat b := by rw [nAdd, Nat.sub_add_cancel h]
  rw [this, Int32.add_sub_cancel]
theorem nHalf {a : Nat} (h : a < 100000) : Int32.ofNat a >>> ((1 : Int32) &&& 31) = Int32.ofNat (a / 2) := by
  have k := pk_shrN (n := a) (by omega) ((1 : Int32) &&& 31) 1 (by decide)
  rw [Nat.pow_one] at k
  exact k
theorem nOf {i : Int32} (h : 0 ≤ i) : i = Int32.ofNat i.toNatClampNeg := by
  have h0 : (0 : Int) ≤ i.toInt := by simpa using Int32.le_iff_toInt_le.mp h
  apply Int32.toInt_inj.mp
  have hlt : i.toNatClampNeg < 2147483648 := by
    have := Int32.toInt_lt i
    show i.toInt.toNat < _
    omega
  rw [Int32.toInt_ofNat_small hlt]
  show i.toInt = ((i.toInt.toNat : Nat) : Int)
  omega
theorem nlt31 (i : Int32) : i.toNatClampNeg < 2147483648 := by
  have := Int32.toInt_lt i
  show i.toInt.toNat < _
  omega
/-! what a change leaves -/
theorem tg_setI (g : HP) (k a : Nat) (v : Int32) : tg (setI g k a v) = tg g := rfl
theorem fi_setI (g : HP) (k a : Nat) (v : Int32) (j q : Nat) : fi (setI g k a v) j q = if j = k ∧ q = a then v else fi g j q := rfl
theorem fr_setI (g : HP) (k a : Nat) (v : Int32) : fr (setI g k a v) = fr g := rfl
theorem ia_setI (g : HP) (k a : Nat) (v : Int32) : ia (setI g k a v) = ia g := rfl
theorem oa_setI (g : HP) (k a : Nat) (v : Int32) : oa (setI g k a v) = oa g := rfl
theorem nx_setI (g : HP) (k a : Nat) (v : Int32) : nx (setI g k a v) = nx g := rfl
theorem sl_setI (g : HP) (k a : Nat) (v : Int32) : sl (setI g k a v) = sl g := rfl
theorem tg_setR (g : HP) (k a : Nat) (v : Option Nat) : tg (setR g k a v) = tg g := rfl
theorem fi_setR (g : HP) (k a : Nat) (v : Option Nat) : fi (setR g k a v) = fi g := rfl
theorem fr_setR (g : HP) (k a : Nat) (v : Option Nat) (j q : Nat) : fr (setR g k a v) j q = if j = k ∧ q = a then v else fr g j q := rfl
theorem ia_setR (g : HP) (k a : Nat) (v : Option Nat) : ia (setR g k a v) = ia g := rfl
theorem oa_setR (g : HP) (k a : Nat) (v : Option Nat) : oa (setR g k a v) = oa g := rfl
theorem nx_setR (g : HP) (k a : Nat) (v : Option Nat) : nx (setR g k a v) = nx g := rfl
theorem sl_setR (g : HP) (k a : Nat) (v : Option Nat) : sl (setR g k a v) = sl g := rfl
theorem tg_setO (g : HP) (a : Nat) (l : List (Option Nat)) : tg (setO g a l) = tg g := rfl
theorem fi_setO (g : HP) (a : Nat) (l : List (Option Nat)) : fi (setO g a l) = fi g := rfl
theorem fr_setO (g : HP) (a : Nat) (l : List (Option Nat)) : fr (setO g a l) = fr g := rfl
theorem ia_setO (g : HP) (a : Nat) (l : List (Option Nat)) : ia (setO g a l) = ia g := rfl
theorem oa_setO (g : HP) (a : Nat) (l : List (Option Nat)) (q : Nat) : oa (setO g a l) q = if q = a then l else oa g q := rfl
theorem nx_setO (g : HP) (a : Nat) (l : List (Option Nat)) : nx (setO g a l) = nx g := rfl
theorem sl_setO (g : HP) (a : Nat) (l : List (Option Nat)) : sl (setO g a l) = sl g := rfl
theorem tg_setA (g : HP) (a : Nat) (l : List Int32) : tg (setA g a l) = tg g := rfl
theorem fi_setA (g : HP) (a : Nat) (l : List Int32) : fi (setA g a l) = fi g := rfl
theorem fr_setA (g : HP) (a : Nat) (l : List Int32) : fr (setA g a l) = fr g := rfl
theorem ia_setA (g : HP) (a : Nat) (l : List Int32) (q : Nat) : ia (setA g a l) q = if q = a then l else ia g q := rfl
theorem oa_setA (g : HP) (a : Nat) (l : List Int32) : oa (setA g a l) = oa g := rfl
theorem nx_setA (g : HP) (a : Nat) (l : List Int32) : nx (setA g a l) = nx g := rfl
theorem sl_setA (g : HP) (a : Nat) (l : List Int32) : sl (setA g a l) = sl g := rfl
theorem tg_newG (g : HP) (t n : Nat) (il : List Int32) (ol : List (Option Nat)) (q : Nat) : tg (newG g t n il ol) q = if q = nx g then t else tg g q := rfl
theorem fi_newG (g : HP) (t n : Nat) (il : List Int32) (ol : List (Option Nat)) (j q : Nat) : fi (newG g t n il ol) j q = if q = nx g then 0 else fi g j q := rfl
theorem fr_newG (g : HP) (t n : Nat) (il : List Int32) (ol : List (Option Nat)) (j q : Nat) : fr (newG g t n il ol) j q = if q = nx g then none else fr g j q := rfl
theorem ia_newG (g : HP) (t n : Nat) (il : List Int32) (ol : List (Option Nat)) (q : Nat) : ia (newG g t n il ol) q = if q = nx g then il else ia g q := rfl
theorem oa_newG (g : HP) (t n : Nat) (il : List Int32) (ol : List (Option Nat)) (q : Nat) : oa (newG g t n il ol) q = if q = nx g then ol else oa g q := rfl
theorem nx_newG (g : HP) (t n : Nat) (il : List Int32) (ol : List (Option Nat)) : nx (newG g t n il ol) = nx g + 1 := rfl
theorem sl_newG (g : HP) (t n : Nat) (il : List Int32) (ol : List (Option Nat)) : sl (newG g t n il ol) = sl g + n := rfl
theorem tg_setT (g : HP) (a t q : Nat) : tg (setT g a t) q = if q = a then t else tg g q := rfl
/-! what an instruction answers -/
theorem gfI_eq {ci k a : Nat} {g : HP} (h : tg g a = ci + 1) : gfI ci k (some a) g = some (fi g (16 * ci + k) a) := if_pos h
theorem gfR_eq {ci k a : Nat} {g : HP} (h : tg g a = ci + 1) : gfR ci k (some a) g = some (fr g (16 * ci + k) a) := if_pos h
theorem pfI_eq {ci k a : Nat} {v : Int32} {g : HP} (h : tg g a = ci + 1) : pfI ci k (some a) v g = some (setI g (16 * ci + k) a v) := if_pos h
theorem pfR_eq {ci k a : Nat} {v : Option Nat} {g : HP} (h : tg g a = ci + 1) : pfR ci k (some a) v g = some (setR g (16 * ci + k) a v) := if_pos h
theorem pfZ_eq {ci k a : Nat} {v : Int32} {g : HP} (h : tg g a = ci + 1) (hv : v = 0 ∨ v = 1) : pfZ ci k (some a) v g = some (setI g (16 * ci + k) a v) := if_pos ⟨h, hv⟩
theorem rcv_eq {ci a : Nat} {g : HP} (h : tg g a = ci + 1) : rcv ci (some a) g = some a := if_pos h
theorem cst_eq {ci a : Nat} {g : HP} (h : tg g a = ci + 1) : cst ci (some a) g = some (some a) := if_pos h
theorem lnA_eq {a : Nat} {g : HP} (h : tg g a = 22 ∨ tg g a = 24) : lnA (some a) g = some (Int32.ofNat (oa g a).length) := if_pos h
theorem stA_eq {a n : Nat} {v : Option Nat} {g : HP} (h : tg g a = 22) (hn : n < 2147483648) (hl : n < (oa g a).length) (hv : okE g v = true) : stA (some a) (Int32.ofNat n) v g = some (setO g a ((oa g a).set n v)) := by
  unfold stA
  dsimp only
  rw [if_pos ⟨h, ⟨n0 hn, by rw [nN hn]; exact hl⟩, hv⟩, nN hn]
theorem ldA_eq {a n : Nat} {g : HP} (h : tg g a = 22) (hn : n < 2147483648) (hl : n < (oa g a).length) : ldA (some a) (Int32.ofNat n) g = some ((oa g a).getD n none) := by
  unfold ldA
  dsimp only
  rw [if_pos ⟨Or.inl h, n0 hn, by rw [nN hn]; exact hl⟩, nN hn]
theorem cpA_eq {a0 a sp dp n : Nat} {g : HP} (h0 : tg g a0 = 22) (h1 : tg g a = 22) (hs : sp < 2147483648) (hd : dp < 2147483648) (hn : n < 2147483648) (h4 : sp + n ≤ (oa g a0).length) (h5 : dp + n ≤ (oa g a).length) (he : (oa g a0).all (okE g) = true) :
    cpA (some a0) (Int32.ofNat sp) (some a) (Int32.ofNat dp) (Int32.ofNat n) g = some (setO g a (cpL (oa g a0) (oa g a) sp dp n)) := by
  unfold cpA
  dsimp only
  rw [nN hs, nN hd, nN hn, if_pos ⟨⟨h0, h1⟩, ⟨n0 hs, n0 hd, n0 hn⟩, ⟨h4, h5⟩, he⟩]
theorem nwA_eq {t n : Nat} {g : HP} (hn : n ≤ 65536) : nwA t (Int32.ofNat n) g = some (nx g, newG g t n [] (List.replicate n none)) := by
  have h : n < 2147483648 := by omega
  unfold nwA
  rw [nN h, if_pos ⟨n0 h, hn⟩]
/-! rows of references -/
theorem all_rep (f : Option Nat → Bool) (h : f none = true) (n : Nat) : (List.replicate n (none : Option Nat)).all f = true := by
  rw [List.all_eq_true]
  intro x hx
  rw [(List.mem_replicate.mp hx).2]; exact h
theorem all_app (f : Option Nat → Bool) (a b : List (Option Nat)) (h1 : a.all f = true) (h2 : b.all f = true) : (a ++ b).all f = true := by
  rw [List.all_append, h1, h2]; rfl
theorem set_end (l : List (Option Nat)) (c : Nat) (v : Option Nat) (h : l.length < c) : (l ++ List.replicate (c - l.length) none).set l.length v = (l ++ [v]) ++ List.replicate (c - (l ++ [v]).length) none := by
  have e : c - l.length = (c - (l.length + 1)) + 1 := by omega
  rw [List.set_append_right _ _ (Nat.le_refl _), Nat.sub_self, e, List.replicate_succ, List.set_cons_zero, List.append_assoc]
  simp
theorem cpL_len (f g : List (Option Nat)) (sp dp n : Nat) : (cpL f g sp dp n).length = g.length := by simp [cpL]
theorem cpL_get (f g : List (Option Nat)) (sp dp n k : Nat) (hk : k < g.length) : (cpL f g sp dp n)[k]? = some (if dp ≤ k ∧ k < dp + n then f.getD (sp + (k - dp)) none else g.getD k none) := by
  unfold cpL
  rw [List.getElem?_map, List.getElem?_range hk]; rfl
/-- a row copied into a longer one that is empty -/
theorem cpL_grow (l : List (Option Nat)) (n : Nat) (h : l.length ≤ n) : cpL l (List.replicate n none) 0 0 l.length = l ++ List.replicate (n - l.length) none := by
  apply List.ext_getElem?
  intro k
  by_cases hk : k < n
  · rw [cpL_get _ _ _ _ _ _ (by simpa using hk)]
    by_cases hl : k < l.length
    · rw [if_pos ⟨Nat.zero_le _, by omega⟩, List.getElem?_append_left hl]
      simp [List.getD_eq_getElem?_getD, hl]
    · rw [if_neg (by omega), List.getElem?_append_right (by omega)]
      have : k - l.length < n - l.length := by omega
      simp [List.getD_eq_getElem?_getD, hk, this]
  · rw [List.getElem?_eq_none (by rw [cpL_len]; simpa using Nat.not_lt.mp hk), List.getElem?_eq_none (by simp; omega)]
theorem cpL_ins (l : List (Option Nat)) (c i : Nat) (v : Option Nat) (hi : i ≤ l.length) (hc : l.length < c) :
    (cpL (l ++ List.replicate (c - l.length) none) (l ++ List.replicate (c - l.length) none) i (i + 1) (l.length - i)).set i v = (l.take i ++ v :: l.drop i) ++ List.replicate (c - (l.take i ++ v :: l.drop i).length) none := by
  have el : (l.take i ++ v :: l.drop i).length = l.length + 1 := by simp; omega
  have eL : (l ++ List.replicate (c - l.length) none).length = c := by simp; omega
  rw [el]
  apply List.ext_getElem?
  intro k
  by_cases hk : k < c
  · by_cases hki : k = i
    · subst hki
      rw [List.getElem?_set_self (by rw [cpL_len, eL]; exact hk), List.getElem?_append_left (by rw [el]; omega), List.getElem?_append_right (by simp; omega)]
      have : (l.take k).length = k := by simp; omega
      rw [this, Nat.sub_self]; rfl
    · rw [List.getElem?_set_ne (Ne.symm hki), cpL_get _ _ _ _ _ _ (by rw [eL]; exact hk)]
      by_cases hlt : k < i
      · rw [if_neg (by omega), List.getElem?_append_left (by rw [el]; omega), List.getElem?_append_left (by simp; omega), List.getElem?_take_of_lt hlt, List.getD_eq_getElem?_getD, List.getElem?_append_left (by omega)]
        rw [List.getElem?_eq_getElem (by omega : k < l.length)]; rfl
      · by_cases hle : k ≤ l.length
        · rw [if_pos (by omega), List.getElem?_append_left (by rw [el]; omega), List.getElem?_append_right (by simp; omega)]
          have e1 : (l.take i).length = i := by simp; omega
          have e2 : k - i = (k - i - 1) + 1 := by omega
          rw [e1, e2, List.getElem?_cons_succ, List.getElem?_drop, List.getD_eq_getElem?_getD, List.getElem?_append_left (by omega)]
          have e3 : i + (k - (i + 1)) = i + (k - i - 1) := by omega
          rw [e3, List.getElem?_eq_getElem (by omega : i + (k - i - 1) < l.length)]; rfl
        · rw [if_neg (by omega), List.getElem?_append_right (by rw [el]; omega), el, List.getD_eq_getElem?_getD, List.getElem?_append_right (by omega)]
          have h1 : k - l.length < c - l.length := by omega
          have h2 : k - (l.length + 1) < c - (l.length + 1) := by omega
          simp [h1, h2]
  · rw [List.getElem?_eq_none (by rw [List.length_set, cpL_len, eL]; omega), List.getElem?_eq_none (by rw [List.length_append, el]; simp; omega)]
theorem cpL_del (l : List (Option Nat)) (c i : Nat) (hi : i < l.length) (hc : l.length ≤ c) :
    (cpL (l ++ List.replicate (c - l.length) none) (l ++ List.replicate (c - l.length) none) (i + 1) i (l.length - 1 - i)).set (l.length - 1) none = l.eraseIdx i ++ List.replicate (c - (l.eraseIdx i).length) none := by
  have el : (l.eraseIdx i).length = l.length - 1 := by rw [List.length_eraseIdx_of_lt hi]
  have eL : (l ++ List.replicate (c - l.length) none).length = c := by simp; omega
  rw [el]
  apply List.ext_getElem?
  intro k
  by_cases hk : k < c
  · by_cases hkl : k = l.length - 1
    · subst hkl
      rw [List.getElem?_set_self (by rw [cpL_len, eL]; exact hk), List.getElem?_append_right (by rw [el]; omega), el, Nat.sub_self]
      have : 0 < c - (l.length - 1) := by omega
      simp [this]
    · rw [List.getElem?_set_ne (Ne.symm hkl), cpL_get _ _ _ _ _ _ (by rw [eL]; exact hk)]
      by_cases hlt : k < l.length - 1
      · rw [List.getElem?_append_left (by rw [el]; exact hlt), List.getElem?_eraseIdx]
        by_cases hki : k < i
        · rw [if_neg (by omega), if_pos hki, List.getD_eq_getElem?_getD, List.getElem?_append_left (by omega), List.getElem?_eq_getElem (by omega : k < l.length)]; rfl
        · rw [if_pos (by omega), if_neg hki, List.getD_eq_getElem?_getD]
          have e3 : i + 1 + (k - i) = k + 1 := by omega
          rw [e3, List.getElem?_append_left (by omega), List.getElem?_eq_getElem (by omega : k + 1 < l.length)]; rfl
      · rw [if_neg (by omega), List.getD_eq_getElem?_getD, List.getElem?_append_right (by omega), List.getElem?_append_right (by rw [el]; omega), el]
        have h1 : k - l.length < c - l.length := by omega
        have h2 : k - (l.length - 1) < c - (l.length - 1) := by omega
        simp [h1, h2]
  · rw [List.getElem?_eq_none (by rw [List.length_set, cpL_len, eL]; omega), List.getElem?_eq_none (by rw [List.length_append, el]; simp; omega)]
theorem del_last (l : List (Option Nat)) (c : Nat) (hl : 0 < l.length) (hc : l.length ≤ c) :
    (l ++ List.replicate (c - l.length) none).set (l.length - 1) none = l.eraseIdx (l.length - 1) ++ List.replicate (c - (l.eraseIdx (l.length - 1)).length) none := by
  have h := cpL_del l c (l.length - 1) (by omega) hc
  have e : cpL (l ++ List.replicate (c - l.length) none) (l ++ List.replicate (c - l.length) none) (l.length - 1 + 1) (l.length - 1) (l.length - 1 - (l.length - 1)) = l ++ List.replicate (c - l.length) none := by
    rw [Nat.sub_self]
    apply List.ext_getElem?
    intro k
    by_cases hk : k < (l ++ List.replicate (c - l.length) none).length
    · rw [cpL_get _ _ _ _ _ _ hk, if_neg (by omega), List.getD_eq_getElem?_getD, List.getElem?_eq_getElem hk]; rfl
    · rw [List.getElem?_eq_none (by rw [cpL_len]; omega), List.getElem?_eq_none (by omega)]
  rw [e] at h
  exact h
