theorem k_al_remove (l : Launch) (b : Nat) (i : Int32) (g : HP) : MM l Pi2 yJx4a65c_remove_915e3 cJx4a65c_remove_915e3 4 (some (.object "java/lang/Object")) 2 83 [vR (some b), vI i] g (wRg (al_remove b i g)) := fun κ => lift_MA (fun a ha => wRg_mono (al_remove_mono b i g) a ha) fun h V own a2 ha2 => by
  obtain ⟨w, hw, rfl⟩ := wRg_some ha2
  unfold al_remove at hw
  split at hw
  · rename_i hc
    obtain ⟨hb, h0, hi⟩ := hc
    cases hw
    have h2 := (V.2.2.2.2.2.2.1 b hb).2.1
    obtain ⟨e0, he0, hld⟩ := get_of V hb hi
    rw [← nOf h0] at hld
    have V1 := V.mod hb (fi h 0 b + 1)
    have tb := V1.tb hb
    have q3 := (V1.2.2.2.2.2.2.1 b hb).2.2.1
    have e1 : fi (setI h (16 * 0 + 0) b (fi h (16 * 0 + 0) b + 1)) (16 * 0 + 2) b = Int32.ofNat (oa g b).length := (V1.2.2.2.2.2.2.1 b hb).1
    have q4 := (V1.2.2.2.2.2.2.1 b hb).2.2.2
    have hk : ((oa g b).eraseIdx i.toNatClampNeg).all (okE g) = true := by
      rw [List.all_eq_true] at q3 ⊢
      exact fun x hx => q3 x (List.mem_of_mem_eraseIdx hx)
    have hel : ((oa g b).eraseIdx i.toNatClampNeg).length = (oa g b).length - 1 := List.length_eraseIdx_of_lt hi
    have main : ∃ h', f_Jx4a65c_remove_915e3 (kE κ) (kM κ) b i h = some ((oa g b).getD i.toNatClampNeg none, h') ∧ View κ h' (setO g b ((oa g b).eraseIdx i.toNatClampNeg)) := by
      unfold f_Jx4a65c_remove_915e3
      rw [gfI_eq (V.tb hb)]
      dsimp only [Option.bind_some]
      rw [show fi h (16 * 0 + 2) b = Int32.ofNat (oa g b).length from (V.2.2.2.2.2.2.1 b hb).1, chk_ok h0 hi (by omega)]
      dsimp only [Option.bind_some]
      rw [gfR_eq (V.tb hb)]
      dsimp only [Option.bind_some]
      rw [show fr h (16 * 0 + 1) b = some e0 from he0, hld]
      dsimp only [Option.bind_some]
      rw [rcv_eq (V.tb hb)]
      dsimp only [Option.bind_some]
      unfold f_Jx4a65c_fastRemove_b59b0
      rw [gfI_eq (V.tb hb)]
      dsimp only [Option.bind_some]
      rw [pfI_eq (V.tb hb)]
      dsimp only [Option.bind_some]
      rw [gfI_eq tb]
      dsimp only [Option.bind_some]
      rw [e1]
      rcases q4 with ⟨w1, w2, w3⟩ | ⟨e, c, w1, w2, w3, w4, w5, w6, w7, w8⟩
      · rw [w2] at hi; simp at hi
      · have ee : e0 = e := by
          have : fr h 1 b = some e := w4
          rw [he0] at this
          exact Option.some.inj this
        subst ee
        have te := V1.te w5
        have hbe : b ≠ e0 := fun z => by rw [z] at hb; omega
        have em : Int32.ofNat (oa g b).length - 1 = Int32.ofNat ((oa g b).length - 1) := nSub (a := (oa g b).length) (b := 1) (by omega)
        rw [em]
        have oE : oa (setI h (16 * 0 + 0) b (fi h (16 * 0 + 0) b + 1)) e0 = _ := w8
        have fin : ∀ (h3 : HP) (L : List (Option Nat)), L.set ((oa g b).length - 1) none = (oa g b).eraseIdx i.toNatClampNeg ++ List.replicate (c - ((oa g b).eraseIdx i.toNatClampNeg).length) none → h3 = setO (setI (setO (setI h (16 * 0 + 0) b (fi h (16 * 0 + 0) b + 1)) e0 L) 2 b (Int32.ofNat ((oa g b).length - 1))) e0 (L.set ((oa g b).length - 1) none) → View κ h3 (setO g b ((oa g b).eraseIdx i.toNatClampNeg)) := fun h3 L hL h3e => by
          refine View.put V1 hb w1 w2 w3 w4 w5 w6 (by omega) (by omega) hk (by rw [h3e]; rfl) (by rw [h3e]; rfl) (by rw [h3e]; rfl) (by rw [h3e]; rfl) (by rw [h3e]; rfl) (fun j q hq => ?_) (fun q hq => ?_) ?_ ?_
          · rw [h3e, fi_setO, fi_setI, if_neg (fun z => hq z.2)]; rfl
          · rw [h3e, oa_setO, if_neg hq, oa_setI, oa_setO, if_neg hq]
          · rw [h3e, fi_setO, fi_setI, if_pos ⟨rfl, rfl⟩, hel]
          · rw [h3e, oa_setO, if_pos rfl, hL]
        by_cases hlast : Int32.ofNat ((oa g b).length - 1) ≤ i
        · rw [if_pos hlast]
          dsimp only [Option.bind_some]
          rw [pfI_eq tb]
          dsimp only [Option.bind_some]
          have ei : i.toNatClampNeg = (oa g b).length - 1 := by
            rw [nOf h0] at hlast
            have := (nLe (by omega) (nlt31 i)).mp hlast
            omega
          rw [stA_eq (g := setI (setI h (16 * 0 + 0) b (fi h (16 * 0 + 0) b + 1)) (16 * 0 + 2) b (Int32.ofNat ((oa g b).length - 1))) (by rw [tg_setI]; exact te) (by omega) (by rw [oa_setI, oE]; simp; omega) rfl]
          refine ⟨_, rfl, fin _ (oa (setI h (16 * 0 + 0) b (fi h (16 * 0 + 0) b + 1)) e0) ?_ ?_⟩
          · rw [oE, ei]
            exact del_last _ _ (by omega) w7
          · have : ∀ (z : HP) (q : Nat), setO z q (oa z q) = z := fun z q => by
              unfold setO up1 oa
              obtain ⟨z1, z2, z3, z4, z5, z6⟩ := z
              simp only [Prod.mk.injEq, true_and, and_true]
              funext j
              by_cases hj : j = q <;> simp [hj]
            rw [this]; rfl
        · rw [if_neg hlast]
          have hlt : i.toNatClampNeg < (oa g b).length - 1 := by
            rw [nOf h0] at hlast
            have : ¬ ((oa g b).length - 1 ≤ i.toNatClampNeg) := fun z => hlast ((nLe (by omega) (nlt31 i)).mpr z)
            omega
          have ei : i + 1 = Int32.ofNat (i.toNatClampNeg + 1) := by
            have := nAdd i.toNatClampNeg 1
            rw [← nOf h0] at this
            exact this
          have es : Int32.ofNat ((oa g b).length - 1) - i = Int32.ofNat ((oa g b).length - 1 - i.toNatClampNeg) := by
            have := nSub (a := (oa g b).length - 1) (b := i.toNatClampNeg) (by omega)
            rw [← nOf h0] at this
            exact this
          have hall : (oa (setI h (16 * 0 + 0) b (fi h (16 * 0 + 0) b + 1)) e0).all (okE (setI h (16 * 0 + 0) b (fi h (16 * 0 + 0) b + 1))) = true := by
            rw [oE]
            refine all_app _ _ _ ?_ (all_rep _ rfl _)
            rw [List.all_eq_true] at q3 ⊢
            exact fun x hx => V1.okv (q3 x hx)
          have hcp := cpA_eq (g := setI h (16 * 0 + 0) b (fi h (16 * 0 + 0) b + 1)) (a0 := e0) (a := e0) (sp := i.toNatClampNeg + 1) (dp := i.toNatClampNeg) (n := (oa g b).length - 1 - i.toNatClampNeg) te te (by omega) (nlt31 i) (by omega) (by rw [oE]; simp; omega) (by rw [oE]; simp; omega) hall
          rw [← nOf h0] at hcp
          rw [ei, es, hcp]
          dsimp only [Option.bind_some]
          rw [pfI_eq (by rw [tg_setO]; exact tb)]
          dsimp only [Option.bind_some]
          rw [stA_eq (g := setI (setO (setI h (16 * 0 + 0) b (fi h (16 * 0 + 0) b + 1)) e0 (cpL (oa (setI h (16 * 0 + 0) b (fi h (16 * 0 + 0) b + 1)) e0) (oa (setI h (16 * 0 + 0) b (fi h (16 * 0 + 0) b + 1)) e0) (i.toNatClampNeg + 1) i.toNatClampNeg ((oa g b).length - 1 - i.toNatClampNeg))) (16 * 0 + 2) b (Int32.ofNat ((oa g b).length - 1))) (by rw [tg_setI, tg_setO]; exact te) (by omega) (by rw [oa_setI, oa_setO, if_pos rfl, cpL_len, oE]; simp; omega) rfl]
          refine ⟨_, rfl, fin _ (cpL (oa (setI h (16 * 0 + 0) b (fi h (16 * 0 + 0) b + 1)) e0) (oa (setI h (16 * 0 + 0) b (fi h (16 * 0 + 0) b + 1)) e0) (i.toNatClampNeg + 1) i.toNatClampNeg ((oa g b).length - 1 - i.toNatClampNeg)) ?_ ?_⟩
          · rw [oE]
            exact cpL_del _ _ _ hi w7
          · refine congrArg (setO _ e0) (congrArg (fun z : List (Option Nat) => z.set _ none) ?_)
            exact if_pos rfl
    obtain ⟨h', hf, V'⟩ := main
    exact ⟨(some (vR _), h'), _, by rw [hf]; rfl, rfl, V', k_Jx4a65c_remove_915e3 l κ b i h⟩
  · cases hw
/-- a stretch of a row made empty -/
def clr (L : List (Option Nat)) (i n : Nat) : List (Option Nat) := (List.range L.length).map fun k => if i ≤ k ∧ k < n then none else L.getD k none
theorem clr_get (L : List (Option Nat)) (i n k : Nat) (hk : k < L.length) : (clr L i n)[k]? = some (if i ≤ k ∧ k < n then none else L.getD k none) := by
  unfold clr
  rw [List.getElem?_map, List.getElem?_range hk]; rfl
theorem clr_len (L : List (Option Nat)) (i n : Nat) : (clr L i n).length = L.length := by simp [clr]
theorem clr_end (L : List (Option Nat)) {i n : Nat} (h : n ≤ i) : clr L i n = L := by
  apply List.ext_getElem?
  intro k
  by_cases hk : k < L.length
  · rw [clr_get _ _ _ _ hk, if_neg (by omega), List.getD_eq_getElem?_getD, List.getElem?_eq_getElem hk]; rfl
  · rw [List.getElem?_eq_none (by rw [clr_len]; omega), List.getElem?_eq_none (by omega)]
theorem clr_step (L : List (Option Nat)) {i n : Nat} (h : i < n) (hn : n ≤ L.length) : clr (L.set i none) (i + 1) n = clr L i n := by
  apply List.ext_getElem?
  intro k
  by_cases hk : k < L.length
  · rw [clr_get _ _ _ _ hk, clr_get _ _ _ _ (by rw [List.length_set]; exact hk)]
    by_cases hki : k = i
    · subst hki
      rw [if_neg (by omega), if_pos ⟨Nat.le_refl _, h⟩, List.getD_eq_getElem?_getD, List.getElem?_set_self hk]; rfl
    · rw [List.getD_eq_getElem?_getD, List.getElem?_set_ne (Ne.symm hki), List.getD_eq_getElem?_getD]
      by_cases hlt : i + 1 ≤ k ∧ k < n
      · rw [if_pos hlt, if_pos (by omega)]
      · rw [if_neg hlt, if_neg (by omega)]
  · rw [List.getElem?_eq_none (by rw [clr_len, List.length_set]; omega), List.getElem?_eq_none (by rw [clr_len]; omega)]
theorem clr_all (l : List (Option Nat)) (c : Nat) (h : l.length ≤ c) : clr (l ++ List.replicate (c - l.length) none) 0 l.length = List.replicate c none := by
  apply List.ext_getElem?
  intro k
  by_cases hk : k < c
  · have e : (l ++ List.replicate (c - l.length) none).length = c := by simp; omega
    rw [clr_get _ _ _ _ (by rw [e]; exact hk)]
    by_cases hl : k < l.length
    · rw [if_pos ⟨Nat.zero_le _, hl⟩]; simp [hk]
    · rw [if_neg (by omega), List.getD_eq_getElem?_getD, List.getElem?_append_right (by omega)]
      have : k - l.length < c - l.length := by omega
      simp [hk, this]
  · rw [List.getElem?_eq_none (by rw [clr_len]; simp; omega), List.getElem?_eq_none (by simp; omega)]
theorem setO_same (z : HP) (q : Nat) : setO z q (oa z q) = z := by
  unfold setO up1 oa
  obtain ⟨z1, z2, z3, z4, z5, z6⟩ := z
  simp only [Prod.mk.injEq, true_and, and_true]
  funext j
  by_cases hj : j = q <;> simp [hj]
theorem setO_setO (z : HP) (q : Nat) (L1 L2 : List (Option Nat)) : setO (setO z q L1) q L2 = setO z q L2 := by
  unfold setO up1
  simp only [Prod.mk.injEq, true_and, and_true]
  funext j
  by_cases hj : j = q <;> simp [hj]
theorem clear_loop {e n : Nat} (hn : n < 100000) : ∀ (m i : Nat) (w : HP), n - i < m → i ≤ n → tg w e = 22 → n ≤ (oa w e).length → f_Jx4a65c_clear_da8c8_L27 (some e) (Int32.ofNat n) m (Int32.ofNat i) w = some (setO w e (clr (oa w e) i n)) := by
  intro m
  induction m with
  | zero => intro i w h; omega
  | succ m ih =>
    intro i w h hi ht hl
    unfold f_Jx4a65c_clear_da8c8_L27
    by_cases hc : n ≤ i
    · rw [if_pos ((nLe (by omega) (by omega)).mpr hc), clr_end _ hc, setO_same]
    · rw [if_neg (fun z => hc ((nLe (by omega) (by omega)).mp z)), stA_eq ht (by omega) (by omega) rfl]
      dsimp only [Option.bind_some]
      have e1 : Int32.ofNat i + 1 = Int32.ofNat (i + 1) := nAdd i 1
      rw [e1, ih (i + 1) _ (by omega) (by omega) (by rw [tg_setO]; exact ht) (by rw [oa_setO, if_pos rfl, List.length_set]; exact hl), oa_setO, if_pos rfl, setO_setO, clr_step _ (by omega) hl]
theorem k_al_clear (l : Launch) (b : Nat) (g : HP) : MM l Pi2 yJx4a65c_clear_da8c8 cJx4a65c_clear_da8c8 4 none 0 0 [vR (some b)] g (wVg (al_clear b g)) := fun κ => lift_MA (fun a ha => wVg_mono (al_clear_mono b g) a ha) fun h V own a2 ha2 => by
  obtain ⟨w, hw, rfl⟩ := wVg_some ha2
  unfold al_clear at hw
  split at hw
  · rename_i hc0
    obtain ⟨hb, hlen⟩ := hc0
    cases hw
    have V1 := V.mod hb (fi h 0 b + 1)
    have tb := V1.tb hb
    have h2 := (V1.2.2.2.2.2.2.1 b hb).2.1
    have e1 : fi (setI h (16 * 0 + 0) b (fi h (16 * 0 + 0) b + 1)) (16 * 0 + 2) b = Int32.ofNat (oa g b).length := (V1.2.2.2.2.2.2.1 b hb).1
    have q4 := (V1.2.2.2.2.2.2.1 b hb).2.2.2
    have main : ∃ h', f_Jx4a65c_clear_da8c8 (kE κ) (kM κ) b h = some h' ∧ View κ h' (setO g b []) := by
      unfold f_Jx4a65c_clear_da8c8
      rw [gfI_eq (V.tb hb)]
      dsimp only [Option.bind_some]
      rw [pfI_eq (V.tb hb)]
      dsimp only [Option.bind_some]
      rw [gfR_eq tb]
      dsimp only [Option.bind_some]
      rw [gfI_eq tb]
      dsimp only [Option.bind_some]
      rw [pfI_eq tb, e1]
      dsimp only [Option.bind_some]
      rcases q4 with ⟨w1, w2, w3⟩ | ⟨e, c, w1, w2, w3, w4, w5, w6, w7, w8⟩
      · have eg : setO g b [] = g := by
          have := setO_same g b
          rw [w2] at this
          exact this
        have eh : setI (setI h (16 * 0 + 0) b (fi h (16 * 0 + 0) b + 1)) (16 * 0 + 2) b 0 = setI h (16 * 0 + 0) b (fi h (16 * 0 + 0) b + 1) := by
          rw [w2] at e1
          have e1' : fi (setI h (16 * 0 + 0) b (fi h (16 * 0 + 0) b + 1)) (16 * 0 + 2) b = 0 := e1
          generalize setI h (16 * 0 + 0) b (fi h (16 * 0 + 0) b + 1) = z at e1' ⊢
          unfold setI up2
          unfold fi at e1'
          obtain ⟨z1, z2, z3⟩ := z
          simp only [Prod.mk.injEq, true_and, and_true]
          funext j q
          split
          · rename_i hh
            rw [hh.1, hh.2]; exact e1'.symm
          · rfl
        rw [eh, eg, w2]
        refine ⟨_, ?_, V1⟩
        show Option.bind (f_Jx4a65c_clear_da8c8_L27 _ (Int32.ofNat 0) (4095 + 1) 0 _) _ = _
        unfold f_Jx4a65c_clear_da8c8_L27
        rw [if_pos (by decide)]
        rfl
      · rw [show fr (setI h (16 * 0 + 0) b (fi h (16 * 0 + 0) b + 1)) (16 * 0 + 1) b = some e from w4]
        have te : tg (setI (setI h (16 * 0 + 0) b (fi h (16 * 0 + 0) b + 1)) (16 * 0 + 2) b 0) e = 22 := V1.te w5
        have oE : oa (setI (setI h (16 * 0 + 0) b (fi h (16 * 0 + 0) b + 1)) (16 * 0 + 2) b 0) e = oa g b ++ List.replicate (c - (oa g b).length) none := w8
        have hloop := clear_loop (e := e) (n := (oa g b).length) (by omega) FU 0 _ (by show _ < 4096; omega) (Nat.zero_le _) te (by rw [oE]; simp)
        have e0 : Int32.ofNat 0 = 0 := rfl
        rw [e0] at hloop
        rw [hloop]
        refine ⟨_, rfl, ?_⟩
        refine View.put V1 hb w1 w2 w3 w4 w5 w6 (Nat.zero_le _) (Nat.zero_le _) rfl rfl rfl rfl rfl rfl (fun j q hq => ?_) (fun q hq => ?_) ?_ ?_
        · rw [fi_setO, fi_setI, if_neg (fun z => hq z.2)]
        · rw [oa_setO, if_neg hq]; rfl
        · rw [fi_setO, fi_setI, if_pos ⟨rfl, rfl⟩]; rfl
        · rw [oa_setO, if_pos rfl, oE]
          exact clr_all _ _ w7
    obtain ⟨h', hf, V'⟩ := main
    exact ⟨(none, h'), _, by rw [hf]; rfl, rfl, V', k_Jx4a65c_clear_da8c8 l κ b h⟩
  · cases hw
theorem k_al_init (l : Launch) (b : Nat) (g : HP) : MM l Pi2 yJx4a65c_init_da8c8 cJx4a65c_init_da8c8 1 none 3 80 [vR (some b)] g (wVg (al_init b g)) := fun κ => lift_MA (fun a ha => wVg_mono (al_init_mono b g) a ha) fun h V own a2 ha2 => by
  obtain ⟨w, hw, rfl⟩ := wVg_some ha2
  unfold al_init at hw
  split at hw
  · rename_i hc
    obtain ⟨hb, ho, hr⟩ := hc
    cases hw
    have tb : tg h b = 0 + 1 := by rw [V.2.2.1, hb]; rfl
    have hz := V.2.2.2.2.2.2.2.2.2 b hb
    have hkE : kE κ ≠ b := fun z => by have := V.2.2.2.2.2.2.2.1; rw [z] at this; omega
    refine ⟨(none, setR (setI h 0 b 0) 1 b (some (kE κ))), _, ?_, rfl, ?_, k_Jx4a65c_init_da8c8 l κ b h⟩
    · unfold f_Jx4a65c_init_da8c8 f_Jxc12de_init_da8c8 f_Jxa1e45_init_da8c8
      dsimp only [Option.bind_some]
      rw [pfI_eq tb]
      dsimp only [Option.bind_some]
      rw [pfR_eq (by rw [tg_setI]; exact tb)]
      rfl
    · have t1 : ∀ q, tg (setT g b 1) q = if q = b then 1 else tg g q := fun q => rfl
      refine ⟨V.1, V.2.1, fun q => ?_, fun j q hq => ?_, V.2.2.2.2.1, fun q hq => ?_, fun a ha => ?_, ?_, V.2.2.2.2.2.2.2.2.1, fun a ha => ?_⟩
      · rw [t1]
        by_cases e : q = b
        · rw [if_pos e, e]; exact tb
        · rw [if_neg e]; exact V.2.2.1 q
      · have e : q ≠ b := fun z => hq.1 (by rw [t1, if_pos z])
        rw [t1, if_neg e] at hq
        rw [fi_setR, fi_setI, if_neg (fun z => e z.2), fr_setR, if_neg (fun z => e z.2)]
        exact V.2.2.2.1 j q hq
      · have e : q ≠ b := fun z => hq.1 (by rw [t1, if_pos z])
        rw [t1, if_neg e] at hq
        exact V.2.2.2.2.2.1 q hq
      · by_cases e : a = b
        · subst e
          refine ⟨?_, ?_, ?_, Or.inl ⟨hr, ho, ?_⟩⟩
          · rw [fi_setR, fi_setI, if_neg (by omega), hz, show oa (setT g a 1) a = [] from ho]; rfl
          · rw [show oa (setT g a 1) a = [] from ho]; exact Nat.zero_le _
          · rw [show oa (setT g a 1) a = [] from ho]; rfl
          · rw [fr_setR, if_pos ⟨rfl, rfl⟩]
        · rw [t1, if_neg e] at ha
          obtain ⟨q1, q2, q3, q4⟩ := V.2.2.2.2.2.2.1 a ha
          refine ⟨?_, q2, ?_, ?_⟩
          · rw [fi_setR, fi_setI, if_neg (fun z => e z.2)]; exact q1
          · rw [List.all_eq_true] at q3 ⊢
            intro v hv
            have h1 := q3 v hv
            cases v with
            | none => rfl
            | some x =>
              have e' : (Nat.ble 1 (tg g x) && Nat.ble (tg g x) 11) = true := h1
              rw [Bool.and_eq_true] at e'
              have := Nat.le_of_ble_eq_true e'.2
              show (Nat.ble 1 (tg (setT g b 1) x) && Nat.ble (tg (setT g b 1) x) 11) = true
              rw [t1, if_neg (fun z => by rw [z] at this; omega), Bool.and_eq_true]
              exact e'
          · rcases q4 with ⟨w1, w2, w3⟩ | ⟨e', c', w1, w2, w3, w4, w5, w6, w7, w8⟩
            · exact Or.inl ⟨w1, w2, by rw [fr_setR, if_neg (fun z => e z.2)]; exact w3⟩
            · exact Or.inr ⟨e', c', w1, w2, w3, by rw [fr_setR, if_neg (fun z => e z.2)]; exact w4, by rw [t1, if_neg (fun z => by rw [z] at w5; omega)]; exact w5, w6, w7, w8⟩
      · rw [t1, if_neg hkE]; exact V.2.2.2.2.2.2.2.1
      · by_cases e : a = b
        · rw [t1, if_pos e] at ha; omega
        · rw [t1, if_neg e] at ha
          rw [fi_setR, fi_setI, if_neg (by omega)]
          exact V.2.2.2.2.2.2.2.2.2 a ha
  · cases hw
section NewAL
variable {Γ : GG} {cc : ByteArray} {nL : Nat} {own : String} {rf rl : Nat} {pc : Nat} {L L' : LL} {st rest : List VV} {g : HP} {φ φ1 φ2 : Prop}
/-- a new list, before its constructor -/
theorem z_newAL (C : CX Γ cc nL own Pi2 ok2 rf rl) {index : Nat} (hdg : decode cc pc = .ok (.new index, 3)) (hlink : Cond.classLink own index "java/util/ArrayList" ∈ gtbl) (kk : X Γ (pc + 3) L (vR (some (nx g)) :: st) (newG g 31 3 [] []) φ) : X Γ pc L st g φ := fun h => by
  obtain ⟨b1, b2, b3⟩ := kk h
  have b1' : cu g + 1 ≤ gtn Γ := b1
  have b2' : sl g + 3 ≤ gts Γ := b2
  refine ⟨by omega, by omega, fun H locs ls A => ?_⟩
  have hKn := C.kx.1.1 0 _ cf0.1
  obtain ⟨hz, hkb⟩ := C.po.sz A.pic
  have hrc := C.rc
  have hrs := C.rs
  have a1 := A.n0
  have a2 := A.s0
  have hP := A.pic
  rw [C.pp] at hP
  obtain ⟨h0, V, P1⟩ := hP
  refine W.newcK C.exec C.code C.ow (C.hts _ hlink) (C.hts _ kt35) (C.hts _ kt4) rfl hdg (by omega) (by omega) hKn.2.1 hz fun H1 kC hkC e1 z1 o1 => ?_
  have hz0 : H.size = nx h0 := P1.1.1
  have hob : t_OB H.size ((kD (gK Γ)).1 0) 3 ((kD (gK Γ)).2 0) H1 (fun k => fldV (newG h0 1 3 [] []) (16 * 0 + k) H.size) := by
    rw [hz]
    refine (u_born tyJx4a65c (fun w hw => C.hts w hw) (fun w hw => cf0.2.1 w hw) hKn hkC e1 cf0.2.2.1).to fun k hk => ?_
    rw [def0 k hk]
    unfold fldV
    have f1 : fi (newG h0 1 3 [] []) (16 * 0 + k) (nx g) = 0 := if_pos V.1.symm
    have f2 : fr (newG h0 1 3 [] []) (16 * 0 + k) (nx g) = none := if_pos V.1.symm
    rw [f1, f2]
    rfl
  have P2 := (PO_Pic1 (gK Γ)).2.2.2.2.2.2.2.2.2.2.1 h0 H 0 3 H1 P1 (by decide) rfl (by rw [z1, hz]) (fun x hx => o1 x (by rw [← hz]; exact hx)) ⟨_, cf0.1, hob⟩
  have := b3 H1 locs ls (A.new (Nat.le_succ _) (Nat.le_add_right _ _) (by rw [C.pp]; exact ⟨_, V.newAL (fun q hq => V.own P1 hq), P2⟩) (by omega) (fun x hx => o1 x (by rw [← hz]; exact hx)))
  have e1 : cu (newG g 31 3 [] []) - gn0 Γ = cu g - gn0 Γ + 1 := by show cu g + 1 - gn0 Γ = _; omega
  have e2 : sl (newG g 31 3 [] []) - gs0 Γ = sl g - gs0 Γ + 3 := by show sl g + 3 - gs0 Γ = _; omega
  rw [e1, e2] at this
  exact this
end NewAL
