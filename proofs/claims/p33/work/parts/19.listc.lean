theorem okE_far {κ : KK} {h g h2 : HP} (V : View κ h g) (own : ∀ q, tg g q ≠ 0 → q < nx g) (ht : ∀ q, tg h2 q = if q = nx h then 22 else tg h q) {v : Option Nat} (hv : okE g v = true) : okE h2 v = true := by
  cases v with
  | none => rfl
  | some x =>
    have h1 := V.okv hv
    have e' : (Nat.ble 1 (tg g x) && Nat.ble (tg g x) 11) = true := hv
    rw [Bool.and_eq_true] at e'
    have := Nat.le_of_ble_eq_true e'.1
    have hx : x ≠ nx h := by have := own x (by omega); rw [V.1]; omega
    show (Nat.ble 1 (tg h2 x) && Nat.ble (tg h2 x) 11) = true
    rw [ht, if_neg hx]
    exact h1
/-- a new entry at the end: the array behind it, then the size -/
theorem put_ok {κ : KK} {h g : HP} (V : View κ h g) {b : Nat} (hb : tg g b = 1) (hroom : (oa g b).length < capL g b) {e : Nat} (he : fr h 1 b = some e) {L l : List (Option Nat)} (hlen : l.length = (oa g b).length + 1) (hlen2 : (oa g b).length ≤ 20000) (hk : l.all (okE g) = true)
    (hL : L = l ++ List.replicate (capL g b - l.length) none) {h3 : HP} (h3e : h3 = setI (setO h e L) 2 b (Int32.ofNat (oa g b).length + 1)) : View κ h3 (setO (al_room b g) b l) := by
  have er : al_room b g = g := if_pos hroom
  obtain ⟨e', c, w0, w1, w2, w3, w4, w5, w6, w7⟩ := room_ok V hb hroom
  rw [he] at w4
  have ee : e = e' := Option.some.inj w4
  subst ee
  rw [er]
  have hbe : b ≠ e := fun z => by rw [z] at hb; omega
  refine View.put V hb w1 w2 w3 he w5 w6 (by omega) (by omega) hk (by rw [h3e]; rfl) (by rw [h3e]; rfl) (by rw [h3e]; rfl) (by rw [h3e]; rfl) (by rw [h3e]; rfl) (fun j q hq => ?_) (fun q hq => ?_) ?_ ?_
  · rw [h3e, fi_setI, if_neg (fun z => hq z.2)]; rfl
  · rw [h3e, oa_setI, oa_setO, if_neg hq]
  · rw [h3e, fi_setI, if_pos ⟨rfl, rfl⟩, hlen]
    exact nAdd _ 1
  · rw [h3e, oa_setI, oa_setO, if_pos rfl, hL, w0]
theorem putg_ok {κ : KK} {h g h2 : HP} (V : View κ h g) (own : ∀ q, tg g q ≠ 0 → q < nx g) {b : Nat} (hb : tg g b = 1) (hfull : ¬ (oa g b).length < capL g b) (hlen2 : (oa g b).length ≤ 20000) (G : Grown h h2 b (gcap (capL g b)) (oa g b)) (hg1 : (oa g b).length < gcap (capL g b)) (hg2 : gcap (capL g b) ≤ 40000) {L l : List (Option Nat)} (hlen : l.length = (oa g b).length + 1) (hk : l.all (okE g) = true)
    (hL : L = l ++ List.replicate (gcap (capL g b) - l.length) none) {h3 : HP} (h3e : h3 = setI (setO h2 (nx h) L) 2 b (Int32.ofNat (oa g b).length + 1)) : View κ h3 (setO (al_room b g) b l) := by
  have er : al_room b g = al_grow b (gcap (capL g b)) g := if_neg hfull
  obtain ⟨g1, g2, g3, g4, g5, g6, g7, g8, g9, g10⟩ := G
  rw [er]
  refine View.grow V own hb (by omega) hg2 (by omega) (by omega) hk (by rw [h3e]; exact g1) (by rw [h3e]; exact g2) (by rw [h3e]; exact g3) (by rw [h3e]; exact g4) (by rw [h3e]; exact g5) (by rw [h3e]; exact g6) (by rw [h3e]; exact g7) (fun j q hq hn => ?_) (fun q hq => ?_) ?_ ?_
  · rw [h3e, fi_setI, if_neg (fun z => hq z.2)]; exact g8 j q hn
  · rw [h3e, oa_setI, oa_setO, if_neg hq]; exact g9 q hq
  · rw [h3e, fi_setI, if_pos ⟨rfl, rfl⟩, hlen]
    exact nAdd _ 1
  · rw [h3e, oa_setI, oa_setO, if_pos rfl, hL]
theorem add72_ok {κ : KK} {h g : HP} (V : View κ h g) (own : ∀ q, tg g q ≠ 0 → q < nx g) {b : Nat} (hb : tg g b = 1) {v : Option Nat} (hv : okE g v = true) (hlen : (oa g b).length ≤ 20000) :
    ∃ h', f_Jx4a65c_add_72be8 (kE κ) (kM κ) b v (fr h 1 b) (Int32.ofNat (oa g b).length) h = some h' ∧ View κ h' (setO (al_room b g) b (oa g b ++ [v])) := by
  obtain ⟨r, hr, hln, hle, hc4⟩ := full_iff V hb
  have tb := V.tb hb
  have q3 := (V.2.2.2.2.2.2.1 b hb).2.2.1
  have hk : (oa g b ++ [v]).all (okE g) = true := all_app _ _ _ q3 (by simp [hv])
  unfold f_Jx4a65c_add_72be8
  rw [hr, hln]
  dsimp only [Option.bind_some]
  by_cases hroom : (oa g b).length < capL g b
  · rw [if_neg (fun z => by have := (nEq (by omega) (by omega)).mp z; omega)]
    dsimp only [Option.bind_some]
    obtain ⟨e, c, w0, w1, w2, w3, w4, w5, w6, w7⟩ := room_ok V hb hroom
    rw [hr] at w4
    have ee : r = e := Option.some.inj w4
    subst ee
    rw [stA_eq (V.te w5) (by omega) (by rw [w7]; simp; omega) (V.okv hv)]
    dsimp only [Option.bind_some]
    rw [pfI_eq (by rw [tg_setO]; exact tb)]
    dsimp only [Option.bind_some]
    refine ⟨_, rfl, put_ok V hb hroom hr (by simp) hlen hk ?_ rfl⟩
    rw [w7, w0]
    exact set_end _ _ _ (by omega)
  · have hfl : (oa g b).length = capL g b := by omega
    rw [if_pos (by rw [hfl]), rcv_eq tb]
    dsimp only [Option.bind_some]
    obtain ⟨h2, hg, G, hg1, hg2⟩ := grow_ok V own hb hroom hlen
    rw [hg]
    dsimp only [Option.bind_some]
    have hbn : b ≠ nx h := by have := own b (by omega); rw [V.1]; omega
    rw [stA_eq (by rw [G.1, if_pos rfl]) (by omega) (by rw [G.2.2.2.2.2.2.2.2.2]; simp; omega) (okE_far V own G.1 hv)]
    dsimp only [Option.bind_some]
    rw [pfI_eq (by rw [tg_setO, G.1, if_neg hbn]; exact tb)]
    dsimp only [Option.bind_some]
    refine ⟨_, rfl, putg_ok V own hb hroom hlen G hg1 hg2 (by simp) hk ?_ rfl⟩
    rw [G.2.2.2.2.2.2.2.2.2]
    exact set_end _ _ _ hg1
theorem own_mod {g : HP} (own : ∀ q, tg g q ≠ 0 → q < nx g) : ∀ q, tg g q ≠ 0 → q < nx g := own
theorem k_al_size (l : Launch) (b : Nat) (g : HP) : MM l Pi2 yJx4a65c_size_8abf5 cJx4a65c_size_8abf5 1 (some .int) 0 0 [vR (some b)] g (wI g (al_size b g)) := fun κ => lift_MA (fun a ha => wI_same a ha) fun h V own a2 ha2 => by
  obtain ⟨v, hv, rfl⟩ := wI_some ha2
  unfold al_size at hv
  split at hv
  · rename_i hb
    cases hv
    refine ⟨(some (vI (Int32.ofNat (oa g b).length)), h), _, ?_, rfl, V, k_Jx4a65c_size_8abf5 l κ b h⟩
    unfold f_Jx4a65c_size_8abf5
    rw [gfI_eq (V.tb hb)]
    show some _ = some _
    rw [show fi h (16 * 0 + 2) b = Int32.ofNat (oa g b).length from (V.2.2.2.2.2.2.1 b hb).1]
  · cases hv
theorem k_al_isEmpty (l : Launch) (b : Nat) (g : HP) : MM l Pi2 yJx4a65c_isEmpty_aae02 cJx4a65c_isEmpty_aae02 1 (some .boolean) 0 0 [vR (some b)] g (wI g (al_isEmpty b g)) := fun κ => lift_MA (fun a ha => wI_same a ha) fun h V own a2 ha2 => by
  obtain ⟨v, hv, rfl⟩ := wI_some ha2
  unfold al_isEmpty at hv
  split at hv
  · rename_i hb
    refine ⟨(some (vI v), h), _, ?_, rfl, V, k_Jx4a65c_isEmpty_aae02 l κ b h⟩
    unfold f_Jx4a65c_isEmpty_aae02
    rw [gfI_eq (V.tb hb)]
    dsimp only [Option.bind_some]
    have h2 := (V.2.2.2.2.2.2.1 b hb).2.1
    rw [show fi h (16 * 0 + 2) b = Int32.ofNat (oa g b).length from (V.2.2.2.2.2.2.1 b hb).1]
    have e0 : (Int32.ofNat (oa g b).length = 0) ↔ (oa g b).length = 0 := nEq (b := 0) (by omega) (by omega)
    split at hv
    · rename_i h0
      cases hv
      rw [if_pos (e0.mpr h0)]; rfl
    · rename_i h0
      cases hv
      rw [if_neg (fun z => h0 (e0.mp z))]; rfl
  · cases hv
theorem chk_ok {e mi n : Nat} {i : Int32} {h : HP} (h0 : 0 ≤ i) (hi : i.toNatClampNeg < n) (hn : n < 100000) : f_J15_checkIndex_7cf53 e mi i (Int32.ofNat n) h = some i := by
  unfold f_J15_checkIndex_7cf53 f_J3_checkIndex_8e157
  rw [if_neg (Int32.not_lt.mpr h0), if_pos (by rw [nOf h0]; exact (nLt (by omega) (by omega)).mpr hi)]
  rfl
theorem get_of {κ : KK} {h g : HP} (V : View κ h g) {b : Nat} (hb : tg g b = 1) {n : Nat} (hn : n < (oa g b).length) : ∃ e, fr h 1 b = some e ∧ ldA (some e) (Int32.ofNat n) h = some ((oa g b).getD n none) := by
  obtain ⟨q1, q2, q3, q4⟩ := V.2.2.2.2.2.2.1 b hb
  rcases q4 with ⟨w1, w2, w3⟩ | ⟨e, c, w1, w2, w3, w4, w5, w6, w7, w8⟩
  · rw [w2] at hn; simp at hn
  · refine ⟨e, w4, ?_⟩
    rw [ldA_eq (V.te w5) (by omega) (by rw [w8]; simp; omega), w8]
    congr 1
    rw [List.getD_eq_getElem?_getD, List.getD_eq_getElem?_getD, List.getElem?_append_left hn]
theorem k_al_get (l : Launch) (b : Nat) (i : Int32) (g : HP) : MM l Pi2 yJx4a65c_get_915e3 cJx4a65c_get_915e3 2 (some (.object "java/lang/Object")) 2 43 [vR (some b), vI i] g (wR g (al_get b i g)) := fun κ => lift_MA (fun a ha => wR_same a ha) fun h V own a2 ha2 => by
  obtain ⟨v, hv, rfl⟩ := wR_some ha2
  unfold al_get at hv
  split at hv
  · rename_i hc
    obtain ⟨hb, h0, hi⟩ := hc
    cases hv
    have h2 := (V.2.2.2.2.2.2.1 b hb).2.1
    obtain ⟨e, he, hld⟩ := get_of V hb hi
    rw [← nOf h0] at hld
    refine ⟨(some (vR ((oa g b).getD i.toNatClampNeg none)), h), _, ?_, rfl, V, k_Jx4a65c_get_915e3 l κ b i h⟩
    unfold f_Jx4a65c_get_915e3
    rw [gfI_eq (V.tb hb)]
    dsimp only [Option.bind_some]
    rw [show fi h (16 * 0 + 2) b = Int32.ofNat (oa g b).length from (V.2.2.2.2.2.2.1 b hb).1, chk_ok h0 hi (by omega)]
    dsimp only [Option.bind_some]
    rw [rcv_eq (V.tb hb)]
    dsimp only [Option.bind_some]
    unfold f_Jx4a65c_elementData_915e3
    rw [gfR_eq (V.tb hb)]
    dsimp only [Option.bind_some]
    rw [show fr h (16 * 0 + 1) b = some e from he, hld]
    rfl
  · cases hv
theorem k_al_add (l : Launch) (b : Nat) (v : Option Nat) (g : HP) : MM l Pi2 yJx4a65c_add_9ea2d cJx4a65c_add_9ea2d 2 (some .boolean) 6 170 [vR (some b), vR v] g (wIg (al_add b v g)) := fun κ => lift_MA (fun a ha => wIg_mono (al_add_mono b v g) a ha) fun h V own a2 ha2 => by
  obtain ⟨w, hw, rfl⟩ := wIg_some ha2
  unfold al_add at hw
  split at hw
  · rename_i hc
    obtain ⟨hb, hv, hlen⟩ := hc
    cases hw
    have V1 := V.mod hb (fi h 0 b + 1)
    obtain ⟨h', hf, V'⟩ := add72_ok V1 own hb hv hlen
    refine ⟨(some (vI 1), h'), _, ?_, rfl, V', k_Jx4a65c_add_9ea2d l κ b v h⟩
    unfold f_Jx4a65c_add_9ea2d
    rw [gfI_eq (V.tb hb)]
    dsimp only [Option.bind_some]
    rw [pfI_eq (V.tb hb)]
    dsimp only [Option.bind_some]
    rw [gfR_eq (V1.tb hb)]
    dsimp only [Option.bind_some]
    rw [gfI_eq (V1.tb hb)]
    dsimp only [Option.bind_some]
    rw [rcv_eq (V1.tb hb)]
    dsimp only [Option.bind_some]
    have e1 : fi (setI h (16 * 0 + 0) b (fi h (16 * 0 + 0) b + 1)) (16 * 0 + 2) b = Int32.ofNat (oa g b).length := (V1.2.2.2.2.2.2.1 b hb).1
    rw [e1, hf]
    rfl
  · cases hw
theorem k_al_addAt (l : Launch) (b : Nat) (i : Int32) (v : Option Nat) (g : HP) : MM l Pi2 yJx4a65c_add_7a177 cJx4a65c_add_7a177 5 none 5 147 [vR (some b), vI i, vR v] g (wVg (al_addAt b i v g)) := fun κ => lift_MA (fun a ha => wVg_mono (al_addAt_mono b i v g) a ha) fun h V own a2 ha2 => by
  obtain ⟨w, hw, rfl⟩ := wVg_some ha2
  unfold al_addAt at hw
  split at hw
  · rename_i hc
    obtain ⟨hb, hv, hlen, h0, hi⟩ := hc
    cases hw
    have V1 := V.mod hb (fi h 0 b + 1)
    have tb := V1.tb hb
    obtain ⟨r, hr, hln, hle, hc4⟩ := full_iff V1 hb
    have q3 := (V1.2.2.2.2.2.2.1 b hb).2.2.1
    have e1 : ∀ x, fi (setI h (16 * 0 + 0) b x) (16 * 0 + 2) b = Int32.ofNat (oa g b).length := fun x => (V.mod hb x).2.2.2.2.2.2.1 b hb |>.1
    have hk : ((oa g b).take i.toNatClampNeg ++ v :: (oa g b).drop i.toNatClampNeg).all (okE g) = true := by
      rw [List.all_eq_true] at q3 ⊢
      intro x hx
      rcases List.mem_append.mp hx with hx | hx
      · exact q3 x (List.mem_of_mem_take hx)
      · rcases List.mem_cons.mp hx with rfl | hx
        · exact hv
        · exact q3 x (List.mem_of_mem_drop hx)
    have hl1 : ((oa g b).take i.toNatClampNeg ++ v :: (oa g b).drop i.toNatClampNeg).length = (oa g b).length + 1 := by simp; omega
    have main : ∃ h', f_Jx4a65c_add_7a177 (kE κ) (kM κ) b i v h = some h' ∧ View κ h' (setO (al_room b g) b ((oa g b).take i.toNatClampNeg ++ v :: (oa g b).drop i.toNatClampNeg)) := by
      unfold f_Jx4a65c_add_7a177
      rw [rcv_eq (V.tb hb)]
      dsimp only [Option.bind_some]
      unfold f_Jx4a65c_rangeCheckForAdd_d00df
      rw [gfI_eq (V.tb hb)]
      dsimp only [Option.bind_some]
      rw [show fi h (16 * 0 + 2) b = Int32.ofNat (oa g b).length from (V.2.2.2.2.2.2.1 b hb).1, if_neg (fun z => by
        rw [nOf h0] at z
        have := (nLt (by omega) (nlt31 i)).mp z
        omega), if_pos h0]
      dsimp only [Option.bind_some]
      rw [gfI_eq (V.tb hb)]
      dsimp only [Option.bind_some]
      rw [pfI_eq (V.tb hb)]
      dsimp only [Option.bind_some]
      rw [gfI_eq tb]
      dsimp only [Option.bind_some]
      rw [gfR_eq tb]
      dsimp only [Option.bind_some]
      rw [e1, show fr (setI h (16 * 0 + 0) b (fi h (16 * 0 + 0) b + 1)) (16 * 0 + 1) b = some r from hr, show lnA (some r) (setI h (16 * 0 + 0) b (fi h (16 * 0 + 0) b + 1)) = some (Int32.ofNat (capL g b)) from hln]
      dsimp only [Option.bind_some]
      have ei : i + 1 = Int32.ofNat (i.toNatClampNeg + 1) := by
        have := nAdd i.toNatClampNeg 1
        rw [← nOf h0] at this
        exact this
      have es : Int32.ofNat (oa g b).length - i = Int32.ofNat ((oa g b).length - i.toNatClampNeg) := by
        have := nSub hi
        rw [← nOf h0] at this
        exact this
      by_cases hroom : (oa g b).length < capL g b
      · rw [if_neg (fun z => by have := (nEq (by omega) (by omega)).mp z; omega)]
        dsimp only [Option.bind_some]
        obtain ⟨e, c, w0, w1, w2, w3, w4, w5, w6, w7⟩ := room_ok V1 hb hroom
        rw [hr] at w4
        have ee : r = e := Option.some.inj w4
        subst ee
        have te := V1.te w5
        have hall : (oa (setI h (16 * 0 + 0) b (fi h (16 * 0 + 0) b + 1)) r).all (okE (setI h (16 * 0 + 0) b (fi h (16 * 0 + 0) b + 1))) = true := by
          rw [show oa (setI h (16 * 0 + 0) b (fi h (16 * 0 + 0) b + 1)) r = _ from w7]
          refine all_app _ _ _ ?_ (all_rep _ rfl _)
          rw [List.all_eq_true] at q3 ⊢
          exact fun x hx => V1.okv (q3 x hx)
        have hcp := cpA_eq (g := setI h (16 * 0 + 0) b (fi h (16 * 0 + 0) b + 1)) (a0 := r) (a := r) (sp := i.toNatClampNeg) (dp := i.toNatClampNeg + 1) (n := (oa g b).length - i.toNatClampNeg) te te (nlt31 i) (by omega) (by omega) (by rw [show oa (setI h (16 * 0 + 0) b (fi h (16 * 0 + 0) b + 1)) r = _ from w7]; simp; omega) (by rw [show oa (setI h (16 * 0 + 0) b (fi h (16 * 0 + 0) b + 1)) r = _ from w7]; simp; omega) hall
        rw [← nOf h0] at hcp
        rw [ei, es, hcp]
        dsimp only [Option.bind_some]
        have hst := stA_eq (g := setO (setI h (16 * 0 + 0) b (fi h (16 * 0 + 0) b + 1)) r (cpL (oa (setI h (16 * 0 + 0) b (fi h (16 * 0 + 0) b + 1)) r) (oa (setI h (16 * 0 + 0) b (fi h (16 * 0 + 0) b + 1)) r) i.toNatClampNeg (i.toNatClampNeg + 1) ((oa g b).length - i.toNatClampNeg))) (a := r) (n := i.toNatClampNeg) (v := v) (by rw [tg_setO]; exact te) (nlt31 i) (by rw [oa_setO, if_pos rfl, cpL_len, show oa (setI h (16 * 0 + 0) b (fi h (16 * 0 + 0) b + 1)) r = _ from w7]; simp; omega) (by rw [okE_tg (tg_setO _ _ _)]; exact V1.okv hv)
        rw [← nOf h0] at hst
        rw [hst]
        dsimp only [Option.bind_some]
        rw [pfI_eq (by rw [tg_setO, tg_setO]; exact tb)]
        dsimp only [Option.bind_some]
        refine ⟨_, rfl, put_ok V1 hb hroom (e := r) hr hl1 hlen hk (L := (cpL (oa (setI h (16 * 0 + 0) b (fi h (16 * 0 + 0) b + 1)) r) (oa (setI h (16 * 0 + 0) b (fi h (16 * 0 + 0) b + 1)) r) i.toNatClampNeg (i.toNatClampNeg + 1) ((oa g b).length - i.toNatClampNeg)).set i.toNatClampNeg v) ?_ ?_⟩
        · rw [show oa (setI h (16 * 0 + 0) b (fi h (16 * 0 + 0) b + 1)) r = _ from w7, w0]
          exact cpL_ins _ _ _ _ hi (by omega)
        · rw [oa_setO, if_pos rfl]
          have : ∀ (z : HP) (q : Nat) (L1 L2 : List (Option Nat)), setO (setO z q L1) q L2 = setO z q L2 := fun z q L1 L2 => by
            unfold setO up1
            simp only [Prod.mk.injEq, true_and, and_true]
            funext j
            by_cases hj : j = q <;> simp [hj]
          rw [this]
      · have hfl : (oa g b).length = capL g b := by omega
        rw [if_pos (by rw [hfl]), rcv_eq tb]
        dsimp only [Option.bind_some]
        obtain ⟨h2, hg, G, hg1, hg2⟩ := grow_ok V1 own hb hroom hlen
        rw [show f_Jx4a65c_grow_d5877 (kE κ) (kM κ) b (setI h (16 * 0 + 0) b (fi h (16 * 0 + 0) b + 1)) = _ from hg]
        dsimp only [Option.bind_some]
        have hbn : b ≠ nx h := by have := own b (by omega); rw [V.1]; omega
        have w7 := G.2.2.2.2.2.2.2.2.2
        have te : tg h2 (nx (setI h 0 b (fi h 0 b + 1))) = 22 := by rw [G.1, if_pos rfl]
        have hall : (oa h2 (nx (setI h 0 b (fi h 0 b + 1)))).all (okE h2) = true := by
          rw [w7]
          refine all_app _ _ _ ?_ (all_rep _ rfl _)
          rw [List.all_eq_true] at q3 ⊢
          exact fun x hx => okE_far V1 own G.1 (q3 x hx)
        have hcp := cpA_eq (g := h2) (a0 := nx (setI h 0 b (fi h 0 b + 1))) (a := nx (setI h 0 b (fi h 0 b + 1))) (sp := i.toNatClampNeg) (dp := i.toNatClampNeg + 1) (n := (oa g b).length - i.toNatClampNeg) te te (nlt31 i) (by omega) (by omega) (by rw [w7]; simp; omega) (by rw [w7]; simp; omega) hall
        rw [← nOf h0] at hcp
        rw [ei, es, hcp]
        dsimp only [Option.bind_some]
        have hst := stA_eq (g := setO h2 (nx (setI h 0 b (fi h 0 b + 1))) (cpL (oa h2 (nx (setI h 0 b (fi h 0 b + 1)))) (oa h2 (nx (setI h 0 b (fi h 0 b + 1)))) i.toNatClampNeg (i.toNatClampNeg + 1) ((oa g b).length - i.toNatClampNeg))) (a := nx (setI h 0 b (fi h 0 b + 1))) (n := i.toNatClampNeg) (v := v) (by rw [tg_setO]; exact te) (nlt31 i) (by rw [oa_setO, if_pos rfl, cpL_len, w7]; simp; omega) (by rw [okE_tg (tg_setO _ _ _)]; exact okE_far V1 own G.1 hv)
        rw [← nOf h0] at hst
        rw [hst]
        dsimp only [Option.bind_some]
        rw [pfI_eq (by rw [tg_setO, tg_setO, G.1, if_neg (show b ≠ nx (setI h 0 b (fi h 0 b + 1)) from hbn)]; exact tb)]
        dsimp only [Option.bind_some]
        refine ⟨_, rfl, putg_ok V1 own hb hroom hlen G hg1 hg2 hl1 hk (L := (cpL (oa h2 (nx (setI h 0 b (fi h 0 b + 1)))) (oa h2 (nx (setI h 0 b (fi h 0 b + 1)))) i.toNatClampNeg (i.toNatClampNeg + 1) ((oa g b).length - i.toNatClampNeg)).set i.toNatClampNeg v) ?_ ?_⟩
        · rw [w7]
          exact cpL_ins _ _ _ _ hi hg1
        · rw [oa_setO, if_pos rfl]
          have : ∀ (z : HP) (q : Nat) (L1 L2 : List (Option Nat)), setO (setO z q L1) q L2 = setO z q L2 := fun z q L1 L2 => by
            unfold setO up1
            simp only [Prod.mk.injEq, true_and, and_true]
            funext j
            by_cases hj : j = q <;> simp [hj]
          rw [this]
    obtain ⟨h', hf, V'⟩ := main
    exact ⟨(none, h'), _, by rw [hf]; rfl, rfl, V', k_Jx4a65c_add_7a177 l κ b i v h⟩
  · cases hw
