/-! What the lists' methods do, told of lists. -/
def capL (g : HP) (b : Nat) : Nat := (fr g 0 b).getD 0
def gcap (c : Nat) : Nat := if c = 0 then 10 else c + (if 1 < c / 2 then c / 2 else 1)
def al_grow (b c : Nat) (g : HP) : HP := setR (setR (newG g 30 c [] []) 0 b (some c)) 2 (nx g) (some b)
def al_room (b : Nat) (g : HP) : HP := if (oa g b).length < capL g b then g else al_grow b (gcap (capL g b)) g
def al_size (b : Nat) (g : HP) : Option Int32 := if tg g b = 1 then some (Int32.ofNat (oa g b).length) else none
def al_isEmpty (b : Nat) (g : HP) : Option Int32 := if tg g b = 1 then (if (oa g b).length = 0 then some 1 else some 0) else none
def al_get (b : Nat) (i : Int32) (g : HP) : Option (Option Nat) := if tg g b = 1 ∧ 0 ≤ i ∧ i.toNatClampNeg < (oa g b).length then some ((oa g b).getD i.toNatClampNeg none) else none
def al_add (b : Nat) (v : Option Nat) (g : HP) : Option (Int32 × HP) := if tg g b = 1 ∧ okE g v = true ∧ (oa g b).length ≤ 20000 then some (1, setO (al_room b g) b (oa g b ++ [v])) else none
def al_addAt (b : Nat) (i : Int32) (v : Option Nat) (g : HP) : Option HP :=
  if tg g b = 1 ∧ okE g v = true ∧ (oa g b).length ≤ 20000 ∧ 0 ≤ i ∧ i.toNatClampNeg ≤ (oa g b).length then some (setO (al_room b g) b ((oa g b).take i.toNatClampNeg ++ v :: (oa g b).drop i.toNatClampNeg)) else none
def al_remove (b : Nat) (i : Int32) (g : HP) : Option (Option Nat × HP) := if tg g b = 1 ∧ 0 ≤ i ∧ i.toNatClampNeg < (oa g b).length then some ((oa g b).getD i.toNatClampNeg none, setO g b ((oa g b).eraseIdx i.toNatClampNeg)) else none
def al_clear (b : Nat) (g : HP) : Option HP := if tg g b = 1 ∧ (oa g b).length < 4000 then some (setO g b []) else none
def setT (g : HP) (a t : Nat) : HP := (up1 g.1 a t, g.2)
def al_init (b : Nat) (g : HP) : Option HP := if tg g b = 31 ∧ oa g b = [] ∧ fr g 0 b = none then some (setT g b 1) else none
theorem al_room_nx (b : Nat) (g : HP) : cu g ≤ cu (al_room b g) ∧ sl g ≤ sl (al_room b g) := by
  unfold al_room
  split
  · exact ⟨Nat.le_refl _, Nat.le_refl _⟩
  · exact ⟨Nat.le_succ _, Nat.le_add_right _ _⟩
theorem al_add_mono (b : Nat) (v : Option Nat) (g : HP) : Mono g (fun v => v.2) (al_add b v g) := fun a ha => by
  unfold al_add at ha
  split at ha
  · cases ha; exact al_room_nx b g
  · cases ha
theorem al_addAt_mono (b : Nat) (i : Int32) (v : Option Nat) (g : HP) : Mono g id (al_addAt b i v g) := fun a ha => by
  unfold al_addAt at ha
  split at ha
  · cases ha; exact al_room_nx b g
  · cases ha
theorem al_remove_mono (b : Nat) (i : Int32) (g : HP) : Mono g (fun v => v.2) (al_remove b i g) := fun a ha => by
  unfold al_remove at ha
  split at ha
  · cases ha; exact ⟨Nat.le_refl _, Nat.le_refl _⟩
  · cases ha
theorem al_clear_mono (b : Nat) (g : HP) : Mono g id (al_clear b g) := fun a ha => by
  unfold al_clear at ha
  split at ha
  · cases ha; exact ⟨Nat.le_refl _, Nat.le_refl _⟩
  · cases ha
theorem al_init_mono (b : Nat) (g : HP) : Mono g id (al_init b g) := fun a ha => by
  unfold al_init at ha
  split at ha
  · cases ha; exact ⟨Nat.le_refl _, Nat.le_refl _⟩
  · cases ha
/-- a contract over the cells gives one over the lists -/
theorem lift_MA {l : Launch} {κ : KK} {y : MethodName} {cc : ByteArray} {nL : Nat} {ret : Option FieldType} {F Lw : Nat} {as : List VV} {g : HP} {o2 : Option (Option VV × HP)} (hmono : ∀ a, o2 = some a → cu g ≤ cu a.2 ∧ sl g ≤ sl a.2)
    (hf : ∀ h, View κ h g → (∀ q, tg g q ≠ 0 → q < nx g) → ∀ a2, o2 = some a2 → ∃ (a1 : Option VV × HP) (o1 : Option (Option VV × HP)), o1 = some a1 ∧ a1.1 = a2.1 ∧ View κ a1.2 a2.2 ∧ MA l κ Pi1 y cc nL ret F Lw as h o1) : MA l κ Pi2 y cc nL ret F Lw as g o2 := by
  intro a2 ha2
  refine ⟨(hmono a2 ha2).1, (hmono a2 ha2).2, ?_⟩
  intro p e h1 h2 h3 s m args below hfr hS hPc hK
  obtain ⟨q1, q2, h, V, q3⟩ := hPc
  obtain ⟨a1, o1, e1, e2, V', hM⟩ := hf h V (fun q hq => V.own q3 hq) a2 ha2
  have hM' := (hM a1 e1).2.2
  have c1 : cu h = cu g := by show (se h).2 + nx h = (se g).2 + nx g; rw [V.1, V.2.1]
  have c2 : cu a1.2 = cu a2.2 := by show (se a1.2).2 + nx a1.2 = (se a2.2).2 + nx a2.2; rw [V'.1, V'.2.1]
  have c3 : sl h = sl g := congrArg Prod.fst V.2.1
  have c4 : sl a1.2 = sl a2.2 := congrArg Prod.fst V'.2.1
  have er : rmM F Lw h a1.2 = rmM F Lw g a2.2 := by unfold rmM; rw [c1, c2, c3, c4]
  rw [er, c1, c2, c3, c4] at hM'
  obtain ⟨n, oo, r1, r2, r3, r4, r5⟩ := hM' p e h1 h2 h3 s m args below hfr hS ⟨q1, q2, q3⟩ hK
  obtain ⟨s1, s2, s3, s4, s5⟩ := r4
  exact ⟨n, oo, r1, r2, r3, ⟨by rw [← e2]; exact s1, s2, ⟨a1.2, V', s3⟩, s4, s5⟩, r5⟩
/-- a list's new contents, in the array it has -/
theorem View.put {κ : KK} {h g h' : HP} (V : View κ h g) {b e c : Nat} {l : List (Option Nat)} (hb : tg g b = 1) (z1 : fr g 0 b = some c) (z2 : 0 < c) (z3 : c ≤ 40000) (z4 : fr h 1 b = some e) (z5 : tg g e = 30) (z6 : fr g 2 e = some b) (hl : l.length ≤ c) (hl2 : l.length ≤ 20001) (hk : l.all (okE g) = true)
    (e1 : tg h' = tg h) (e2 : nx h' = nx h) (e3 : se h' = se h) (e4 : fr h' = fr h) (e5 : ia h' = ia h) (e6 : ∀ j q, q ≠ b → fi h' j q = fi h j q) (e7 : ∀ q, q ≠ e → oa h' q = oa h q) (e8 : fi h' 2 b = Int32.ofNat l.length) (e9 : oa h' e = l ++ List.replicate (c - l.length) none) : View κ h' (setO g b l) := by
  have hkE : kE κ ≠ b := fun z => by have := V.2.2.2.2.2.2.2.1; rw [z] at this; omega
  refine ⟨by rw [e2]; exact V.1, by rw [e3]; exact V.2.1, fun q => by rw [e1]; exact V.2.2.1 q, fun j q hq => ?_, by rw [e5]; exact V.2.2.2.2.1, fun q hq => ?_, fun a ha => ?_, V.2.2.2.2.2.2.2.1, ?_, fun a ha => ?_⟩
  · have hqb : q ≠ b := fun z => hq.1 (by rw [z]; exact hb)
    rw [e6 j q hqb, e4]
    exact V.2.2.2.1 j q hq
  · have hqb : q ≠ b := fun z => hq.1 (by rw [z]; exact hb)
    have hqe : q ≠ e := fun z => hq.2.1 (by rw [z]; exact z5)
    rw [e7 q hqe]
    show _ = up1 (oa g) b l q
    rw [up1_ne _ _ hqb]
    exact V.2.2.2.2.2.1 q hq
  · by_cases hab : a = b
    · subst hab
      have eo : oa (setO g a l) a = l := up1_self _ _ _
      refine ⟨by rw [eo]; exact e8, by rw [eo]; exact hl2, by rw [eo]; exact hk, Or.inr ⟨e, c, z1, z2, z3, by rw [e4]; exact z4, z5, z6, by rw [eo]; exact hl, by rw [eo]; exact e9⟩⟩
    · have eo : oa (setO g b l) a = oa g a := up1_ne _ _ hab
      obtain ⟨q1, q2, q3, q4⟩ := V.2.2.2.2.2.2.1 a ha
      refine ⟨by rw [eo, e6 2 a hab]; exact q1, by rw [eo]; exact q2, by rw [eo]; exact q3, ?_⟩
      rcases q4 with ⟨w1, w2, w3⟩ | ⟨e', c', w1, w2, w3, w4, w5, w6, w7, w8⟩
      · exact Or.inl ⟨w1, by rw [eo]; exact w2, by rw [e4]; exact w3⟩
      · have hne : e' ≠ e := fun z => by
          rw [z, z6] at w6
          exact hab (Option.some.inj w6).symm
        exact Or.inr ⟨e', c', w1, w2, w3, by rw [e4]; exact w4, w5, w6, by rw [eo]; exact w7, by rw [e7 e' hne, eo]; exact w8⟩
  · show up1 (oa g) b l (kE κ) = []
    rw [up1_ne _ _ hkE]
    exact V.2.2.2.2.2.2.2.2.1
  · have ha' : tg g a = 31 := ha
    rw [e6 2 a (fun z => by rw [z] at ha'; omega)]
    exact V.2.2.2.2.2.2.2.2.2 a ha'
/-- a list's new contents, in a new array -/
theorem View.grow {κ : KK} {h g h' : HP} (V : View κ h g) (own : ∀ q, tg g q ≠ 0 → q < nx g) {b c : Nat} {l : List (Option Nat)} (hb : tg g b = 1) (z2 : 0 < c) (z3 : c ≤ 40000) (hl : l.length ≤ c) (hl2 : l.length ≤ 20001) (hk : l.all (okE g) = true)
    (e1 : ∀ q, tg h' q = if q = nx h then 22 else tg h q) (e2 : nx h' = nx h + 1) (e3 : se h' = ((se h).1 + c, (se h).2)) (e4 : ∀ j q, q ≠ nx h → ¬ (j = 1 ∧ q = b) → fr h' j q = fr h j q) (e4b : fr h' 1 b = some (nx h)) (e5 : ∀ q, q ≠ nx h → ia h' q = ia h q) (e5b : ia h' (nx h) = []) (e6 : ∀ j q, q ≠ b → q ≠ nx h → fi h' j q = fi h j q) (e7 : ∀ q, q ≠ nx h → oa h' q = oa h q) (e8 : fi h' 2 b = Int32.ofNat l.length) (e9 : oa h' (nx h) = l ++ List.replicate (c - l.length) none) :
    View κ h' (setO (al_grow b c g) b l) := by
  have en : nx h = nx g := V.1
  have lt : ∀ x, tg g x ≠ 0 → x ≠ nx g := fun x hx => by have := own x hx; omega
  have hbn : b ≠ nx g := lt b (by omega)
  have hkE : kE κ ≠ b := fun z => by have := V.2.2.2.2.2.2.2.1; rw [z] at this; omega
  have hkn : kE κ ≠ nx g := lt _ (by have := V.2.2.2.2.2.2.2.1; omega)
  have t1 : ∀ q, tg (setO (al_grow b c g) b l) q = if q = nx g then 30 else tg g q := fun q => rfl
  have t2 : ∀ j q, fi (setO (al_grow b c g) b l) j q = if q = nx g then 0 else fi g j q := fun j q => rfl
  have t3 : ∀ j q, fr (setO (al_grow b c g) b l) j q = if j = 2 ∧ q = nx g then some b else if j = 0 ∧ q = b then some c else if q = nx g then none else fr g j q := fun j q => rfl
  have t4 : ∀ q, oa (setO (al_grow b c g) b l) q = if q = b then l else if q = nx g then [] else oa g q := fun q => rfl
  have okE' : ∀ v, okE g v = true → okE (setO (al_grow b c g) b l) v = true := fun v hv => by
    cases v with
    | none => rfl
    | some x =>
      have e : (Nat.ble 1 (tg g x) && Nat.ble (tg g x) 11) = true := hv
      rw [Bool.and_eq_true] at e
      have h1 := Nat.le_of_ble_eq_true e.1
      show (Nat.ble 1 (tg (setO (al_grow b c g) b l) x) && Nat.ble (tg (setO (al_grow b c g) b l) x) 11) = true
      rw [t1, if_neg (lt x (by omega)), Bool.and_eq_true]
      exact e
  have allE : ∀ l' : List (Option Nat), l'.all (okE g) = true → l'.all (okE (setO (al_grow b c g) b l)) = true := fun l' hl' => by
    rw [List.all_eq_true] at hl' ⊢
    exact fun v hv => okE' v (hl' v hv)
  refine ⟨by rw [e2, en]; rfl, by rw [e3, V.2.1]; rfl, fun q => ?_, fun j q hq => ?_, ?_, fun q hq => ?_, fun a ha => ?_, ?_, ?_, fun a ha => ?_⟩
  · rw [e1, t1, en]
    split
    · rfl
    · exact V.2.2.1 q
  · have hqn : q ≠ nx g := fun z => hq.2.1 (by rw [t1, if_pos z])
    have hqt : nonL (tg g q) := by rw [t1, if_neg hqn] at hq; exact hq
    have hqb : q ≠ b := fun z => hqt.1 (by rw [z]; exact hb)
    rw [t2, t3, if_neg hqn, if_neg (fun z => hqn z.2), if_neg (fun z => hqb z.2), if_neg hqn, e6 j q hqb (by rw [en]; exact hqn), e4 j q (by rw [en]; exact hqn) (fun z => hqb z.2)]
    exact V.2.2.2.1 j q hqt
  · funext q
    have t5 : ia (setO (al_grow b c g) b l) q = if q = nx g then [] else ia g q := rfl
    rw [t5]
    by_cases hqn : q = nx g
    · rw [if_pos hqn, hqn, ← en, e5b]
    · rw [if_neg hqn, e5 q (by rw [en]; exact hqn), V.2.2.2.2.1]
  · have hqn : q ≠ nx g := fun z => hq.2.1 (by rw [t1, if_pos z])
    have hqt : nonL (tg g q) := by rw [t1, if_neg hqn] at hq; exact hq
    have hqb : q ≠ b := fun z => hqt.1 (by rw [z]; exact hb)
    rw [t4, if_neg hqb, if_neg hqn, e7 q (by rw [en]; exact hqn)]
    exact V.2.2.2.2.2.1 q hqt
  · have han : a ≠ nx g := fun z => by rw [t1, if_pos z] at ha; omega
    have hat : tg g a = 1 := by rw [t1, if_neg han] at ha; exact ha
    by_cases hab : a = b
    · subst hab
      have eo : oa (setO (al_grow a c g) a l) a = l := by rw [t4, if_pos rfl]
      refine ⟨by rw [eo]; exact e8, by rw [eo]; exact hl2, by rw [eo]; exact allE l hk, Or.inr ⟨nx g, c, ?_, z2, z3, by rw [← en]; exact e4b, ?_, ?_, by rw [eo]; exact hl, by rw [eo, ← en]; exact e9⟩⟩
      · rw [t3, if_neg (by omega), if_pos ⟨rfl, rfl⟩]
      · rw [t1, if_pos rfl]
      · rw [t3, if_pos ⟨rfl, rfl⟩]
    · have eo : oa (setO (al_grow b c g) b l) a = oa g a := by rw [t4, if_neg hab, if_neg han]
      have er : ∀ j, j ≠ 2 ∨ True → fr (setO (al_grow b c g) b l) j a = fr g j a := fun j _ => by rw [t3, if_neg (fun z => han z.2), if_neg (fun z => hab z.2), if_neg han]
      obtain ⟨q1, q2, q3, q4⟩ := V.2.2.2.2.2.2.1 a hat
      refine ⟨by rw [eo, e6 2 a hab (by rw [en]; exact han)]; exact q1, by rw [eo]; exact q2, by rw [eo]; exact allE _ q3, ?_⟩
      rcases q4 with ⟨w1, w2, w3⟩ | ⟨e', c', w1, w2, w3, w4, w5, w6, w7, w8⟩
      · exact Or.inl ⟨by rw [er 0 (Or.inr trivial)]; exact w1, by rw [eo]; exact w2, by rw [e4 1 a (by rw [en]; exact han) (fun z => hab z.2)]; exact w3⟩
      · have hen : e' ≠ nx g := lt e' (by omega)
        have heb : e' ≠ b := fun z => by rw [z] at w5; omega
        exact Or.inr ⟨e', c', by rw [er 0 (Or.inr trivial)]; exact w1, w2, w3, by rw [e4 1 a (by rw [en]; exact han) (fun z => hab z.2)]; exact w4, by rw [t1, if_neg hen]; exact w5, by rw [t3, if_neg (fun z => hen z.2), if_neg (fun z => heb z.2), if_neg hen]; exact w6, by rw [eo]; exact w7, by rw [e7 e' (by rw [en]; exact hen), eo]; exact w8⟩
  · rw [t1, if_neg hkn]; exact V.2.2.2.2.2.2.2.1
  · rw [t4, if_neg hkE, if_neg hkn]; exact V.2.2.2.2.2.2.2.2.1
  · have han : a ≠ nx g := fun z => by rw [t1, if_pos z] at ha; omega
    rw [t1, if_neg han] at ha
    rw [e6 2 a (fun z => by rw [z] at ha; omega) (by rw [en]; exact han)]
    exact V.2.2.2.2.2.2.2.2.2 a ha
