/-! Lists as lists: the heap g tells of a list its contents (at the list's own address) and its capacity (field 0), of the array behind it whose it is (field 2); the heap h below has all cells. -/
def T1 (t : Nat) : Nat := if t = 30 then 22 else if t = 31 then 1 else t
def nonL (t : Nat) : Prop := t ≠ 1 ∧ t ≠ 30 ∧ t ≠ 31
def lsOk (κ : KK) (h g : HP) (a : Nat) : Prop :=
  fi h 2 a = Int32.ofNat (oa g a).length ∧ (oa g a).length ≤ 20001 ∧ (oa g a).all (okE g) = true ∧
  ((fr g 0 a = none ∧ oa g a = [] ∧ fr h 1 a = some (kE κ)) ∨ ∃ e c, fr g 0 a = some c ∧ 0 < c ∧ c ≤ 40000 ∧ fr h 1 a = some e ∧ tg g e = 30 ∧ fr g 2 e = some a ∧ (oa g a).length ≤ c ∧ oa h e = oa g a ++ List.replicate (c - (oa g a).length) none)
def View (κ : KK) (h g : HP) : Prop :=
  nx h = nx g ∧ se h = se g ∧ (∀ q, tg h q = T1 (tg g q)) ∧ (∀ j q, nonL (tg g q) → fi h j q = fi g j q ∧ fr h j q = fr g j q) ∧ ia h = ia g ∧ (∀ q, nonL (tg g q) → oa h q = oa g q) ∧ (∀ a, tg g a = 1 → lsOk κ h g a) ∧ tg g (kE κ) = 24 ∧ oa g (kE κ) = [] ∧ ∀ a, tg g a = 31 → fi h 2 a = 0
def Pi2 (κ : KK) (g : HP) (H : Heap) : Prop := ∃ h, View κ h g ∧ Pi1 κ h H
def ok2 : Nat → Bool := fun t => (Nat.ble 2 t && Nat.ble t 11) || (t == 20 || t == 21 || t == 23 || t == 25)
theorem ok2_nonL {t : Nat} (h : ok2 t = true) : nonL t ∧ t ≠ 22 ∧ t ≠ 24 ∧ t ≠ 0 := by
  unfold ok2 at h
  unfold nonL
  simp only [Bool.or_eq_true, Bool.and_eq_true, beq_iff_eq] at h
  rcases h with ⟨h1, h2⟩ | ((h | h) | h) | h
  · have := Nat.le_of_ble_eq_true h1
    have := Nat.le_of_ble_eq_true h2
    omega
  all_goals omega
theorem T1_id {t : Nat} (h : t ≠ 30 ∧ t ≠ 31) : T1 t = t := by unfold T1; rw [if_neg h.1, if_neg h.2]
theorem T1_ne0 {t : Nat} (h : t ≠ 0) : T1 t ≠ 0 := by unfold T1; (repeat' split) <;> omega
section Views
variable {κ : KK} {h g h' g' : HP}
theorem View.own (V : View κ h g) {H : Heap} (p : Pi1 κ h H) {q : Nat} (ht : tg g q ≠ 0) : q < nx g := by
  have := p.1.2.2.1 q (by rw [V.2.2.1]; exact T1_ne0 ht)
  rw [V.1] at this
  exact this
theorem View.fld (V : View κ h g) {q : Nat} (hq : nonL (tg g q)) (j : Nat) : fldV h j q = fldV g j q := by
  unfold fldV
  rw [(V.2.2.2.1 j q hq).1, (V.2.2.2.1 j q hq).2]
theorem View.obj (V : View κ h g) {H : Heap} {ci q : Nat} (hq : nonL (tg g q)) (ho : objAt κ h H ci q) : objAt κ g H ci q := objAt_kept ho rfl fun k => (V.fld hq _).symm
theorem okE_tg {g g' : HP} (ht : tg g' = tg g) : okE g' = okE g := by
  funext v
  cases v with
  | none => rfl
  | some b => unfold okE; rw [ht]
theorem View.okv (V : View κ h g) {v : Option Nat} (hv : okE g v = true) : okE h v = true := by
  cases v with
  | none => rfl
  | some b =>
    have e : (Nat.ble 1 (tg g b) && Nat.ble (tg g b) 11) = true := hv
    rw [Bool.and_eq_true] at e
    have h2 := Nat.le_of_ble_eq_true e.2
    show (Nat.ble 1 (tg h b) && Nat.ble (tg h b) 11) = true
    rw [V.2.2.1, T1_id (by omega), Bool.and_eq_true]
    exact e
/-- a change that no list sees -/
theorem View.side (V : View κ h g) (e1 : nx h' = nx g') (e2 : se h' = se g') (e3 : ∀ q, tg h' q = T1 (tg g' q)) (e4 : ∀ j q, nonL (tg g' q) → fi h' j q = fi g' j q ∧ fr h' j q = fr g' j q) (e5 : ia h' = ia g') (e6 : ∀ q, nonL (tg g' q) → oa h' q = oa g' q)
    (e7 : ∀ a, tg g' a = 1 → tg g a = 1) (e8 : ∀ a, tg g a = 1 ∨ tg g a = 30 → (∀ j, fi h' j a = fi h j a ∧ fr h' j a = fr h j a ∧ fr g' j a = fr g j a) ∧ oa h' a = oa h a ∧ oa g' a = oa g a ∧ tg g' a = tg g a) (e9 : ∀ b, tg g b ≠ 0 → tg g b ≤ 11 → tg g' b = tg g b) (e10 : tg g' (kE κ) = 24 ∧ oa g' (kE κ) = [] ∧ ∀ a, tg g' a = 31 → fi h' 2 a = 0) : View κ h' g' := by
  refine ⟨e1, e2, e3, e4, e5, e6, fun a ha => ?_, e10⟩
  have ha' := e7 a ha
  obtain ⟨p1, p2, p3, p4⟩ := e8 a (Or.inl ha')
  obtain ⟨q1, q2, q3, q4⟩ := V.2.2.2.2.2.2.1 a ha'
  have hall : (oa g a).all (okE g') = true := by
    rw [List.all_eq_true] at q3 ⊢
    intro v hv
    have := q3 v hv
    cases v with
    | none => rfl
    | some b =>
      have e : (Nat.ble 1 (tg g b) && Nat.ble (tg g b) 11) = true := this
      rw [Bool.and_eq_true] at e
      have h1 := Nat.le_of_ble_eq_true e.1
      have h2 := Nat.le_of_ble_eq_true e.2
      show (Nat.ble 1 (tg g' b) && Nat.ble (tg g' b) 11) = true
      rw [e9 b (by omega) h2, Bool.and_eq_true]
      exact e
  refine ⟨by rw [(p1 2).1, p3]; exact q1, by rw [p3]; exact q2, by rw [p3]; exact hall, ?_⟩
  rcases q4 with ⟨z1, z2, z3⟩ | ⟨e, c, z1, z2, z3, z4, z5, z6, z7, z8⟩
  · exact Or.inl ⟨by rw [(p1 0).2.2]; exact z1, by rw [p3]; exact z2, by rw [(p1 1).2.1]; exact z3⟩
  · obtain ⟨r1, r2, r3, r4⟩ := e8 e (Or.inr z5)
    exact Or.inr ⟨e, c, by rw [(p1 0).2.2]; exact z1, z2, z3, by rw [(p1 1).2.1]; exact z4, by rw [r4]; exact z5, by rw [(r1 2).2.2]; exact z6, by rw [p3]; exact z7, by rw [r2, p3]; exact z8⟩
end Views
theorem View.new {κ : KK} {h g : HP} (V : View κ h g) (own : ∀ q, tg g q ≠ 0 → q < nx g) {t n : Nat} {il : List Int32} {ol : List (Option Nat)} (hok : ok2 t = true) : View κ (newG h t n il ol) (newG g t n il ol) := by
  have hq := ok2_nonL hok
  have en : nx h = nx g := V.1
  have tn : ∀ x, tg (newG g t n il ol) x = if x = nx g then t else tg g x := fun x => rfl
  have tn' : ∀ x, tg (newG h t n il ol) x = if x = nx h then t else tg h x := fun x => rfl
  have keep : ∀ x, x ≠ nx g → tg (newG g t n il ol) x = tg g x := fun x hx => by rw [tn, if_neg hx]
  have lt : ∀ x, tg g x ≠ 0 → x ≠ nx g := fun x hx => by have := own x hx; omega
  refine V.side (by show nx h + 1 = nx g + 1; rw [en]) (by show ((se h).1 + n, (se h).2) = ((se g).1 + n, (se g).2); rw [V.2.1]) (fun x => ?_) (fun j x hx => ?_) ?_ (fun x hx => ?_) (fun a ha => ?_) (fun a ha => ?_) (fun b hb _ => keep b (lt b hb)) ⟨?_, ?_, fun a ha => ?_⟩
  · rw [tn, tn', en]
    split
    · exact (T1_id ⟨hq.1.2.1, hq.1.2.2⟩).symm
    · exact V.2.2.1 x
  · have e1 : ∀ z : HP, fi (newG z t n il ol) j x = if x = nx z then 0 else fi z j x := fun z => rfl
    have e2 : ∀ z : HP, fr (newG z t n il ol) j x = if x = nx z then none else fr z j x := fun z => rfl
    rw [e1, e1, e2, e2, en]
    by_cases e : x = nx g
    · rw [if_pos e, if_pos e, if_pos e, if_pos e]; exact ⟨rfl, rfl⟩
    · rw [if_neg e, if_neg e, if_neg e, if_neg e]
      rw [keep x e] at hx
      exact V.2.2.2.1 j x hx
  · show up1 (ia h) (nx h) il = up1 (ia g) (nx g) il
    rw [en, V.2.2.2.2.1]
  · have e1 : ∀ z : HP, oa (newG z t n il ol) x = if x = nx z then ol else oa z x := fun z => rfl
    rw [e1, e1, en]
    by_cases e : x = nx g
    · rw [if_pos e, if_pos e]
    · rw [if_neg e, if_neg e]
      rw [keep x e] at hx
      exact V.2.2.2.2.2.1 x hx
  · rw [tn] at ha
    split at ha
    · exact absurd ha hq.1.1
    · exact ha
  · have hne := lt a (by omega)
    have hne' : a ≠ nx h := by rw [en]; exact hne
    refine ⟨fun j => ⟨if_neg hne', if_neg hne', if_neg hne⟩, if_neg hne', if_neg hne, keep a hne⟩
  · have := V.2.2.2.2.2.2.2.1
    rw [keep _ (lt _ (by omega))]
    exact this
  · have h24 := V.2.2.2.2.2.2.2.1
    have : oa (newG g t n il ol) (kE κ) = oa g (kE κ) := if_neg (lt _ (by omega))
    rw [this]
    exact V.2.2.2.2.2.2.2.2.1
  · have hne : a ≠ nx g := fun z => by rw [tn, if_pos z] at ha; exact hq.1.2.2 ha
    rw [tn, if_neg hne] at ha
    have : fi (newG h t n il ol) 2 a = fi h 2 a := if_neg (fun z => hne (z.trans en))
    rw [this]
    exact V.2.2.2.2.2.2.2.2.2 a ha
/-- a new list, before its constructor -/
theorem View.newAL {κ : KK} {h g : HP} (V : View κ h g) (own : ∀ q, tg g q ≠ 0 → q < nx g) {n : Nat} : View κ (newG h 1 n [] []) (newG g 31 n [] []) := by
  have en : nx h = nx g := V.1
  have tn : ∀ x, tg (newG g 31 n [] []) x = if x = nx g then 31 else tg g x := fun x => rfl
  have tn' : ∀ x, tg (newG h 1 n [] []) x = if x = nx h then 1 else tg h x := fun x => rfl
  have keep : ∀ x, x ≠ nx g → tg (newG g 31 n [] []) x = tg g x := fun x hx => by rw [tn, if_neg hx]
  have lt : ∀ x, tg g x ≠ 0 → x ≠ nx g := fun x hx => by have := own x hx; omega
  refine V.side (by show nx h + 1 = nx g + 1; rw [en]) (by show ((se h).1 + n, (se h).2) = ((se g).1 + n, (se g).2); rw [V.2.1]) (fun x => ?_) (fun j x hx => ?_) ?_ (fun x hx => ?_) (fun a ha => ?_) (fun a ha => ?_) (fun b hb _ => keep b (lt b hb)) ⟨?_, ?_, fun a ha => ?_⟩
  · rw [tn, tn', en]
    split
    · rfl
    · exact V.2.2.1 x
  · have e : x ≠ nx g := fun z => hx.2.2 (by rw [tn, if_pos z])
    have e1 : fi (newG h 1 n [] []) j x = fi h j x := if_neg (fun z => e (z.trans en))
    have e2 : fr (newG h 1 n [] []) j x = fr h j x := if_neg (fun z => e (z.trans en))
    have e3 : fi (newG g 31 n [] []) j x = fi g j x := if_neg e
    have e4 : fr (newG g 31 n [] []) j x = fr g j x := if_neg e
    rw [e1, e2, e3, e4]
    rw [keep x e] at hx
    exact V.2.2.2.1 j x hx
  · show up1 (ia h) (nx h) [] = up1 (ia g) (nx g) []
    rw [en, V.2.2.2.2.1]
  · have e : x ≠ nx g := fun z => hx.2.2 (by rw [tn, if_pos z])
    have e1 : oa (newG h 1 n [] []) x = oa h x := if_neg (fun z => e (z.trans en))
    have e2 : oa (newG g 31 n [] []) x = oa g x := if_neg e
    rw [e1, e2]
    rw [keep x e] at hx
    exact V.2.2.2.2.2.1 x hx
  · rw [tn] at ha
    split at ha
    · omega
    · exact ha
  · have hne := lt a (by omega)
    have hne' : a ≠ nx h := by rw [en]; exact hne
    refine ⟨fun j => ⟨if_neg hne', if_neg hne', if_neg hne⟩, if_neg hne', if_neg hne, keep a hne⟩
  · have := V.2.2.2.2.2.2.2.1
    rw [keep _ (lt _ (by omega))]
    exact this
  · have h24 := V.2.2.2.2.2.2.2.1
    have : oa (newG g 31 n [] []) (kE κ) = oa g (kE κ) := if_neg (lt _ (by omega))
    rw [this]
    exact V.2.2.2.2.2.2.2.2.1
  · by_cases e : a = nx g
    · have : fi (newG h 1 n [] []) 2 a = 0 := if_pos (e.trans en.symm)
      exact this
    · rw [keep a e] at ha
      have : fi (newG h 1 n [] []) 2 a = fi h 2 a := if_neg (fun z => e (z.trans en))
      rw [this]
      exact V.2.2.2.2.2.2.2.2.2 a ha
theorem PO_Pi2 (κ : KK) : PO κ (Pi2 κ) ok2 := by
  have P1 := PO_Pic1 κ
  have big : ∀ {t : Nat}, T1 t = t ∨ t = 30 ∨ t = 31 := fun {t} => by
    by_cases h1 : t = 30
    · exact Or.inr (Or.inl h1)
    · by_cases h2 : t = 31
      · exact Or.inr (Or.inr h2)
      · exact Or.inl (T1_id ⟨h1, h2⟩)
  refine ⟨fun g H ⟨h, V, p⟩ => by rw [← V.1]; exact P1.1 h H p, fun g H q ⟨h, V, p⟩ ht => V.own p ht,
    fun g H q ci ⟨h, V, p⟩ ht hl => P1.2.2.1 h H q ci p (by rw [V.2.2.1, ht, T1_id (by omega)]) hl,
    fun g H q ci ⟨h, V, p⟩ ht hl hok => ?_, fun g H q ⟨h, V, p⟩ ht => ?_, fun g H q ⟨h, V, p⟩ ht hok => ?_, ?_, ?_, ?_, ?_, ?_, ?_, ?_⟩
  · have hn := ok2_nonL hok
    rw [← ht] at hn
    obtain ⟨o1, o2⟩ := P1.2.2.2.1 h H q ci p (by rw [V.2.2.1, ht, T1_id (by omega)]) hl rfl
    exact ⟨V.obj hn.1 o1, o2⟩
  · have e : tg h q = tg g q := by rw [V.2.2.1, T1_id (by unfold isI at ht; omega)]
    obtain ⟨o1, o2⟩ := P1.2.2.2.2.1 h H q p (by rw [e]; exact ht)
    rw [e, V.2.2.2.2.1] at o1
    rw [e] at o2
    exact ⟨o1, o2⟩
  · have hn := ok2_nonL hok
    have e : tg h q = tg g q := by rw [V.2.2.1, T1_id ⟨hn.1.2.1, hn.1.2.2⟩]
    obtain ⟨o1, o2⟩ := P1.2.2.2.2.2.1 h H q p (by rw [e]; exact ht) rfl
    rw [e, V.2.2.2.2.2.1 q hn.1] at o1
    rw [e] at o2
    exact ⟨o1, o2⟩
  · intro g H q ci k v H1 ⟨h, V, p⟩ ht hl hok hk hs ho hn
    have hq := ok2_nonL hok
    rw [← ht] at hq
    have hth : tg h q = ci + 1 := by rw [V.2.2.1, ht, T1_id (by omega)]
    have hob : objAt κ (setI h (16 * ci + k) q v) H1 ci q := objAt_kept hn rfl fun k' => by
      by_cases e : k' = k
      · subst e
        unfold fldV
        have f1 : fi (setI h (16 * ci + k') q v) (16 * ci + k') q = v := if_pos ⟨rfl, rfl⟩
        have f2 : fi (setI g (16 * ci + k') q v) (16 * ci + k') q = v := if_pos ⟨rfl, rfl⟩
        have f3 : fr (setI h (16 * ci + k') q v) (16 * ci + k') q = fr (setI g (16 * ci + k') q v) (16 * ci + k') q := (V.2.2.2.1 _ q hq.1).2
        rw [f1, f2, f3]
      · rw [fldV_setI (by omega), fldV_setI (by omega)]
        exact V.fld hq.1 _
    refine ⟨setI h (16 * ci + k) q v, V.side V.1 V.2.1 V.2.2.1 (fun j x hx => ⟨?_, (V.2.2.2.1 j x hx).2⟩) V.2.2.2.2.1 V.2.2.2.2.2.1 (fun a ha => ha) (fun a ha => ⟨fun j => ⟨?_, rfl, rfl⟩, rfl, rfl, rfl⟩) (fun b _ _ => rfl) ⟨V.2.2.2.2.2.2.2.1, V.2.2.2.2.2.2.2.2.1, fun a ha => ?_⟩, P1.2.2.2.2.2.2.1 h H q ci k v H1 p hth hl rfl hk hs ho hob⟩
    · show up2 _ _ _ _ j x = up2 _ _ _ _ j x
      unfold up2
      have := (V.2.2.2.1 j x hx).1
      split
      · rfl
      · exact this
    · show up2 _ _ _ _ j a = _
      unfold up2
      rw [if_neg (fun z => by rw [z.2] at ha; unfold nonL at hq; omega)]; rfl
    · show up2 _ _ _ _ 2 a = _
      unfold up2
      have ha' : tg g a = 31 := ha
      rw [if_neg (fun z => by rw [z.2] at ha'; unfold nonL at hq; omega)]
      exact V.2.2.2.2.2.2.2.2.2 a ha
  · intro g H q ci k v H1 ⟨h, V, p⟩ ht hl hok hk hs ho hn
    have hq := ok2_nonL hok
    rw [← ht] at hq
    have hth : tg h q = ci + 1 := by rw [V.2.2.1, ht, T1_id (by omega)]
    have hob : objAt κ (setR h (16 * ci + k) q v) H1 ci q := objAt_kept hn rfl fun k' => by
      by_cases e : k' = k
      · subst e
        unfold fldV
        have f1 : fr (setR h (16 * ci + k') q v) (16 * ci + k') q = v := if_pos ⟨rfl, rfl⟩
        have f2 : fr (setR g (16 * ci + k') q v) (16 * ci + k') q = v := if_pos ⟨rfl, rfl⟩
        have f3 : fi (setR h (16 * ci + k') q v) (16 * ci + k') q = fi (setR g (16 * ci + k') q v) (16 * ci + k') q := (V.2.2.2.1 _ q hq.1).1
        rw [f1, f2, f3]
      · rw [fldV_setR (by omega), fldV_setR (by omega)]
        exact V.fld hq.1 _
    refine ⟨setR h (16 * ci + k) q v, V.side V.1 V.2.1 V.2.2.1 (fun j x hx => ⟨(V.2.2.2.1 j x hx).1, ?_⟩) V.2.2.2.2.1 V.2.2.2.2.2.1 (fun a ha => ha) (fun a ha => ⟨fun j => ⟨rfl, ?_, ?_⟩, rfl, rfl, rfl⟩) (fun b _ _ => rfl) V.2.2.2.2.2.2.2, P1.2.2.2.2.2.2.2.1 h H q ci k v H1 p hth hl rfl hk hs ho hob⟩
    · show up2 _ _ _ _ j x = up2 _ _ _ _ j x
      unfold up2
      have := (V.2.2.2.1 j x hx).2
      split
      · rfl
      · exact this
    · show up2 _ _ _ _ j a = _
      unfold up2
      rw [if_neg (fun z => by rw [z.2] at ha; unfold nonL at hq; omega)]; rfl
    · show up2 _ _ _ _ j a = _
      unfold up2
      rw [if_neg (fun z => by rw [z.2] at ha; unfold nonL at hq; omega)]; rfl
  · intro g H q l H1 ⟨h, V, p⟩ ht hs ho hn
    have e : tg h q = tg g q := by rw [V.2.2.1, T1_id (by omega)]
    refine ⟨setA h q l, V.side V.1 V.2.1 V.2.2.1 V.2.2.2.1 ?_ V.2.2.2.2.2.1 (fun a ha => ha) (fun a ha => ⟨fun j => ⟨rfl, rfl, rfl⟩, rfl, rfl, rfl⟩) (fun b _ _ => rfl) V.2.2.2.2.2.2.2, P1.2.2.2.2.2.2.2.2.1 h H q l H1 p (by rw [e]; exact ht) hs ho (by rw [e]; exact hn)⟩
    show up1 (ia h) q l = up1 (ia g) q l
    rw [V.2.2.2.2.1]
  · intro g H q l H1 ⟨h, V, p⟩ ht hok hs ho hn
    have hq := ok2_nonL hok
    have e : tg h q = tg g q := by rw [V.2.2.1, T1_id (by omega)]
    refine ⟨setO h q l, V.side V.1 V.2.1 V.2.2.1 V.2.2.2.1 V.2.2.2.2.1 (fun x hx => ?_) (fun a ha => ha) (fun a ha => ⟨fun j => ⟨rfl, rfl, rfl⟩, ?_, ?_, rfl⟩) (fun b _ _ => rfl) ⟨V.2.2.2.2.2.2.2.1, ?_, V.2.2.2.2.2.2.2.2.2⟩, P1.2.2.2.2.2.2.2.2.2.1 h H q l H1 p (by rw [e]; exact ht) rfl hs ho (by rw [e]; exact hn)⟩
    · show up1 _ _ _ x = up1 _ _ _ x
      unfold up1
      split
      · rfl
      · exact V.2.2.2.2.2.1 x hx
    · show up1 _ _ _ a = _
      unfold up1
      rw [if_neg (fun z => by rw [z] at ha; unfold nonL at hq; omega)]; rfl
    · show up1 _ _ _ a = _
      unfold up1
      rw [if_neg (fun z => by rw [z] at ha; unfold nonL at hq; omega)]; rfl
    · show up1 _ _ _ _ = _
      unfold up1
      rw [if_neg (fun z => by have := V.2.2.2.2.2.2.2.1; rw [z] at this; omega)]
      exact V.2.2.2.2.2.2.2.2.1
  · intro g H ci n H1 ⟨h, V, p⟩ hl hok hs ho hn
    refine ⟨newG h (ci + 1) n [] [], V.new (fun q hq => V.own p hq) hok, P1.2.2.2.2.2.2.2.2.2.2.1 h H ci n H1 p hl rfl hs ho ?_⟩
    obtain ⟨r, r1, r2⟩ := hn
    have hz : H.size = nx h := p.1.1
    refine ⟨r, r1, r2.to fun k _ => ?_⟩
    unfold fldV
    have a1 : fi (newG h (ci + 1) n [] []) (16 * ci + k) H.size = 0 := by rw [hz]; exact if_pos rfl
    have a2 : fr (newG h (ci + 1) n [] []) (16 * ci + k) H.size = none := by rw [hz]; exact if_pos rfl
    have a3 : fi (newG g (ci + 1) n [] []) (16 * ci + k) H.size = 0 := by rw [hz, V.1]; exact if_pos rfl
    have a4 : fr (newG g (ci + 1) n [] []) (16 * ci + k) H.size = none := by rw [hz, V.1]; exact if_pos rfl
    rw [a1, a2, a3, a4]
  · intro g H t n l H1 ⟨h, V, p⟩ ht hs ho hn
    have hok : ok2 t = true := by rcases ht with rfl | rfl <;> rfl
    exact ⟨newG h t n l [], V.new (fun q hq => V.own p hq) hok, P1.2.2.2.2.2.2.2.2.2.2.2.1 h H t n l H1 p ht hs ho hn⟩
  · intro g H t n l H1 ⟨h, V, p⟩ ht hok hs ho hn
    exact ⟨newG h t n [] l, V.new (fun q hq => V.own p hq) hok, P1.2.2.2.2.2.2.2.2.2.2.2.2 h H t n l H1 p ht rfl hs ho hn⟩
