/-! The abstract heap: by address a tag (0: not ours, ci + 1: an object of class ci of vwCl, 20: int[], 21: boolean[], 22: Object[], 23: int[][], 24: the JDK's own empty Object[], 25: the law's script, 30: an array behind a list), the int fields and the reference fields by their number (16 * class + place), the contents of the arrays, the next address, the slots made. -/
abbrev HP : Type := (Nat → Nat) × (Nat → Nat → Int32) × (Nat → Nat → Option Nat) × (Nat → List Int32) × (Nat → List (Option Nat)) × Nat × Nat × Nat
def tg (g : HP) : Nat → Nat := g.1
def fi (g : HP) : Nat → Nat → Int32 := g.2.1
def fr (g : HP) : Nat → Nat → Option Nat := g.2.2.1
def ia (g : HP) : Nat → List Int32 := g.2.2.2.1
def oa (g : HP) : Nat → List (Option Nat) := g.2.2.2.2.1
def nx (g : HP) : Nat := g.2.2.2.2.2.1
def sl (g : HP) : Nat := g.2.2.2.2.2.2.1
/-- cells that were made and are nobody's, or only counted -/
def ex (g : HP) : Nat := g.2.2.2.2.2.2.2
def se (g : HP) : Nat × Nat := g.2.2.2.2.2.2
def cu (g : HP) : Nat := ex g + nx g
def up1 {α : Type} (f : Nat → α) (k : Nat) (v : α) : Nat → α := fun j => if j = k then v else f j
def up2 {α : Type} (f : Nat → Nat → α) (k a : Nat) (v : α) : Nat → Nat → α := fun j b => if j = k ∧ b = a then v else f j b
def setI (g : HP) (k a : Nat) (v : Int32) : HP := (g.1, up2 g.2.1 k a v, g.2.2)
def setR (g : HP) (k a : Nat) (v : Option Nat) : HP := (g.1, g.2.1, up2 g.2.2.1 k a v, g.2.2.2)
def setA (g : HP) (a : Nat) (l : List Int32) : HP := (g.1, g.2.1, g.2.2.1, up1 g.2.2.2.1 a l, g.2.2.2.2)
def setO (g : HP) (a : Nat) (l : List (Option Nat)) : HP := (g.1, g.2.1, g.2.2.1, g.2.2.2.1, up1 g.2.2.2.2.1 a l, g.2.2.2.2.2)
/-- a new object or array at the next address: its tag, its slots, its contents (ints, references) -/
def newG (g : HP) (t n : Nat) (il : List Int32) (ol : List (Option Nat)) : HP :=
  (up1 g.1 g.2.2.2.2.2.1 t, (fun k a => if a = g.2.2.2.2.2.1 then 0 else g.2.1 k a), (fun k a => if a = g.2.2.2.2.2.1 then none else g.2.2.1 k a), up1 g.2.2.2.1 g.2.2.2.2.2.1 il, up1 g.2.2.2.2.1 g.2.2.2.2.2.1 ol, g.2.2.2.2.2.1 + 1, g.2.2.2.2.2.2.1 + n, g.2.2.2.2.2.2.2)
/-- cells and slots that are nobody's -/
def bump (g : HP) (n k e : Nat) : HP := (g.1, g.2.1, g.2.2.1, g.2.2.2.1, g.2.2.2.2.1, g.2.2.2.2.2.1 + n, g.2.2.2.2.2.2.1 + k, g.2.2.2.2.2.2.2 + e)

abbrev VV : Type := Int32 ⊕ (Option Nat ⊕ (Int64 ⊕ UInt64))
abbrev vI (x : Int32) : VV := .inl x
abbrev vR (r : Option Nat) : VV := .inr (.inl r)
abbrev vJ (x : Int64) : VV := .inr (.inr (.inl x))
abbrev vD (x : UInt64) : VV := .inr (.inr (.inr x))
def vv : VV → Value
  | .inl x => .int x
  | .inr (.inl r) => va_rf r
  | .inr (.inr (.inl x)) => .long x
  | .inr (.inr (.inr x)) => .double x
def vc : VV → Nat
  | .inl _ => 1
  | .inr (.inl _) => 1
  | .inr (.inr _) => 2
theorem vv_cat (v : VV) : (vv v).category = vc v := by
  rcases v with x | (_ | a) | x | x <;> rfl
abbrev LL : Type := List (Nat × VV)
def lvv (L : LL) : List (Nat × Value) := L.map fun q => (q.1, vv q.2)
theorem lvv_at {L : LL} {q i : Nat} {v : VV} (h : L[q]? = some (i, v)) : (lvv L)[q]? = some (i, vv v) := by
  simp [lvv, List.getElem?_map, h]
/-- the locals behind a store of one word at place i -/
def lst1 (L : LL) (i : Nat) (v : VV) : LL := (i, v) :: L.filter (fun q => !(q.1 == i) && !(q.1 + 1 == i && vc q.2 == 2))
def lst2 (L : LL) (i : Nat) (v : VV) : LL := (i, v) :: L.filter (fun q => !(q.1 == i) && (!(q.1 == i + 1) && !(q.1 + 1 == i && vc q.2 == 2)))
theorem lvv_st1 (L : LL) (i : Nat) (v : VV) : (i, vv v) :: (lvv L).filter (fun q => !(q.1 == i) && !(q.1 + 1 == i && q.2.category == 2)) = lvv (lst1 L i v) := by
  unfold lst1 lvv
  rw [List.map_cons, List.filter_map]
  congr 3
  funext q
  simp [vv_cat]
theorem lvv_st2 (L : LL) (i : Nat) (v : VV) : (i, vv v) :: (lvv L).filter (fun q => !(q.1 == i) && (!(q.1 == i + 1) && !(q.1 + 1 == i && q.2.category == 2))) = lvv (lst2 L i v) := by
  unfold lst2 lvv
  rw [List.map_cons, List.filter_map]
  congr 3
  funext q
  simp [vv_cat]

/-- what is known of the launch: the first address that is ours, classes and field places, the array classes by tag, the JDK's empty array, the mirror of Object[] -/
abbrev KK : Type := Nat × va_G × (Nat → ClassId) × Nat × Nat
def kb (κ : KK) : Nat := κ.1
def kD (κ : KK) : va_G := κ.2.1
def kA (κ : KK) : Nat → ClassId := κ.2.2.1
def kE (κ : KK) : Nat := κ.2.2.2.1
def kM (κ : KK) : Nat := κ.2.2.2.2
def aty (t : Nat) : FieldType := if t = 20 then .int else if t = 21 then .boolean else if t = 22 then .object "java/lang/Object" else .array .int
def tysK (κ : KK) : List (ClassId × FieldType) := [(kA κ 20, .int), (kA κ 21, .boolean), (kA κ 22, .object "java/lang/Object"), (kA κ 23, .array .int)]
/-- words that are of a state, and pass from one to the next otherwise than the tables' own -/
def nestW : List Cond := [.methodLinkNest "Blockduty" 33 ⟨"Blockduty$WorkRules", "<init>", "()V"⟩ "Blockduty", .methodLinkNest "Blockduty" 44 ⟨"Blockduty$Row", "<init>", "()V"⟩ "Blockduty", .methodLinkNest "Blockduty" 58 ⟨"Blockduty$Followers", "<init>", "()V"⟩ "Blockduty", .methodLinkNest "Blockduty$Block" 17 ⟨"Blockduty$Row", "<init>", "()V"⟩ "Blockduty"]
/-- arrays over int[] -/
def KA2 (U : State) : Prop := (Cond.arrayOver (.array .int)).before #[] U = true
theorem KA2.moved {u U : State} (hvm : u.vm.Alike U.vm) (h : KA2 u) : KA2 U := by
  obtain ⟨comp, c, k, h1, h2, h3, h4, h5⟩ := arrayOverA_spec h
  obtain ⟨k', hk', he⟩ := hvm.2.2 _ _ h3
  have hi : (U.vm.classes.findIdx? fun (x : Class) => match x.kind with | .array component _ => component == comp | _ => false) = some c := by
    refine (va_idx_bare U.vm comp).symm.trans ?_
    first | rw [hvm.bare_eq] | rw [← hvm.bare_eq]
    exact (va_idx_bare u.vm comp).trans h2
  have hkind : k'.kind = .array comp (.array .int) := by rw [he]; exact h4
  have f1 : U.vm.findClass (FieldType.array .int).toString = some comp := by rw [hvm.findClass]; exact h1
  have f2 : U.vm.findClass ("[" ++ (FieldType.array .int).toString) = some c := by rw [hvm.findClass]; exact h5
  unfold KA2 Cond.before Cond.holds
  simp only [Cond.value]
  rw [f1, Option.bind_some]
  refine (congrArg (fun o : Option Nat => (o.bind (fun c => (U.vm.classes[c]?).map fun (k : Class) => match k.kind with | .array _ ty => decide (ty = FieldType.array .int) && decide (U.vm.findClass ("[" ++ (FieldType.array .int).toString) = some c) | _ => false) == some true)) hi).trans ?_
  simp [hk', hkind, f2]
/-- what a throw stands on, beside the tables' good words -/
def iseN : String := "java/lang/IllegalStateException"
def iseNames : List String := ["java/lang/RuntimeException", "java/lang/Exception"]
def throwW : List Cond := [.castable iseN iseN, .declares (Bundle.initS "java/lang/RuntimeException"), .declares (Bundle.initS "java/lang/Exception"), .declares (Bundle.initS Bundle.tN)]
def strW : List (Nat × String) := [(206, "in a BLOCK, or can not FOLLOW"), (236, "a TRIP could not FOLLOW"), (250, "no TRIPS, or no LAWFUL PIECE"), (276, "given, too near to another one, or too long")]
def KS (U : State) : Prop := (∀ w ∈ throwW, va_Nw w U) ∧ ∀ x ∈ strW, ∃ a, vk_R "Blockduty" x.1 x.2 a U
theorem KS.same {u U : State} (h : u.vm = U.vm) (k : KS u) : KS U := by
  refine ⟨fun w hw => (k.1 w hw).same ?_ h, fun x hx => ?_⟩
  · unfold throwW at hw
    simp only [List.mem_cons, List.not_mem_nil, or_false] at hw
    rcases hw with rfl | rfl | rfl | rfl <;> rfl
  · obtain ⟨a, ha⟩ := k.2 x hx
    exact ⟨a, vk_R.same h.symm ha⟩
theorem KS.warm {s U : State} (hW : s.WarmedH U.vm) (k : KS s) : KS U := by
  refine ⟨fun w hw => ?_, fun x hx => ?_⟩
  · have hk := k.1 w hw
    unfold throwW at hw
    simp only [List.mem_cons, List.not_mem_nil, or_false] at hw
    rcases hw with rfl | rfl | rfl | rfl
    · have h1 : (Cond.castable iseN iseN).before #[] (s.setVm U.vm) = true := by
        rw [Cond.castable_setVm hW.alike]; exact hk
      exact va_tabs rfl (rfl : (s.setVm U.vm).vm = U.vm) h1
    all_goals
      refine va_tabs rfl (rfl : (s.setVm U.vm).vm = U.vm) (?_ : Cond.before _ #[] (s.setVm U.vm) = true)
      rw [Cond.declares_setVm hW.alike]; exact hk
  · obtain ⟨a, ha⟩ := k.2 x hx
    exact ⟨a, vk_R.warm hW ha⟩
def KN (U : State) : Prop := (∀ (ci : Nat) (r : vw_C), vwCl[ci]? = some r → va_Nw (.castable r.1 "java/lang/Object") U) ∧ va_AO "java/lang/Object" U ∧ va_Dc U ∧ (∀ w ∈ nestW, va_Nw w U) ∧ KA2 U ∧ KS U
theorem KN.same {u U : State} (h : u.vm = U.vm) (k : KN u) : KN U := by
  refine ⟨fun ci r hr => (k.1 ci r hr).same rfl h, k.2.1.moved (by rw [h]; exact Vm.Alike.refl _), k.2.2.1.moved (by rw [h]; exact Vm.Alike.refl _), fun w hw => ?_, k.2.2.2.2.1.moved (by rw [h]; exact Vm.Alike.refl _), k.2.2.2.2.2.same h⟩
  refine (k.2.2.2.1 w hw).same ?_ h
  unfold nestW at hw
  simp only [List.mem_cons, List.not_mem_nil, or_false] at hw
  rcases hw with rfl | rfl | rfl | rfl <;> rfl
theorem KN.warm {s U : State} (hW : s.WarmedH U.vm) (k : KN s) : KN U := by
  refine ⟨fun ci r hr => ?_, k.2.1.moved hW.alike, k.2.2.1.moved hW.alike, fun w hw => ?_, k.2.2.2.2.1.moved hW.alike, k.2.2.2.2.2.warm hW⟩
  · have h1 : (Cond.castable r.1 "java/lang/Object").before #[] (s.setVm U.vm) = true := by
      rw [Cond.castable_setVm hW.alike]
      exact k.1 ci r hr
    exact va_tabs rfl (rfl : (s.setVm U.vm).vm = U.vm) h1
  · have hk := k.2.2.2.1 w hw
    unfold nestW at hw
    simp only [List.mem_cons, List.not_mem_nil, or_false] at hw
    rcases hw with rfl | rfl | rfl | rfl <;> exact va_Nw.warmM hW hk
def KX (κ : KK) (U : State) (H : Heap) : Prop :=
  va_K (kD κ) vwCl (tysK κ) U ∧ va_Mi "[Ljava/lang/Object;" (kM κ) U ∧ (va_Z "java/util/ArrayList" "DEFAULTCAPACITY_EMPTY_ELEMENTDATA" "[Ljava/lang/Object;" (.ref (kE κ)) (fun q => kb κ ≤ q) U H ∧ vx_Zq Bundle.tN "UNASSIGNED_STACK" Bundle.steD (fun q => kb κ ≤ q) U H ∧ vx_Zq Bundle.tN "SUPPRESSED_SENTINEL" Bundle.listD (fun q => kb κ ≤ q) U H ∧ ArrOfT U (kA κ 25) .int ∧ ArrOfT U (kA κ 24) (.object "java/lang/Object")) ∧ kE κ < kb κ ∧ kb κ ≤ H.size ∧ KN U
theorem KX.moved {κ : KK} {u U : State} {H H1 : Heap} (h : KX κ u H) (hvm : u.vm.Alike U.vm) (hn : KN u → KN U) (hq : ∀ q, q < kb κ → H1[q]? = H[q]?) (hs : kb κ ≤ H1.size) : KX κ U H1 := by
  obtain ⟨h1, h2, h3, h4, h5, h6⟩ := h
  have hk : ∀ a : Nat, a < H.size → ¬ kb κ ≤ a → H1[a]? = H[a]? := fun a _ ha => hq a (Nat.lt_of_not_le ha)
  exact ⟨h1.moved hvm, h2.moved hvm, ⟨(h3.1.moved hvm).kept hk, (h3.2.1.moved hvm).kept hk, (h3.2.2.1.moved hvm).kept hk, arrOfT_moved hvm h3.2.2.2.1, arrOfT_moved hvm h3.2.2.2.2⟩, h4, hs, hn h6⟩

/-- which fields hold references, by their number -/
def refF (j : Nat) : Bool := j == 1 || (j == 19 || j == 20) || j == 34 || (j == 48 || j == 49) || (j == 81 || j == 82 || j == 83 || j == 85) || j == 112 || (j == 129 || j == 130 || j == 131 || j == 135 || j == 136)
  || (160 ≤ j && j ≤ 167) || (170 ≤ j && j ≤ 173)
def fldV (g : HP) (j a : Nat) : Value := if refF j = true then va_rf (fr g j a) else .int (fi g j a)
def cellI (cA : ClassId) (l : List Int32) : Cell := arrV cA l.length (fun j => .int (l.getD j 0))
def cellO (cA : ClassId) (l : List (Option Nat)) : Cell := arrV cA l.length (fun j => va_rf (l.getD j none))
theorem cellI_store (cA : ClassId) (l : List Int32) (i : Nat) (x : Int32) : (cellI cA l).setSlot i (.int x) = cellI cA (l.set i x) := by
  unfold cellI
  rw [arrV_store]
  unfold arrV
  congr 1
  apply Array.ext
  · simp
  · intro j h1 h2
    have hj : j < l.length := by simpa using h1
    simp only [Array.getElem_ofFn, updV, List.getD_eq_getElem?_getD, List.getElem?_set]
    by_cases h : i = j
    · subst h; simp [hj]
    · have h' : ¬ j = i := fun e => h e.symm
      simp [h, h']
theorem cellO_store (cA : ClassId) (l : List (Option Nat)) (i : Nat) (x : Option Nat) : (cellO cA l).setSlot i (va_rf x) = cellO cA (l.set i x) := by
  unfold cellO
  rw [arrV_store]
  unfold arrV
  congr 1
  apply Array.ext
  · simp
  · intro j h1 h2
    have hj : j < l.length := by simpa using h1
    simp only [Array.getElem_ofFn, updV, List.getD_eq_getElem?_getD, List.getElem?_set]
    by_cases h : i = j
    · subst h; simp [hj]
    · have h' : ¬ j = i := fun e => h e.symm
      simp [h, h']
theorem cellI_new (cA : ClassId) (n : Nat) : arrV cA n (fun _ => .int 0) = cellI cA (List.replicate n 0) := by
  unfold cellI arrV
  congr 1
  apply Array.ext
  · simp
  · intro j h1 h2
    have hj : j < n := by simpa using h1
    simp [List.getD_eq_getElem?_getD, hj]
theorem cellO_new (cA : ClassId) (n : Nat) : arrV cA n (fun _ => .null) = cellO cA (List.replicate n none) := by
  unfold cellO arrV
  congr 1
  apply Array.ext
  · simp
  · intro j h1 h2
    have hj : j < n := by simpa using h1
    simp [List.getD_eq_getElem?_getD, hj, va_rf]
theorem cellI_size (cA : ClassId) (l : List Int32) : (cellI cA l).slots.size = l.length := arrV_size _ _ _
theorem cellO_size (cA : ClassId) (l : List (Option Nat)) : (cellO cA l).slots.size = l.length := arrV_size _ _ _
theorem cellI_read (cA : ClassId) {l : List Int32} {j : Nat} (h : j < l.length) : (cellI cA l).slots[j]? = some (.int (l.getD j 0)) := arrV_read _ _ h
theorem cellO_read (cA : ClassId) {l : List (Option Nat)} {j : Nat} (h : j < l.length) : (cellO cA l).slots[j]? = some (va_rf (l.getD j none)) := arrV_read _ _ h

/-- one cell of the picture, by its tag -/
def isI (t : Nat) : Prop := t = 20 ∨ t = 21 ∨ t = 25
def isO (t : Nat) : Prop := t = 22 ∨ t = 23 ∨ t = 24
def arC (κ : KK) (t : Nat) : ClassId := kA κ t
def objAt (κ : KK) (g : HP) (H : Heap) (ci q : Nat) : Prop := ∃ r : vw_C, vwCl[ci]? = some r ∧ t_OB q ((kD κ).1 ci) r.2.2 ((kD κ).2 ci) H (fun k => fldV g (16 * ci + k) q)
/-- the cell of an array, by its tag; of the script's (25) and of the JDK's empty one (24) only what can be read of it is known -/
def LkI (κ : KK) (t : Nat) (l : List Int32) (c : Cell) : Prop := c.cls = arC κ t ∧ c.slots = (cellI (arC κ t) l).slots ∧ c.vm ≠ .unknown ∧ (∀ k, c.vm ≠ .statics k) ∧ (t ≠ 25 → c = cellI (arC κ t) l)
def LkO (κ : KK) (t : Nat) (l : List (Option Nat)) (c : Cell) : Prop := c.cls = arC κ t ∧ c.slots = (cellO (arC κ t) l).slots ∧ c.vm ≠ .unknown ∧ (∀ k, c.vm ≠ .statics k) ∧ (t ≠ 24 → c = cellO (arC κ t) l)
theorem lkI_of {κ : KK} {t : Nat} {l : List Int32} {H : Heap} {q : Nat} (h : H[q]? = some (cellI (arC κ t) l)) : ∃ c, H[q]? = some c ∧ LkI κ t l c := ⟨_, h, rfl, rfl, (fun z => by cases z), (fun k z => by cases z), fun _ => rfl⟩
theorem lkO_of {κ : KK} {t : Nat} {l : List (Option Nat)} {H : Heap} {q : Nat} (h : H[q]? = some (cellO (arC κ t) l)) : ∃ c, H[q]? = some c ∧ LkO κ t l c := ⟨_, h, rfl, rfl, (fun z => by cases z), (fun k z => by cases z), fun _ => rfl⟩
def cellOk (κ : KK) (g : HP) (H : Heap) (q : Nat) : Prop :=
  (∀ ci, tg g q = ci + 1 → ci < 11 → objAt κ g H ci q) ∧ (isI (tg g q) → ∃ c, H[q]? = some c ∧ LkI κ (tg g q) (ia g q) c) ∧ (isO (tg g q) → ∃ c, H[q]? = some c ∧ LkO κ (tg g q) (oa g q) c)
/-- the picture of the heap, arrays behind the lists and all -/
def Pic1 (κ : KK) (g : HP) (H : Heap) : Prop := H.size = nx g ∧ (∀ q, cellOk κ g H q) ∧ (∀ q, tg g q ≠ 0 → q < nx g) ∧ (∀ q, tg g q ≠ 0 → tg g q ≠ 24 → tg g q ≠ 25 → kb κ ≤ q)
