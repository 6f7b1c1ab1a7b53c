theorem nb_of {i : Int32} {n : Nat} (h0 : 0 ≤ i) (h1 : i.toNatClampNeg < n) : ¬ (i < 0 ∨ n ≤ i.toNatClampNeg) := fun z => z.elim (fun h => absurd h0 (Int32.not_le.mpr h)) (fun h => absurd h1 (Nat.not_lt.mpr h))
section ArrRules
variable {Γ : GG} {cc : ByteArray} {nL : Nat} {own : String} {PP : KK → HP → Heap → Prop} {okb : Nat → Bool} {rf rl : Nat} {pc : Nat} {L L' : LL} {st : List VV} {g : HP} {φ φ1 φ2 : Prop}
theorem CX.arr (C : CX Γ cc nL own PP okb rf rl) (t : Nat) (ht : t = 20 ∨ t = 21 ∨ t = 22 ∨ t = 23) : ArrOfT (gS Γ) (kA (gK Γ) t) (aty t) := by
  rcases ht with rfl | rfl | rfl | rfl
  · exact (C.kx.1.2 0 _ rfl).1
  · exact (C.kx.1.2 1 _ rfl).1
  · exact (C.kx.1.2 2 _ rfl).1
  · exact (C.kx.1.2 3 _ rfl).1
theorem CX.ai (C : CX Γ cc nL own PP okb rf rl) {H : Heap} {a : Nat} (hP : gPi Γ g H) (h : isI (tg g a)) : (∃ c, H[a]? = some c ∧ LkI (gK Γ) (tg g a) (ia g a) c) ∧ (tg g a ≠ 25 → kb (gK Γ) ≤ a) := C.po.2.2.2.2.1 g H a hP h
theorem CX.ai1 (C : CX Γ cc nL own PP okb rf rl) {H : Heap} {a : Nat} (hP : gPi Γ g H) (h : isI (tg g a)) (h5 : tg g a ≠ 25) : H[a]? = some (cellI (arC (gK Γ) (tg g a)) (ia g a)) ∧ (tg g a ≠ 25 → kb (gK Γ) ≤ a) := by
  obtain ⟨⟨c, h1, h2⟩, h3⟩ := C.ai hP h
  exact ⟨by rw [h1, h2.2.2.2.2 h5], h3⟩
theorem CX.ao (C : CX Γ cc nL own PP okb rf rl) {H : Heap} {a : Nat} (hP : gPi Γ g H) (h : isO (tg g a)) (hok : okb (tg g a) = true) : (∃ c, H[a]? = some c ∧ LkO (gK Γ) (tg g a) (oa g a) c) ∧ (tg g a ≠ 24 → kb (gK Γ) ≤ a) := C.po.2.2.2.2.2.1 g H a hP h hok
theorem CX.ao1 (C : CX Γ cc nL own PP okb rf rl) {H : Heap} {a : Nat} (hP : gPi Γ g H) (h : isO (tg g a)) (h4 : tg g a ≠ 24) (hok : okb (tg g a) = true) : H[a]? = some (cellO (arC (gK Γ) (tg g a)) (oa g a)) ∧ (tg g a ≠ 24 → kb (gK Γ) ≤ a) := by
  obtain ⟨⟨c, h1, h2⟩, h3⟩ := C.ao hP h hok
  exact ⟨by rw [h1, h2.2.2.2.2 h4], h3⟩
theorem isAr {U : State} {cA : ClassId} {ty : FieldType} (h : ArrOfT U cA ty) {c : Cell} (h1 : c.cls = cA) (h2 : ∀ k, c.vm ≠ .statics k) : U.isArrayOf c ty := ⟨h2, by rw [h1]; exact (h 0 fun _ => .null).2⟩
theorem z_ldI (C : CX Γ cc nL own PP okb rf rl) {r : Option Nat} {i : Int32} (hdg : decode cc pc = .ok (.iaload, 1)) {φ' : Int32 → Prop} (hφ : φ → ∃ x, ldI r i g = some x ∧ φ' x) (kk : ∀ x, X Γ (pc + 1) L (vI x :: st) g (φ' x)) : X Γ pc L (vI i :: vR r :: st) g φ := fun h => by
  obtain ⟨x, hx, hf⟩ := hφ h
  refine ⟨(kk x hf).1, (kk x hf).2.1, fun H locs ls A => ?_⟩
  cases r with
  | none => cases hx
  | some a =>
    unfold ldI at hx
    dsimp only at hx
    split at hx
    · rename_i hc
      obtain ⟨ht, h0, hl⟩ := hc
      cases hx
      have hI : isI (tg g a) := by unfold isI; omega
      obtain ⟨c, hcell, l1, l2, l3, l4, -⟩ := (C.ai A.pic hI).1
      have har : (gS Γ).isArrayOf c .int := by
        rcases ht with h | h <;> rw [h] at l1
        · exact isAr (C.arr 20 (Or.inl rfl)) l1 l4
        · exact isAr C.kx.2.2.1.2.2.2.1 l1 l4
      exact W.iald C.exec C.code hcell har l3 (by rw [l2, cellI_size]; exact nb_of h0 hl) (by rw [l2]; exact cellI_read _ hl) rfl rfl hdg ((kk _ hf).2.2 H locs ls A)
    · cases hx
theorem z_ldZ (C : CX Γ cc nL own PP okb rf rl) {r : Option Nat} {i : Int32} (hdg : decode cc pc = .ok (.baload, 1)) {φ' : Int32 → Prop} (hφ : φ → ∃ x, ldZ r i g = some x ∧ φ' x) (kk : ∀ x, X Γ (pc + 1) L (vI x :: st) g (φ' x)) : X Γ pc L (vI i :: vR r :: st) g φ := fun h => by
  obtain ⟨x, hx, hf⟩ := hφ h
  refine ⟨(kk x hf).1, (kk x hf).2.1, fun H locs ls A => ?_⟩
  cases r with
  | none => cases hx
  | some a =>
    unfold ldZ at hx
    dsimp only at hx
    split at hx
    · rename_i hc
      obtain ⟨ht, h0, hl⟩ := hc
      cases hx
      have hI : isI (tg g a) := by unfold isI; omega
      have hcell := (C.ai1 A.pic hI (by omega)).1
      rw [ht] at hcell
      exact W.zald C.exec C.code hcell (C.arr 21 (Or.inr (Or.inl rfl)) _ _) (fun h => by cases h) (by rw [cellI_size]; exact nb_of h0 hl) (cellI_read _ hl) rfl rfl hdg ((kk _ hf).2.2 H locs ls A)
    · cases hx
theorem z_ldA (C : CX Γ cc nL own PP okb rf rl) {r : Option Nat} {i : Int32} (hok : ∀ t, t = 22 ∨ t = 23 → okb t = true) (hdg : decode cc pc = .ok (.aaload, 1)) {φ' : Option Nat → Prop} (hφ : φ → ∃ x, ldA r i g = some x ∧ φ' x) (kk : ∀ x, X Γ (pc + 1) L (vR x :: st) g (φ' x)) : X Γ pc L (vI i :: vR r :: st) g φ := fun h => by
  obtain ⟨x, hx, hf⟩ := hφ h
  refine ⟨(kk x hf).1, (kk x hf).2.1, fun H locs ls A => ?_⟩
  cases r with
  | none => cases hx
  | some a =>
    unfold ldA at hx
    dsimp only at hx
    split at hx
    · rename_i hc
      obtain ⟨ht, h0, hl⟩ := hc
      cases hx
      have hI : isO (tg g a) := by unfold isO; omega
      have hcell := (C.ao1 A.pic hI (by omega) (hok _ ht)).1
      rcases ht with ht | ht
      · rw [ht] at hcell
        exact W.aald C.exec C.code hcell (C.arr 22 (by omega) _ _) rfl (fun h => by cases h) (by rw [cellO_size]; exact nb_of h0 hl) (cellO_read _ hl) rfl rfl hdg ((kk _ hf).2.2 H locs ls A)
      · rw [ht] at hcell
        exact W.aald C.exec C.code hcell (C.arr 23 (by omega) _ _) rfl (fun h => by cases h) (by rw [cellO_size]; exact nb_of h0 hl) (cellO_read _ hl) rfl rfl hdg ((kk _ hf).2.2 H locs ls A)
    · cases hx
theorem z_stI (C : CX Γ cc nL own PP okb rf rl) {r : Option Nat} {i v : Int32} (hdg : decode cc pc = .ok (.iastore, 1)) {φ' : HP → Prop} (hφ : φ → ∃ x, stI r i v g = some x ∧ φ' x) (kk : ∀ x, X Γ (pc + 1) L st x (φ' x)) : X Γ pc L (vI v :: vI i :: vR r :: st) g φ := fun h => by
  obtain ⟨x, hx, hf⟩ := hφ h
  cases r with
  | none => cases hx
  | some a =>
    unfold stI at hx
    dsimp only at hx
    split at hx
    · rename_i hc
      obtain ⟨ht, h0, hl⟩ := hc
      cases hx
      refine ⟨(kk _ hf).1, (kk _ hf).2.1, fun H locs ls A => ?_⟩
      have hI : isI (tg g a) := by unfold isI; omega
      obtain ⟨hcell, hkb⟩ := C.ai1 A.pic hI (by omega)
      rw [ht] at hcell
      refine W.iast C.exec C.code hcell (C.arr 20 (Or.inl rfl) _ _) (fun h => by cases h) (by rw [cellI_size]; exact nb_of h0 hl) rfl rfl hdg fun H' e1 e2 e3 => ?_
      refine (kk _ hf).2.2 H' _ ls (A.put rfl rfl (C.po.2.2.2.2.2.2.2.2.1 g H a _ H' A.pic (Or.inl ht) e2 e3 ?_) e3 (hkb (by omega)) e2)
      rw [ht, e1]
      exact congrArg some (cellI_store _ _ _ _)
    · cases hx
theorem z_stZ (C : CX Γ cc nL own PP okb rf rl) {r : Option Nat} {i v : Int32} (hdg : decode cc pc = .ok (.bastore, 1)) {φ' : HP → Prop} (hφ : φ → ∃ x, stZ r i v g = some x ∧ φ' x) (kk : ∀ x, X Γ (pc + 1) L st x (φ' x)) : X Γ pc L (vI v :: vI i :: vR r :: st) g φ := fun h => by
  obtain ⟨x, hx, hf⟩ := hφ h
  cases r with
  | none => cases hx
  | some a =>
    unfold stZ at hx
    dsimp only at hx
    split at hx
    · rename_i hc
      obtain ⟨ht, ⟨h0, hl⟩, hz⟩ := hc
      cases hx
      refine ⟨(kk _ hf).1, (kk _ hf).2.1, fun H locs ls A => ?_⟩
      have hI : isI (tg g a) := by unfold isI; omega
      obtain ⟨hcell, hkb⟩ := C.ai1 A.pic hI (by omega)
      rw [ht] at hcell
      refine W.zast C.exec C.code hcell (C.arr 21 (Or.inr (Or.inl rfl)) _ _) (fun h => by cases h) (by rw [cellI_size]; exact nb_of h0 hl) rfl rfl hdg fun H' e1 e2 e3 => ?_
      refine (kk _ hf).2.2 H' _ ls (A.put rfl rfl (C.po.2.2.2.2.2.2.2.2.1 g H a _ H' A.pic (Or.inr ht) e2 e3 ?_) e3 (hkb (by omega)) e2)
      rw [ht, e1, (nar_Z hz).1]
      exact congrArg some (cellI_store _ _ _ _)
    · cases hx
theorem z_lnI (C : CX Γ cc nL own PP okb rf rl) {r : Option Nat} (hdg : decode cc pc = .ok (.arraylength, 1)) {φ' : Int32 → Prop} (hφ : φ → ∃ x, lnI r g = some x ∧ φ' x) (kk : ∀ x, X Γ (pc + 1) L (vI x :: st) g (φ' x)) : X Γ pc L (vR r :: st) g φ := fun h => by
  obtain ⟨x, hx, hf⟩ := hφ h
  refine ⟨(kk x hf).1, (kk x hf).2.1, fun H locs ls A => ?_⟩
  cases r with
  | none => cases hx
  | some a =>
    unfold lnI at hx
    dsimp only at hx
    split at hx
    · rename_i ht
      cases hx
      have hI : isI (tg g a) := ht
      obtain ⟨c, hcell, l1, l2, l3, l4, -⟩ := (C.ai A.pic hI).1
      have key : ∀ t, (gS Γ).isArrayOf c t → WG Γ H locs (cu g - gn0 Γ) (sl g - gs0 Γ) (F0 (gM Γ) pc ls ((vR (some a) :: st).map vv)) := fun t harr =>
        W.alen (n := Int32.ofNat (ia g a).length) C.exec C.code hcell harr (by rw [l2, cellI_size]) rfl rfl hdg ((kk _ hf).2.2 H locs ls A)
      rcases ht with h | h | h <;> rw [h] at l1
      · exact key _ (isAr (C.arr 20 (Or.inl rfl)) l1 l4)
      · exact key _ (isAr (C.arr 21 (Or.inr (Or.inl rfl))) l1 l4)
      · exact key _ (isAr C.kx.2.2.1.2.2.2.1 l1 l4)
    · cases hx
theorem z_lnA (C : CX Γ cc nL own PP okb rf rl) {r : Option Nat} (hok : ∀ t, t = 22 ∨ t = 24 → okb t = true) (hdg : decode cc pc = .ok (.arraylength, 1)) {φ' : Int32 → Prop} (hφ : φ → ∃ x, lnA r g = some x ∧ φ' x) (kk : ∀ x, X Γ (pc + 1) L (vI x :: st) g (φ' x)) : X Γ pc L (vR r :: st) g φ := fun h => by
  obtain ⟨x, hx, hf⟩ := hφ h
  refine ⟨(kk x hf).1, (kk x hf).2.1, fun H locs ls A => ?_⟩
  cases r with
  | none => cases hx
  | some a =>
    unfold lnA at hx
    dsimp only at hx
    split at hx
    · rename_i ht
      cases hx
      have hI : isO (tg g a) := by unfold isO; omega
      obtain ⟨c, hcell, l1, l2, l3, l4, -⟩ := (C.ao A.pic hI (hok _ ht)).1
      have har : (gS Γ).isArrayOf c (.object "java/lang/Object") := by
        rcases ht with h | h <;> rw [h] at l1
        · exact isAr (C.arr 22 (by omega)) l1 l4
        · exact isAr C.kx.2.2.1.2.2.2.2 l1 l4
      exact W.alen (n := Int32.ofNat (oa g a).length) C.exec C.code hcell har (by rw [l2, cellO_size]) rfl rfl hdg ((kk _ hf).2.2 H locs ls A)
    · cases hx
theorem z_cst (C : CX Γ cc nL own PP okb rf rl) {ci N : Nat} {Cn : String} {T : u_T} {ty : Nat → FieldType} (hcf : CF ci Cn T N ty) {index : Nat} {r : Option Nat} (hdg : decode cc pc = .ok (.checkcast index, 3)) (hlink : Cond.classLink own index Cn ∈ gtbl) {φ' : Option Nat → Prop} (hφ : φ → ∃ x, cst ci r g = some x ∧ φ' x) (kk : ∀ x, X Γ (pc + 3) L (vR x :: st) g (φ' x)) : X Γ pc L (vR r :: st) g φ := fun h => by
  obtain ⟨x, hx, hf⟩ := hφ h
  refine ⟨(kk x hf).1, (kk x hf).2.1, fun H locs ls A => ?_⟩
  cases r with
  | none =>
    cases hx
    exact lv_castN C.exec C.code hdg ((kk _ hf).2.2 H locs ls A)
  | some a =>
    unfold cst at hx
    dsimp only at hx
    split at hx
    · rename_i ht
      cases hx
      obtain ⟨cell, h1, h2, h3⟩ := C.po.recv A.pic ht hcf.2.2.2.2.1
      have hca := (C.kx.1.1 ci _ hcf.1).2
      exact va_castS C.exec C.code C.ow (C.hts _ hlink) hca ⟨cell, h1, h2, by rw [h3]; exact hca.1⟩ hdg ((kk _ hf).2.2 H locs ls A)
    · cases hx
theorem At1.new {H H' : Heap} {locs : List Loc} {ls : Array Slot} {g1 : HP} (A : At1 Γ L g H locs ls) (hn : cu g ≤ cu g1) (hs : sl g ≤ sl g1) (hP : gPi Γ g1 H') (hk : kb (gK Γ) ≤ H.size) (e3 : ∀ q, q < H.size → H'[q]? = H[q]?) (hs2 : H.size ≤ H'.size := by first | omega | simp) : At1 Γ L g1 H' locs ls :=
  ⟨Nat.le_trans A.n0 hn, Nat.le_trans A.s0 hs, hP, fun q hq => (e3 q (by omega)).trans (A.fr q hq), A.lo, A.lv, Nat.le_trans A.hs hs2⟩
/-- a new object of class ci -/
theorem z_new (C : CX Γ cc nL own PP okb rf rl) {ci N : Nat} {Cn : String} {T : u_T} {ty : Nat → FieldType} (hcf : CF ci Cn T N ty) (hok : okb (ci + 1) = true) {index : Nat} (hdg : decode cc pc = .ok (.new index, 3)) (hlink : Cond.classLink own index Cn ∈ gtbl) (hins : Cond.instantiable Cn N ∈ gtbl) (hini : Cond.initialized Cn ∈ gtbl)
    (hdef : ∀ k, k < N → defaultValue (ty k) = if refF (16 * ci + k) = true then .null else .int 0) (kk : X Γ (pc + 3) L (vR (some (nx g)) :: st) (newG g (ci + 1) N [] []) φ) : X Γ pc L st g φ := fun h => by
  obtain ⟨b1, b2, b3⟩ := kk h
  have b1' : cu g + 1 ≤ gtn Γ := b1
  have b2' : sl g + N ≤ gts Γ := b2
  refine ⟨by omega, by omega, fun H locs ls A => ?_⟩
  have hKn := C.kx.1.1 ci _ hcf.1
  obtain ⟨hz, hkb⟩ := C.po.sz A.pic
  have hrc := C.rc
  have hrs := C.rs
  have a1 := A.n0
  have a2 := A.s0
  refine W.newcK C.exec C.code C.ow (C.hts _ hlink) (C.hts _ hins) (C.hts _ hini) rfl hdg (by omega) (by omega) hKn.2.1 hz fun H1 kC hkC e1 z1 o1 => ?_
  have hob : t_OB H.size ((kD (gK Γ)).1 ci) N ((kD (gK Γ)).2 ci) H1 (fun k => fldV (newG g (ci + 1) N [] []) (16 * ci + k) H.size) := by
    rw [hz]
    refine (u_born ty (fun w hw => C.hts w hw) (fun w hw => hcf.2.1 w hw) hKn hkC e1 hcf.2.2.1).to fun k hk => ?_
    rw [hdef k hk]
    unfold fldV
    have f1 : fi (newG g (ci + 1) N [] []) (16 * ci + k) (nx g) = 0 := if_pos rfl
    have f2 : fr (newG g (ci + 1) N [] []) (16 * ci + k) (nx g) = none := if_pos rfl
    rw [f1, f2]
    rfl
  have := b3 H1 locs ls (A.new (Nat.le_succ _) (Nat.le_add_right _ _) (C.po.2.2.2.2.2.2.2.2.2.2.1 g H ci N H1 A.pic hcf.2.2.2.2.1 hok (by rw [z1, hz]) (fun x hx => o1 x (by rw [← hz]; exact hx)) ⟨_, hcf.1, hob⟩) (by omega) (fun x hx => o1 x (by rw [← hz]; exact hx)))
  have e1 : cu (newG g (ci + 1) N [] []) - gn0 Γ = cu g - gn0 Γ + 1 := by show cu g + 1 - gn0 Γ = _; omega
  have e2 : sl (newG g (ci + 1) N [] []) - gs0 Γ = sl g - gs0 Γ + N := by show sl g + N - gs0 Γ = _; omega
  rw [e1, e2] at this
  exact this
/-- a new int[] (20) or boolean[] (21) -/
theorem z_nwI (C : CX Γ cc nL own PP okb rf rl) {t : Nat} {n : Int32} {at0 : ArrayType} (hat : newarray.typeOf at0 = aty t) (ht : (t = 20 ∧ at0 = .int) ∨ (t = 21 ∧ at0 = .boolean)) (hdg : decode cc pc = .ok (.newarray at0, 2)) (harr : Cond.arrayClass (newarray.typeOf at0) ∈ gtbl) {φ' : Nat × HP → Prop} (hφ : φ → ∃ x, nwI t n g = some x ∧ φ' x)
    (kk : ∀ x, X Γ (pc + 2) L (vR (some x.1) :: st) x.2 (φ' x)) : X Γ pc L (vI n :: st) g φ := fun h => by
  obtain ⟨x, hx, hf⟩ := hφ h
  unfold nwI at hx
  split at hx
  · rename_i hc
    cases hx
    obtain ⟨b1, b2, b3⟩ := kk _ hf
    have b1' : cu g + 1 ≤ gtn Γ := b1
    have b2' : sl g + n.toNatClampNeg ≤ gts Γ := b2
    refine ⟨by omega, by omega, fun H locs ls A => ?_⟩
    obtain ⟨hz, hkb⟩ := C.po.sz A.pic
    have hrc := C.rc
    have hrs := C.rs
    have a1 := A.n0
    have a2 := A.s0
    have hcb : componentBytes (newarray.typeOf at0) ≤ 8 := by rcases ht with ⟨rfl, rfl⟩ | ⟨rfl, rfl⟩ <;> decide
    refine va_newaK C.exec C.code (C.hts _ harr) rfl hdg rfl (fun z => absurd hc.1 (Int32.not_le.mpr z)) rfl (by have := Nat.mul_le_mul hc.2 hcb; omega) (by omega) (by omega) hz fun H1 cA e1 z1 o1 hAr hNm => ?_
    have hA2 : cA = kA (gK Γ) t := by
      rcases ht with ⟨rfl, rfl⟩ | ⟨rfl, rfl⟩
      · have := (C.kx.1.2 0 _ rfl).2
        exact Option.some.inj (hNm.symm.trans this)
      · have := (C.kx.1.2 1 _ rfl).2
        exact Option.some.inj (hNm.symm.trans this)
    have hdv : defaultValue (newarray.typeOf at0) = .int 0 := by rcases ht with ⟨rfl, rfl⟩ | ⟨rfl, rfl⟩ <;> rfl
    have ht' : t = 20 ∨ t = 21 := by omega
    have := b3 H1 locs ls (A.new (Nat.le_succ _) (Nat.le_add_right _ _) (C.po.2.2.2.2.2.2.2.2.2.2.2.1 g H t n.toNatClampNeg _ H1 A.pic ht' (by rw [z1, hz]) (fun x hx => o1 x (by rw [← hz]; exact hx)) (by
      rw [hz, e1, hdv, hA2, cellI_new]
      rcases ht' with rfl | rfl <;> rfl)) (by omega) (fun x hx => o1 x (by rw [← hz]; exact hx)))
    have e1 : cu (newG g t n.toNatClampNeg (List.replicate n.toNatClampNeg 0) []) - gn0 Γ = cu g - gn0 Γ + 1 := by show cu g + 1 - gn0 Γ = _; omega
    have e2 : sl (newG g t n.toNatClampNeg (List.replicate n.toNatClampNeg 0) []) - gs0 Γ = sl g - gs0 Γ + n.toNatClampNeg := by show sl g + n.toNatClampNeg - gs0 Γ = _; omega
    rw [e1, e2] at this
    exact this
  · cases hx
end ArrRules
/-! Contracts, and calls by them. -/
def PcM (κ : KK) (P : HP → Heap → Prop) (as : List VV) (g : HP) : Array Value → State → Prop := va_Pc (as.map vv) (fun U => KX κ U U.heap ∧ P g U.heap)
def QcM (κ : KK) (P : HP → Heap → Prop) (r : Option VV) (g' : HP) : Array Value → State → Outcome → State → Prop := fun _ st o t => o = .returned (r.map vv) ∧ KX κ t t.heap ∧ P g' t.heap ∧ (∀ q, q < kb κ → t.heap[q]? = st.heap[q]?) ∧ st.heap.size ≤ t.heap.size
def rmM (F Lw : Nat) (g g' : HP) : Room := { frames := F, cells := cu g' - cu g, slots := sl g' - sl g, locals := Lw }
/-- y, called with as at the heap g, answers and leaves what o says -/
def MA (l : Launch) (κ : KK) (PP : KK → HP → Heap → Prop) (y : MethodName) (cc : ByteArray) (nL : Nat) (ret : Option FieldType) (F Lw : Nat) (as : List VV) (g : HP) (o : Option (Option VV × HP)) : Prop :=
  ∀ a, o = some a → cu g ≤ cu a.2 ∧ sl g ≤ sl a.2 ∧ Met l y (.code y cc nL ret :: gtbl) (rmM F Lw g a.2) (PcM κ (PP κ) as g) (QcM κ (PP κ) a.1 a.2) (cu a.2 - cu g) (sl a.2 - sl g) (fun q => kb κ ≤ q)
def MM (l : Launch) (PP : KK → HP → Heap → Prop) (y : MethodName) (cc : ByteArray) (nL : Nat) (ret : Option FieldType) (F Lw : Nat) (as : List VV) (g : HP) (o : Option (Option VV × HP)) : Prop := ∀ κ, MA l κ PP y cc nL ret F Lw as g o
/-- the kinds of answer -/
def wI (g : HP) (o : Option Int32) : Option (Option VV × HP) := o.map fun x => (some (vI x), g)
def wR (g : HP) (o : Option (Option Nat)) : Option (Option VV × HP) := o.map fun x => (some (vR x), g)
def wJ (g : HP) (o : Option Int64) : Option (Option VV × HP) := o.map fun x => (some (vJ x), g)
def wIg (o : Option (Int32 × HP)) : Option (Option VV × HP) := o.map fun x => (some (vI x.1), x.2)
def wRg (o : Option (Option Nat × HP)) : Option (Option VV × HP) := o.map fun x => (some (vR x.1), x.2)
def wJg (o : Option (Int64 × HP)) : Option (Option VV × HP) := o.map fun x => (some (vJ x.1), x.2)
def wDg (o : Option (UInt64 × HP)) : Option (Option VV × HP) := o.map fun x => (some (vD x.1), x.2)
def wVg (o : Option HP) : Option (Option VV × HP) := o.map fun x => (none, x)
/-- what the tables say of a method: its code, its class, how many arguments -/
def MF (y : MethodName) (cc : ByteArray) (nL : Nat) (ret : Option FieldType) (n : Nat) : Prop :=
  Cond.code y cc nL ret ∈ gtbl ∧ Cond.initialized y.cls ∈ gtbl ∧ (y.cls ≠ "java/lang/invoke/MethodHandle" ∧ y.cls ≠ "java/lang/invoke/VarHandle" ∧ (parseMethodDescriptor y.desc).map (fun d => d.parameters.length) = some n) ∧ plainName y.cls = true
theorem KX.at {κ : KK} {s U : State} {H : Heap} (h : KX κ s s.heap) (hU : U.heap = H) (hW : s.WarmedH U.vm) (hq : ∀ q, q < kb κ → H[q]? = s.heap[q]?) (hk : kb κ ≤ H.size) : KX κ U U.heap := by
  rw [hU]
  exact h.moved hW.alike (fun k => k.warm hW) hq hk
theorem PcM_blind (κ : KK) (P : HP → Heap → Prop) (as : List VV) (g : HP) : FrameBlind (PcM κ P as g) := by
  intro a U f mk h
  obtain ⟨h1, h2, h3⟩ := h
  exact ⟨h1, KX.moved (u := U) (U := U.calling f mk a) h2 (Vm.Alike.refl U.vm) (fun k => KN.same (u := U) (U := U.calling f mk a) rfl k) (fun _ _ => rfl) h2.2.2.2.2.1, h3⟩
section CallRules
variable {Γ : GG} {cc : ByteArray} {nL : Nat} {own : String} {PP : KK → HP → Heap → Prop} {okb : Nat → Bool} {rf rl : Nat} {pc : Nat} {L L' : LL} {st rest : List VV} {g g1 : HP} {φ φ1 φ2 : Prop}
def retst (r : Option VV) (rest : List VV) : List VV := match r with
  | none => rest
  | some v => v :: rest
/-- behind a call -/
theorem run_X (C : CX Γ cc nL own PP okb rf rl) {H : Heap} {locs : List Loc} {ls : Array Slot} (A : At1 Γ L g H locs ls) {r : Option VV} {a : Array Value} (hn : cu g ≤ cu g1) (hs : sl g ≤ sl g1) {f : JFrame} (ef : ({ f with pc := f.pc + 3, stack := r.toList.map vv ++ rest.map vv } : JFrame) = F0 (gM Γ) (pc + 3) ls ((retst r rest).map vv))
    (hr : va_Run (gP Γ) (gL Γ) (gE Γ) (gR Γ) (gS Γ) (gM Γ) (gA Γ) (gB Γ) (gMe Γ) (gC Γ) H locs (cu g - gn0 Γ) (sl g - gs0 Γ) (cu g1 - cu g) (sl g1 - sl g) f (rest.map vv) (QcM (gK Γ) (PP (gK Γ)) r g1 a) (fun q => kb (gK Γ) ≤ q))
    (k : ∀ (H : Heap) (locs : List Loc) (ls : Array Slot), At1 Γ L g1 H locs ls → WG Γ H locs (cu g1 - gn0 Γ) (sl g1 - gs0 Γ) (F0 (gM Γ) (pc + 3) ls ((retst r rest).map vv))) :
    WG Γ H locs (cu g - gn0 Γ) (sl g - gs0 Γ) f := by
  intro T hT X0
  obtain ⟨v, st₀, t, T', Lc, e0, X', hLc, eh, ev, ⟨q1, q2, q3, q4, q5⟩, hgo⟩ := hr T hT X0
  have a1 := A.n0
  have a2 := A.s0
  have ec : cu g - gn0 Γ + (cu g1 - cu g) = cu g1 - gn0 Γ := by omega
  have es : sl g - gs0 Γ + (sl g1 - sl g) = sl g1 - gs0 Γ := by omega
  rw [ec, es] at X'
  have hv : v = r.map vv := by injection q1
  have hA : At1 Γ L g1 T'.heap (locs ++ Lc) ls := by
    refine ⟨Nat.le_trans a1 hn, Nat.le_trans a2 hs, by rw [C.pp, eh]; exact q3, fun q hq => ?_, fun z hz => ?_, A.lv, by rw [eh]; exact Nat.le_trans A.hs (by rw [← e0]; exact q5)⟩
    · rw [eh, q4 q hq, e0]; exact A.fr q hq
    · rcases List.mem_append.mp hz with hz | hz
      · exact A.lo z hz
      · exact hLc z hz
  obtain ⟨t2, b1, b2⟩ := k T'.heap _ ls hA T' rfl X'
  refine ⟨t2, hgo _ ?_, b2⟩
  have : v.toList = r.toList.map vv := by rw [hv]; cases r <;> rfl
  rw [this, ef]
  exact b1
theorem map_app_rev (as : List VV) (x : List VV) : (as.reverse ++ x).map vv = (as.map vv).reverse ++ x.map vv := by rw [List.map_append, List.map_reverse]
theorem cat_sum (rest : List VV) : ((rest.map vv).map fun v => v.category) = rest.map vc := by
  rw [List.map_map]
  congr 1
  funext v
  exact vv_cat v
theorem ret_st (r : Option VV) (rest : List VV) : r.toList.map vv ++ rest.map vv = (retst r rest).map vv := by cases r <;> rfl
variable {y : MethodName} {cc' : ByteArray} {nL' F Lw n index : Nat} {ret : Option FieldType} {As : List VV} {b : Nat} {o : Option (Option VV × HP)}
theorem z_callV (C : CX Γ cc nL own PP okb rf rl) {ci N : Nat} {T : u_T} {ty : Nat → FieldType} (hcf : CF ci y.cls T N ty) (hm : MF y cc' nL' ret n) (hin : Cond.instanceMethod y ∈ gtbl) (hsel : Cond.selects y.cls y y ∈ gtbl) (hlink : Cond.methodLink own index y ∈ gtbl)
    (hM : MA (gL Γ) (gK Γ) PP y cc' nL' ret F Lw (vR (some b) :: As) g o) (ht : tg g b = ci + 1) (hn : As.length = n) (hR : F + 1 ≤ rf ∧ 8 + (nL' + 11) + Lw ≤ rl) (hst : st = As.reverse ++ vR (some b) :: rest) (hW : (rest.map vc).sum ≤ 8) (hdg : decode cc pc = .ok (.invokevirtual index, 3))
    {φ' : Option VV × HP → Prop} (hφ : φ → ∃ x, o = some x ∧ φ' x) (kk : ∀ x, X Γ (pc + 3) L (retst x.1 rest) x.2 (φ' x)) : X Γ pc L st g φ := fun h => by
  obtain ⟨x, hx, hf⟩ := hφ h
  obtain ⟨m1, m2, m3⟩ := hM x hx
  obtain ⟨b1, b2, b3⟩ := kk x hf
  refine ⟨Nat.le_trans m1 b1, Nat.le_trans m2 b2, fun H locs ls A => ?_⟩
  obtain ⟨cell, h1, h2, h3⟩ := C.po.recv A.pic ht hcf.2.2.2.2.1
  have hca := (C.kx.1.1 ci _ hcf.1).2
  have hkb := (C.po.sz A.pic).2
  have hz := (C.po.sz A.pic).1
  have a1 := A.n0
  have a2 := A.s0
  have hrc := C.rc
  have hrs := C.rs
  have hP : PP (gK Γ) g H := by have := A.pic; rw [C.pp] at this; exact this
  refine run_X C A (r := x.1) (rest := rest) (a := (Value.ref b :: As.map vv).toArray) m1 m2 ?_ (va_runV C.fix m3 (cwV n C.hts (gtbl_in fun w hw => ?_) rfl rfl rfl ⟨rfl, hm.2.2.1⟩ ?_) ⟨PcM_blind _ _ _ _, ⟨cell, h1, h2, by rw [h3]; exact hca.1⟩, fun U hU hW => ⟨rfl, C.kx.at hU hW A.fr (by rw [hz]; exact hkb), by rw [hU]; exact hP⟩⟩ rfl ?_ ?_ ?_ ?_ hdg ?_) b3
  · show F0 (gM Γ) (pc + 3) ls _ = _
    rw [ret_st]
  · unfold wsV at hw
    simp only [List.mem_append, List.mem_cons, List.not_mem_nil, or_false] at hw
    rcases hw with (rfl | rfl | rfl | rfl) | rfl | hw
    · exact hlink
    · exact hin
    · exact hsel
    · exact hm.2.1
    · exact hm.1
    · exact hw
  · rw [C.hrf, C.hrl]; exact hR
  · rw [List.length_map]; exact hn
  · show ls.size = nL
    rw [A.lv.1]; exact C.ml
  · show st.map vv = _
    rw [hst, map_app_rev]; rfl
  · show 2 * 0 + _ ≤ 8
    rw [cat_sum]; omega
  · constructor <;> omega
theorem z_callS (C : CX Γ cc nL own PP okb rf rl) (hown : y.cls = own) (hm : MF y cc' nL' ret n) (hin : Cond.static y ∈ gtbl) (hlink : Cond.methodLink own index y ∈ gtbl)
    (hM : MA (gL Γ) (gK Γ) PP y cc' nL' ret F Lw As g o) (hn : As.length = n) (hR : F + 1 ≤ rf ∧ 8 + (nL' + 11) + Lw ≤ rl) (hst : st = As.reverse ++ rest) (hW : (rest.map vc).sum ≤ 8) (hdg : decode cc pc = .ok (.invokestatic index, 3))
    {φ' : Option VV × HP → Prop} (hφ : φ → ∃ x, o = some x ∧ φ' x) (kk : ∀ x, X Γ (pc + 3) L (retst x.1 rest) x.2 (φ' x)) : X Γ pc L st g φ := fun h => by
  obtain ⟨x, hx, hf⟩ := hφ h
  obtain ⟨m1, m2, m3⟩ := hM x hx
  obtain ⟨b1, b2, b3⟩ := kk x hf
  refine ⟨Nat.le_trans m1 b1, Nat.le_trans m2 b2, fun H locs ls A => ?_⟩
  have hkb := (C.po.sz A.pic).2
  have hz := (C.po.sz A.pic).1
  have a1 := A.n0
  have a2 := A.s0
  have hrc := C.rc
  have hrs := C.rs
  have hP : PP (gK Γ) g H := by have := A.pic; rw [C.pp] at this; exact this
  refine run_X C A (r := x.1) (rest := rest) (a := (As.map vv).toArray) m1 m2 ?_ (va_runS C.fix m3 (cwS n C.hts (gtbl_in fun w hw => ?_) rfl rfl rfl ⟨hown, hm.2.2.1⟩ ?_) ⟨PcM_blind _ _ _ _, fun U hU hW => ⟨rfl, C.kx.at hU hW A.fr (by rw [hz]; exact hkb), by rw [hU]; exact hP⟩⟩ rfl ?_ ?_ ?_ ?_ hdg ?_) b3
  · show F0 (gM Γ) (pc + 3) ls _ = _
    rw [ret_st]
  · unfold wsS at hw
    simp only [List.mem_append, List.mem_cons, List.not_mem_nil, or_false] at hw
    rcases hw with (rfl | rfl | rfl) | rfl | hw
    · exact hlink
    · exact hin
    · rw [← hown]; exact hm.2.1
    · exact hm.1
    · exact hw
  · rw [C.hrf, C.hrl]; exact hR
  · rw [List.length_map]; exact hn
  · show ls.size = nL
    rw [A.lv.1]; exact C.ml
  · show st.map vv = _
    rw [hst, map_app_rev]
  · show 2 * 0 + _ ≤ 8
    rw [cat_sum]; omega
  · constructor <;> omega
theorem z_callI (C : CX Γ cc nL own PP okb rf rl) (hm : MF y cc' nL' none n) (hin : Cond.instanceMethod y ∈ gtbl) (hnm : y.name = "<init>") (hlink : Cond.methodLink own index y ∈ gtbl)
    (hM : MA (gL Γ) (gK Γ) PP y cc' nL' none F Lw (vR (some b) :: As) g o) (hn : As.length = n) (hR : F + 1 ≤ rf ∧ 8 + (nL' + 11) + Lw ≤ rl) (hst : st = As.reverse ++ vR (some b) :: rest) (hW : (rest.map vc).sum ≤ 8) (hdg : decode cc pc = .ok (.invokespecial index, 3))
    {φ' : Option VV × HP → Prop} (hφ : φ → ∃ x, o = some x ∧ φ' x) (kk : ∀ x, X Γ (pc + 3) L (retst x.1 rest) x.2 (φ' x)) : X Γ pc L st g φ := fun h => by
  obtain ⟨x, hx, hf⟩ := hφ h
  obtain ⟨m1, m2, m3⟩ := hM x hx
  obtain ⟨b1, b2, b3⟩ := kk x hf
  refine ⟨Nat.le_trans m1 b1, Nat.le_trans m2 b2, fun H locs ls A => ?_⟩
  have hkb := (C.po.sz A.pic).2
  have hz := (C.po.sz A.pic).1
  have a1 := A.n0
  have a2 := A.s0
  have hrc := C.rc
  have hrs := C.rs
  have hP : PP (gK Γ) g H := by have := A.pic; rw [C.pp] at this; exact this
  refine run_X C A (r := x.1) (rest := rest) (a := (Value.ref b :: As.map vv).toArray) m1 m2 ?_ (va_runI C.fix m3 (cwI n C.hts (gtbl_in fun w hw => ?_) rfl rfl rfl (C.hts _ hm.2.1) (C.hts _ hlink) (C.hts _ hin) hnm hm.2.2.1 ?_) ⟨PcM_blind _ _ _ _, fun U hU hW => ⟨rfl, C.kx.at hU hW A.fr (by rw [hz]; exact hkb), by rw [hU]; exact hP⟩⟩ rfl ?_ ?_ ?_ ?_ hdg ?_) b3
  · show F0 (gM Γ) (pc + 3) ls _ = _
    rw [ret_st]
  · rcases List.mem_cons.mp hw with rfl | hw
    · exact hm.1
    · exact hw
  · rw [C.hrf, C.hrl]; exact hR
  · rw [List.length_map]; exact hn
  · show ls.size = nL
    rw [A.lv.1]; exact C.ml
  · show st.map vv = _
    rw [hst, map_app_rev]; rfl
  · show 2 * 0 + _ ≤ 8
    rw [cat_sum]; omega
  · constructor <;> omega
theorem z_callSX (C : CX Γ cc nL own PP okb rf rl) (hm : MF y cc' nL' ret n) (hin : Cond.static y ∈ gtbl) (hlink : Cond.methodLink own index y ∈ gtbl)
    (hM : MA (gL Γ) (gK Γ) PP y cc' nL' ret F Lw As g o) (hn : As.length = n) (hR : F + 1 ≤ rf ∧ 8 + (nL' + 11) + Lw ≤ rl) (hst : st = As.reverse ++ rest) (hW : (rest.map vc).sum ≤ 8) (hdg : decode cc pc = .ok (.invokestatic index, 3))
    {φ' : Option VV × HP → Prop} (hφ : φ → ∃ x, o = some x ∧ φ' x) (kk : ∀ x, X Γ (pc + 3) L (retst x.1 rest) x.2 (φ' x)) : X Γ pc L st g φ := fun h => by
  obtain ⟨x, hx, hf⟩ := hφ h
  obtain ⟨m1, m2, m3⟩ := hM x hx
  obtain ⟨b1, b2, b3⟩ := kk x hf
  refine ⟨Nat.le_trans m1 b1, Nat.le_trans m2 b2, fun H locs ls A => ?_⟩
  have hkb := (C.po.sz A.pic).2
  have hz := (C.po.sz A.pic).1
  have a1 := A.n0
  have a2 := A.s0
  have hrc := C.rc
  have hrs := C.rs
  have hP : PP (gK Γ) g H := by have := A.pic; rw [C.pp] at this; exact this
  have hw : ∀ w ∈ Cond.code y cc' nL' ret :: gtbl, w ∈ gtbl := fun w hw => by
    rcases List.mem_cons.mp hw with rfl | hw
    · exact hm.1
    · exact hw
  refine run_X C A (r := x.1) (rest := rest) (a := (As.map vv).toArray) m1 m2 ?_ (va_runS (n := n) C.fix m3 ⟨⟨rfl, rfl, ?_, ?_, fun w h2 a' U hW => word_at hW (good_of_word (gtbl_good w (hw w h2))) (C.hts w (hw w h2)), List.mem_cons_self, C.hts _ hm.1, C.hts _ hm.2.1, ⟨hm.2.2.1.1, hm.2.2.1.2.1⟩, fun sig hs => ?_, C.hts _ hlink⟩, C.hts _ hin⟩ ⟨PcM_blind _ _ _ _, fun U hU hW => ⟨rfl, C.kx.at hU hW A.fr (by rw [hz]; exact hkb), by rw [hU]; exact hP⟩⟩ rfl ?_ ?_ ?_ ?_ hdg ?_) b3
  · show F0 (gM Γ) (pc + 3) ls _ = _
    rw [ret_st]
  · rw [C.hrf]; exact hR.1
  · rw [C.hrl]; exact hR.2
  · have := hm.2.2.1.2.2
    rw [hs] at this
    exact (Option.some.inj this).symm
  · rw [List.length_map]; exact hn
  · show ls.size = nL
    rw [A.lv.1]; exact C.ml
  · show st.map vv = _
    rw [hst, map_app_rev]
  · show 2 * 0 + _ ≤ 8
    rw [cat_sum]; omega
  · constructor <;> omega
theorem z_callIN (C : CX Γ cc nL own PP okb rf rl) {host : String} (hm : MF y cc' nL' none n) (hin : Cond.instanceMethod y ∈ gtbl) (hnm : y.name = "<init>") (hlink : Cond.methodLinkNest own index y host ∈ nestW)
    (hM : MA (gL Γ) (gK Γ) PP y cc' nL' none F Lw (vR (some b) :: As) g o) (hn : As.length = n) (hR : F + 1 ≤ rf ∧ 8 + (nL' + 11) + Lw ≤ rl) (hst : st = As.reverse ++ vR (some b) :: rest) (hW : (rest.map vc).sum ≤ 8) (hdg : decode cc pc = .ok (.invokespecial index, 3))
    {φ' : Option VV × HP → Prop} (hφ : φ → ∃ x, o = some x ∧ φ' x) (kk : ∀ x, X Γ (pc + 3) L (retst x.1 rest) x.2 (φ' x)) : X Γ pc L st g φ := fun h => by
  obtain ⟨x, hx, hf⟩ := hφ h
  obtain ⟨m1, m2, m3⟩ := hM x hx
  obtain ⟨b1, b2, b3⟩ := kk x hf
  refine ⟨Nat.le_trans m1 b1, Nat.le_trans m2 b2, fun H locs ls A => ?_⟩
  have hkb := (C.po.sz A.pic).2
  have hz := (C.po.sz A.pic).1
  have a1 := A.n0
  have a2 := A.s0
  have hrc := C.rc
  have hrs := C.rs
  have hP : PP (gK Γ) g H := by have := A.pic; rw [C.pp] at this; exact this
  have hw : ∀ w ∈ Cond.code y cc' nL' none :: gtbl, w ∈ gtbl := fun w hw => by
    rcases List.mem_cons.mp hw with rfl | hw
    · exact hm.1
    · exact hw
  refine run_X C A (r := x.1) (rest := rest) (a := (Value.ref b :: As.map vv).toArray) m1 m2 ?_ (va_runIN (n := n) (host := host) C.fix m3 ⟨va_cnB n C.hts (gtbl_in hw) rfl rfl rfl (C.kx.2.2.2.2.2.2.2.2.1 _ hlink) (C.hts _ hm.2.1) hm.2.2.1 ?_, hnm, C.hts _ hin⟩ ⟨PcM_blind _ _ _ _, fun U hU hW => ⟨rfl, C.kx.at hU hW A.fr (by rw [hz]; exact hkb), by rw [hU]; exact hP⟩⟩ rfl ?_ ?_ ?_ ?_ hdg ?_) b3
  · show F0 (gM Γ) (pc + 3) ls _ = _
    rw [ret_st]
  · rw [C.hrf, C.hrl]; exact hR
  · rw [List.length_map]; exact hn
  · show ls.size = nL
    rw [A.lv.1]; exact C.ml
  · show st.map vv = _
    rw [hst, map_app_rev]; rfl
  · show 2 * 0 + _ ≤ 8
    rw [cat_sum]; omega
  · constructor <;> omega
end CallRules
