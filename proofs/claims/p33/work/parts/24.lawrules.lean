/-! what the law's own methods do beside: rows of int[] -/
theorem KA2.use {A : Array Value} {U : State} (h : KA2 U) : (Cond.arrayOver (.array .int)).before A U = true := h
theorem asg_refl (vm : Vm) (c : ClassId) : vm.assignable c c = true := by
  show Vm.assignableAux vm (255 + 1) c c = true
  rw [Vm.assignableAux]
  rw [beq_self_eq_true, Bool.true_or]
section LawRules
variable {Γ : GG} {cc : ByteArray} {nL : Nat} {own : String} {PP : KK → HP → Heap → Prop} {okb : Nat → Bool} {rf rl : Nat} {pc : Nat} {L L' : LL} {st rest : List VV} {g : HP} {φ φ1 φ2 : Prop}
theorem z_nwB (C : CX Γ cc nL own PP okb rf rl) (hok : okb 23 = true) {index : Nat} {n : Int32} (hdg : decode cc pc = .ok (.anewarray index, 3)) (hlink : Cond.classLink own index "[I" ∈ gtbl) {φ' : Nat × HP → Prop} (hφ : φ → ∃ x, nwA 23 n g = some x ∧ φ' x)
    (kk : ∀ x, X Γ (pc + 3) L (vR (some x.1) :: st) x.2 (φ' x)) : X Γ pc L (vI n :: st) g φ := fun h => by
  obtain ⟨x, hx, hf⟩ := hφ h
  unfold nwA at hx
  split at hx
  · rename_i hc
    cases hx
    obtain ⟨b1, b2, b3⟩ := kk _ hf
    have b1' : cu g + 1 ≤ gtn Γ := b1
    have b2' : sl g + n.toNatClampNeg ≤ gts Γ := b2
    refine ⟨by omega, by omega, fun H locs ls A => ?_⟩
    obtain ⟨hz, hkb⟩ := C.po.sz A.pic
    have hrc := C.rc
    have hrs := C.rs
    have a1 := A.n0
    have a2 := A.s0
    have et : (FieldType.array .int).toString = "[I" := by decide
    have hov : (Cond.arrayOver (.array .int)).before (gA Γ) (gS Γ) = true := KA2.use C.kx.2.2.2.2.2.2.2.2.2.1
    have hlk : (Cond.classLink own index (FieldType.array .int).toString).before (gA Γ) (gS Γ) = true := by rw [et]; exact C.hts _ hlink
    refine W.anewA (t := .int) C.exec C.code C.ow hlk hov rfl hdg rfl (fun z => absurd hc.1 (Int32.not_le.mpr z)) (by omega) (by omega) (by omega) fun cA kA' comp f1 f2 f3 f4 => ?_
    have hA2 : cA = kA (gK Γ) 23 := by
      have k4 := (C.kx.1.2 3 _ rfl).2
      exact Option.some.inj (f1.symm.trans k4)
    have e0 : ({ cls := cA, slots := Array.replicate n.toNatClampNeg .null, vm := .none } : Cell) = cellO (arC (gK Γ) 23) (List.replicate n.toNatClampNeg none) := by
      rw [arrV_new, hA2, cellO_new]; rfl
    rw [e0]
    have o1 : ∀ x, x < H.size → (H.push (cellO (arC (gK Γ) 23) (List.replicate n.toNatClampNeg none)))[x]? = H[x]? := fun x hx => by
      rw [Array.getElem?_push, if_neg (Nat.ne_of_lt hx)]
    have := b3 (H.push (cellO (arC (gK Γ) 23) (List.replicate n.toNatClampNeg none))) locs ls (A.new (Nat.le_succ _) (Nat.le_add_right _ _) (C.po.2.2.2.2.2.2.2.2.2.2.2.2 g H 23 n.toNatClampNeg _ _ A.pic (Or.inr rfl) hok (by simp) o1 (by simp)) (by omega) o1)
    have e1 : cu (newG g 23 n.toNatClampNeg [] (List.replicate n.toNatClampNeg none)) - gn0 Γ = cu g - gn0 Γ + 1 := by show cu g + 1 - gn0 Γ = _; omega
    have e2 : sl (newG g 23 n.toNatClampNeg [] (List.replicate n.toNatClampNeg none)) - gs0 Γ = sl g - gs0 Γ + n.toNatClampNeg := by show sl g + n.toNatClampNeg - gs0 Γ = _; omega
    rw [e1, e2] at this
    rw [hz]
    exact this
  · cases hx
def ldB (r : Option Nat) (i : Int32) (g : HP) : Option (Option Nat) := match r with
  | none => none
  | some a => if tg g a = 23 ∧ 0 ≤ i ∧ i.toNatClampNeg < (oa g a).length then some ((oa g a).getD i.toNatClampNeg none) else none
theorem z_ldB (C : CX Γ cc nL own PP okb rf rl) (hok : okb 23 = true) {r : Option Nat} {i : Int32} (hdg : decode cc pc = .ok (.aaload, 1)) {φ' : Option Nat → Prop} (hφ : φ → ∃ x, ldB r i g = some x ∧ φ' x) (kk : ∀ x, X Γ (pc + 1) L (vR x :: st) g (φ' x)) : X Γ pc L (vI i :: vR r :: st) g φ := fun h => by
  obtain ⟨x, hx, hf⟩ := hφ h
  refine ⟨(kk x hf).1, (kk x hf).2.1, fun H locs ls A => ?_⟩
  cases r with
  | none => cases hx
  | some a =>
    unfold ldB at hx
    dsimp only at hx
    split at hx
    · rename_i hc
      obtain ⟨ht, h0, hl⟩ := hc
      cases hx
      have hI : isO (tg g a) := by unfold isO; omega
      have hcell := (C.ao1 A.pic hI (by omega) (by rw [ht]; exact hok)).1
      rw [ht] at hcell
      exact W.aald C.exec C.code hcell (C.arr 23 (by omega) _ _) rfl (fun h => by cases h) (by rw [cellO_size]; exact nb_of h0 hl) (cellO_read _ hl) rfl rfl hdg ((kk _ hf).2.2 H locs ls A)
    · cases hx
def stB (r : Option Nat) (i : Int32) (v : Option Nat) (g : HP) : Option HP := match r, v with
  | some a, some b => if (tg g a = 23 ∧ tg g b = 20) ∧ 0 ≤ i ∧ i.toNatClampNeg < (oa g a).length then some (setO g a ((oa g a).set i.toNatClampNeg (some b))) else none
  | _, _ => none
theorem mo_stB {r : Option Nat} {i : Int32} {v : Option Nat} {g : HP} : Mono g id (stB r i v g) := fun a ha => by
  unfold stB at ha
  split at ha
  · split at ha
    · cases ha; exact ⟨Nat.le_refl _, Nat.le_refl _⟩
    · cases ha
  · cases ha
theorem z_stB (C : CX Γ cc nL own PP okb rf rl) (hok : okb 23 = true) {r v : Option Nat} {i : Int32} (hdg : decode cc pc = .ok (.aastore, 1)) {φ' : HP → Prop} (hφ : φ → ∃ x, stB r i v g = some x ∧ φ' x) (kk : ∀ x, X Γ (pc + 1) L st x (φ' x)) : X Γ pc L (vR v :: vI i :: vR r :: st) g φ := fun h => by
  obtain ⟨x, hx, hf⟩ := hφ h
  cases r with
  | none => cases v <;> cases hx
  | some a =>
  cases v with
  | none => cases hx
  | some b =>
    unfold stB at hx
    dsimp only at hx
    split at hx
    · rename_i hc
      obtain ⟨⟨ht, htb⟩, h0, hl⟩ := hc
      cases hx
      refine ⟨(kk _ hf).1, (kk _ hf).2.1, fun H locs ls A => ?_⟩
      have hI : isO (tg g a) := by unfold isO; omega
      obtain ⟨hcell, hkb⟩ := C.ao1 A.pic hI (by omega) (by rw [ht]; exact hok)
      rw [ht] at hcell
      have hJ : isI (tg g b) := by unfold isI; omega
      have hcb := (C.ai1 A.pic hJ (by omega)).1
      rw [htb] at hcb
      obtain ⟨comp, c, k, h1, h2, h3, h4, h5⟩ := arrayOverA_spec (KA2.use (A := gA Γ) C.kx.2.2.2.2.2.2.2.2.2.1)
      have k4 := (C.kx.1.2 3 _ rfl).2
      have k5 := (C.kx.1.2 0 _ rfl).2
      have ec : c = kA (gK Γ) 23 := Option.some.inj (h5.symm.trans k4)
      have et : (FieldType.array .int).toString = "[" ++ FieldType.int.toString := by decide
      have ecomp : comp = kA (gK Γ) 20 := by rw [et] at h1; exact Option.some.inj (h1.symm.trans k5)
      rw [ec] at h3
      rw [ecomp] at h4
      obtain ⟨kI, hkI, -⟩ := Vm.findClass_spec k5
      refine W.aast C.exec C.code hcell (fun q h => by cases h) (fun h => by cases h) h3 h4 rfl hkI ⟨fun z => absurd h0 (Int32.not_le.mpr z), by rw [cellO_size]; exact hl⟩ hcb (fun q h => by cases h) hkI (asg_refl _ _) rfl rfl hdg fun H' e1 e2 e3 => ?_
      refine (kk _ hf).2.2 H' _ ls (A.put rfl rfl (C.po.2.2.2.2.2.2.2.2.2.1 g H a _ H' A.pic (Or.inr ht) (by rw [ht]; exact hok) e2 e3 ?_) e3 (hkb (by omega)) e2)
      rw [ht, e1]
      exact congrArg some (cellO_store _ _ _ (some b))
    · cases hx
theorem z_ldc2d (C : CX Γ cc nL own PP okb rf rl) {index : Nat} {v : UInt64} (hdg : decode cc pc = .ok (.ldc2_w index, 3)) (hw : Cond.constantDouble own index v ∈ gtbl) (k : X Γ (pc + 3) L (vD v :: st) g φ) : X Γ pc L st g φ := fun hφ => ⟨(k hφ).1, (k hφ).2.1, fun H locs ls A => lv_ldc2d C.exec C.code C.ow (C.hts _ hw) hdg ((k hφ).2.2 H locs ls A)⟩
end LawRules
