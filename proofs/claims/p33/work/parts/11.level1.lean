section Conts
variable {Γ : GG} {cc : ByteArray} {nL : Nat} {own : String} {PP : KK → HP → Heap → Prop} {okb : Nat → Bool} {rf rl : Nat} {pc : Nat} {L L' : LL} {st rest : List VV} {g : HP} {φ φ1 φ2 : Prop}
theorem X.join {τ β : Type} {F : τ → Option β} {fin : β} {B : Option τ} (pcj : Nat) (Lj : τ → LL) (Sj : τ → List VV) (gj : τ → HP) (hj : ∀ r, X Γ pcj (Lj r) (Sj r) (gj r) (F r = some fin)) (hB : (∀ r, X Γ pcj (Lj r) (Sj r) (gj r) (F r = some fin)) → X Γ pc L st g (B.bind F = some fin)) : X Γ pc L st g (B.bind F = some fin) := hB hj
theorem X.ne0 {β : Type} {x : Int32} {F : Int32 → Option β} {fin : β} (k : ¬ x = 0 → X Γ pc L st g (F 0 = some fin)) : X Γ pc L st g ((if x = 0 then none else some (0 : Int32)).bind F = some fin) := fun h => by
  by_cases hx : x = 0
  · rw [if_pos hx] at h; exact (no1 h).elim
  · rw [if_neg hx] at h; exact k hx h
theorem z_rcv {ci : Nat} {r : Option Nat} {φ' : Nat → Prop} (hφ : φ → ∃ b, rcv ci r g = some b ∧ φ' b) (kk : ∀ b, r = some b → tg g b = ci + 1 → X Γ pc L st g (φ' b)) : X Γ pc L st g φ := fun h => by
  obtain ⟨b, hb, hf⟩ := hφ h
  cases r with
  | none => cases hb
  | some a =>
    unfold rcv at hb
    dsimp only at hb
    by_cases ht : tg g a = ci + 1
    · rw [if_pos ht] at hb
      have e := Option.some.inj hb
      subst e
      exact kk a rfl ht hf
    · rw [if_neg ht] at hb; cases hb
theorem bdI {β : Type} {o : Option Int32} {F : Int32 → Option β} {r : β} (h : o.bind F = some r) : ∃ x : Option VV × HP, wI g o = some x ∧ ∃ v, x = (some (vI v), g) ∧ F v = some r := by
  obtain ⟨v, h1, h2⟩ := bd h
  exact ⟨_, by unfold wI; rw [h1]; rfl, v, rfl, h2⟩
theorem bdR {β : Type} {o : Option (Option Nat)} {F : Option Nat → Option β} {r : β} (h : o.bind F = some r) : ∃ x : Option VV × HP, wR g o = some x ∧ ∃ v, x = (some (vR v), g) ∧ F v = some r := by
  obtain ⟨v, h1, h2⟩ := bd h
  exact ⟨_, by unfold wR; rw [h1]; rfl, v, rfl, h2⟩
theorem bdJ {β : Type} {o : Option Int64} {F : Int64 → Option β} {r : β} (h : o.bind F = some r) : ∃ x : Option VV × HP, wJ g o = some x ∧ ∃ v, x = (some (vJ v), g) ∧ F v = some r := by
  obtain ⟨v, h1, h2⟩ := bd h
  exact ⟨_, by unfold wJ; rw [h1]; rfl, v, rfl, h2⟩
theorem bdIg {β : Type} {o : Option (Int32 × HP)} {F : Int32 × HP → Option β} {r : β} (h : o.bind F = some r) : ∃ x : Option VV × HP, wIg o = some x ∧ ∃ v : Int32 × HP, x = (some (vI v.1), v.2) ∧ F v = some r := by
  obtain ⟨v, h1, h2⟩ := bd h
  exact ⟨_, by unfold wIg; rw [h1]; rfl, v, rfl, h2⟩
theorem bdRg {β : Type} {o : Option (Option Nat × HP)} {F : Option Nat × HP → Option β} {r : β} (h : o.bind F = some r) : ∃ x : Option VV × HP, wRg o = some x ∧ ∃ v : Option Nat × HP, x = (some (vR v.1), v.2) ∧ F v = some r := by
  obtain ⟨v, h1, h2⟩ := bd h
  exact ⟨_, by unfold wRg; rw [h1]; rfl, v, rfl, h2⟩
theorem bdJg {β : Type} {o : Option (Int64 × HP)} {F : Int64 × HP → Option β} {r : β} (h : o.bind F = some r) : ∃ x : Option VV × HP, wJg o = some x ∧ ∃ v : Int64 × HP, x = (some (vJ v.1), v.2) ∧ F v = some r := by
  obtain ⟨v, h1, h2⟩ := bd h
  exact ⟨_, by unfold wJg; rw [h1]; rfl, v, rfl, h2⟩
theorem bdDg {β : Type} {o : Option (UInt64 × HP)} {F : UInt64 × HP → Option β} {r : β} (h : o.bind F = some r) : ∃ x : Option VV × HP, wDg o = some x ∧ ∃ v : UInt64 × HP, x = (some (vD v.1), v.2) ∧ F v = some r := by
  obtain ⟨v, h1, h2⟩ := bd h
  exact ⟨_, by unfold wDg; rw [h1]; rfl, v, rfl, h2⟩
theorem bdVg {β : Type} {o : Option HP} {F : HP → Option β} {r : β} (h : o.bind F = some r) : ∃ x : Option VV × HP, wVg o = some x ∧ ∃ v : HP, x = (none, v) ∧ F v = some r := by
  obtain ⟨v, h1, h2⟩ := bd h
  exact ⟨_, by unfold wVg; rw [h1]; rfl, v, rfl, h2⟩
theorem contI {ψ : Int32 → Prop} (k : ∀ v, X Γ pc L (vI v :: rest) g (ψ v)) : ∀ x : Option VV × HP, X Γ pc L (retst x.1 rest) x.2 (∃ v, x = (some (vI v), g) ∧ ψ v) := fun x h => by
  obtain ⟨v, rfl, h2⟩ := h
  exact k v h2
theorem contR {ψ : Option Nat → Prop} (k : ∀ v, X Γ pc L (vR v :: rest) g (ψ v)) : ∀ x : Option VV × HP, X Γ pc L (retst x.1 rest) x.2 (∃ v, x = (some (vR v), g) ∧ ψ v) := fun x h => by
  obtain ⟨v, rfl, h2⟩ := h
  exact k v h2
theorem contJ {ψ : Int64 → Prop} (k : ∀ v, X Γ pc L (vJ v :: rest) g (ψ v)) : ∀ x : Option VV × HP, X Γ pc L (retst x.1 rest) x.2 (∃ v, x = (some (vJ v), g) ∧ ψ v) := fun x h => by
  obtain ⟨v, rfl, h2⟩ := h
  exact k v h2
theorem contIg {ψ : Int32 × HP → Prop} (k : ∀ v, X Γ pc L (vI v.1 :: rest) v.2 (ψ v)) : ∀ x : Option VV × HP, X Γ pc L (retst x.1 rest) x.2 (∃ v : Int32 × HP, x = (some (vI v.1), v.2) ∧ ψ v) := fun x h => by
  obtain ⟨v, rfl, h2⟩ := h
  exact k v h2
theorem contRg {ψ : Option Nat × HP → Prop} (k : ∀ v, X Γ pc L (vR v.1 :: rest) v.2 (ψ v)) : ∀ x : Option VV × HP, X Γ pc L (retst x.1 rest) x.2 (∃ v : Option Nat × HP, x = (some (vR v.1), v.2) ∧ ψ v) := fun x h => by
  obtain ⟨v, rfl, h2⟩ := h
  exact k v h2
theorem contJg {ψ : Int64 × HP → Prop} (k : ∀ v, X Γ pc L (vJ v.1 :: rest) v.2 (ψ v)) : ∀ x : Option VV × HP, X Γ pc L (retst x.1 rest) x.2 (∃ v : Int64 × HP, x = (some (vJ v.1), v.2) ∧ ψ v) := fun x h => by
  obtain ⟨v, rfl, h2⟩ := h
  exact k v h2
theorem contDg {ψ : UInt64 × HP → Prop} (k : ∀ v, X Γ pc L (vD v.1 :: rest) v.2 (ψ v)) : ∀ x : Option VV × HP, X Γ pc L (retst x.1 rest) x.2 (∃ v : UInt64 × HP, x = (some (vD v.1), v.2) ∧ ψ v) := fun x h => by
  obtain ⟨v, rfl, h2⟩ := h
  exact k v h2
theorem contVg {ψ : HP → Prop} (k : ∀ v, X Γ pc L rest v (ψ v)) : ∀ x : Option VV × HP, X Γ pc L (retst x.1 rest) x.2 (∃ v : HP, x = (none, v) ∧ ψ v) := fun x h => by
  obtain ⟨v, rfl, h2⟩ := h
  exact k v h2
end Conts
theorem wI_some {g : HP} {o : Option Int32} {a : Option VV × HP} (h : wI g o = some a) : ∃ v, o = some v ∧ a = (some (vI v), g) := by cases o with | none => cases h | some v => exact ⟨v, rfl, (Option.some.inj h).symm⟩
theorem wR_some {g : HP} {o : Option (Option Nat)} {a : Option VV × HP} (h : wR g o = some a) : ∃ v, o = some v ∧ a = (some (vR v), g) := by cases o with | none => cases h | some v => exact ⟨v, rfl, (Option.some.inj h).symm⟩
theorem wJ_some {g : HP} {o : Option Int64} {a : Option VV × HP} (h : wJ g o = some a) : ∃ v, o = some v ∧ a = (some (vJ v), g) := by cases o with | none => cases h | some v => exact ⟨v, rfl, (Option.some.inj h).symm⟩
theorem wIg_some {o : Option (Int32 × HP)} {a : Option VV × HP} (h : wIg o = some a) : ∃ v, o = some v ∧ a = (some (vI v.1), v.2) := by cases o with | none => cases h | some v => exact ⟨v, rfl, (Option.some.inj h).symm⟩
theorem wRg_some {o : Option (Option Nat × HP)} {a : Option VV × HP} (h : wRg o = some a) : ∃ v, o = some v ∧ a = (some (vR v.1), v.2) := by cases o with | none => cases h | some v => exact ⟨v, rfl, (Option.some.inj h).symm⟩
theorem wJg_some {o : Option (Int64 × HP)} {a : Option VV × HP} (h : wJg o = some a) : ∃ v, o = some v ∧ a = (some (vJ v.1), v.2) := by cases o with | none => cases h | some v => exact ⟨v, rfl, (Option.some.inj h).symm⟩
theorem wDg_some {o : Option (UInt64 × HP)} {a : Option VV × HP} (h : wDg o = some a) : ∃ v, o = some v ∧ a = (some (vD v.1), v.2) := by cases o with | none => cases h | some v => exact ⟨v, rfl, (Option.some.inj h).symm⟩
theorem wVg_some {o : Option HP} {a : Option VV × HP} (h : wVg o = some a) : ∃ v, o = some v ∧ a = (none, v) := by cases o with | none => cases h | some v => exact ⟨v, rfl, (Option.some.inj h).symm⟩
theorem wI_same {g : HP} {o : Option Int32} (a : Option VV × HP) (h : wI g o = some a) : cu g ≤ cu a.2 ∧ sl g ≤ sl a.2 := by obtain ⟨v, -, rfl⟩ := wI_some h; exact ⟨Nat.le_refl _, Nat.le_refl _⟩
theorem wR_same {g : HP} {o : Option (Option Nat)} (a : Option VV × HP) (h : wR g o = some a) : cu g ≤ cu a.2 ∧ sl g ≤ sl a.2 := by obtain ⟨v, -, rfl⟩ := wR_some h; exact ⟨Nat.le_refl _, Nat.le_refl _⟩
theorem wJ_same {g : HP} {o : Option Int64} (a : Option VV × HP) (h : wJ g o = some a) : cu g ≤ cu a.2 ∧ sl g ≤ sl a.2 := by obtain ⟨v, -, rfl⟩ := wJ_some h; exact ⟨Nat.le_refl _, Nat.le_refl _⟩
theorem wIg_mono {g : HP} {o : Option (Int32 × HP)} (hm : Mono g (fun v => v.2) o) (a : Option VV × HP) (h : wIg o = some a) : cu g ≤ cu a.2 ∧ sl g ≤ sl a.2 := by obtain ⟨v, h1, rfl⟩ := wIg_some h; exact hm v h1
theorem wRg_mono {g : HP} {o : Option (Option Nat × HP)} (hm : Mono g (fun v => v.2) o) (a : Option VV × HP) (h : wRg o = some a) : cu g ≤ cu a.2 ∧ sl g ≤ sl a.2 := by obtain ⟨v, h1, rfl⟩ := wRg_some h; exact hm v h1
theorem wJg_mono {g : HP} {o : Option (Int64 × HP)} (hm : Mono g (fun v => v.2) o) (a : Option VV × HP) (h : wJg o = some a) : cu g ≤ cu a.2 ∧ sl g ≤ sl a.2 := by obtain ⟨v, h1, rfl⟩ := wJg_some h; exact hm v h1
theorem wDg_mono {g : HP} {o : Option (UInt64 × HP)} (hm : Mono g (fun v => v.2) o) (a : Option VV × HP) (h : wDg o = some a) : cu g ≤ cu a.2 ∧ sl g ≤ sl a.2 := by obtain ⟨v, h1, rfl⟩ := wDg_some h; exact hm v h1
theorem wVg_mono {g : HP} {o : Option HP} (hm : Mono g id o) (a : Option VV × HP) (h : wVg o = some a) : cu g ≤ cu a.2 ∧ sl g ≤ sl a.2 := by obtain ⟨v, h1, rfl⟩ := wVg_some h; exact hm v h1
theorem retZ_bd {g : HP} {x : Int32} {v0 : Int32 × HP} (h : (retZ x).bind (fun z => some (z, g)) = some v0) : (x = 0 ∨ x = 1) ∧ ((some (vI v0.1), v0.2) : Option VV × HP) = (some (vI x), g) := by
  obtain ⟨z, h1, h2⟩ := bd h
  obtain ⟨h3, rfl⟩ := retZ_of h1
  cases h2
  exact ⟨h3, rfl⟩
def okD (x : UInt64) : Option UInt64 := if x &&& 0x7fffffffffffffff ≤ 0x7ff0000000000000 then some x else none
/-- how many rounds a loop is let go -/
def FU : Nat := 4096
section Lev1
variable {Γ : GG} {cc : ByteArray} {nL : Nat} {own : String} {PP : KK → HP → Heap → Prop} {okb : Nat → Bool} {rf rl : Nat} {pc : Nat} {L L' : LL} {st rest : List VV} {g : HP} {φ φ1 φ2 : Prop}
theorem z_ddivk (C : CX Γ cc nL own PP okb rf rl) {x y : UInt64} (hdg : decode cc pc = .ok (.ddiv, 1)) {φ' : UInt64 → Prop} (hφ : φ → ∃ z, okD (FP.ddiv x y) = some z ∧ φ' z) (kk : ∀ z, X Γ (pc + 1) L (vD z :: st) g (φ' z)) : X Γ pc L (vD y :: vD x :: st) g φ := fun h => by
  obtain ⟨z, hz, hf⟩ := hφ h
  unfold okD at hz
  split at hz
  · rename_i hc
    cases hz
    exact z_ddiv C hdg hc (kk _) hf
  · cases hz
theorem z_gets (C : CX Γ cc nL own PP okb rf rl) {index : Nat} (hdg : decode cc pc = .ok (.getstatic index, 3)) (hlink : Cond.fieldLink own index "java/util/ArrayList" "DEFAULTCAPACITY_EMPTY_ELEMENTDATA" "[Ljava/lang/Object;" ∈ gtbl)
    (k : X Γ (pc + 3) L (vR (some (kE (gK Γ))) :: st) g φ) : X Γ pc L st g φ := fun hφ => ⟨(k hφ).1, (k hφ).2.1, fun H locs ls A => by
  obtain ⟨cf, kf, fi', f, a, cell, h1, h2, h3, h4, h5, h6, h7, h8⟩ := C.kx.2.2.1.1
  exact W.gets C.exec C.code C.ow (C.hts _ hlink) h1 h2 h3 h4 (by rw [A.fr a (Nat.lt_of_not_le h8)]; exact h5) (fun e => by rw [e] at h6; cases h6) h7 rfl hdg ((k hφ).2.2 H locs ls A)⟩
def okE (g : HP) (v : Option Nat) : Bool := match v with
  | none => true
  | some b => Nat.ble 1 (tg g b) && Nat.ble (tg g b) 11
def stA (r : Option Nat) (i : Int32) (v : Option Nat) (g : HP) : Option HP := match r with
  | none => none
  | some a => if tg g a = 22 ∧ (0 ≤ i ∧ i.toNatClampNeg < (oa g a).length) ∧ okE g v = true then some (setO g a ((oa g a).set i.toNatClampNeg v)) else none
theorem mo_stA {r : Option Nat} {i : Int32} {v : Option Nat} {g : HP} : Mono g id (stA r i v g) := fun a ha => by
  unfold stA at ha
  split at ha
  · cases ha
  · split at ha
    · cases ha; exact ⟨Nat.le_refl _, Nat.le_refl _⟩
    · cases ha
theorem okE_any (C : CX Γ cc nL own PP okb rf rl) {b : Nat} (h : okE g (some b) = true) {H : Heap} (hP : gPi Γ g H) : va_Any "java/lang/Object" (gS Γ) H b := by
  have h' : (Nat.ble 1 (tg g b) && Nat.ble (tg g b) 11) = true := h
  rw [Bool.and_eq_true] at h'
  have h1 := Nat.le_of_ble_eq_true h'.1
  have h2 := Nat.le_of_ble_eq_true h'.2
  obtain ⟨ci, hci⟩ : ∃ ci, tg g b = ci + 1 := ⟨tg g b - 1, by omega⟩
  have hl : ci < 11 := by omega
  obtain ⟨cell, q1, q2, q3⟩ := C.po.recv hP hci hl
  have hlen : ci < vwCl.length := hl
  obtain ⟨r, hr⟩ : ∃ r, vwCl[ci]? = some r := ⟨vwCl[ci], List.getElem?_eq_getElem hlen⟩
  obtain ⟨hfc, kC, hkC, -⟩ := (C.kx.1.1 ci r hr).2
  refine ⟨cell, q1, q2, ⟨kC, by rw [q3]; exact hkC⟩, fun comp hcomp => ?_⟩
  obtain ⟨c0, t1, f1, f2, f3⟩ := Cond.castable_spec (va_Nw.use (A := gA Γ) rfl (C.kx.2.2.2.2.2.1 ci r hr))
  rw [q3]
  have e1 : c0 = (kD (gK Γ)).1 ci := Option.some.inj (f1.symm.trans hfc)
  have e2 : t1 = comp := Option.some.inj (f2.symm.trans hcomp)
  rw [← e1, ← e2]; exact f3
theorem z_stA (C : CX Γ cc nL own PP okb rf rl) (hok : okb 22 = true) {r v : Option Nat} {i : Int32} (hdg : decode cc pc = .ok (.aastore, 1)) {φ' : HP → Prop} (hφ : φ → ∃ x, stA r i v g = some x ∧ φ' x) (kk : ∀ x, X Γ (pc + 1) L st x (φ' x)) : X Γ pc L (vR v :: vI i :: vR r :: st) g φ := fun h => by
  obtain ⟨x, hx, hf⟩ := hφ h
  cases r with
  | none => cases hx
  | some a =>
    unfold stA at hx
    dsimp only at hx
    split at hx
    · rename_i hc
      obtain ⟨ht, ⟨h0, hl⟩, hz⟩ := hc
      cases hx
      refine ⟨(kk _ hf).1, (kk _ hf).2.1, fun H locs ls A => ?_⟩
      have hI : isO (tg g a) := by unfold isO; omega
      obtain ⟨hcell, hkb⟩ := C.ao1 A.pic hI (by omega) (by rw [ht]; exact hok)
      rw [ht] at hcell
      have fin : ∀ (H' : Heap), H'[a]? = some ((cellO (kA (gK Γ) 22) (oa g a)).setSlot i.toNatClampNeg (va_rf v)) → H'.size = H.size → (∀ q, q ≠ a → H'[q]? = H[q]?) → WG Γ H' (locs ++ [⟨a, i.toNatClampNeg⟩]) (cu g - gn0 Γ) (sl g - gs0 Γ) (F0 (gM Γ) (pc + 1) ls (st.map vv)) := fun H' e1 e2 e3 => by
        refine (kk _ hf).2.2 H' _ ls (A.put rfl rfl (C.po.2.2.2.2.2.2.2.2.2.1 g H a _ H' A.pic (Or.inl ht) (by rw [ht]; exact hok) e2 e3 ?_) e3 (hkb (by omega)) e2)
        rw [ht, e1]
        exact congrArg some (cellO_store _ _ _ _)
      cases v with
      | none => exact va_WaastN C.exec C.code hcell (C.arr 22 (by omega) _ _) (fun h => by cases h) (by rw [cellO_size]; exact nb_of h0 hl) rfl rfl hdg fin
      | some b =>
        obtain ⟨cellV, g1, g3, ⟨kC, hkC⟩, hasg⟩ := okE_any C hz A.pic
        obtain ⟨kA', comp, k1, k2, k3, -⟩ := (C.kx.1.2 2 _ rfl).2
        obtain ⟨kE', hkE, -⟩ := Vm.findClass_spec k3
        exact W.aast C.exec C.code hcell (fun q h => by cases h) (fun h => by cases h) k1 k2 rfl hkE ⟨fun z => absurd h0 (Int32.not_le.mpr z), by rw [cellO_size]; exact hl⟩ g1 (fun q h => by rw [h] at g3; cases g3) hkC (hasg _ k3) rfl rfl hdg fin
    · cases hx
theorem z_nwA (C : CX Γ cc nL own PP okb rf rl) (hok : okb 22 = true) {index : Nat} {n : Int32} (hdg : decode cc pc = .ok (.anewarray index, 3)) (hlink : Cond.classLink own index "java/lang/Object" ∈ gtbl) {φ' : Nat × HP → Prop} (hφ : φ → ∃ x, nwA 22 n g = some x ∧ φ' x)
    (kk : ∀ x, X Γ (pc + 3) L (vR (some x.1) :: st) x.2 (φ' x)) : X Γ pc L (vI n :: st) g φ := fun h => by
  obtain ⟨x, hx, hf⟩ := hφ h
  unfold nwA at hx
  split at hx
  · rename_i hc
    cases hx
    obtain ⟨b1, b2, b3⟩ := kk _ hf
    have b1' : cu g + 1 ≤ gtn Γ := b1
    have b2' : sl g + n.toNatClampNeg ≤ gts Γ := b2
    refine ⟨by omega, by omega, fun H locs ls A => ?_⟩
    obtain ⟨hz, hkb⟩ := C.po.sz A.pic
    have hrc := C.rc
    have hrs := C.rs
    have a1 := A.n0
    have a2 := A.s0
    refine W.anew C.exec C.code C.ow (C.hts _ hlink) (va_AO.use C.kx.2.2.2.2.2.2.1) rfl hdg rfl (fun z => absurd hc.1 (Int32.not_le.mpr z)) (by omega) (by omega) (by omega) fun cA kA' comp f1 f2 f3 f4 => ?_
    have hA2 : cA = kA (gK Γ) 22 := by
      obtain ⟨_, _, _, _, _, k4⟩ := (C.kx.1.2 2 _ rfl).2
      exact Option.some.inj (f1.symm.trans k4)
    have e0 : ({ cls := cA, slots := Array.replicate n.toNatClampNeg .null, vm := .none } : Cell) = cellO (arC (gK Γ) 22) (List.replicate n.toNatClampNeg none) := by
      rw [arrV_new, hA2, cellO_new]; rfl
    rw [e0]
    have o1 : ∀ x, x < H.size → (H.push (cellO (arC (gK Γ) 22) (List.replicate n.toNatClampNeg none)))[x]? = H[x]? := fun x hx => by
      rw [Array.getElem?_push, if_neg (Nat.ne_of_lt hx)]
    have := b3 (H.push (cellO (arC (gK Γ) 22) (List.replicate n.toNatClampNeg none))) locs ls (A.new (Nat.le_succ _) (Nat.le_add_right _ _) (C.po.2.2.2.2.2.2.2.2.2.2.2.2 g H 22 n.toNatClampNeg _ _ A.pic (Or.inl rfl) hok (by simp) o1 (by simp)) (by omega) o1)
    have e1 : cu (newG g 22 n.toNatClampNeg [] (List.replicate n.toNatClampNeg none)) - gn0 Γ = cu g - gn0 Γ + 1 := by show cu g + 1 - gn0 Γ = _; omega
    have e2 : sl (newG g 22 n.toNatClampNeg [] (List.replicate n.toNatClampNeg none)) - gs0 Γ = sl g - gs0 Γ + n.toNatClampNeg := by show sl g + n.toNatClampNeg - gs0 Γ = _; omega
    rw [e1, e2] at this
    rw [hz]
    exact this
  · cases hx
/-- System.arraycopy between two arrays of ours -/
def cpL (f g : List (Option Nat)) (sp dp n : Nat) : List (Option Nat) := (List.range g.length).map fun k => if dp ≤ k ∧ k < dp + n then f.getD (sp + (k - dp)) none else g.getD k none
def cpA (src : Option Nat) (sp : Int32) (dst : Option Nat) (dp n : Int32) (g : HP) : Option HP := match src, dst with
  | some a0, some a => if (tg g a0 = 22 ∧ tg g a = 22) ∧ (0 ≤ sp ∧ 0 ≤ dp ∧ 0 ≤ n) ∧ (sp.toNatClampNeg + n.toNatClampNeg ≤ (oa g a0).length ∧ dp.toNatClampNeg + n.toNatClampNeg ≤ (oa g a).length) ∧ (oa g a0).all (okE g) = true then some (setO g a (cpL (oa g a0) (oa g a) sp.toNatClampNeg dp.toNatClampNeg n.toNatClampNeg)) else none
  | _, _ => none
theorem mo_cpA {src dst : Option Nat} {sp dp n : Int32} {g : HP} : Mono g id (cpA src sp dst dp n g) := fun a ha => by
  unfold cpA at ha
  split at ha
  · split at ha
    · cases ha; exact ⟨Nat.le_refl _, Nat.le_refl _⟩
    · cases ha
  · cases ha
theorem cpL_cell (c1 : ClassId) (f g : List (Option Nat)) (sp dp n : Nat) : arrV c1 g.length (fun j => va_rf (va_cpy (fun k => f.getD k none) (fun k => g.getD k none) sp dp n j)) = cellO c1 (cpL f g sp dp n) := by
  unfold cellO arrV
  congr 1
  apply Array.ext
  · simp [cpL]
  · intro j h1 h2
    have hj : j < g.length := by simpa using h1
    simp only [Array.getElem_ofFn, va_cpy, cpL, List.getD_eq_getElem?_getD, List.getElem?_map, List.getElem?_range hj, Option.map_some, Option.getD_some]
theorem z_cpA (C : CX Γ cc nL own PP okb rf rl) (hok : okb 22 = true) {index : Nat} (hlink : Cond.methodLink own index arraycopyName ∈ gtbl) (hnat : Cond.native arraycopyName ∈ gtbl) (hstat : Cond.static arraycopyName ∈ gtbl) (hini : Cond.initialized "java/lang/System" ∈ gtbl)
    {src dst : Option Nat} {sp dp n : Int32} (hf1 : 1 ≤ rf) (hlo : (st.map vc).sum + (nativeFrameWords "java/lang/System" "arraycopy" 5 + 11) ≤ rl) (hdg : decode cc pc = .ok (.invokestatic index, 3)) {φ' : HP → Prop} (hφ : φ → ∃ x, cpA src sp dst dp n g = some x ∧ φ' x)
    (kk : ∀ x, X Γ (pc + 3) L st x (φ' x)) : X Γ pc L (vI n :: vI dp :: vR dst :: vI sp :: vR src :: st) g φ := fun h => by
  obtain ⟨x, hx, hf⟩ := hφ h
  cases src with
  | none => cases hx
  | some a0 =>
  cases dst with
  | none => cases hx
  | some a =>
    unfold cpA at hx
    dsimp only at hx
    split at hx
    · rename_i hc
      obtain ⟨⟨ht0, ht1⟩, ⟨h1, h2, h3⟩, ⟨h4, h5⟩, hel⟩ := hc
      cases hx
      refine ⟨(kk _ hf).1, (kk _ hf).2.1, fun H locs ls A => ?_⟩
      have hc0 := (C.ao1 A.pic (show isO (tg g a0) by unfold isO; omega) (by omega) (by rw [ht0]; exact hok)).1
      obtain ⟨hc1, hkb⟩ := C.ao1 A.pic (show isO (tg g a) by unfold isO; omega) (by omega) (by rw [ht1]; exact hok)
      rw [ht0] at hc0
      rw [ht1] at hc1
      have nn : ∀ z : Int32, 0 ≤ z → z.toInt = (z.toNatClampNeg : Int) := by
        intro z hz
        have hz0 : (0 : Int) ≤ z.toInt := by simpa using Int32.le_iff_toInt_le.mp hz
        show z.toInt = ((z.toInt.toNat : Nat) : Int)
        omega
      intro T hT X0
      obtain ⟨-, k0, hk0, cm0, hkk0⟩ := (C.kx.1.2 2 _ rfl).1 (oa g a0).length (fun j => va_rf ((oa g a0).getD j none))
      obtain ⟨-, k1, hk1, cm1, hkk1⟩ := (C.kx.1.2 2 _ rfl).1 (oa g a).length (fun j => va_rf ((oa g a).getD j none))
      obtain ⟨vm', X', step⟩ := X0.arraycopy C.exec C.ow (C.hts _ hlink) (C.hts _ hnat) (C.hts _ hstat) (C.hts _ hini) (src := a0) (dst := a) (cs := cellO (kA (gK Γ) 22) (oa g a0)) (cd := cellO (kA (gK Γ) 22) (oa g a)) (srcPos := sp) (destPos := dp) (n := n) (by rw [hT]; exact hc0) (by rw [hT]; exact hc1)
        (fun _ h => by cases h) (fun _ h => by cases h) (fun h => by cases h) (fun h => by cases h) hk0 hk1 hkk0 hkk1 rfl (Int32.not_lt.mpr h1) (Int32.not_lt.mpr h2) (Int32.not_lt.mpr h3)
        (by rw [nn sp h1, nn n h3, cellO_size]; omega) (by rw [nn dp h2, nn n h3, cellO_size]; omega)
        (fun vm₁ hal i hi => by
          have e : (cellO (kA (gK Γ) 22) (oa g a0)).slots.getD (sp.toNatClampNeg + i) .null = va_rf ((oa g a0).getD (sp.toNatClampNeg + i) none) := by
            rw [Array.getD_eq_getD_getElem?, cellO_read _ (by omega)]
            rfl
          rw [e]
          cases hy : (oa g a0).getD (sp.toNatClampNeg + i) none with
          | none => exact ⟨rfl, trivial⟩
          | some y =>
            have hlt : sp.toNatClampNeg + i < (oa g a0).length := by omega
            have hmem : some y ∈ oa g a0 := by
              rw [← hy, List.getD_eq_getElem?_getD, List.getElem?_eq_getElem hlt]
              exact List.getElem_mem hlt
            obtain ⟨cellV, g1, g2, ⟨kC, hkC⟩, hasg⟩ := okE_any C (List.all_eq_true.mp hel _ hmem) A.pic
            obtain ⟨kA', comp, r1, r2, r3, -⟩ := (C.kx.1.2 2 _ rfl).2
            cases hk1.symm.trans r1
            cases hkk1.symm.trans r2
            obtain ⟨kE', hkE, -⟩ := Vm.findClass_spec r3
            obtain ⟨kC', hkC', -⟩ := hal.2.2 _ _ hkC
            obtain ⟨kE2, hkE2, -⟩ := hal.2.2 _ _ hkE
            refine ⟨rfl, cellV, (show T.heap[y]? = some cellV by rw [hT]; exact g1), (fun q h => by rw [h] at g2; cases g2), ⟨kC', hkC'⟩, ?_, ?_⟩
            · exact ⟨kE2, hkE2⟩
            · show vm₁.assignable _ _ = true
              rw [hal.assignable]
              exact hasg _ r3)
        (g := F0 (gM Γ) pc ls ((vI n :: vI dp :: vR (some a) :: vI sp :: vR (some a0) :: st).map vv)) rfl A.lv.1 (rest := st.map vv) rfl (by rw [C.code]; exact hdg) (by rw [C.hrf]; exact hf1) (by
          show 2 * 0 + ((st.map vv).map fun v => v.category).sum + _ ≤ _
          rw [cat_sum, C.hrl]; omega)
      have e1 : copied (cellO (kA (gK Γ) 22) (oa g a0)) (cellO (kA (gK Γ) 22) (oa g a)) sp dp n = cellO (kA (gK Γ) 22) (cpL (oa g a0) (oa g a) sp.toNatClampNeg dp.toNatClampNeg n.toNatClampNeg) := by
        rw [← cpL_cell]
        exact va_copied (fun z => va_rf z) (kA (gK Γ) 22) (kA (gK Γ) 22) (fun k => (oa g a0).getD k none) (fun k => (oa g a).getD k none) h4
      rw [e1] at X' step
      have hl : a < H.size := (Array.getElem?_eq_some_iff.mp hc1).1
      have hheap : ((T.setVm vm').setCell a (cellO (kA (gK Γ) 22) (cpL (oa g a0) (oa g a) sp.toNatClampNeg dp.toNatClampNeg n.toNatClampNeg))).heap = H.setIfInBounds a (cellO (kA (gK Γ) 22) (cpL (oa g a0) (oa g a) sp.toNatClampNeg dp.toNatClampNeg n.toNatClampNeg)) := by rw [← hT]; rfl
      have oq : ∀ q : Nat, q ≠ a → (H.setIfInBounds a (cellO (kA (gK Γ) 22) (cpL (oa g a0) (oa g a) sp.toNatClampNeg dp.toNatClampNeg n.toNatClampNeg)))[q]? = H[q]? := fun q hq => by simp [Array.getElem?_setIfInBounds, Ne.symm hq]
      obtain ⟨t, a1, b1⟩ := (kk _ hf).2.2 _ _ ls ⟨A.n0, A.s0, C.po.2.2.2.2.2.2.2.2.2.1 g H a (cpL (oa g a0) (oa g a) sp.toNatClampNeg dp.toNatClampNeg n.toNatClampNeg) _ A.pic (Or.inl ht1) (by rw [ht1]; exact hok) (by simp) oq (by rw [ht1]; simp [Array.getElem?_setIfInBounds, hl]; rfl), fun q hq => by
          rw [oq q (fun e => by have := hkb (by omega); omega)]; exact A.fr q hq, fun z hz => by
          rcases List.mem_append.mp hz with h | h
          · exact A.lo z h
          · obtain ⟨w, -, hw⟩ := List.mem_map.mp h
            rw [← hw]
            exact hkb (by omega), A.lv, by simp; exact A.hs⟩ _ hheap X'
      exact ⟨t, step t a1, b1⟩
    · cases hx
theorem z_ldcM (C : CX Γ cc nL own PP okb rf rl) {index : Nat} (hdg : decode cc pc = .ok (.ldc index, 2)) (hlink : Cond.classLink own index "[Ljava/lang/Object;" ∈ gtbl) (k : X Γ (pc + 2) L (vR (some (kM (gK Γ))) :: st) g φ) : X Γ pc L st g φ := fun hφ => ⟨(k hφ).1, (k hφ).2.1, fun H locs ls A =>
  va_ldcM C.exec C.code C.ow (C.hts _ hlink) C.kx.2.1 hdg ((k hφ).2.2 H locs ls A)⟩
def gtC (r : Option Nat) (mi : Nat) (g : HP) : Option (Option Nat) := match r with
  | none => none
  | some a => if tg g a = 22 then some (some mi) else none
theorem z_gtC (C : CX Γ cc nL own PP okb rf rl) {index : Nat} (hlink : Cond.methodLink own index ⟨"java/lang/Object", "getClass", "()Ljava/lang/Class;"⟩ ∈ gtbl) (hsel : Cond.selects "[Ljava/lang/Object;" ⟨"java/lang/Object", "getClass", "()Ljava/lang/Class;"⟩ ⟨"java/lang/Object", "getClass", "()Ljava/lang/Class;"⟩ ∈ gtbl) (hinst : Cond.instanceMethod ⟨"java/lang/Object", "getClass", "()Ljava/lang/Class;"⟩ ∈ gtbl) (hnat : Cond.native ⟨"java/lang/Object", "getClass", "()Ljava/lang/Class;"⟩ ∈ gtbl)
    {r : Option Nat} (hf1 : 1 ≤ rf) (hlo : (st.map vc).sum + 14 ≤ rl) (hdg : decode cc pc = .ok (.invokevirtual index, 3)) {φ' : Option Nat → Prop} (hφ : φ → ∃ x, gtC r (kM (gK Γ)) g = some x ∧ φ' x) (kk : ∀ x, X Γ (pc + 3) L (vR x :: st) g (φ' x)) (hok : okb 22 = true := by rfl) : X Γ pc L (vR r :: st) g φ := fun h => by
  obtain ⟨x, hx, hf⟩ := hφ h
  refine ⟨(kk x hf).1, (kk x hf).2.1, fun H locs ls A => ?_⟩
  cases r with
  | none => cases hx
  | some a =>
    unfold gtC at hx
    dsimp only at hx
    split at hx
    · rename_i ht
      cases hx
      have hcell := (C.ao1 A.pic (show isO (tg g a) by unfold isO; omega) (by omega) (by rw [ht]; exact hok)).1
      rw [ht] at hcell
      have hnm := va_nmO (nm := "[Ljava/lang/Object;") (C.kx.1.2 2 _ rfl).2 (by decide)
      exact va_getC C.exec C.code A.lv.1.symm C.ow (C.hts _ hlink) (va_Dc.use C.kx.2.2.2.2.2.2.2.1) (C.hts _ hsel) (C.hts _ hinst) (C.hts _ hnat) C.kx.2.1 ⟨_, hcell, rfl, hnm⟩ (by rw [C.hrf]; exact hf1) (by rw [cat_sum, C.hrl]; exact hlo) hdg ((kk _ hf).2.2 H locs ls A)
    · cases hx
end Lev1
theorem okL_ok1 : ∀ t, t = 22 ∨ t = 24 → okAll t = true := fun _ _ => rfl
theorem okA_okAll : ∀ t, t = 22 ∨ t = 23 → okAll t = true := fun _ _ => rfl
