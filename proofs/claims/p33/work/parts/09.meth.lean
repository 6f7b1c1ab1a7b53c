/-- how a method's walk ends -/
def RX (Γ : GG) (PP : KK → HP → Heap → Prop) (ret : Option FieldType) (fin : Option VV × HP) : Prop :=
  gQ Γ = MQ (gB Γ) (QcM (gK Γ) (PP (gK Γ)) fin.1 fin.2) (gA Γ) (gS Γ) (gtn Γ - gn0 Γ) (gts Γ - gs0 Γ) (fun q => kb (gK Γ) ≤ q) ∧ (gMe Γ).sig.returnType = ret ∧ gtn Γ = cu fin.2 ∧ gts Γ = sl fin.2
section Rets
variable {Γ : GG} {cc : ByteArray} {nL : Nat} {own : String} {PP : KK → HP → Heap → Prop} {okb : Nat → Bool} {rf rl : Nat} {pc : Nat} {L : LL} {g : HP} {φ : Prop} {ret : Option FieldType} {fin : Option VV × HP}
theorem ret_core (C : CX Γ cc nL own PP okb rf rl) (Z : RX Γ PP ret fin) {st : List VV} {r : Option VV} (hφ : φ → fin = (r, g))
    (hw : ∀ (H : Heap) (locs : List Loc) (ls : Array Slot), At1 Γ L g H locs ls → ∀ Qc : Array Value → State → Outcome → State → Prop, (∀ t : State, t.heap = H → (gS Γ).WarmedH t.vm → Qc (gA Γ) (gS Γ) (.returned (r.map vv)) t) → W (gP Γ) (gL Γ) (gE Γ) (gR Γ) (gS Γ) (gM Γ) (gA Γ) (gB Γ) (gMe Γ) (gC Γ) H locs (cu g - gn0 Γ) (sl g - gs0 Γ) (MQ (gB Γ) Qc (gA Γ) (gS Γ) (cu g - gn0 Γ) (sl g - gs0 Γ) (fun q => kb (gK Γ) ≤ q)) (F0 (gM Γ) pc ls (st.map vv))) :
    X Γ pc L st g φ := fun h => by
  have e := hφ h
  obtain ⟨z1, z2, z3, z4⟩ := Z
  subst e
  refine ⟨Nat.le_of_eq z3.symm, Nat.le_of_eq z4.symm, fun H locs ls A => ?_⟩
  unfold WG
  rw [z1, z3, z4]
  refine hw H locs ls A _ fun t ht hW => ⟨rfl, ?_, ?_, fun q hq => by rw [ht]; exact A.fr q hq, by rw [ht]; exact A.hs⟩
  · exact C.kx.at ht hW A.fr (by rw [(C.po.sz A.pic).1]; exact (C.po.sz A.pic).2)
  · rw [ht]
    have := A.pic
    rw [C.pp] at this
    exact this
theorem z_iret (C : CX Γ cc nL own PP okb rf rl) (Z : RX Γ PP ret fin) (hret : ret = some .int) {x : Int32} (hdg : decode cc pc = .ok (.ireturn, 1)) (hφ : φ → fin = (some (vI x), g)) : X Γ pc L [vI x] g φ :=
  ret_core C Z hφ fun H locs ls A Qc hq => W.iret C.exec C.code (Z.2.1.trans hret) hq A.lo hdg C.locks
theorem z_zret (C : CX Γ cc nL own PP okb rf rl) (Z : RX Γ PP ret fin) (hret : ret = some .boolean) {x : Int32} (hdg : decode cc pc = .ok (.ireturn, 1)) (hx : φ → x = 0 ∨ x = 1) (hφ : φ → fin = (some (vI x), g)) : X Γ pc L [vI x] g φ := fun h =>
  ret_core C Z hφ (fun H locs ls A Qc hq => W.zret C.exec C.code (Z.2.1.trans hret) (nar_Z (hx h)).1 hq A.lo hdg C.locks) h
theorem z_aret (C : CX Γ cc nL own PP okb rf rl) (Z : RX Γ PP ret fin) {rt : FieldType} (hret : ret = some rt) (hrt : (∃ n, rt = .object n) ∨ ∃ t, rt = .array t) {x : Option Nat} (hdg : decode cc pc = .ok (.areturn, 1)) (hφ : φ → fin = (some (vR x), g)) : X Γ pc L [vR x] g φ :=
  ret_core C Z hφ fun H locs ls A Qc hq => W.aret C.exec C.code (Z.2.1.trans hret) hrt (by cases x with | none => exact Or.inl rfl | some a => exact Or.inr ⟨a, rfl⟩) hq A.lo hdg C.locks
theorem z_lret (C : CX Γ cc nL own PP okb rf rl) (Z : RX Γ PP ret fin) (hret : ret = some .long) {x : Int64} (hdg : decode cc pc = .ok (.lreturn, 1)) (hφ : φ → fin = (some (vJ x), g)) : X Γ pc L [vJ x] g φ :=
  ret_core C Z hφ fun H locs ls A Qc hq => W.lret C.exec C.code (Z.2.1.trans hret) hq A.lo hdg C.locks
theorem z_dret (C : CX Γ cc nL own PP okb rf rl) (Z : RX Γ PP ret fin) (hret : ret = some .double) {x : UInt64} (hdg : decode cc pc = .ok (.dreturn, 1)) (hφ : φ → fin = (some (vD x), g)) : X Γ pc L [vD x] g φ :=
  ret_core C Z hφ fun H locs ls A Qc hq => W.dret C.exec C.code (Z.2.1.trans hret) hq A.lo hdg C.locks
theorem z_vret (C : CX Γ cc nL own PP okb rf rl) (Z : RX Γ PP ret fin) (hret : ret = none) (hdg : decode cc pc = .ok (.return_, 1)) (hφ : φ → fin = (none, g)) : X Γ pc L [] g φ :=
  ret_core C Z hφ fun H locs ls A Qc hq => W.vret C.exec C.code (Z.2.1.trans hret) hq A.lo hdg C.locks
end Rets
def retZ (x : Int32) : Option Int32 := if x = 0 ∨ x = 1 then some x else none
theorem retZ_of {x y : Int32} (h : retZ x = some y) : (x = 0 ∨ x = 1) ∧ x = y := by
  unfold retZ at h
  split at h
  · rename_i hc
    exact ⟨hc, Option.some.inj h⟩
  · cases h
/-- where the arguments come to lie -/
def entL : Nat → List VV → LL
  | _, [] => []
  | i, v :: vs => (i, v) :: entL (if vc v = 2 then i + 2 else i + 1) vs
theorem entL_eq : ∀ (vs : List VV) (i : Nat), lv_args i (vs.map vv) = lvv (entL i vs)
  | [], _ => rfl
  | v :: vs, i => by
    show (i, vv v) :: lv_args (if (vv v).category = 2 then i + 2 else i + 1) (vs.map vv) = (i, vv v) :: lvv (entL (if vc v = 2 then i + 2 else i + 1) vs)
    rw [vv_cat, entL_eq vs]
def okAll : Nat → Bool := fun _ => true
theorem lg_len : ∀ as : List VV, (lg_sl (as.map vv)).length = (as.map vc).sum
  | [] => rfl
  | v :: vs => by
    have ih := lg_len vs
    have e : lg_sl ((v :: vs).map vv) = (if (vv v).category = 2 then [Slot.val (vv v), Slot.second] else [Slot.val (vv v)]) ++ lg_sl (vs.map vv) := rfl
    rw [e, List.length_append, ih, vv_cat]
    rcases v with x | (_ | a) | x | x <;> simp [vc]
/-- a contract out of a walk -/
theorem MA_of {l : Launch} {κ : KK} {PP : KK → HP → Heap → Prop} {okb : Nat → Bool} (hPO : PO κ (PP κ) okb) {y : MethodName} {cc : ByteArray} {nL n : Nat} {ret : Option FieldType} {F Lw : Nat} {as : List VV} {g : HP} {o : Option (Option VV × HP)} (hm : MF y cc nL ret n)
    (hmono : ∀ a, o = some a → cu g ≤ cu a.2 ∧ sl g ≤ sl a.2) (hlen : (as.map vc).sum ≤ nL)
    (body : ∀ (Γ : GG) (fin : Option VV × HP), o = some fin → gL Γ = l → gK Γ = κ → (gMe Γ).name = y.name → CX Γ cc nL y.cls PP okb F Lw → RX Γ PP ret fin → X Γ 0 (entL 0 as) [] g True) : MA l κ PP y cc nL ret F Lw as g o := by
  intro a ha
  obtain ⟨m1, m2⟩ := hmono a ha
  refine ⟨m1, m2, Met.ofW (cc := cc) (maxL := nL) (ret := ret) hm.2.2.2 rfl ?_⟩
  intro p e s m args below meth c s₁ B hml hv
  obtain ⟨rfl, hK, hP⟩ := hv
  have hts : ∀ w ∈ Cond.code y cc nL ret :: gtbl, w.before (as.map vv).toArray s = true := atoms_spec (ws := Cond.code y cc nL ret :: gtbl) B.pre
  have hown : s.vm.findClass y.cls = some m.cls := findClass_of_methodNamed B.named
  have hname : meth.name = y.name := (name_of_methodNamed B.named B.method).1
  have hl := lv_entry (as.map vv) (n := nL) (by rw [lg_len]; exact hlen)
  rw [lg_entry_eq]
  generalize (lg_sl (as.map vv) ++ List.replicate (nL - (lg_sl (as.map vv)).length) Slot.unset).toArray = ls at hl ⊢
  rw [entL_eq] at hl
  have CC : CX (p, l, e, rmM F Lw g a.2, s, m, (as.map vv).toArray, below, meth, c, κ, PP κ, MQ below (QcM κ (PP κ) a.1 a.2) (as.map vv).toArray s (cu a.2 - cu g) (sl a.2 - sl g) (fun q => kb κ ≤ q), cu g, sl g, cu a.2, sl a.2) cc nL y.cls PP okb F Lw :=
    ⟨B.exec, B.bytes, hml, hown, fun w hw => hts w (List.mem_cons_of_mem _ hw), hK, hPO, B.notSynchronized, Nat.le_refl _, Nat.le_refl _, rfl, rfl, rfl⟩
  obtain ⟨b1, b2, b3⟩ := body _ a ha (by rfl) (by rfl) (by exact hname) CC ⟨rfl, B.returns, rfl, rfl⟩ trivial
  have := b3 s.heap [] ls ⟨Nat.le_refl _, Nat.le_refl _, hP, fun _ _ => rfl, fun z hz => (by cases hz), by show lv_has ls c.maxLocals _; rw [hml]; exact hl, Nat.le_refl _⟩
  have e1 : cu g - cu g = 0 := Nat.sub_self _
  have e2 : sl g - sl g = 0 := Nat.sub_self _
  unfold WG at this
  rw [show gn0 (p, l, e, rmM F Lw g a.2, s, m, (as.map vv).toArray, below, meth, c, κ, PP κ, MQ below (QcM κ (PP κ) a.1 a.2) (as.map vv).toArray s (cu a.2 - cu g) (sl a.2 - sl g) (fun q => kb κ ≤ q), cu g, sl g, cu a.2, sl a.2) = cu g from rfl, show gs0 (p, l, e, rmM F Lw g a.2, s, m, (as.map vv).toArray, below, meth, c, κ, PP κ, MQ below (QcM κ (PP κ) a.1 a.2) (as.map vv).toArray s (cu a.2 - cu g) (sl a.2 - sl g) (fun q => kb κ ≤ q), cu g, sl g, cu a.2, sl a.2) = sl g from rfl, e1, e2] at this
  exact this
theorem MM_of {l : Launch} {PP : KK → HP → Heap → Prop} {okb : Nat → Bool} (hPO : ∀ κ, PO κ (PP κ) okb) {y : MethodName} {cc : ByteArray} {nL n : Nat} {ret : Option FieldType} {F Lw : Nat} {as : List VV} {g : HP} {o : Option (Option VV × HP)} (hm : MF y cc nL ret n)
    (hmono : ∀ a, o = some a → cu g ≤ cu a.2 ∧ sl g ≤ sl a.2) (hlen : (as.map vc).sum ≤ nL)
    (body : ∀ (Γ : GG) (fin : Option VV × HP), o = some fin → gL Γ = l → (gMe Γ).name = y.name → CX Γ cc nL y.cls PP okb F Lw → RX Γ PP ret fin → X Γ 0 (entL 0 as) [] g True) : MM l PP y cc nL ret F Lw as g o :=
  fun κ => MA_of (hPO κ) hm hmono hlen fun Γ fin h1 h2 _ h4 h5 h6 => body Γ fin h1 h2 h4 h5 h6
/-! what only grows -/
def Mono {α : Type} (g : HP) (h : α → HP) (o : Option α) : Prop := ∀ a, o = some a → cu g ≤ cu (h a) ∧ sl g ≤ sl (h a)
theorem mo_some {α : Type} {g : HP} {h : α → HP} {a : α} (e : h a = g) : Mono g h (some a) := fun b hb => by cases hb; rw [e]; exact ⟨Nat.le_refl _, Nat.le_refl _⟩
theorem mo_none {α : Type} {g : HP} {h : α → HP} : Mono g h none := fun b hb => by cases hb
theorem mo_ite {α : Type} {g : HP} {h : α → HP} {c : Prop} [Decidable c] {A B : Option α} (h1 : Mono g h A) (h2 : Mono g h B) : Mono g h (if c then A else B) := by
  by_cases hc : c
  · rw [if_pos hc]; exact h1
  · rw [if_neg hc]; exact h2
theorem mo_p {α β : Type} {g : HP} {h : α → HP} {o : Option β} {F : β → Option α} (k : ∀ x, Mono g h (F x)) : Mono g h (o.bind F) := fun a ha => by
  obtain ⟨x, h1, h2⟩ := bd ha
  exact k x a h2
theorem mo_h {α β : Type} {g : HP} {h : α → HP} {h0 : β → HP} {o : Option β} {F : β → Option α} (h1 : Mono g h0 o) (k : ∀ x, Mono (h0 x) h (F x)) : Mono g h (o.bind F) := fun a ha => by
  obtain ⟨x, e1, e2⟩ := bd ha
  have q1 := h1 x e1
  have q2 := k x a e2
  exact ⟨Nat.le_trans q1.1 q2.1, Nat.le_trans q1.2 q2.2⟩
theorem mo_new {α : Type} {g : HP} {h : α → HP} {t n : Nat} {il : List Int32} {ol : List (Option Nat)} {o : Option α} (k : Mono (newG g t n il ol) h o) : Mono g h o := fun a ha => by
  obtain ⟨h1, h2⟩ := k a ha
  have e1 : cu (newG g t n il ol) = cu g + 1 := rfl
  have e2 : sl (newG g t n il ol) = sl g + n := rfl
  omega
theorem mo_pfI {ci k : Nat} {r : Option Nat} {v : Int32} {g : HP} : Mono g id (pfI ci k r v g) := fun a ha => by
  unfold pfI at ha
  split at ha
  · cases ha
  · split at ha
    · cases ha; exact ⟨Nat.le_refl _, Nat.le_refl _⟩
    · cases ha
theorem mo_pfZ {ci k : Nat} {r : Option Nat} {v : Int32} {g : HP} : Mono g id (pfZ ci k r v g) := fun a ha => by
  unfold pfZ at ha
  split at ha
  · cases ha
  · split at ha
    · cases ha; exact ⟨Nat.le_refl _, Nat.le_refl _⟩
    · cases ha
theorem mo_pfR {ci k : Nat} {r v : Option Nat} {g : HP} : Mono g id (pfR ci k r v g) := fun a ha => by
  unfold pfR at ha
  split at ha
  · cases ha
  · split at ha
    · cases ha; exact ⟨Nat.le_refl _, Nat.le_refl _⟩
    · cases ha
theorem mo_stI {r : Option Nat} {i v : Int32} {g : HP} : Mono g id (stI r i v g) := fun a ha => by
  unfold stI at ha
  split at ha
  · cases ha
  · split at ha
    · cases ha; exact ⟨Nat.le_refl _, Nat.le_refl _⟩
    · cases ha
theorem mo_stZ {r : Option Nat} {i v : Int32} {g : HP} : Mono g id (stZ r i v g) := fun a ha => by
  unfold stZ at ha
  split at ha
  · cases ha
  · split at ha
    · cases ha; exact ⟨Nat.le_refl _, Nat.le_refl _⟩
    · cases ha
theorem mo_nwI {t : Nat} {n : Int32} {g : HP} : Mono g (fun x : Nat × HP => x.2) (nwI t n g) := fun a ha => by
  unfold nwI at ha
  split at ha
  · cases ha; exact ⟨Nat.le_succ _, Nat.le_add_right _ _⟩
  · cases ha
theorem mo_nwA {t : Nat} {n : Int32} {g : HP} : Mono g (fun x : Nat × HP => x.2) (nwA t n g) := fun a ha => by
  unfold nwA at ha
  split at ha
  · cases ha; exact ⟨Nat.le_succ _, Nat.le_add_right _ _⟩
  · cases ha
