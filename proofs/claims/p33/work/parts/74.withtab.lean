/-! Methods with a table of their own. -/
abbrev HHs : Type := List (Nat × Nat × Nat × Nat)
def MFW (y : MethodName) (cc : ByteArray) (nL : Nat) (ret : Option FieldType) (hh : HHs) (n : Nat) : Prop :=
  Cond.codeWith y cc nL ret hh ∈ gtbl ∧ Cond.initialized y.cls ∈ gtbl ∧ (y.cls ≠ "java/lang/invoke/MethodHandle" ∧ y.cls ≠ "java/lang/invoke/VarHandle" ∧ (parseMethodDescriptor y.desc).map (fun d => d.parameters.length) = some n) ∧ plainName y.cls = true
def MAW (l : Launch) (κ : KK) (PP : KK → HP → Heap → Prop) (y : MethodName) (cc : ByteArray) (nL : Nat) (ret : Option FieldType) (hh : HHs) (F Lw : Nat) (as : List VV) (g : HP) (o : Option (Option VV × HP)) : Prop :=
  ∀ a, o = some a → cu g ≤ cu a.2 ∧ sl g ≤ sl a.2 ∧ Met l y (.codeWith y cc nL ret hh :: gtbl) (rmM F Lw g a.2) (PcM κ (PP κ) as g) (QcM κ (PP κ) a.1 a.2) (cu a.2 - cu g) (sl a.2 - sl g) (fun q => kb κ ≤ q)
def MMW (l : Launch) (PP : KK → HP → Heap → Prop) (y : MethodName) (cc : ByteArray) (nL : Nat) (ret : Option FieldType) (hh : HHs) (F Lw : Nat) (as : List VV) (g : HP) (o : Option (Option VV × HP)) : Prop := ∀ κ, MAW l κ PP y cc nL ret hh F Lw as g o
theorem MMW_of {l : Launch} {PP : KK → HP → Heap → Prop} {okb : Nat → Bool} (hPO : ∀ κ, PO κ (PP κ) okb) {y : MethodName} {cc : ByteArray} {nL n : Nat} {ret : Option FieldType} {hh : HHs} {F Lw : Nat} {as : List VV} {g : HP} {o : Option (Option VV × HP)} (hm : MFW y cc nL ret hh n)
    (hmono : ∀ a, o = some a → cu g ≤ cu a.2 ∧ sl g ≤ sl a.2) (hlen : (as.map vc).sum ≤ nL)
    (body : ∀ (Γ : GG) (fin : Option VV × HP), o = some fin → gL Γ = l → (gMe Γ).name = y.name → CX Γ cc nL y.cls PP okb F Lw → RX Γ PP ret fin → (gC Γ).exceptionTable.toList = tableOf hh → X Γ 0 (entL 0 as) [] g True) : MMW l PP y cc nL ret hh F Lw as g o := by
  intro κ a ha
  obtain ⟨m1, m2⟩ := hmono a ha
  refine ⟨m1, m2, va_MetW (cc := cc) (maxL := nL) (ret := ret) (hh := hh) hm.2.2.2 rfl ?_⟩
  intro p e s m args below meth c s₁ B hml hv
  obtain ⟨rfl, hK, hP⟩ := hv
  have hts : ∀ w ∈ Cond.codeWith y cc nL ret hh :: gtbl, w.before (as.map vv).toArray s = true := atoms_spec (ws := Cond.codeWith y cc nL ret hh :: gtbl) B.pre
  have hown : s.vm.findClass y.cls = some m.cls := findClass_of_methodNamed B.named
  have hname : meth.name = y.name := (name_of_methodNamed B.named B.method).1
  have htab : c.exceptionTable.toList = tableOf hh := vx_table (x := y) B (hts _ List.mem_cons_self)
  have hl := lv_entry (as.map vv) (n := nL) (by rw [lg_len]; exact hlen)
  rw [lg_entry_eq]
  generalize (lg_sl (as.map vv) ++ List.replicate (nL - (lg_sl (as.map vv)).length) Slot.unset).toArray = ls at hl ⊢
  rw [entL_eq] at hl
  have CC : CX (p, l, e, rmM F Lw g a.2, s, m, (as.map vv).toArray, below, meth, c, κ, PP κ, MQ below (QcM κ (PP κ) a.1 a.2) (as.map vv).toArray s (cu a.2 - cu g) (sl a.2 - sl g) (fun q => kb κ ≤ q), cu g, sl g, cu a.2, sl a.2) cc nL y.cls PP okb F Lw :=
    ⟨B.exec, B.bytes, hml, hown, fun w hw => hts w (List.mem_cons_of_mem _ hw), hK, hPO κ, B.notSynchronized, Nat.le_refl _, Nat.le_refl _, rfl, rfl, rfl⟩
  obtain ⟨b1, b2, b3⟩ := body _ a ha (by rfl) (by exact hname) CC ⟨rfl, B.returns, rfl, rfl⟩ htab trivial
  have := b3 s.heap [] ls ⟨Nat.le_refl _, Nat.le_refl _, hP, fun _ _ => rfl, fun z hz => (by cases hz), by show lv_has ls c.maxLocals _; rw [hml]; exact hl, Nat.le_refl _⟩
  have e1 : cu g - cu g = 0 := Nat.sub_self _
  have e2 : sl g - sl g = 0 := Nat.sub_self _
  unfold WG at this
  rw [show gn0 (p, l, e, rmM F Lw g a.2, s, m, (as.map vv).toArray, below, meth, c, κ, PP κ, MQ below (QcM κ (PP κ) a.1 a.2) (as.map vv).toArray s (cu a.2 - cu g) (sl a.2 - sl g) (fun q => kb κ ≤ q), cu g, sl g, cu a.2, sl a.2) = cu g from rfl, show gs0 (p, l, e, rmM F Lw g a.2, s, m, (as.map vv).toArray, below, meth, c, κ, PP κ, MQ below (QcM κ (PP κ) a.1 a.2) (as.map vv).toArray s (cu a.2 - cu g) (sl a.2 - sl g) (fun q => kb κ ≤ q), cu g, sl g, cu a.2, sl a.2) = sl g from rfl, e1, e2] at this
  exact this
section WithTab
variable {Γ : GG} {cc : ByteArray} {nL : Nat} {own : String} {PP : KK → HP → Heap → Prop} {okb : Nat → Bool} {rf rl : Nat} {pc : Nat} {L : LL} {st rest : List VV} {g : HP} {φ : Prop}
variable {y : MethodName} {cc' : ByteArray} {nL' F Lw n index : Nat} {ret : Option FieldType} {hh : HHs} {As : List VV} {o : Option (Option VV × HP)}
theorem z_callSW (C : CX Γ cc nL own PP okb rf rl) (hown : y.cls = own) (hm : MFW y cc' nL' ret hh n) (hin : Cond.static y ∈ gtbl) (hlink : Cond.methodLink own index y ∈ gtbl)
    (hM : MAW (gL Γ) (gK Γ) PP y cc' nL' ret hh F Lw As g o) (hn : As.length = n) (hR : F + 1 ≤ rf ∧ 8 + (nL' + 11) + Lw ≤ rl) (hst : st = As.reverse ++ rest) (hW : (rest.map vc).sum ≤ 8) (hdg : decode cc pc = .ok (.invokestatic index, 3))
    {φ' : Option VV × HP → Prop} (hφ : φ → ∃ x, o = some x ∧ φ' x) (kk : ∀ x, X Γ (pc + 3) L (retst x.1 rest) x.2 (φ' x)) : X Γ pc L st g φ := fun h => by
  obtain ⟨x, hx, hf⟩ := hφ h
  obtain ⟨m1, m2, m3⟩ := hM x hx
  obtain ⟨b1, b2, b3⟩ := kk x hf
  refine ⟨Nat.le_trans m1 b1, Nat.le_trans m2 b2, fun H locs ls A => ?_⟩
  have hkb := (C.po.sz A.pic).2
  have hz := (C.po.sz A.pic).1
  have a1 := A.n0
  have a2 := A.s0
  have hrc := C.rc
  have hrs := C.rs
  have hP : PP (gK Γ) g H := by have := A.pic; rw [C.pp] at this; exact this
  refine run_X C A (r := x.1) (rest := rest) (a := (As.map vv).toArray) m1 m2 ?_ (vx_runSW (hh := hh) C.fix m3 (vx_cwSW n C.hts (gtbl_in fun w hw => ?_) rfl rfl rfl hm.2.2.1 ?_) ⟨PcM_blind _ _ _ _, fun U hU hW => ⟨rfl, C.kx.at hU hW A.fr (by rw [hz]; exact hkb), by rw [hU]; exact hP⟩⟩ rfl ?_ ?_ ?_ ?_ hdg ?_) b3
  · show F0 (gM Γ) (pc + 3) ls _ = _
    rw [ret_st]
  · unfold va_wsS at hw
    simp only [List.mem_append, List.mem_cons, List.not_mem_nil, or_false] at hw
    rcases hw with (rfl | rfl | rfl) | rfl | hw
    · exact hlink
    · exact hin
    · exact hm.2.1
    · exact hm.1
    · exact hw
  · rw [C.hrf, C.hrl]; exact hR
  · rw [List.length_map]; exact hn
  · show ls.size = nL
    rw [A.lv.1]; exact C.ml
  · show st.map vv = _
    rw [hst, map_app_rev]
  · show 2 * 0 + _ ≤ 8
    rw [cat_sum]; omega
  · constructor <;> omega
end WithTab
theorem cu_bump (h : HP) : cu (bump h 1 6 0) = cu h + 1 := by show ex h + 0 + (nx h + 1) = ex h + nx h + 1; omega
theorem mo_try {α β : Type} {g : HP} {h : β → HP} {h0 : α → HP} {o : Option α} {x : Option HP} {k1 : α → Option β} {k2 : HP → Option β} (h1 : Mono g h0 o) (h2 : Mono g id x) (e1 : ∀ a, Mono (h0 a) h (k1 a)) (e2 : ∀ g1, Mono g1 h (k2 g1)) : Mono g h (tryG o x k1 k2) := by
  intro a ha
  cases o with
  | some r =>
    have q1 := h1 r rfl
    have q2 := e1 r a ha
    exact ⟨Nat.le_trans q1.1 q2.1, Nat.le_trans q1.2 q2.2⟩
  | none =>
    cases x with
    | none => cases ha
    | some w =>
      have q1 := h2 w rfl
      have q2 := e2 _ a ha
      have q3 := cu_bump w
      have q4 : sl (bump w 1 6 0) = sl w + 6 := rfl
      have q5 : cu g ≤ cu w := q1.1
      have q6 : sl g ≤ sl w := q1.2
      omega
/-- how the law ends -/
def LE (Γ : GG) (v0 : Int32 × HP) : Prop := cu v0.2 ≤ gtn Γ ∧ sl v0.2 ≤ gts Γ ∧ ∀ (L : LL) (H : Heap) (locs : List Loc) (ls : Array Slot), At1 Γ L v0.2 H locs ls → WG Γ H locs (cu v0.2 - gn0 Γ) (sl v0.2 - gs0 Γ) (F0 (gM Γ) 1070 ls [.int 1])
theorem z_main {Γ : GG} {cc : ByteArray} {nL : Nat} {own : String} {PP : KK → HP → Heap → Prop} {okb : Nat → Bool} {rf rl : Nat} {L : LL} {g : HP} {φ : Prop} (C : CX Γ cc nL own PP okb rf rl) {v0 : Int32 × HP} (Z : LE Γ v0) (hdg : decode cc 1070 = .ok (.ireturn, 1)) (hφ : φ → v0 = (1, g)) : X Γ 1070 L [vI 1] g φ := fun h => by
  have e := hφ h
  subst e
  exact ⟨Z.1, Z.2.1, fun H locs ls A => Z.2.2 L H locs ls A⟩
