section More
variable {Γ : GG} {cc : ByteArray} {nL : Nat} {own : String} {PP : KK → HP → Heap → Prop} {okb : Nat → Bool} {rf rl : Nat} {pc : Nat} {L L' : LL} {st rest : List VV} {g : HP} {φ φ1 φ2 : Prop}
theorem X.no (h : φ → False) : X Γ pc L st g φ := fun hφ => (h hφ).elim
theorem no0 {α : Type} {a : α} (h : (none : Option α) = some a) : False := by cases h
theorem no1 {α β : Type} {F : α → Option β} {b : β} (h : (none : Option α).bind F = some b) : False := by cases h
theorem X.cs {c : Prop} [Decidable c] (h1 : φ → c → φ1) (h2 : φ → ¬ c → φ2) (k1 : c → X Γ pc L st g φ1) (k2 : ¬ c → X Γ pc L st g φ2) : X Γ pc L st g φ := fun hφ => by
  by_cases hc : c
  · exact k1 hc (h1 hφ hc)
  · exact k2 hc (h2 hφ hc)
theorem z_tin (C : CX Γ cc nL own PP okb rf rl) {dflt lo hi : Int} {offs : Array Int} {len : Nat} {x : Int32} (v : Int32) {off : Int} {tgt : Nat} (hdg : decode cc pc = .ok (.tableswitch dflt lo hi offs, len)) (hx : x = v) (h1 : ¬ v.toInt < lo) (h2 : ¬ hi < v.toInt) (ho : offs[(v.toInt - lo).toNat]? = some off) (ht : (pc : Int) + off = (tgt : Int))
    (k : X Γ tgt L st g φ) : X Γ pc L (vI x :: st) g φ := fun hφ => ⟨(k hφ).1, (k hφ).2.1, fun H locs ls A => by
  subst hx
  exact lv_tableIn C.exec C.code hdg h1 h2 ho ht ((k hφ).2.2 H locs ls A)⟩
theorem tsw_out {x : Int32} {hi : Nat} (hh : hi < 1000) (h : ∀ k, k ≤ hi → x ≠ Int32.ofNat k) : x.toInt < 0 ∨ (hi : Int) < x.toInt := by
  by_cases h0 : x.toInt < 0
  · exact Or.inl h0
  · refine Or.inr ?_
    by_cases h1 : (hi : Int) < x.toInt
    · exact h1
    · exfalso
      have hk : x.toInt.toNat ≤ hi := by omega
      refine h _ hk ?_
      apply Int32.toInt_inj.mp
      rw [Int32.toInt_ofNat_small (by omega)]
      omega
theorem z_tout (C : CX Γ cc nL own PP okb rf rl) {dflt lo hi : Int} {offs : Array Int} {len : Nat} {x : Int32} {tgt : Nat} (hdg : decode cc pc = .ok (.tableswitch dflt lo hi offs, len)) (h : x.toInt < lo ∨ hi < x.toInt) (ht : (pc : Int) + dflt = (tgt : Int)) (k : X Γ tgt L st g φ) : X Γ pc L (vI x :: st) g φ := fun hφ => ⟨(k hφ).1, (k hφ).2.1, fun H locs ls A =>
  lv_tableOut C.exec C.code hdg h ht ((k hφ).2.2 H locs ls A)⟩
def lpick (L : LL) (ks : List Nat) : LL := ks.filterMap fun k => L[k]?
theorem z_lsub (ks : List Nat) (hl : lpick L ks = L') (k : X Γ pc L' st g φ) : X Γ pc L st g φ := fun hφ => ⟨(k hφ).1, (k hφ).2.1, fun H locs ls A => (k hφ).2.2 H locs ls (A.ls (lv_sub A.lv ks (by
  rw [← hl]
  unfold lv_pick lpick lvv
  rw [List.map_filterMap]
  congr 1
  funext i
  rw [List.getElem?_map])))⟩
theorem z_objInit (C : CX Γ cc nL own PP okb rf rl) {idx a : Nat} (hlink : Cond.methodLink own idx Lib.objectInit ∈ gtbl) (hinst : Cond.instanceMethod Lib.objectInit ∈ gtbl) (hcode : Cond.code Lib.objectInit ⟨#[0xb1]⟩ 1 none ∈ gtbl) (hdg : decode cc pc = .ok (.invokespecial idx, 3)) (hf : 1 ≤ rf) (hlo : (rest.map vc).sum + 12 ≤ rl)
    (k : X Γ (pc + 3) L rest g φ) : X Γ pc L (vR (some a) :: rest) g φ := fun hφ => ⟨(k hφ).1, (k hφ).2.1, fun H locs ls A => W.objInit C.exec C.code C.ow (C.hts _ hlink) (C.hts _ hinst) (C.hts _ hcode) rfl (by show ls.size = _; exact A.lv.1) rfl hdg (by rw [C.hrf]; exact hf) (by
    show 2 * 0 + ((rest.map vv).map fun v => v.category).sum + 12 ≤ _
    rw [cat_sum, C.hrl]; omega) ((k hφ).2.2 H locs ls A)⟩
theorem z_mmax (C : CX Γ cc nL own PP okb rf rl) {index : Nat} {x y : Int32} (hlink : Cond.methodLink own index Lib.Math.max.name ∈ gtbl) (hstat : Cond.static Lib.Math.max.name ∈ gtbl) (hini : Cond.initialized "java/lang/Math" ∈ gtbl) (hcode : Cond.code Lib.Math.max.name Lib.Math.max.code 2 (some .int) ∈ gtbl) (hdg : decode cc pc = .ok (.invokestatic index, 3)) (hf : 1 ≤ rf) (hlo : (rest.map vc).sum + 13 ≤ rl)
    (k : X Γ (pc + 3) L (vI (if x < y then y else x) :: rest) g φ) : X Γ pc L (vI y :: vI x :: rest) g φ := fun hφ => ⟨(k hφ).1, (k hφ).2.1, fun H locs ls A => by
  have hrc := C.rc
  have hrs := C.rs
  have b1 := (k hφ).1
  have b2 := (k hφ).2.1
  exact va_mmax C.exec C.code A.lv.1.symm C.ow (C.hts _ hlink) (C.hts _ hstat) (C.hts _ hini) (C.hts _ hcode) (by rw [C.hrf]; exact hf) (by rw [cat_sum, C.hrl]; exact hlo) (by omega) (by omega) hdg ((k hφ).2.2 H locs ls A)⟩
theorem z_mmin (C : CX Γ cc nL own PP okb rf rl) {index : Nat} {x y : Int32} (hlink : Cond.methodLink own index Lib.Math.min.name ∈ gtbl) (hstat : Cond.static Lib.Math.min.name ∈ gtbl) (hini : Cond.initialized "java/lang/Math" ∈ gtbl) (hcode : Cond.code Lib.Math.min.name Lib.Math.min.code 2 (some .int) ∈ gtbl) (hdg : decode cc pc = .ok (.invokestatic index, 3)) (hf : 1 ≤ rf) (hlo : (rest.map vc).sum + 13 ≤ rl)
    (k : X Γ (pc + 3) L (vI (if y < x then y else x) :: rest) g φ) : X Γ pc L (vI y :: vI x :: rest) g φ := fun hφ => ⟨(k hφ).1, (k hφ).2.1, fun H locs ls A => by
  have hrc := C.rc
  have hrs := C.rs
  have b1 := (k hφ).1
  have b2 := (k hφ).2.1
  exact va_mmin C.exec C.code A.lv.1.symm C.ow (C.hts _ hlink) (C.hts _ hstat) (C.hts _ hini) (C.hts _ hcode) (by rw [C.hrf]; exact hf) (by rw [cat_sum, C.hrl]; exact hlo) (by omega) (by omega) hdg ((k hφ).2.2 H locs ls A)⟩
theorem z_mabs (C : CX Γ cc nL own PP okb rf rl) {index : Nat} {x : Int32} (hlink : Cond.methodLink own index Lib.Math.abs.name ∈ gtbl) (hstat : Cond.static Lib.Math.abs.name ∈ gtbl) (hini : Cond.initialized "java/lang/Math" ∈ gtbl) (hcode : Cond.code Lib.Math.abs.name Lib.Math.abs.code 1 (some .int) ∈ gtbl) (hdg : decode cc pc = .ok (.invokestatic index, 3)) (hf : 1 ≤ rf) (hlo : (rest.map vc).sum + 13 ≤ rl)
    (k : X Γ (pc + 3) L (vI (if 0 ≤ x then x else 0 - x) :: rest) g φ) : X Γ pc L (vI x :: rest) g φ := fun hφ => ⟨(k hφ).1, (k hφ).2.1, fun H locs ls A => by
  have hrc := C.rc
  have hrs := C.rs
  have b1 := (k hφ).1
  have b2 := (k hφ).2.1
  exact va_mabs C.exec C.code A.lv.1.symm C.ow (C.hts _ hlink) (C.hts _ hstat) (C.hts _ hini) (C.hts _ hcode) (by rw [C.hrf]; exact hf) (by rw [cat_sum, C.hrl]; exact hlo) (by omega) (by omega) hdg ((k hφ).2.2 H locs ls A)⟩
end More
theorem gtbl_priv {j : Nat} {q : MethodName × Nat} (h : lw_privs[j]? = some q) (hg : goodWord (Cond.selects q.1.cls q.1 q.1) = true) : Cond.selects q.1.cls q.1 q.1 ∈ gtbl :=
  gtbl_mem (List.mem_append.mpr (Or.inl (List.mem_map.mpr ⟨q, List.mem_of_getElem? h, rfl⟩))) hg
