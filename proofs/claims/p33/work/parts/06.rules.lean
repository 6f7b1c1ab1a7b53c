theorem X.conv {Γ : GG} {pc : Nat} {L : LL} {st : List VV} {g : HP} {φ φ' : Prop} (h : φ → φ') (k : X Γ pc L st g φ') : X Γ pc L st g φ := fun hφ => k (h hφ)
theorem bd {α β : Type} {o : Option α} {F : α → Option β} {r : β} (h : o.bind F = some r) : ∃ x, o = some x ∧ F x = some r := Option.bind_eq_some_iff.mp h
theorem it {α : Type} {c : Prop} [Decidable c] {A B r : α} (h : (if c then A else B) = r) (hc : c) : A = r := (if_pos hc).symm.trans h
theorem jf {α : Type} {c : Prop} [Decidable c] {A B r : α} (h : (if c then A else B) = r) (hc : ¬ c) : B = r := (if_neg hc).symm.trans h
theorem bb {α β γ : Type} {o : Option α} {F1 : α → Option β} {F : β → Option γ} {r : Option γ} (h : (o.bind F1).bind F = r) : (o.bind fun x => (F1 x).bind F) = r := by
  cases o with
  | none => exact h
  | some x => exact h
theorem bi {α β : Type} {c : Prop} [Decidable c] {A B : Option α} {F : α → Option β} {r : Option β} (h : (if c then A else B).bind F = r) : (if c then A.bind F else B.bind F) = r := by
  by_cases hc : c
  · rw [if_pos hc] at h ⊢; exact h
  · rw [if_neg hc] at h ⊢; exact h
section Rules
variable {Γ : GG} {cc : ByteArray} {nL : Nat} {own : String} {PP : KK → HP → Heap → Prop} {okb : Nat → Bool} {rf rl : Nat} {pc : Nat} {L L' : LL} {st : List VV} {g : HP} {φ φ1 φ2 : Prop}
theorem z_iconst (C : CX Γ cc nL own PP okb rf rl) {n : Int} {v : Int32} (hdg : decode cc pc = .ok (.iconst n, 1)) (hv : Int32.ofInt n = v) (k : X Γ (pc + 1) L (vI v :: st) g φ) : X Γ pc L st g φ := fun hφ => ⟨(k hφ).1, (k hφ).2.1, fun H locs ls A => lv_iconst C.exec C.code hdg hv ((k hφ).2.2 H locs ls A)⟩
theorem z_bipush (C : CX Γ cc nL own PP okb rf rl) {n : Int} {v : Int32} (hdg : decode cc pc = .ok (.bipush n, 2)) (hv : (Int8.ofInt n).toInt32 = v) (k : X Γ (pc + 2) L (vI v :: st) g φ) : X Γ pc L st g φ := fun hφ => ⟨(k hφ).1, (k hφ).2.1, fun H locs ls A => lv_bipush C.exec C.code hdg hv ((k hφ).2.2 H locs ls A)⟩
theorem z_sipush (C : CX Γ cc nL own PP okb rf rl) {n : Int} {v : Int32} (hdg : decode cc pc = .ok (.sipush n, 3)) (hv : (Int16.ofInt n).toInt32 = v) (k : X Γ (pc + 3) L (vI v :: st) g φ) : X Γ pc L st g φ := fun hφ => ⟨(k hφ).1, (k hφ).2.1, fun H locs ls A => lv_sipush C.exec C.code hdg hv ((k hφ).2.2 H locs ls A)⟩
theorem z_ldc (C : CX Γ cc nL own PP okb rf rl) {index : Nat} {v : Int32} (hdg : decode cc pc = .ok (.ldc index, 2)) (hw : Cond.constant own index v ∈ gtbl) (k : X Γ (pc + 2) L (vI v :: st) g φ) : X Γ pc L st g φ := fun hφ => ⟨(k hφ).1, (k hφ).2.1, fun H locs ls A => lv_ldc C.exec C.code C.ow (C.hts _ hw) hdg ((k hφ).2.2 H locs ls A)⟩
theorem z_ldcw (C : CX Γ cc nL own PP okb rf rl) {index : Nat} {v : Int32} (hdg : decode cc pc = .ok (.ldc_w index, 3)) (hw : Cond.constant own index v ∈ gtbl) (k : X Γ (pc + 3) L (vI v :: st) g φ) : X Γ pc L st g φ := fun hφ => ⟨(k hφ).1, (k hφ).2.1, fun H locs ls A => lv_ldcw C.exec C.code C.ow (C.hts _ hw) hdg ((k hφ).2.2 H locs ls A)⟩
theorem z_ldc2 (C : CX Γ cc nL own PP okb rf rl) {index : Nat} {v : Int64} (hdg : decode cc pc = .ok (.ldc2_w index, 3)) (hw : Cond.constantLong own index v ∈ gtbl) (k : X Γ (pc + 3) L (vJ v :: st) g φ) : X Γ pc L st g φ := fun hφ => ⟨(k hφ).1, (k hφ).2.1, fun H locs ls A => lv_ldc2 C.exec C.code C.ow (C.hts _ hw) hdg ((k hφ).2.2 H locs ls A)⟩
theorem z_dconst0 (C : CX Γ cc nL own PP okb rf rl) (hdg : decode cc pc = .ok (.dconst 0, 1)) (k : X Γ (pc + 1) L (vD FP.dconst0 :: st) g φ) : X Γ pc L st g φ := fun hφ => ⟨(k hφ).1, (k hφ).2.1, fun H locs ls A => lv_dconst0 C.exec C.code hdg ((k hφ).2.2 H locs ls A)⟩
theorem z_null (C : CX Γ cc nL own PP okb rf rl) (hdg : decode cc pc = .ok (.aconst_null, 1)) (k : X Γ (pc + 1) L (vR none :: st) g φ) : X Γ pc L st g φ := fun hφ => ⟨(k hφ).1, (k hφ).2.1, fun H locs ls A => lv_null C.exec C.code hdg ((k hφ).2.2 H locs ls A)⟩
theorem z_iload (C : CX Γ cc nL own PP okb rf rl) {i : Nat} {x : Int32} (hdg : decode cc pc = .ok (.iload i, 2)) (q : Nat) (hq : L[q]? = some (i, vI x)) (k : X Γ (pc + 2) L (vI x :: st) g φ) : X Γ pc L st g φ := fun hφ => ⟨(k hφ).1, (k hφ).2.1, fun H locs ls A => lv_iload C.exec C.code hdg (lv_at A.lv q (lvv_at hq)) ((k hφ).2.2 H locs ls A)⟩
theorem z_iload_n (C : CX Γ cc nL own PP okb rf rl) {j : Fin 4} {i : Nat} {x : Int32} (hdg : decode cc pc = .ok (.iload_n j, 1)) (hi : (j : Nat) = i) (q : Nat) (hq : L[q]? = some (i, vI x)) (k : X Γ (pc + 1) L (vI x :: st) g φ) : X Γ pc L st g φ := fun hφ => ⟨(k hφ).1, (k hφ).2.1, fun H locs ls A => lv_iload_n C.exec C.code hdg hi (lv_at A.lv q (lvv_at hq)) ((k hφ).2.2 H locs ls A)⟩
theorem z_lload (C : CX Γ cc nL own PP okb rf rl) {i : Nat} {x : Int64} (hdg : decode cc pc = .ok (.lload i, 2)) (q : Nat) (hq : L[q]? = some (i, vJ x)) (k : X Γ (pc + 2) L (vJ x :: st) g φ) : X Γ pc L st g φ := fun hφ => ⟨(k hφ).1, (k hφ).2.1, fun H locs ls A => lv_lload C.exec C.code hdg (lv_at A.lv q (lvv_at hq)) ((k hφ).2.2 H locs ls A)⟩
theorem z_lload_n (C : CX Γ cc nL own PP okb rf rl) {j : Fin 4} {i : Nat} {x : Int64} (hdg : decode cc pc = .ok (.lload_n j, 1)) (hi : (j : Nat) = i) (q : Nat) (hq : L[q]? = some (i, vJ x)) (k : X Γ (pc + 1) L (vJ x :: st) g φ) : X Γ pc L st g φ := fun hφ => ⟨(k hφ).1, (k hφ).2.1, fun H locs ls A => lv_lload_n C.exec C.code hdg hi (lv_at A.lv q (lvv_at hq)) ((k hφ).2.2 H locs ls A)⟩
theorem z_dload (C : CX Γ cc nL own PP okb rf rl) {i : Nat} {x : UInt64} (hdg : decode cc pc = .ok (.dload i, 2)) (q : Nat) (hq : L[q]? = some (i, vD x)) (k : X Γ (pc + 2) L (vD x :: st) g φ) : X Γ pc L st g φ := fun hφ => ⟨(k hφ).1, (k hφ).2.1, fun H locs ls A => lv_dload C.exec C.code hdg (lv_at A.lv q (lvv_at hq)) ((k hφ).2.2 H locs ls A)⟩
theorem z_dload_n (C : CX Γ cc nL own PP okb rf rl) {j : Fin 4} {i : Nat} {x : UInt64} (hdg : decode cc pc = .ok (.dload_n j, 1)) (hi : (j : Nat) = i) (q : Nat) (hq : L[q]? = some (i, vD x)) (k : X Γ (pc + 1) L (vD x :: st) g φ) : X Γ pc L st g φ := fun hφ => ⟨(k hφ).1, (k hφ).2.1, fun H locs ls A => lv_dload_n C.exec C.code hdg hi (lv_at A.lv q (lvv_at hq)) ((k hφ).2.2 H locs ls A)⟩
theorem z_aload (C : CX Γ cc nL own PP okb rf rl) {i : Nat} {r : Option Nat} (hdg : decode cc pc = .ok (.aload i, 2)) (q : Nat) (hq : L[q]? = some (i, vR r)) (k : X Γ (pc + 2) L (vR r :: st) g φ) : X Γ pc L st g φ := fun hφ => ⟨(k hφ).1, (k hφ).2.1, fun H locs ls A => by
  have hv := lv_at A.lv q (lvv_at hq)
  have kk := (k hφ).2.2 H locs ls A
  cases r with
  | none => exact lv_aloadN C.exec C.code hdg hv kk
  | some a => exact lv_aload C.exec C.code hdg hv kk⟩
theorem z_aload_n (C : CX Γ cc nL own PP okb rf rl) {j : Fin 4} {i : Nat} {r : Option Nat} (hdg : decode cc pc = .ok (.aload_n j, 1)) (hi : (j : Nat) = i) (q : Nat) (hq : L[q]? = some (i, vR r)) (k : X Γ (pc + 1) L (vR r :: st) g φ) : X Γ pc L st g φ := fun hφ => ⟨(k hφ).1, (k hφ).2.1, fun H locs ls A => by
  have hv := lv_at A.lv q (lvv_at hq)
  have kk := (k hφ).2.2 H locs ls A
  cases r with
  | none => exact lv_aload_nN C.exec C.code hdg hi hv kk
  | some a => exact lv_aload_n C.exec C.code hdg hi hv kk⟩
theorem z_istore (C : CX Γ cc nL own PP okb rf rl) {i : Nat} {x : Int32} (hdg : decode cc pc = .ok (.istore i, 2)) (hn : i < nL) (hl : lst1 L i (vI x) = L') (k : X Γ (pc + 2) L' st g φ) : X Γ pc L (vI x :: st) g φ := fun hφ => ⟨(k hφ).1, (k hφ).2.1, fun H locs ls A => lv_istore C.exec C.code hdg A.lv (by rw [C.ml]; exact hn) (lvv_st1 L i (vI x)) fun ls' h' => (k hφ).2.2 H locs ls' (A.ls (hl ▸ h'))⟩
theorem z_istore_n (C : CX Γ cc nL own PP okb rf rl) {j : Fin 4} {i : Nat} {x : Int32} (hdg : decode cc pc = .ok (.istore_n j, 1)) (hi : (j : Nat) = i) (hn : i < nL) (hl : lst1 L i (vI x) = L') (k : X Γ (pc + 1) L' st g φ) : X Γ pc L (vI x :: st) g φ := fun hφ => ⟨(k hφ).1, (k hφ).2.1, fun H locs ls A => lv_istore_n C.exec C.code hdg hi A.lv (by rw [C.ml]; exact hn) (lvv_st1 L i (vI x)) fun ls' h' => (k hφ).2.2 H locs ls' (A.ls (hl ▸ h'))⟩
theorem z_lstore (C : CX Γ cc nL own PP okb rf rl) {i : Nat} {x : Int64} (hdg : decode cc pc = .ok (.lstore i, 2)) (hn : i + 1 < nL) (hl : lst2 L i (vJ x) = L') (k : X Γ (pc + 2) L' st g φ) : X Γ pc L (vJ x :: st) g φ := fun hφ => ⟨(k hφ).1, (k hφ).2.1, fun H locs ls A => lv_lstore C.exec C.code hdg A.lv (by rw [C.ml]; exact hn) (lvv_st2 L i (vJ x)) fun ls' h' => (k hφ).2.2 H locs ls' (A.ls (hl ▸ h'))⟩
theorem z_lstore_n (C : CX Γ cc nL own PP okb rf rl) {j : Fin 4} {i : Nat} {x : Int64} (hdg : decode cc pc = .ok (.lstore_n j, 1)) (hi : (j : Nat) = i) (hn : i + 1 < nL) (hl : lst2 L i (vJ x) = L') (k : X Γ (pc + 1) L' st g φ) : X Γ pc L (vJ x :: st) g φ := fun hφ => ⟨(k hφ).1, (k hφ).2.1, fun H locs ls A => lv_lstore_n C.exec C.code hdg hi A.lv (by rw [C.ml]; exact hn) (lvv_st2 L i (vJ x)) fun ls' h' => (k hφ).2.2 H locs ls' (A.ls (hl ▸ h'))⟩
theorem z_astore (C : CX Γ cc nL own PP okb rf rl) {i : Nat} {r : Option Nat} (hdg : decode cc pc = .ok (.astore i, 2)) (hn : i < nL) (hl : lst1 L i (vR r) = L') (k : X Γ (pc + 2) L' st g φ) : X Γ pc L (vR r :: st) g φ := fun hφ => ⟨(k hφ).1, (k hφ).2.1, fun H locs ls A => by
  have kk := fun ls' h' => (k hφ).2.2 H locs ls' (A.ls (L' := L') (hl ▸ h'))
  have hs := lvv_st1 L i (vR r)
  cases r with
  | none => exact lv_astoreN C.exec C.code hdg A.lv (by rw [C.ml]; exact hn) hs kk
  | some a => exact lv_astore C.exec C.code hdg A.lv (by rw [C.ml]; exact hn) hs kk⟩
theorem z_astore_n (C : CX Γ cc nL own PP okb rf rl) {j : Fin 4} {i : Nat} {r : Option Nat} (hdg : decode cc pc = .ok (.astore_n j, 1)) (hi : (j : Nat) = i) (hn : i < nL) (hl : lst1 L i (vR r) = L') (k : X Γ (pc + 1) L' st g φ) : X Γ pc L (vR r :: st) g φ := fun hφ => ⟨(k hφ).1, (k hφ).2.1, fun H locs ls A => by
  have kk := fun ls' h' => (k hφ).2.2 H locs ls' (A.ls (L' := L') (hl ▸ h'))
  have hs := lvv_st1 L i (vR r)
  cases r with
  | none => exact lv_astore_nN C.exec C.code hdg hi A.lv (by rw [C.ml]; exact hn) hs kk
  | some a => exact lv_astore_n C.exec C.code hdg hi A.lv (by rw [C.ml]; exact hn) hs kk⟩
theorem z_iinc (C : CX Γ cc nL own PP okb rf rl) {i : Nat} {n : Int} {x v : Int32} (hdg : decode cc pc = .ok (.iinc i n, 3)) (q : Nat) (hq : L[q]? = some (i, vI x)) (hv : x + Int32.ofInt n = v) (hn : i < nL) (hl : lst1 L i (vI v) = L') (k : X Γ (pc + 3) L' st g φ) : X Γ pc L st g φ := fun hφ => ⟨(k hφ).1, (k hφ).2.1, fun H locs ls A => lv_iinc C.exec C.code hdg A.lv (lvv_at hq) hv (by rw [C.ml]; exact hn) (lvv_st1 L i (vI v)) fun ls' h' => (k hφ).2.2 H locs ls' (A.ls (hl ▸ h'))⟩
theorem z_iadd (C : CX Γ cc nL own PP okb rf rl) {x y : Int32} (hdg : decode cc pc = .ok (.iadd, 1)) (k : X Γ (pc + 1) L (vI (x + y) :: st) g φ) : X Γ pc L (vI y :: vI x :: st) g φ := fun hφ => ⟨(k hφ).1, (k hφ).2.1, fun H locs ls A => lv_iadd C.exec C.code hdg ((k hφ).2.2 H locs ls A)⟩
theorem z_isub (C : CX Γ cc nL own PP okb rf rl) {x y : Int32} (hdg : decode cc pc = .ok (.isub, 1)) (k : X Γ (pc + 1) L (vI (x - y) :: st) g φ) : X Γ pc L (vI y :: vI x :: st) g φ := fun hφ => ⟨(k hφ).1, (k hφ).2.1, fun H locs ls A => lv_isub C.exec C.code hdg ((k hφ).2.2 H locs ls A)⟩
theorem z_imul (C : CX Γ cc nL own PP okb rf rl) {x y : Int32} (hdg : decode cc pc = .ok (.imul, 1)) (k : X Γ (pc + 1) L (vI (x * y) :: st) g φ) : X Γ pc L (vI y :: vI x :: st) g φ := fun hφ => ⟨(k hφ).1, (k hφ).2.1, fun H locs ls A => lv_imul C.exec C.code hdg ((k hφ).2.2 H locs ls A)⟩
theorem z_iand (C : CX Γ cc nL own PP okb rf rl) {x y : Int32} (hdg : decode cc pc = .ok (.iand, 1)) (k : X Γ (pc + 1) L (vI (x &&& y) :: st) g φ) : X Γ pc L (vI y :: vI x :: st) g φ := fun hφ => ⟨(k hφ).1, (k hφ).2.1, fun H locs ls A => lv_iand C.exec C.code hdg ((k hφ).2.2 H locs ls A)⟩
theorem z_ishr (C : CX Γ cc nL own PP okb rf rl) {x y : Int32} (hdg : decode cc pc = .ok (.ishr, 1)) (k : X Γ (pc + 1) L (vI (x >>> (y &&& 31)) :: st) g φ) : X Γ pc L (vI y :: vI x :: st) g φ := fun hφ => ⟨(k hφ).1, (k hφ).2.1, fun H locs ls A => lv_ishr C.exec C.code hdg ((k hφ).2.2 H locs ls A)⟩
theorem z_idiv (C : CX Γ cc nL own PP okb rf rl) {x y : Int32} (hdg : decode cc pc = .ok (.idiv, 1)) (hne : ¬ y = 0) (k : X Γ (pc + 1) L (vI (x / y) :: st) g φ) : X Γ pc L (vI y :: vI x :: st) g φ := fun hφ => ⟨(k hφ).1, (k hφ).2.1, fun H locs ls A => lv_idiv C.exec C.code hdg hne ((k hφ).2.2 H locs ls A)⟩
theorem z_irem (C : CX Γ cc nL own PP okb rf rl) {x y : Int32} (hdg : decode cc pc = .ok (.irem, 1)) (hne : ¬ y = 0) (k : X Γ (pc + 1) L (vI (x - x / y * y) :: st) g φ) : X Γ pc L (vI y :: vI x :: st) g φ := fun hφ => ⟨(k hφ).1, (k hφ).2.1, fun H locs ls A => lv_irem C.exec C.code hdg hne ((k hφ).2.2 H locs ls A)⟩
theorem z_ineg (C : CX Γ cc nL own PP okb rf rl) {x : Int32} (hdg : decode cc pc = .ok (.ineg, 1)) (k : X Γ (pc + 1) L (vI (-x) :: st) g φ) : X Γ pc L (vI x :: st) g φ := fun hφ => ⟨(k hφ).1, (k hφ).2.1, fun H locs ls A => lv_ineg C.exec C.code hdg ((k hφ).2.2 H locs ls A)⟩
theorem z_ladd (C : CX Γ cc nL own PP okb rf rl) {x y : Int64} (hdg : decode cc pc = .ok (.ladd, 1)) (k : X Γ (pc + 1) L (vJ (x + y) :: st) g φ) : X Γ pc L (vJ y :: vJ x :: st) g φ := fun hφ => ⟨(k hφ).1, (k hφ).2.1, fun H locs ls A => lv_ladd C.exec C.code hdg ((k hφ).2.2 H locs ls A)⟩
theorem z_lmul (C : CX Γ cc nL own PP okb rf rl) {x y : Int64} (hdg : decode cc pc = .ok (.lmul, 1)) (k : X Γ (pc + 1) L (vJ (x * y) :: st) g φ) : X Γ pc L (vJ y :: vJ x :: st) g φ := fun hφ => ⟨(k hφ).1, (k hφ).2.1, fun H locs ls A => lv_lmul C.exec C.code hdg ((k hφ).2.2 H locs ls A)⟩
theorem z_i2l (C : CX Γ cc nL own PP okb rf rl) {x : Int32} (hdg : decode cc pc = .ok (.i2l, 1)) (k : X Γ (pc + 1) L (vJ x.toInt64 :: st) g φ) : X Γ pc L (vI x :: st) g φ := fun hφ => ⟨(k hφ).1, (k hφ).2.1, fun H locs ls A => lv_i2l C.exec C.code hdg rfl ((k hφ).2.2 H locs ls A)⟩
theorem z_i2d (C : CX Γ cc nL own PP okb rf rl) {x : Int32} (hdg : decode cc pc = .ok (.i2d, 1)) (k : X Γ (pc + 1) L (vD (FP.i2d x) :: st) g φ) : X Γ pc L (vI x :: st) g φ := fun hφ => ⟨(k hφ).1, (k hφ).2.1, fun H locs ls A => lv_i2d C.exec C.code hdg ((k hφ).2.2 H locs ls A)⟩
theorem z_ddiv (C : CX Γ cc nL own PP okb rf rl) {x y : UInt64} (hdg : decode cc pc = .ok (.ddiv, 1)) (hne : vf_n64 (FP.ddiv x y)) (k : X Γ (pc + 1) L (vD (FP.ddiv x y) :: st) g φ) : X Γ pc L (vD y :: vD x :: st) g φ := fun hφ => ⟨(k hφ).1, (k hφ).2.1, fun H locs ls A => lv_ddiv C.exec C.code hdg hne ((k hφ).2.2 H locs ls A)⟩
theorem z_dcmp (C : CX Γ cc nL own PP okb rf rl) {x y : UInt64} {op : CmpOp} (hdg : decode cc pc = .ok (.dcmp op, 1)) (k : X Γ (pc + 1) L (vI (Op.cmpValue (FP.dcmp x y) op) :: st) g φ) : X Γ pc L (vD y :: vD x :: st) g φ := fun hφ => ⟨(k hφ).1, (k hφ).2.1, fun H locs ls A => lv_dcmp C.exec C.code hdg ((k hφ).2.2 H locs ls A)⟩
theorem z_lcmp (C : CX Γ cc nL own PP okb rf rl) {x y : Int64} (hdg : decode cc pc = .ok (.lcmp, 1)) (k : X Γ (pc + 1) L (vI (lg_cmp x y) :: st) g φ) : X Γ pc L (vJ y :: vJ x :: st) g φ := fun hφ => ⟨(k hφ).1, (k hφ).2.1, fun H locs ls A => W.lcmp C.exec C.code hdg ((k hφ).2.2 H locs ls A)⟩
theorem z_dup (C : CX Γ cc nL own PP okb rf rl) {v : VV} (hdg : decode cc pc = .ok (.dup, 1)) (hv : vc v = 1) (k : X Γ (pc + 1) L (v :: v :: st) g φ) : X Γ pc L (v :: st) g φ := fun hφ => ⟨(k hφ).1, (k hφ).2.1, fun H locs ls A => lv_dup C.exec C.code hdg ((vv_cat v).trans hv) ((k hφ).2.2 H locs ls A)⟩
theorem z_pop (C : CX Γ cc nL own PP okb rf rl) {v : VV} (hdg : decode cc pc = .ok (.pop, 1)) (hv : vc v = 1) (k : X Γ (pc + 1) L st g φ) : X Γ pc L (v :: st) g φ := fun hφ => ⟨(k hφ).1, (k hφ).2.1, fun H locs ls A => lv_pop C.exec C.code hdg ((vv_cat v).trans hv) ((k hφ).2.2 H locs ls A)⟩
theorem z_dup_x1 (C : CX Γ cc nL own PP okb rf rl) {v u : VV} (hdg : decode cc pc = .ok (.dup_x1, 1)) (hv : vc v = 1) (hu : vc u = 1) (k : X Γ (pc + 1) L (v :: u :: v :: st) g φ) : X Γ pc L (v :: u :: st) g φ := fun hφ => ⟨(k hφ).1, (k hφ).2.1, fun H locs ls A => lv_dup_x1 C.exec C.code hdg ((vv_cat v).trans hv) ((vv_cat u).trans hu) ((k hφ).2.2 H locs ls A)⟩
theorem z_dup2 (C : CX Γ cc nL own PP okb rf rl) {v u : VV} (hdg : decode cc pc = .ok (.dup2, 1)) (hv : vc v = 1) (hu : vc u = 1) (k : X Γ (pc + 1) L (v :: u :: v :: u :: st) g φ) : X Γ pc L (v :: u :: st) g φ := fun hφ => ⟨(k hφ).1, (k hφ).2.1, fun H locs ls A => lv_dup2_11 C.exec C.code hdg ((vv_cat v).trans hv) ((vv_cat u).trans hu) ((k hφ).2.2 H locs ls A)⟩
theorem z_goto (C : CX Γ cc nL own PP okb rf rl) {off : Int} {tgt : Nat} (hdg : decode cc pc = .ok (.goto off, 3)) (ht : (pc : Int) + off = (tgt : Int)) (k : X Γ tgt L st g φ) : X Γ pc L st g φ := fun hφ => ⟨(k hφ).1, (k hφ).2.1, fun H locs ls A => lv_goto C.exec C.code hdg ht ((k hφ).2.2 H locs ls A)⟩
theorem z_if_eq (C : CX Γ cc nL own PP okb rf rl) {x : Int32} {off : Int} {tgt : Nat} (hdg : decode cc pc = .ok (.ifCond .eq off, 3)) (ht : (pc : Int) + off = (tgt : Int)) (h1 : φ → x = 0 → φ1) (h2 : φ → ¬ (x = 0) → φ2) (k1 : X Γ tgt L st g φ1) (k2 : X Γ (pc + 3) L st g φ2) : X Γ pc L (vI x :: st) g φ := fun hφ => by
  by_cases hc : x = 0
  · exact ⟨(k1 (h1 hφ hc)).1, (k1 (h1 hφ hc)).2.1, fun H locs ls A => lv_if_eq C.exec C.code hdg ht (fun _ => (k1 (h1 hφ hc)).2.2 H locs ls A) (fun hn => absurd hc hn)⟩
  · exact ⟨(k2 (h2 hφ hc)).1, (k2 (h2 hφ hc)).2.1, fun H locs ls A => lv_if_eq C.exec C.code hdg ht (fun hn => absurd hn hc) (fun _ => (k2 (h2 hφ hc)).2.2 H locs ls A)⟩
theorem z_icmp_eq (C : CX Γ cc nL own PP okb rf rl) {x y : Int32} {off : Int} {tgt : Nat} (hdg : decode cc pc = .ok (.if_icmp .eq off, 3)) (ht : (pc : Int) + off = (tgt : Int)) (h1 : φ → x = y → φ1) (h2 : φ → ¬ (x = y) → φ2) (k1 : X Γ tgt L st g φ1) (k2 : X Γ (pc + 3) L st g φ2) : X Γ pc L (vI y :: vI x :: st) g φ := fun hφ => by
  by_cases hc : x = y
  · exact ⟨(k1 (h1 hφ hc)).1, (k1 (h1 hφ hc)).2.1, fun H locs ls A => lv_icmp_eq C.exec C.code hdg ht (fun _ => (k1 (h1 hφ hc)).2.2 H locs ls A) (fun hn => absurd hc hn)⟩
  · exact ⟨(k2 (h2 hφ hc)).1, (k2 (h2 hφ hc)).2.1, fun H locs ls A => lv_icmp_eq C.exec C.code hdg ht (fun hn => absurd hn hc) (fun _ => (k2 (h2 hφ hc)).2.2 H locs ls A)⟩
theorem z_if_lt (C : CX Γ cc nL own PP okb rf rl) {x : Int32} {off : Int} {tgt : Nat} (hdg : decode cc pc = .ok (.ifCond .lt off, 3)) (ht : (pc : Int) + off = (tgt : Int)) (h1 : φ → x < 0 → φ1) (h2 : φ → ¬ (x < 0) → φ2) (k1 : X Γ tgt L st g φ1) (k2 : X Γ (pc + 3) L st g φ2) : X Γ pc L (vI x :: st) g φ := fun hφ => by
  by_cases hc : x < 0
  · exact ⟨(k1 (h1 hφ hc)).1, (k1 (h1 hφ hc)).2.1, fun H locs ls A => lv_if_lt C.exec C.code hdg ht (fun _ => (k1 (h1 hφ hc)).2.2 H locs ls A) (fun hn => absurd hc hn)⟩
  · exact ⟨(k2 (h2 hφ hc)).1, (k2 (h2 hφ hc)).2.1, fun H locs ls A => lv_if_lt C.exec C.code hdg ht (fun hn => absurd hn hc) (fun _ => (k2 (h2 hφ hc)).2.2 H locs ls A)⟩
theorem z_icmp_lt (C : CX Γ cc nL own PP okb rf rl) {x y : Int32} {off : Int} {tgt : Nat} (hdg : decode cc pc = .ok (.if_icmp .lt off, 3)) (ht : (pc : Int) + off = (tgt : Int)) (h1 : φ → x < y → φ1) (h2 : φ → ¬ (x < y) → φ2) (k1 : X Γ tgt L st g φ1) (k2 : X Γ (pc + 3) L st g φ2) : X Γ pc L (vI y :: vI x :: st) g φ := fun hφ => by
  by_cases hc : x < y
  · exact ⟨(k1 (h1 hφ hc)).1, (k1 (h1 hφ hc)).2.1, fun H locs ls A => lv_icmp_lt C.exec C.code hdg ht (fun _ => (k1 (h1 hφ hc)).2.2 H locs ls A) (fun hn => absurd hc hn)⟩
  · exact ⟨(k2 (h2 hφ hc)).1, (k2 (h2 hφ hc)).2.1, fun H locs ls A => lv_icmp_lt C.exec C.code hdg ht (fun hn => absurd hn hc) (fun _ => (k2 (h2 hφ hc)).2.2 H locs ls A)⟩
theorem z_if_ge (C : CX Γ cc nL own PP okb rf rl) {x : Int32} {off : Int} {tgt : Nat} (hdg : decode cc pc = .ok (.ifCond .ge off, 3)) (ht : (pc : Int) + off = (tgt : Int)) (h1 : φ → 0 ≤ x → φ1) (h2 : φ → ¬ (0 ≤ x) → φ2) (k1 : X Γ tgt L st g φ1) (k2 : X Γ (pc + 3) L st g φ2) : X Γ pc L (vI x :: st) g φ := fun hφ => by
  by_cases hc : 0 ≤ x
  · exact ⟨(k1 (h1 hφ hc)).1, (k1 (h1 hφ hc)).2.1, fun H locs ls A => lv_if_ge C.exec C.code hdg ht (fun _ => (k1 (h1 hφ hc)).2.2 H locs ls A) (fun hn => absurd hc hn)⟩
  · exact ⟨(k2 (h2 hφ hc)).1, (k2 (h2 hφ hc)).2.1, fun H locs ls A => lv_if_ge C.exec C.code hdg ht (fun hn => absurd hn hc) (fun _ => (k2 (h2 hφ hc)).2.2 H locs ls A)⟩
theorem z_icmp_ge (C : CX Γ cc nL own PP okb rf rl) {x y : Int32} {off : Int} {tgt : Nat} (hdg : decode cc pc = .ok (.if_icmp .ge off, 3)) (ht : (pc : Int) + off = (tgt : Int)) (h1 : φ → y ≤ x → φ1) (h2 : φ → ¬ (y ≤ x) → φ2) (k1 : X Γ tgt L st g φ1) (k2 : X Γ (pc + 3) L st g φ2) : X Γ pc L (vI y :: vI x :: st) g φ := fun hφ => by
  by_cases hc : y ≤ x
  · exact ⟨(k1 (h1 hφ hc)).1, (k1 (h1 hφ hc)).2.1, fun H locs ls A => lv_icmp_ge C.exec C.code hdg ht (fun _ => (k1 (h1 hφ hc)).2.2 H locs ls A) (fun hn => absurd hc hn)⟩
  · exact ⟨(k2 (h2 hφ hc)).1, (k2 (h2 hφ hc)).2.1, fun H locs ls A => lv_icmp_ge C.exec C.code hdg ht (fun hn => absurd hn hc) (fun _ => (k2 (h2 hφ hc)).2.2 H locs ls A)⟩
theorem z_if_gt (C : CX Γ cc nL own PP okb rf rl) {x : Int32} {off : Int} {tgt : Nat} (hdg : decode cc pc = .ok (.ifCond .gt off, 3)) (ht : (pc : Int) + off = (tgt : Int)) (h1 : φ → 0 < x → φ1) (h2 : φ → ¬ (0 < x) → φ2) (k1 : X Γ tgt L st g φ1) (k2 : X Γ (pc + 3) L st g φ2) : X Γ pc L (vI x :: st) g φ := fun hφ => by
  by_cases hc : 0 < x
  · exact ⟨(k1 (h1 hφ hc)).1, (k1 (h1 hφ hc)).2.1, fun H locs ls A => lv_if_gt C.exec C.code hdg ht (fun _ => (k1 (h1 hφ hc)).2.2 H locs ls A) (fun hn => absurd hc hn)⟩
  · exact ⟨(k2 (h2 hφ hc)).1, (k2 (h2 hφ hc)).2.1, fun H locs ls A => lv_if_gt C.exec C.code hdg ht (fun hn => absurd hn hc) (fun _ => (k2 (h2 hφ hc)).2.2 H locs ls A)⟩
theorem z_icmp_gt (C : CX Γ cc nL own PP okb rf rl) {x y : Int32} {off : Int} {tgt : Nat} (hdg : decode cc pc = .ok (.if_icmp .gt off, 3)) (ht : (pc : Int) + off = (tgt : Int)) (h1 : φ → y < x → φ1) (h2 : φ → ¬ (y < x) → φ2) (k1 : X Γ tgt L st g φ1) (k2 : X Γ (pc + 3) L st g φ2) : X Γ pc L (vI y :: vI x :: st) g φ := fun hφ => by
  by_cases hc : y < x
  · exact ⟨(k1 (h1 hφ hc)).1, (k1 (h1 hφ hc)).2.1, fun H locs ls A => lv_icmp_gt C.exec C.code hdg ht (fun _ => (k1 (h1 hφ hc)).2.2 H locs ls A) (fun hn => absurd hc hn)⟩
  · exact ⟨(k2 (h2 hφ hc)).1, (k2 (h2 hφ hc)).2.1, fun H locs ls A => lv_icmp_gt C.exec C.code hdg ht (fun hn => absurd hn hc) (fun _ => (k2 (h2 hφ hc)).2.2 H locs ls A)⟩
theorem z_if_le (C : CX Γ cc nL own PP okb rf rl) {x : Int32} {off : Int} {tgt : Nat} (hdg : decode cc pc = .ok (.ifCond .le off, 3)) (ht : (pc : Int) + off = (tgt : Int)) (h1 : φ → x ≤ 0 → φ1) (h2 : φ → ¬ (x ≤ 0) → φ2) (k1 : X Γ tgt L st g φ1) (k2 : X Γ (pc + 3) L st g φ2) : X Γ pc L (vI x :: st) g φ := fun hφ => by
  by_cases hc : x ≤ 0
  · exact ⟨(k1 (h1 hφ hc)).1, (k1 (h1 hφ hc)).2.1, fun H locs ls A => lv_if_le C.exec C.code hdg ht (fun _ => (k1 (h1 hφ hc)).2.2 H locs ls A) (fun hn => absurd hc hn)⟩
  · exact ⟨(k2 (h2 hφ hc)).1, (k2 (h2 hφ hc)).2.1, fun H locs ls A => lv_if_le C.exec C.code hdg ht (fun hn => absurd hn hc) (fun _ => (k2 (h2 hφ hc)).2.2 H locs ls A)⟩
theorem z_icmp_le (C : CX Γ cc nL own PP okb rf rl) {x y : Int32} {off : Int} {tgt : Nat} (hdg : decode cc pc = .ok (.if_icmp .le off, 3)) (ht : (pc : Int) + off = (tgt : Int)) (h1 : φ → x ≤ y → φ1) (h2 : φ → ¬ (x ≤ y) → φ2) (k1 : X Γ tgt L st g φ1) (k2 : X Γ (pc + 3) L st g φ2) : X Γ pc L (vI y :: vI x :: st) g φ := fun hφ => by
  by_cases hc : x ≤ y
  · exact ⟨(k1 (h1 hφ hc)).1, (k1 (h1 hφ hc)).2.1, fun H locs ls A => lv_icmp_le C.exec C.code hdg ht (fun _ => (k1 (h1 hφ hc)).2.2 H locs ls A) (fun hn => absurd hc hn)⟩
  · exact ⟨(k2 (h2 hφ hc)).1, (k2 (h2 hφ hc)).2.1, fun H locs ls A => lv_icmp_le C.exec C.code hdg ht (fun hn => absurd hn hc) (fun _ => (k2 (h2 hφ hc)).2.2 H locs ls A)⟩
theorem z_acmp_eq (C : CX Γ cc nL own PP okb rf rl) {r q : Option Nat} {off : Int} {tgt : Nat} (hdg : decode cc pc = .ok (.if_acmp .eq off, 3)) (ht : (pc : Int) + off = (tgt : Int)) (h1 : φ → r = q → φ1) (h2 : φ → ¬ (r = q) → φ2) (k1 : X Γ tgt L st g φ1) (k2 : X Γ (pc + 3) L st g φ2) : X Γ pc L (vR q :: vR r :: st) g φ := fun hφ => by
  by_cases hc : r = q
  · exact ⟨(k1 (h1 hφ hc)).1, (k1 (h1 hφ hc)).2.1, fun H locs ls A => lv_acmp_eq C.exec C.code hdg ht (fun _ => (k1 (h1 hφ hc)).2.2 H locs ls A) (fun hn => absurd hc hn)⟩
  · exact ⟨(k2 (h2 hφ hc)).1, (k2 (h2 hφ hc)).2.1, fun H locs ls A => lv_acmp_eq C.exec C.code hdg ht (fun hn => absurd hn hc) (fun _ => (k2 (h2 hφ hc)).2.2 H locs ls A)⟩
theorem z_if_ne (C : CX Γ cc nL own PP okb rf rl) {x : Int32} {off : Int} {tgt : Nat} (hdg : decode cc pc = .ok (.ifCond .ne off, 3)) (ht : (pc : Int) + off = (tgt : Int)) (h1 : φ → x = 0 → φ1) (h2 : φ → ¬ (x = 0) → φ2) (k1 : X Γ (pc + 3) L st g φ1) (k2 : X Γ tgt L st g φ2) : X Γ pc L (vI x :: st) g φ := fun hφ => by
  by_cases hc : x = 0
  · exact ⟨(k1 (h1 hφ hc)).1, (k1 (h1 hφ hc)).2.1, fun H locs ls A => lv_if_ne C.exec C.code hdg ht (fun hn => absurd hc hn) (fun _ => (k1 (h1 hφ hc)).2.2 H locs ls A)⟩
  · exact ⟨(k2 (h2 hφ hc)).1, (k2 (h2 hφ hc)).2.1, fun H locs ls A => lv_if_ne C.exec C.code hdg ht (fun _ => (k2 (h2 hφ hc)).2.2 H locs ls A) (fun hn => absurd hn hc)⟩
theorem z_icmp_ne (C : CX Γ cc nL own PP okb rf rl) {x y : Int32} {off : Int} {tgt : Nat} (hdg : decode cc pc = .ok (.if_icmp .ne off, 3)) (ht : (pc : Int) + off = (tgt : Int)) (h1 : φ → x = y → φ1) (h2 : φ → ¬ (x = y) → φ2) (k1 : X Γ (pc + 3) L st g φ1) (k2 : X Γ tgt L st g φ2) : X Γ pc L (vI y :: vI x :: st) g φ := fun hφ => by
  by_cases hc : x = y
  · exact ⟨(k1 (h1 hφ hc)).1, (k1 (h1 hφ hc)).2.1, fun H locs ls A => lv_icmp_ne C.exec C.code hdg ht (fun hn => absurd hc hn) (fun _ => (k1 (h1 hφ hc)).2.2 H locs ls A)⟩
  · exact ⟨(k2 (h2 hφ hc)).1, (k2 (h2 hφ hc)).2.1, fun H locs ls A => lv_icmp_ne C.exec C.code hdg ht (fun _ => (k2 (h2 hφ hc)).2.2 H locs ls A) (fun hn => absurd hn hc)⟩
theorem z_acmp_ne (C : CX Γ cc nL own PP okb rf rl) {r q : Option Nat} {off : Int} {tgt : Nat} (hdg : decode cc pc = .ok (.if_acmp .ne off, 3)) (ht : (pc : Int) + off = (tgt : Int)) (h1 : φ → r = q → φ1) (h2 : φ → ¬ (r = q) → φ2) (k1 : X Γ (pc + 3) L st g φ1) (k2 : X Γ tgt L st g φ2) : X Γ pc L (vR q :: vR r :: st) g φ := fun hφ => by
  by_cases hc : r = q
  · exact ⟨(k1 (h1 hφ hc)).1, (k1 (h1 hφ hc)).2.1, fun H locs ls A => lv_acmp_ne C.exec C.code hdg ht (fun hn => absurd hc hn) (fun _ => (k1 (h1 hφ hc)).2.2 H locs ls A)⟩
  · exact ⟨(k2 (h2 hφ hc)).1, (k2 (h2 hφ hc)).2.1, fun H locs ls A => lv_acmp_ne C.exec C.code hdg ht (fun _ => (k2 (h2 hφ hc)).2.2 H locs ls A) (fun hn => absurd hn hc)⟩
theorem z_ifnull (C : CX Γ cc nL own PP okb rf rl) {r : Option Nat} {off : Int} {tgt : Nat} (hdg : decode cc pc = .ok (.ifnull off, 3)) (ht : (pc : Int) + off = (tgt : Int)) (h1 : φ → r = none → φ1) (h2 : φ → ¬ (r = none) → φ2) (k1 : X Γ tgt L st g φ1) (k2 : X Γ (pc + 3) L st g φ2) : X Γ pc L (vR r :: st) g φ := fun hφ => by
  cases r with
  | none => exact ⟨(k1 (h1 hφ rfl)).1, (k1 (h1 hφ rfl)).2.1, fun H locs ls A => lv_ifnullN C.exec C.code hdg ht ((k1 (h1 hφ rfl)).2.2 H locs ls A)⟩
  | some a =>
    have hc : ¬ (some a = none) := fun h => by cases h
    exact ⟨(k2 (h2 hφ hc)).1, (k2 (h2 hφ hc)).2.1, fun H locs ls A => lv_ifnull C.exec C.code hdg ((k2 (h2 hφ hc)).2.2 H locs ls A)⟩
theorem z_ifnonnull (C : CX Γ cc nL own PP okb rf rl) {r : Option Nat} {off : Int} {tgt : Nat} (hdg : decode cc pc = .ok (.ifnonnull off, 3)) (ht : (pc : Int) + off = (tgt : Int)) (h1 : φ → r = none → φ1) (h2 : φ → ¬ (r = none) → φ2) (k1 : X Γ (pc + 3) L st g φ1) (k2 : X Γ tgt L st g φ2) : X Γ pc L (vR r :: st) g φ := fun hφ => by
  cases r with
  | none => exact ⟨(k1 (h1 hφ rfl)).1, (k1 (h1 hφ rfl)).2.1, fun H locs ls A => lv_ifnonnullN C.exec C.code hdg ((k1 (h1 hφ rfl)).2.2 H locs ls A)⟩
  | some a =>
    have hc : ¬ (some a = none) := fun h => by cases h
    exact ⟨(k2 (h2 hφ hc)).1, (k2 (h2 hφ hc)).2.1, fun H locs ls A => lv_ifnonnull C.exec C.code hdg ht ((k2 (h2 hφ hc)).2.2 H locs ls A)⟩
end Rules
