/-! What an instruction does to the abstract heap; none: it is not told here. -/
def rcv (ci : Nat) (r : Option Nat) (g : HP) : Option Nat := match r with
  | none => none
  | some a => if tg g a = ci + 1 then some a else none
def gfI (ci k : Nat) (r : Option Nat) (g : HP) : Option Int32 := match r with
  | none => none
  | some a => if tg g a = ci + 1 then some (fi g (16 * ci + k) a) else none
def gfR (ci k : Nat) (r : Option Nat) (g : HP) : Option (Option Nat) := match r with
  | none => none
  | some a => if tg g a = ci + 1 then some (fr g (16 * ci + k) a) else none
def pfI (ci k : Nat) (r : Option Nat) (v : Int32) (g : HP) : Option HP := match r with
  | none => none
  | some a => if tg g a = ci + 1 then some (setI g (16 * ci + k) a v) else none
def pfZ (ci k : Nat) (r : Option Nat) (v : Int32) (g : HP) : Option HP := match r with
  | none => none
  | some a => if tg g a = ci + 1 ∧ (v = 0 ∨ v = 1) then some (setI g (16 * ci + k) a v) else none
def pfR (ci k : Nat) (r : Option Nat) (v : Option Nat) (g : HP) : Option HP := match r with
  | none => none
  | some a => if tg g a = ci + 1 then some (setR g (16 * ci + k) a v) else none
def inB (i : Int32) (n : Nat) : Prop := 0 ≤ i ∧ i.toNatClampNeg < n
def ldI (r : Option Nat) (i : Int32) (g : HP) : Option Int32 := match r with
  | none => none
  | some a => if (tg g a = 20 ∨ tg g a = 25) ∧ 0 ≤ i ∧ i.toNatClampNeg < (ia g a).length then some ((ia g a).getD i.toNatClampNeg 0) else none
def ldZ (r : Option Nat) (i : Int32) (g : HP) : Option Int32 := match r with
  | none => none
  | some a => if tg g a = 21 ∧ 0 ≤ i ∧ i.toNatClampNeg < (ia g a).length then some ((ia g a).getD i.toNatClampNeg 0) else none
def stI (r : Option Nat) (i v : Int32) (g : HP) : Option HP := match r with
  | none => none
  | some a => if tg g a = 20 ∧ 0 ≤ i ∧ i.toNatClampNeg < (ia g a).length then some (setA g a ((ia g a).set i.toNatClampNeg v)) else none
def stZ (r : Option Nat) (i v : Int32) (g : HP) : Option HP := match r with
  | none => none
  | some a => if tg g a = 21 ∧ (0 ≤ i ∧ i.toNatClampNeg < (ia g a).length) ∧ (v = 0 ∨ v = 1) then some (setA g a ((ia g a).set i.toNatClampNeg v)) else none
def ldA (r : Option Nat) (i : Int32) (g : HP) : Option (Option Nat) := match r with
  | none => none
  | some a => if (tg g a = 22 ∨ tg g a = 23) ∧ 0 ≤ i ∧ i.toNatClampNeg < (oa g a).length then some ((oa g a).getD i.toNatClampNeg none) else none
def lnI (r : Option Nat) (g : HP) : Option Int32 := match r with
  | none => none
  | some a => if tg g a = 20 ∨ tg g a = 21 ∨ tg g a = 25 then some (Int32.ofNat (ia g a).length) else none
def lnA (r : Option Nat) (g : HP) : Option Int32 := match r with
  | none => none
  | some a => if tg g a = 22 ∨ tg g a = 24 then some (Int32.ofNat (oa g a).length) else none
def cst (ci : Nat) (r : Option Nat) (g : HP) : Option (Option Nat) := match r with
  | none => some none
  | some a => if tg g a = ci + 1 then some (some a) else none
/-- a new int[] or boolean[]; n is checked against a bound, for the slots -/
def nwI (t : Nat) (n : Int32) (g : HP) : Option (Nat × HP) := if 0 ≤ n ∧ n.toNatClampNeg ≤ 65536 then some (nx g, newG g t n.toNatClampNeg (List.replicate n.toNatClampNeg 0) []) else none
def nwA (t : Nat) (n : Int32) (g : HP) : Option (Nat × HP) := if 0 ≤ n ∧ n.toNatClampNeg ≤ 65536 then some (nx g, newG g t n.toNatClampNeg [] (List.replicate n.toNatClampNeg none)) else none
/-- what every class's rows say -/
def CF (ci : Nat) (Cn : String) (T : u_T) (N : Nat) (ty : Nat → FieldType) : Prop :=
  vwCl[ci]? = some (Cn, T, N) ∧ (∀ w ∈ u_ws Cn T N, w ∈ gtbl) ∧ (∀ k, k < N → parseFieldDescriptor (T k).2.2.1 = some (ty k)) ∧ (∀ a, a < N → ∀ b, b < N → a ≠ b → (T a).2.1 ≠ (T b).2.1) ∧ ci < 11 ∧ N ≤ 16
theorem fldV_I {g : HP} {j a : Nat} (h : refF j = false) : fldV g j a = .int (fi g j a) := by unfold fldV; rw [h]; rfl
theorem fldV_R {g : HP} {j a : Nat} (h : refF j = true) : fldV g j a = va_rf (fr g j a) := by unfold fldV; rw [h]; rfl
section HeapRules
variable {Γ : GG} {cc : ByteArray} {nL : Nat} {own : String} {PP : KK → HP → Heap → Prop} {okb : Nat → Bool} {rf rl : Nat} {pc : Nat} {L L' : LL} {st : List VV} {g : HP} {φ φ1 φ2 : Prop}
variable {ci N : Nat} {Cn : String} {T : u_T} {ty : Nat → FieldType}
theorem PO.sz {κ : KK} {P : HP → Heap → Prop} {okb : Nat → Bool} (h : PO κ P okb) {g : HP} {H : Heap} (p : P g H) : H.size = nx g ∧ kb κ ≤ nx g := h.1 g H p
theorem PO.ow {κ : KK} {P : HP → Heap → Prop} {okb : Nat → Bool} (h : PO κ P okb) {g : HP} {H : Heap} {q : Nat} (p : P g H) (ht : tg g q ≠ 0) : q < nx g := h.2.1 g H q p ht
theorem PO.recv {κ : KK} {P : HP → Heap → Prop} {okb : Nat → Bool} (h : PO κ P okb) {g : HP} {H : Heap} {q ci : Nat} (p : P g H) (ht : tg g q = ci + 1) (hl : ci < 11) : ∃ cell : Cell, H[q]? = some cell ∧ cell.vm.isStatics = false ∧ cell.cls = (kD κ).1 ci := h.2.2.1 g H q ci p ht hl
theorem PO.obj {κ : KK} {P : HP → Heap → Prop} {okb : Nat → Bool} (h : PO κ P okb) {g : HP} {H : Heap} {q ci : Nat} (p : P g H) (ht : tg g q = ci + 1) (hl : ci < 11) (hok : okb (ci + 1) = true) : objAt κ g H ci q ∧ kb κ ≤ q := h.2.2.2.1 g H q ci p ht hl hok
/-- the start of every rule on a field -/
theorem fld_at (C : CX Γ cc nL own PP okb rf rl) (hcf : CF ci Cn T N ty) {k : Nat} (hk : k < N) {H : Heap} {a : Nat} (hP : gPi Γ g H) (ht : tg g a = ci + 1) (hok : okb (ci + 1) = true) :
    ∃ (cell : Cell) (cf : ClassId) (kf : Class) (fi' : Nat) (f : Field), H[a]? = some cell ∧ cell.cls = (kD (gK Γ)).1 ci ∧ cell.vm = .none ∧ (∀ j, j < N → cell.slots[(kD (gK Γ)).2 ci j]? = some (fldV g (16 * ci + j) a)) ∧
      (gS Γ).fieldFound? (T k).1 (T k).2.1 (T k).2.2.1 = some (cf, kf, fi', f) ∧ f.slot = (kD (gK Γ)).2 ci k ∧ f.isStatic = false ∧ kb (gK Γ) ≤ a ∧ ∃ kC : Class, (gS Γ).vm.findClass Cn = some ((kD (gK Γ)).1 ci) ∧ (gS Γ).vm.classes[(kD (gK Γ)).1 ci]? = some kC ∧ kC.kind = .ordinary := by
  obtain ⟨⟨r, h1, cell, q1, q2, q3, q4⟩, hkb⟩ := C.po.obj hP ht hcf.2.2.2.2.1 hok
  have hr : r = (Cn, T, N) := Option.some.inj (h1.symm.trans hcf.1)
  subst hr
  obtain ⟨hS, hfc, kC, hkC, hkind⟩ := C.kx.1.1 ci _ hcf.1
  obtain ⟨cf, kf, fi', f, hi, hsl⟩ := hS k hk
  exact ⟨cell, cf, kf, fi', f, q1, q2, q3, q4, hi, hsl, (u_facts hfc hkC (u_lays (fun w hw => C.hts w hw) (fun w hw => hcf.2.1 w hw) hk) hi).1, hkb, kC, hfc, hkC, hkind⟩
theorem z_gfI (C : CX Γ cc nL own PP okb rf rl) (hcf : CF ci Cn T N ty) {index : Nat} {ref : String} {r : Option Nat} (k : Nat) (hk : k < N) (hok : okb (ci + 1) = true) (hr : refF (16 * ci + k) = false) (hdg : decode cc pc = .ok (.getfield index, 3)) (hlink : Cond.fieldLink own index ref (T k).2.1 (T k).2.2.1 ∈ gtbl)
    (hsame : ∀ x, (gS Γ).fieldFound? (T k).1 (T k).2.1 (T k).2.2.1 = some x → (gS Γ).fieldFound? ref (T k).2.1 (T k).2.2.1 = some x) {φ' : Int32 → Prop} (hφ : φ → ∃ x, gfI ci k r g = some x ∧ φ' x)
    (kk : ∀ x, X Γ (pc + 3) L (vI x :: st) g (φ' x)) : X Γ pc L (vR r :: st) g φ := fun h => by
  obtain ⟨x, hx, hf⟩ := hφ h
  refine ⟨(kk x hf).1, (kk x hf).2.1, fun H locs ls A => ?_⟩
  cases r with
  | none => cases hx
  | some a =>
    unfold gfI at hx
    dsimp only at hx
    by_cases ht : tg g a = ci + 1
    · rw [if_pos ht] at hx
      cases hx
      obtain ⟨cell, cf, kf, fi', f, q1, q2, q3, q4, hi, hsl, hst, hkb, -⟩ := fld_at C hcf hk A.pic ht hok
      refine W.getf C.exec C.code C.ow (C.hts _ hlink) (hsame _ hi) hst q1 (by rw [q3]; exact fun h => by cases h) (v := .int (fi g (16 * ci + k) a)) ?_ rfl rfl hdg ((kk _ hf).2.2 H locs ls A)
      rw [hsl, q4 k hk, fldV_I hr]
    · rw [if_neg ht] at hx; cases hx
theorem z_gfR (C : CX Γ cc nL own PP okb rf rl) (hcf : CF ci Cn T N ty) {index : Nat} {ref : String} {r : Option Nat} (k : Nat) (hk : k < N) (hok : okb (ci + 1) = true) (hr : refF (16 * ci + k) = true) (hdg : decode cc pc = .ok (.getfield index, 3)) (hlink : Cond.fieldLink own index ref (T k).2.1 (T k).2.2.1 ∈ gtbl)
    (hsame : ∀ x, (gS Γ).fieldFound? (T k).1 (T k).2.1 (T k).2.2.1 = some x → (gS Γ).fieldFound? ref (T k).2.1 (T k).2.2.1 = some x) {φ' : Option Nat → Prop} (hφ : φ → ∃ x, gfR ci k r g = some x ∧ φ' x)
    (kk : ∀ x, X Γ (pc + 3) L (vR x :: st) g (φ' x)) : X Γ pc L (vR r :: st) g φ := fun h => by
  obtain ⟨x, hx, hf⟩ := hφ h
  refine ⟨(kk x hf).1, (kk x hf).2.1, fun H locs ls A => ?_⟩
  cases r with
  | none => cases hx
  | some a =>
    unfold gfR at hx
    dsimp only at hx
    by_cases ht : tg g a = ci + 1
    · rw [if_pos ht] at hx
      cases hx
      obtain ⟨cell, cf, kf, fi', f, q1, q2, q3, q4, hi, hsl, hst, hkb, -⟩ := fld_at C hcf hk A.pic ht hok
      refine W.getf C.exec C.code C.ow (C.hts _ hlink) (hsame _ hi) hst q1 (by rw [q3]; exact fun h => by cases h) (v := va_rf (fr g (16 * ci + k) a)) ?_ rfl rfl hdg ((kk _ hf).2.2 H locs ls A)
      rw [hsl, q4 k hk, fldV_R hr]
    · rw [if_neg ht] at hx; cases hx
/-- what a put leaves -/
theorem put_at {κ : KK} (hcf : CF ci Cn T N ty) {g1 : HP} {H' : Heap} {a k slot : Nat} {v : Value} {cell : Cell} (hk : k < N) (e1 : H'[a]? = some (cell.setSlot slot v)) (hsl : slot = (kD κ).2 ci k) (q2 : cell.cls = (kD κ).1 ci) (q3 : cell.vm = .none)
    (q4 : ∀ j, j < N → cell.slots[(kD κ).2 ci j]? = some (fldV g (16 * ci + j) a)) (hap : ∀ x y, x < N → y < N → x ≠ y → (kD κ).2 ci x ≠ (kD κ).2 ci y) (hv : fldV g1 (16 * ci + k) a = v) (hne : ∀ j, j ≠ k → fldV g1 (16 * ci + j) a = fldV g (16 * ci + j) a) : objAt κ g1 H' ci a := by
  refine ⟨_, hcf.1, t_OB.to (V := updV (fun j => fldV g (16 * ci + j) a) k v) ⟨_, e1, q2, q3, by rw [hsl]; exact t_set q4 hap hk v⟩ fun j hj => ?_⟩
  unfold updV
  by_cases e : j = k
  · subst e; rw [if_pos rfl]; exact hv.symm
  · rw [if_neg e]; exact (hne j e).symm
theorem At1.put {H H' : Heap} {locs : List Loc} {ls : Array Slot} {a sx : Nat} {g1 : HP} (A : At1 Γ L g H locs ls) (hn : cu g1 = cu g) (hs : sl g1 = sl g) (hP : gPi Γ g1 H') (e3 : ∀ q, q ≠ a → H'[q]? = H[q]?) (hkb : kb (gK Γ) ≤ a) (e2 : H'.size = H.size) : At1 Γ L g1 H' (locs ++ [⟨a, sx⟩]) ls := by
  refine ⟨by rw [hn]; exact A.n0, by rw [hs]; exact A.s0, hP, fun q hq => (e3 q (by omega)).trans (A.fr q hq), fun z hz => ?_, A.lv, by rw [e2]; exact A.hs⟩
  rcases List.mem_append.mp hz with hz | hz
  · exact A.lo z hz
  · rw [List.mem_singleton.mp hz]; exact hkb
/-- a put of a field that is not final, the heap behind it g1 -/
theorem z_put (C : CX Γ cc nL own PP okb rf rl) (hcf : CF ci Cn T N ty) {index : Nat} {ref : String} {a : Nat} {v : VV} {g1 : HP} (k : Nat) (hk : k < N) (hok : okb (ci + 1) = true) (hdg : decode cc pc = .ok (.putfield index, 3)) (hlink : Cond.fieldLink own index ref (T k).2.1 (T k).2.2.1 ∈ gtbl)
    (hsame : ∀ x, (gS Γ).fieldFound? (T k).1 (T k).2.1 (T k).2.2.1 = some x → (gS Γ).fieldFound? ref (T k).2.1 (T k).2.2.1 = some x) (hfin : (T k).2.2.2 = false) (hn : narrow (ty k) (vv v) = vv v) (hfit : fits (ty k) (vv v) = true) (ht : tg g a = ci + 1)
    (hv : fldV g1 (16 * ci + k) a = vv v) (hne : ∀ j, j ≠ k → fldV g1 (16 * ci + j) a = fldV g (16 * ci + j) a) (enx : cu g1 = cu g) (esl : sl g1 = sl g) (hpo : ∀ H H1, gPi Γ g H → H1.size = H.size → (∀ x, x ≠ a → H1[x]? = H[x]?) → objAt (gK Γ) g1 H1 ci a → gPi Γ g1 H1)
    (kk : X Γ (pc + 3) L st g1 φ) : X Γ pc L (v :: vR (some a) :: st) g φ := fun h => by
  obtain ⟨b1, b2, b3⟩ := kk h
  refine ⟨by rw [← enx]; exact b1, by rw [← esl]; exact b2, fun H locs ls A => ?_⟩
  obtain ⟨cell, cf, kf, fi', f, q1, q2, q3, q4, hi, hsl, hst, hkb, kC, hfc, hkC, hkind⟩ := fld_at C hcf hk A.pic ht hok
  have hap := va_apart (own := own) (fun w hw => C.hts w hw) (fun w hw => hcf.2.1 w hw) ty hcf.2.2.1 hcf.2.2.2.1 C.kx.1 hcf.1
  have hlay := C.hts _ (hcf.2.1 _ (u_in_lay hk))
  unfold u_lay at hlay
  rw [if_neg (by rw [hfin]; decide)] at hlay
  have h6 := u_store hfc hkC hkind hlay hi (hcf.2.2.1 k hk) hn hfit
  refine W.putK C.exec C.code (f := f) ⟨C.ow, C.hts _ hlink, ⟨_, _, _, hsame _ hi⟩, hst⟩ (by rw [q2]; exact h6) q1 q3 (by rw [hsl]; exact k2_hasslot (q4 k hk)) rfl rfl hdg fun H' e1 e2 e3 => ?_
  have := b3 H' _ ls (A.put (sx := f.slot) enx esl (hpo H H' A.pic e2 e3 (put_at hcf hk e1 hsl q2 q3 q4 hap hv hne)) e3 hkb e2)
  rw [enx, esl] at this
  exact this
theorem z_putF (C : CX Γ cc nL own PP okb rf rl) (hcf : CF ci Cn T N ty) {index : Nat} {ref : String} {a : Nat} {v : VV} {g1 : HP} (k : Nat) (hk : k < N) (hok : okb (ci + 1) = true) (hdg : decode cc pc = .ok (.putfield index, 3)) (hlink : Cond.fieldLink own index ref (T k).2.1 (T k).2.2.1 ∈ gtbl)
    (hsame : ∀ x, (gS Γ).fieldFound? (T k).1 (T k).2.1 (T k).2.2.1 = some x → (gS Γ).fieldFound? ref (T k).2.1 (T k).2.2.1 = some x) (hfin : (T k).2.2.2 = true) (hin2 : (gMe Γ).name = "<init>") (hdecl : (T k).1 = own) (hn : narrow (ty k) (vv v) = vv v) (hfit : fits (ty k) (vv v) = true) (ht : tg g a = ci + 1)
    (hv : fldV g1 (16 * ci + k) a = vv v) (hne : ∀ j, j ≠ k → fldV g1 (16 * ci + j) a = fldV g (16 * ci + j) a) (enx : cu g1 = cu g) (esl : sl g1 = sl g) (hpo : ∀ H H1, gPi Γ g H → H1.size = H.size → (∀ x, x ≠ a → H1[x]? = H[x]?) → objAt (gK Γ) g1 H1 ci a → gPi Γ g1 H1)
    (kk : X Γ (pc + 3) L st g1 φ) : X Γ pc L (v :: vR (some a) :: st) g φ := fun h => by
  obtain ⟨b1, b2, b3⟩ := kk h
  refine ⟨by rw [← enx]; exact b1, by rw [← esl]; exact b2, fun H locs ls A => ?_⟩
  obtain ⟨cell, cf, kf, fi', f, q1, q2, q3, q4, hi, hsl, hst, hkb, kC, hfc, hkC, hkind⟩ := fld_at C hcf hk A.pic ht hok
  have hap := va_apart (own := own) (fun w hw => C.hts w hw) (fun w hw => hcf.2.1 w hw) ty hcf.2.2.1 hcf.2.2.2.1 C.kx.1 hcf.1
  have hlay := C.hts _ (hcf.2.1 _ (u_in_lay hk))
  unfold u_lay at hlay
  rw [if_pos hfin] at hlay
  have hcf2 : (gM Γ).cls = cf := by
    obtain ⟨_, _, c', _, _, _, -, -, hf', -, -, -, hown2, -⟩ := Cond.laysFinal_spec hlay
    have e1 : c' = cf := by have := hi.symm.trans hf'; simp at this; exact this.1.symm
    rw [hdecl] at hown2
    rw [← e1]; exact Option.some.inj (C.ow.symm.trans hown2)
  have h6 := u_fits hfc hkC hkind (Or.inr hlay) hi (hcf.2.2.1 k hk) hn hfit
  refine W.putFinK C.exec C.code C.ow (C.hts _ hlink) (hsame _ hi) hst hcf2 hin2 (by rw [q2]; exact h6) q1 q3 (by rw [hsl]; exact k2_hasslot (q4 k hk)) rfl rfl hdg fun H' e1 e2 e3 => ?_
  have := b3 H' _ ls (A.put (sx := f.slot) enx esl (hpo H H' A.pic e2 e3 (put_at hcf hk e1 hsl q2 q3 q4 hap hv hne)) e3 hkb e2)
  rw [enx, esl] at this
  exact this
theorem fldV_setI_self {g : HP} {k q : Nat} {v : Int32} (h : refF k = false) : fldV (setI g k q v) k q = .int v := by
  rw [fldV_I h]
  show Value.int (if k = k ∧ q = q then v else _) = _
  rw [if_pos ⟨rfl, rfl⟩]
theorem fldV_setR_self {g : HP} {k q : Nat} {v : Option Nat} (h : refF k = true) : fldV (setR g k q v) k q = va_rf v := by
  rw [fldV_R h]
  show va_rf (if k = k ∧ q = q then v else _) = _
  rw [if_pos ⟨rfl, rfl⟩]
theorem nar_Z {v : Int32} (h : v = 0 ∨ v = 1) : narrow .boolean (.int v) = .int v ∧ fits .boolean (.int v) = true := by
  rcases h with rfl | rfl <;> exact ⟨rfl, rfl⟩
/-- kinds of put, by f: 0 not final, 1 final in <init> -/
def finOk (Γ : GG) (own : String) (T : u_T) (k : Nat) : Prop := (T k).2.2.2 = false ∨ ((T k).2.2.2 = true ∧ (gMe Γ).name = "<init>" ∧ (T k).1 = own)
theorem z_putB (C : CX Γ cc nL own PP okb rf rl) (hcf : CF ci Cn T N ty) {index : Nat} {ref : String} {a : Nat} {v : VV} {g1 : HP} (k : Nat) (hk : k < N) (hok : okb (ci + 1) = true) (hdg : decode cc pc = .ok (.putfield index, 3)) (hlink : Cond.fieldLink own index ref (T k).2.1 (T k).2.2.1 ∈ gtbl)
    (hsame : ∀ x, (gS Γ).fieldFound? (T k).1 (T k).2.1 (T k).2.2.1 = some x → (gS Γ).fieldFound? ref (T k).2.1 (T k).2.2.1 = some x) (hfin : finOk Γ own T k) (hn : narrow (ty k) (vv v) = vv v) (hfit : fits (ty k) (vv v) = true) (ht : tg g a = ci + 1)
    (hv : fldV g1 (16 * ci + k) a = vv v) (hne : ∀ j, j ≠ k → fldV g1 (16 * ci + j) a = fldV g (16 * ci + j) a) (enx : cu g1 = cu g) (esl : sl g1 = sl g) (hpo : ∀ H H1, gPi Γ g H → H1.size = H.size → (∀ x, x ≠ a → H1[x]? = H[x]?) → objAt (gK Γ) g1 H1 ci a → gPi Γ g1 H1)
    (kk : X Γ (pc + 3) L st g1 φ) : X Γ pc L (v :: vR (some a) :: st) g φ := by
  rcases hfin with h | ⟨h1, h2, h3⟩
  · exact z_put C hcf k hk hok hdg hlink hsame h hn hfit ht hv hne enx esl hpo kk
  · exact z_putF C hcf k hk hok hdg hlink hsame h1 h2 h3 hn hfit ht hv hne enx esl hpo kk
theorem z_pfI (C : CX Γ cc nL own PP okb rf rl) (hcf : CF ci Cn T N ty) {index : Nat} {ref : String} {r : Option Nat} {v : Int32} (k : Nat) (hk : k < N) (hok : okb (ci + 1) = true) (hr : refF (16 * ci + k) = false) (hty : ty k = .int) (hfin : finOk Γ own T k) (hdg : decode cc pc = .ok (.putfield index, 3)) (hlink : Cond.fieldLink own index ref (T k).2.1 (T k).2.2.1 ∈ gtbl)
    (hsame : ∀ x, (gS Γ).fieldFound? (T k).1 (T k).2.1 (T k).2.2.1 = some x → (gS Γ).fieldFound? ref (T k).2.1 (T k).2.2.1 = some x) {φ' : HP → Prop} (hφ : φ → ∃ x, pfI ci k r v g = some x ∧ φ' x)
    (kk : ∀ x, X Γ (pc + 3) L st x (φ' x)) : X Γ pc L (vI v :: vR r :: st) g φ := fun h => by
  obtain ⟨x, hx, hf⟩ := hφ h
  cases r with
  | none => cases hx
  | some a =>
    unfold pfI at hx
    dsimp only at hx
    by_cases ht : tg g a = ci + 1
    · rw [if_pos ht] at hx
      cases hx
      exact z_putB (g1 := setI g (16 * ci + k) a v) C hcf k hk hok hdg hlink hsame hfin (by rw [hty]; rfl) (by rw [hty]; rfl) ht (fldV_setI_self hr) (fun j hj => fldV_setI (fun z => hj (by omega))) rfl rfl
        (fun H H1 p z o ob => C.po.2.2.2.2.2.2.1 g H a ci k v H1 p ht hcf.2.2.2.2.1 hok (by have := hcf.2.2.2.2.2; omega) z o ob) (kk _) hf
    · rw [if_neg ht] at hx; cases hx
theorem z_pfZ (C : CX Γ cc nL own PP okb rf rl) (hcf : CF ci Cn T N ty) {index : Nat} {ref : String} {r : Option Nat} {v : Int32} (k : Nat) (hk : k < N) (hok : okb (ci + 1) = true) (hr : refF (16 * ci + k) = false) (hty : ty k = .boolean) (hfin : finOk Γ own T k) (hdg : decode cc pc = .ok (.putfield index, 3)) (hlink : Cond.fieldLink own index ref (T k).2.1 (T k).2.2.1 ∈ gtbl)
    (hsame : ∀ x, (gS Γ).fieldFound? (T k).1 (T k).2.1 (T k).2.2.1 = some x → (gS Γ).fieldFound? ref (T k).2.1 (T k).2.2.1 = some x) {φ' : HP → Prop} (hφ : φ → ∃ x, pfZ ci k r v g = some x ∧ φ' x)
    (kk : ∀ x, X Γ (pc + 3) L st x (φ' x)) : X Γ pc L (vI v :: vR r :: st) g φ := fun h => by
  obtain ⟨x, hx, hf⟩ := hφ h
  cases r with
  | none => cases hx
  | some a =>
    unfold pfZ at hx
    dsimp only at hx
    by_cases ht : tg g a = ci + 1 ∧ (v = 0 ∨ v = 1)
    · rw [if_pos ht] at hx
      cases hx
      exact z_putB (g1 := setI g (16 * ci + k) a v) C hcf k hk hok hdg hlink hsame hfin (by rw [hty]; exact (nar_Z ht.2).1) (by rw [hty]; exact (nar_Z ht.2).2) ht.1 (fldV_setI_self hr) (fun j hj => fldV_setI (fun z => hj (by omega))) rfl rfl
        (fun H H1 p z o ob => C.po.2.2.2.2.2.2.1 g H a ci k v H1 p ht.1 hcf.2.2.2.2.1 hok (by have := hcf.2.2.2.2.2; omega) z o ob) (kk _) hf
    · rw [if_neg ht] at hx; cases hx
def isRefTy (t : FieldType) : Prop := ∀ r : Option Nat, narrow t (va_rf r) = va_rf r ∧ fits t (va_rf r) = true
theorem isRefTy_o (C : String) : isRefTy (.object C) := fun r => by cases r <;> exact ⟨rfl, rfl⟩
theorem isRefTy_a (t : FieldType) : isRefTy (.array t) := fun r => by cases r <;> exact ⟨rfl, rfl⟩
theorem z_pfR (C : CX Γ cc nL own PP okb rf rl) (hcf : CF ci Cn T N ty) {index : Nat} {ref : String} {r v : Option Nat} (k : Nat) (hk : k < N) (hok : okb (ci + 1) = true) (hr : refF (16 * ci + k) = true) (hty : isRefTy (ty k)) (hfin : finOk Γ own T k) (hdg : decode cc pc = .ok (.putfield index, 3)) (hlink : Cond.fieldLink own index ref (T k).2.1 (T k).2.2.1 ∈ gtbl)
    (hsame : ∀ x, (gS Γ).fieldFound? (T k).1 (T k).2.1 (T k).2.2.1 = some x → (gS Γ).fieldFound? ref (T k).2.1 (T k).2.2.1 = some x) {φ' : HP → Prop} (hφ : φ → ∃ x, pfR ci k r v g = some x ∧ φ' x)
    (kk : ∀ x, X Γ (pc + 3) L st x (φ' x)) : X Γ pc L (vR v :: vR r :: st) g φ := fun h => by
  obtain ⟨x, hx, hf⟩ := hφ h
  cases r with
  | none => cases hx
  | some a =>
    unfold pfR at hx
    dsimp only at hx
    by_cases ht : tg g a = ci + 1
    · rw [if_pos ht] at hx
      cases hx
      exact z_putB (g1 := setR g (16 * ci + k) a v) C hcf k hk hok hdg hlink hsame hfin (hty v).1 (hty v).2 ht (fldV_setR_self hr) (fun j hj => fldV_setR (fun z => hj (by omega))) rfl rfl
        (fun H H1 p z o ob => C.po.2.2.2.2.2.2.2.1 g H a ci k v H1 p ht hcf.2.2.2.2.1 hok (by have := hcf.2.2.2.2.2; omega) z o ob) (kk _) hf
    · rw [if_neg ht] at hx; cases hx
end HeapRules
