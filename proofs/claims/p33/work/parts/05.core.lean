/-- the tables' words that last -/
def gtbl : List Cond := lw_tbl.filter goodWord
theorem gtbl_mem {w : Cond} (h : w ∈ lw_tbl) (hg : goodWord w = true) : w ∈ gtbl := List.mem_filter.mpr ⟨h, hg⟩
theorem gtbl_tab {i : Nat} {w : Cond} (h : tables_1[i]? = some w) (hg : goodWord w = true) : w ∈ gtbl := gtbl_mem (List.mem_append.mpr (Or.inr (List.mem_of_getElem? h))) hg
theorem gtbl_good : ∀ w ∈ gtbl, goodWord w = true := fun _ h => (List.mem_filter.mp h).2
theorem gtbl_in {ws : List Cond} (h : ∀ w ∈ ws, w ∈ gtbl) : GoodIn gtbl ws := fun w hw => ⟨h w hw, good_of_word (gtbl_good w (h w hw))⟩

/-- what a picture of the heap must bear: okb says of which tags the instructions may read and write -/
def PO (κ : KK) (P : HP → Heap → Prop) (okb : Nat → Bool) : Prop :=
  (∀ g H, P g H → H.size = nx g ∧ kb κ ≤ nx g) ∧
  (∀ g H q, P g H → tg g q ≠ 0 → q < nx g) ∧
  (∀ g H q ci, P g H → tg g q = ci + 1 → ci < 11 → ∃ cell : Cell, H[q]? = some cell ∧ cell.vm.isStatics = false ∧ cell.cls = (kD κ).1 ci) ∧
  (∀ g H q ci, P g H → tg g q = ci + 1 → ci < 11 → okb (ci + 1) = true → objAt κ g H ci q ∧ kb κ ≤ q) ∧
  (∀ g H q, P g H → isI (tg g q) → (∃ c, H[q]? = some c ∧ LkI κ (tg g q) (ia g q) c) ∧ (tg g q ≠ 25 → kb κ ≤ q)) ∧
  (∀ g H q, P g H → isO (tg g q) → okb (tg g q) = true → (∃ c, H[q]? = some c ∧ LkO κ (tg g q) (oa g q) c) ∧ (tg g q ≠ 24 → kb κ ≤ q)) ∧
  (∀ g H q ci k v H1, P g H → tg g q = ci + 1 → ci < 11 → okb (ci + 1) = true → k < 16 → H1.size = H.size → (∀ x, x ≠ q → H1[x]? = H[x]?) → objAt κ (setI g (16 * ci + k) q v) H1 ci q → P (setI g (16 * ci + k) q v) H1) ∧
  (∀ g H q ci k v H1, P g H → tg g q = ci + 1 → ci < 11 → okb (ci + 1) = true → k < 16 → H1.size = H.size → (∀ x, x ≠ q → H1[x]? = H[x]?) → objAt κ (setR g (16 * ci + k) q v) H1 ci q → P (setR g (16 * ci + k) q v) H1) ∧
  (∀ g H q l H1, P g H → (tg g q = 20 ∨ tg g q = 21) → H1.size = H.size → (∀ x, x ≠ q → H1[x]? = H[x]?) → H1[q]? = some (cellI (arC κ (tg g q)) l) → P (setA g q l) H1) ∧
  (∀ g H q l H1, P g H → (tg g q = 22 ∨ tg g q = 23) → okb (tg g q) = true → H1.size = H.size → (∀ x, x ≠ q → H1[x]? = H[x]?) → H1[q]? = some (cellO (arC κ (tg g q)) l) → P (setO g q l) H1) ∧
  (∀ g H ci n H1, P g H → ci < 11 → okb (ci + 1) = true → H1.size = H.size + 1 → (∀ x, x < H.size → H1[x]? = H[x]?) → (∃ r : vw_C, vwCl[ci]? = some r ∧ t_OB H.size ((kD κ).1 ci) r.2.2 ((kD κ).2 ci) H1 (fun k => fldV (newG g (ci + 1) n [] []) (16 * ci + k) H.size)) → P (newG g (ci + 1) n [] []) H1) ∧
  (∀ g H t n l H1, P g H → (t = 20 ∨ t = 21) → H1.size = H.size + 1 → (∀ x, x < H.size → H1[x]? = H[x]?) → H1[H.size]? = some (cellI (arC κ t) l) → P (newG g t n l []) H1) ∧
  (∀ g H t n l H1, P g H → (t = 22 ∨ t = 23) → okb t = true → H1.size = H.size + 1 → (∀ x, x < H.size → H1[x]? = H[x]?) → H1[H.size]? = some (cellO (arC κ t) l) → P (newG g t n [] l) H1)

theorem up1_self {α : Type} (f : Nat → α) (k : Nat) (v : α) : up1 f k v k = v := by simp [up1]
theorem up1_ne {α : Type} (f : Nat → α) {k j : Nat} (v : α) (h : j ≠ k) : up1 f k v j = f j := by simp [up1, h]

theorem objAt_kept {κ : KK} {g g1 : HP} {H H1 : Heap} {ci q : Nat} (h : objAt κ g H ci q) (hq : H1[q]? = H[q]?) (hf : ∀ k, fldV g1 (16 * ci + k) q = fldV g (16 * ci + k) q) : objAt κ g1 H1 ci q := by
  obtain ⟨r, h1, h2⟩ := h
  exact ⟨r, h1, (h2.kept hq).to fun k _ => (hf k).symm⟩
theorem objAt_size {κ : KK} {g : HP} {H : Heap} {ci q : Nat} (h : objAt κ g H ci q) : q < H.size := by
  obtain ⟨r, h1, cell, h2, -⟩ := h
  exact (Array.getElem?_eq_some_iff.mp h2).1
theorem objAt_recv {κ : KK} {g : HP} {H : Heap} {ci q : Nat} (h : objAt κ g H ci q) : ∃ cell : Cell, H[q]? = some cell ∧ cell.vm.isStatics = false ∧ cell.cls = (kD κ).1 ci := by
  obtain ⟨r, h1, cell, h2, h3, h4, -⟩ := h
  exact ⟨cell, h2, by rw [h4]; rfl, h3⟩

/-- a put of one object's field: every cell of the picture stays right -/
theorem Pic1_field {κ : KK} {g g1 : HP} {H H1 : Heap} {q ci k : Nat} (h : Pic1 κ g H) (ht : tg g q = ci + 1) (hci : ci < 11) (hk : k < 16) (hs : H1.size = H.size) (ho : ∀ x, x ≠ q → H1[x]? = H[x]?)
    (e1 : tg g1 = tg g) (e2 : ia g1 = ia g) (e3 : oa g1 = oa g) (e4 : nx g1 = nx g) (e5 : ∀ j a, ¬ (j = 16 * ci + k ∧ a = q) → fldV g1 j a = fldV g j a) (hn : objAt κ g1 H1 ci q) : Pic1 κ g1 H1 := by
  obtain ⟨z, hc, hw, hb⟩ := h
  refine ⟨by rw [hs, z, e4], fun x => ?_, by rw [e1, e4]; exact hw, by rw [e1]; exact hb⟩
  by_cases hx : x = q
  · subst hx
    refine ⟨fun cj hj _ => ?_, fun hi => ?_, fun hi => ?_⟩
    · rw [e1, ht] at hj
      have : cj = ci := by omega
      subst this
      exact hn
    · rw [e1, ht] at hi
      unfold isI at hi
      omega
    · rw [e1, ht] at hi
      unfold isO at hi
      omega
  · obtain ⟨c1, c2, c3⟩ := hc x
    unfold cellOk
    rw [e1, e2, e3]
    refine ⟨fun cj hj hl => objAt_kept (c1 cj hj hl) (ho x hx) fun k' => e5 _ _ fun z => hx z.2, fun hi => by rw [ho x hx]; exact c2 hi, fun hi => by rw [ho x hx]; exact c3 hi⟩
theorem fldV_setI {g : HP} {k q : Nat} {v : Int32} {j a : Nat} (h : ¬ (j = k ∧ a = q)) : fldV (setI g k q v) j a = fldV g j a := by
  unfold fldV
  have : fi (setI g k q v) j a = fi g j a := if_neg h
  rw [this]; rfl
theorem fldV_setR {g : HP} {k q : Nat} {v : Option Nat} {j a : Nat} (h : ¬ (j = k ∧ a = q)) : fldV (setR g k q v) j a = fldV g j a := by
  unfold fldV
  have : fr (setR g k q v) j a = fr g j a := if_neg h
  rw [this]; rfl
theorem fldV_newG {g : HP} {t n : Nat} {il : List Int32} {ol : List (Option Nat)} {j a : Nat} (h : a ≠ nx g) : fldV (newG g t n il ol) j a = fldV g j a := by
  unfold fldV
  have h1 : fi (newG g t n il ol) j a = fi g j a := if_neg h
  have h2 : fr (newG g t n il ol) j a = fr g j a := if_neg h
  rw [h1, h2]
theorem Pic1_arr {κ : KK} {g g1 : HP} {H H1 : Heap} {q : Nat} (h : Pic1 κ g H) (hs : H1.size = H.size) (ho : ∀ x, x ≠ q → H1[x]? = H[x]?)
    (e1 : tg g1 = tg g) (e2 : ∀ x, x ≠ q → ia g1 x = ia g x) (e3 : ∀ x, x ≠ q → oa g1 x = oa g x) (e4 : nx g1 = nx g) (e5 : fi g1 = fi g) (e6 : fr g1 = fr g) (hn : cellOk κ g1 H1 q) : Pic1 κ g1 H1 := by
  obtain ⟨z, hc, hw, hb⟩ := h
  refine ⟨by rw [hs, z, e4], fun x => ?_, by rw [e1, e4]; exact hw, by rw [e1]; exact hb⟩
  by_cases hx : x = q
  · subst hx; exact hn
  · obtain ⟨c1, c2, c3⟩ := hc x
    unfold cellOk
    rw [e1, e2 x hx, e3 x hx]
    refine ⟨fun cj hj hl => objAt_kept (c1 cj hj hl) (ho x hx) fun k' => by unfold fldV; rw [e5, e6], fun hi => by rw [ho x hx]; exact c2 hi, fun hi => by rw [ho x hx]; exact c3 hi⟩
theorem Pic1_new {κ : KK} {g : HP} {H H1 : Heap} {t n : Nat} {il : List Int32} {ol : List (Option Nat)} (h : Pic1 κ g H) (hbn : kb κ ≤ nx g) (hs : H1.size = H.size + 1) (ho : ∀ x, x < H.size → H1[x]? = H[x]?)
    (hn : cellOk κ (newG g t n il ol) H1 (nx g)) : Pic1 κ (newG g t n il ol) H1 := by
  obtain ⟨z, hc, hw, hb⟩ := h
  have et : ∀ x, x ≠ nx g → tg (newG g t n il ol) x = tg g x := fun x hx => if_neg hx
  refine ⟨by rw [hs, z]; rfl, fun x => ?_, fun x hx => ?_, fun x h1 h2 h3 => ?_⟩
  · by_cases hx : x = nx g
    · rw [hx]; exact hn
    · obtain ⟨c1, c2, c3⟩ := hc x
      have e2 : ia (newG g t n il ol) x = ia g x := if_neg hx
      have e3 : oa (newG g t n il ol) x = oa g x := if_neg hx
      have key : tg g x ≠ 0 → H1[x]? = H[x]? := fun h0 => ho x (by rw [z]; exact hw x h0)
      unfold cellOk
      rw [et x hx, e2, e3]
      refine ⟨fun cj hj hl => objAt_kept (c1 cj hj hl) (key (by omega)) fun k' => fldV_newG hx, fun hi => ?_, fun hi => ?_⟩
      · rw [key (by unfold isI at hi; omega)]; exact c2 hi
      · rw [key (by unfold isO at hi; omega)]; exact c3 hi
  · show x < nx g + 1
    by_cases e : x = nx g
    · omega
    · rw [et x e] at hx
      have := hw x hx
      omega
  · by_cases e : x = nx g
    · rw [e]; exact hbn
    · rw [et x e] at h1 h2 h3
      exact hb x h1 h2 h3
def Pi1 (κ : KK) (g : HP) (H : Heap) : Prop := Pic1 κ g H ∧ kb κ ≤ nx g
theorem PO_Pic1 (κ : KK) : PO κ (Pi1 κ) (fun _ => true) := by
  refine ⟨fun g H h => ⟨h.1.1, h.2⟩, fun g H q h ht => h.1.2.2.1 q ht, fun g H q ci h ht hl => objAt_recv ((h.1.2.1 q).1 ci ht hl), fun g H q ci h ht hl _ => ⟨(h.1.2.1 q).1 ci ht hl, h.1.2.2.2 q (by omega) (by omega) (by omega)⟩,
    fun g H q h ht => ⟨(h.1.2.1 q).2.1 ht, fun h5 => h.1.2.2.2 q (by unfold isI at ht; omega) (by unfold isI at ht; omega) h5⟩, fun g H q h ht _ => ⟨(h.1.2.1 q).2.2 ht, fun h4 => h.1.2.2.2 q (by unfold isO at ht; omega) h4 (by unfold isO at ht; omega)⟩,
    fun g H q ci k v H1 h ht hl _ hk hs ho hn => ⟨Pic1_field h.1 ht hl hk hs ho rfl rfl rfl rfl (fun j a hj => fldV_setI hj) hn, h.2⟩,
    fun g H q ci k v H1 h ht hl _ hk hs ho hn => ⟨Pic1_field h.1 ht hl hk hs ho rfl rfl rfl rfl (fun j a hj => fldV_setR hj) hn, h.2⟩,
    fun g H q l H1 h ht hs ho hn => ⟨Pic1_arr h.1 hs ho rfl (fun x hx => up1_ne _ _ hx) (fun x hx => rfl) rfl rfl rfl ?_, h.2⟩,
    fun g H q l H1 h ht _ hs ho hn => ⟨Pic1_arr h.1 hs ho rfl (fun x hx => rfl) (fun x hx => up1_ne _ _ hx) rfl rfl rfl ?_, h.2⟩,
    fun g H ci n H1 h hl _ hs ho hn => ⟨Pic1_new h.1 h.2 hs ho ?_, Nat.le_succ_of_le h.2⟩, fun g H t n l H1 h ht hs ho hn => ⟨Pic1_new h.1 h.2 hs ho ?_, Nat.le_succ_of_le h.2⟩, fun g H t n l H1 h ht _ hs ho hn => ⟨Pic1_new h.1 h.2 hs ho ?_, Nat.le_succ_of_le h.2⟩⟩
  · have e : tg (setA g q l) q = tg g q := rfl
    refine ⟨fun ci hci hl => ?_, fun hi => ?_, fun hi => ?_⟩
    · rw [e] at hci; omega
    · rw [e]
      have : ia (setA g q l) q = l := up1_self _ _ _
      rw [this]; exact lkI_of hn
    · rw [e] at hi; unfold isO at hi; omega
  · have e : tg (setO g q l) q = tg g q := rfl
    refine ⟨fun ci hci hl => ?_, fun hi => ?_, fun hi => ?_⟩
    · rw [e] at hci; omega
    · rw [e] at hi; unfold isI at hi; omega
    · rw [e]
      have : oa (setO g q l) q = l := up1_self _ _ _
      rw [this]; exact lkO_of hn
  · have e : tg (newG g (ci + 1) n [] []) (nx g) = ci + 1 := up1_self _ _ _
    have z := h.1.1
    refine ⟨fun cj hj _ => ?_, fun hi => ?_, fun hi => ?_⟩
    · rw [e] at hj
      have : cj = ci := by omega
      subst this
      obtain ⟨r, h1, h2⟩ := hn
      rw [z] at h2
      exact ⟨r, h1, h2⟩
    · rw [e] at hi; unfold isI at hi; omega
    · rw [e] at hi; unfold isO at hi; omega
  · have e : tg (newG g t n l []) (nx g) = t := up1_self _ _ _
    have z := h.1.1
    refine ⟨fun cj hj _ => ?_, fun hi => ?_, fun hi => ?_⟩
    · rw [e] at hj; omega
    · rw [e]
      have : ia (newG g t n l []) (nx g) = l := up1_self _ _ _
      rw [this, ← z]; exact lkI_of hn
    · rw [e] at hi; unfold isO at hi; omega
  · have e : tg (newG g t n [] l) (nx g) = t := up1_self _ _ _
    have z := h.1.1
    refine ⟨fun cj hj _ => ?_, fun hi => ?_, fun hi => ?_⟩
    · rw [e] at hj; omega
    · rw [e] at hi; unfold isI at hi; omega
    · rw [e]
      have : oa (newG g t n [] l) (nx g) = l := up1_self _ _ _
      rw [this, ← z]; exact lkO_of hn

/-- a method's walk: program, launch, environment, room, start, method, arguments, frames below, its row, its code, what is known of the launch, the picture, the end, the addresses and slots at the start, those that may be reached -/
abbrev GG : Type := Program × Launch × Env × Room × State × MethodId × Array Value × List Frame × Method × Code × KK × (HP → Heap → Prop) × (State → Prop) × Nat × Nat × Nat × Nat
def gP (Γ : GG) : Program := Γ.1
def gL (Γ : GG) : Launch := Γ.2.1
def gE (Γ : GG) : Env := Γ.2.2.1
def gR (Γ : GG) : Room := Γ.2.2.2.1
def gS (Γ : GG) : State := Γ.2.2.2.2.1
def gM (Γ : GG) : MethodId := Γ.2.2.2.2.2.1
def gA (Γ : GG) : Array Value := Γ.2.2.2.2.2.2.1
def gB (Γ : GG) : List Frame := Γ.2.2.2.2.2.2.2.1
def gMe (Γ : GG) : Method := Γ.2.2.2.2.2.2.2.2.1
def gC (Γ : GG) : Code := Γ.2.2.2.2.2.2.2.2.2.1
def gK (Γ : GG) : KK := Γ.2.2.2.2.2.2.2.2.2.2.1
def gPi (Γ : GG) : HP → Heap → Prop := Γ.2.2.2.2.2.2.2.2.2.2.2.1
def gQ (Γ : GG) : State → Prop := Γ.2.2.2.2.2.2.2.2.2.2.2.2.1
def gn0 (Γ : GG) : Nat := Γ.2.2.2.2.2.2.2.2.2.2.2.2.2.1
def gs0 (Γ : GG) : Nat := Γ.2.2.2.2.2.2.2.2.2.2.2.2.2.2.1
def gtn (Γ : GG) : Nat := Γ.2.2.2.2.2.2.2.2.2.2.2.2.2.2.2.1
def gts (Γ : GG) : Nat := Γ.2.2.2.2.2.2.2.2.2.2.2.2.2.2.2.2
def WG (Γ : GG) (H : Heap) (locs : List Loc) (cells slots : Nat) (g : JFrame) : Prop := W (gP Γ) (gL Γ) (gE Γ) (gR Γ) (gS Γ) (gM Γ) (gA Γ) (gB Γ) (gMe Γ) (gC Γ) H locs cells slots (gQ Γ) g
/-- where the machine stands: the heap is g's, the frame is at pc with these locals and this stack; fact holds; then it comes to the end -/
def At1 (Γ : GG) (L : LL) (g : HP) (H : Heap) (locs : List Loc) (ls : Array Slot) : Prop :=
  gn0 Γ ≤ cu g ∧ gs0 Γ ≤ sl g ∧ gPi Γ g H ∧ (∀ q, q < kb (gK Γ) → H[q]? = (gS Γ).heap[q]?) ∧ (∀ z ∈ locs, kb (gK Γ) ≤ z.base) ∧ lv_has ls (gC Γ).maxLocals (lvv L) ∧ (gS Γ).heap.size ≤ H.size
def X (Γ : GG) (pc : Nat) (L : LL) (st : List VV) (g : HP) (fact : Prop) : Prop :=
  fact → cu g ≤ gtn Γ ∧ sl g ≤ gts Γ ∧ ∀ (H : Heap) (locs : List Loc) (ls : Array Slot), At1 Γ L g H locs ls → WG Γ H locs (cu g - gn0 Γ) (sl g - gs0 Γ) (F0 (gM Γ) pc ls (st.map vv))
def CX (Γ : GG) (cc : ByteArray) (nL : Nat) (own : String) (PP : KK → HP → Heap → Prop) (okb : Nat → Bool) (rf : Nat) (rl : Nat) : Prop :=
  (gP Γ).tables.exec = Jvm.exec ∧ (gC Γ).code = cc ∧ (gC Γ).maxLocals = nL ∧ (gS Γ).vm.findClass own = some (gM Γ).cls ∧ (∀ w ∈ gtbl, w.before (gA Γ) (gS Γ) = true) ∧ KX (gK Γ) (gS Γ) (gS Γ).heap ∧ PO (gK Γ) (gPi Γ) okb ∧ (gMe Γ).locks = false ∧
  gtn Γ - gn0 Γ ≤ (gR Γ).cells ∧ gts Γ - gs0 Γ ≤ (gR Γ).slots ∧ (gR Γ).frames = rf ∧ (gR Γ).locals = rl ∧ gPi Γ = PP (gK Γ)
section Acc
variable {Γ : GG} {cc : ByteArray} {nL : Nat} {own : String} {PP : KK → HP → Heap → Prop} {okb : Nat → Bool} {rf rl : Nat}
theorem CX.exec (C : CX Γ cc nL own PP okb rf rl) : (gP Γ).tables.exec = Jvm.exec := C.1
theorem CX.code (C : CX Γ cc nL own PP okb rf rl) : (gC Γ).code = cc := C.2.1
theorem CX.ml (C : CX Γ cc nL own PP okb rf rl) : (gC Γ).maxLocals = nL := C.2.2.1
theorem CX.ow (C : CX Γ cc nL own PP okb rf rl) : (gS Γ).vm.findClass own = some (gM Γ).cls := C.2.2.2.1
theorem CX.hts (C : CX Γ cc nL own PP okb rf rl) : ∀ w ∈ gtbl, w.before (gA Γ) (gS Γ) = true := C.2.2.2.2.1
theorem CX.kx (C : CX Γ cc nL own PP okb rf rl) : KX (gK Γ) (gS Γ) (gS Γ).heap := C.2.2.2.2.2.1
theorem CX.po (C : CX Γ cc nL own PP okb rf rl) : PO (gK Γ) (gPi Γ) okb := C.2.2.2.2.2.2.1
theorem CX.locks (C : CX Γ cc nL own PP okb rf rl) : (gMe Γ).locks = false := C.2.2.2.2.2.2.2.1
theorem CX.rc (C : CX Γ cc nL own PP okb rf rl) : gtn Γ - gn0 Γ ≤ (gR Γ).cells := C.2.2.2.2.2.2.2.2.1
theorem CX.rs (C : CX Γ cc nL own PP okb rf rl) : gts Γ - gs0 Γ ≤ (gR Γ).slots := C.2.2.2.2.2.2.2.2.2.1
theorem CX.hrf (C : CX Γ cc nL own PP okb rf rl) : (gR Γ).frames = rf := C.2.2.2.2.2.2.2.2.2.2.1
theorem CX.hrl (C : CX Γ cc nL own PP okb rf rl) : (gR Γ).locals = rl := C.2.2.2.2.2.2.2.2.2.2.2.1
theorem CX.pp (C : CX Γ cc nL own PP okb rf rl) : gPi Γ = PP (gK Γ) := C.2.2.2.2.2.2.2.2.2.2.2.2
theorem CX.fix (C : CX Γ cc nL own PP okb rf rl) : CallFix (gP Γ) (gM Γ) (gC Γ) cc nL (gS Γ) (gA Γ) gtbl own := ⟨C.exec, C.code, C.ml, C.ow, C.hts⟩
theorem At1.n0 {L : LL} {g : HP} {H : Heap} {locs : List Loc} {ls : Array Slot} (A : At1 Γ L g H locs ls) : gn0 Γ ≤ cu g := A.1
theorem At1.s0 {L : LL} {g : HP} {H : Heap} {locs : List Loc} {ls : Array Slot} (A : At1 Γ L g H locs ls) : gs0 Γ ≤ sl g := A.2.1
theorem At1.pic {L : LL} {g : HP} {H : Heap} {locs : List Loc} {ls : Array Slot} (A : At1 Γ L g H locs ls) : gPi Γ g H := A.2.2.1
theorem At1.fr {L : LL} {g : HP} {H : Heap} {locs : List Loc} {ls : Array Slot} (A : At1 Γ L g H locs ls) : ∀ q, q < kb (gK Γ) → H[q]? = (gS Γ).heap[q]? := A.2.2.2.1
theorem At1.lo {L : LL} {g : HP} {H : Heap} {locs : List Loc} {ls : Array Slot} (A : At1 Γ L g H locs ls) : ∀ z ∈ locs, kb (gK Γ) ≤ z.base := A.2.2.2.2.1
theorem At1.lv {L : LL} {g : HP} {H : Heap} {locs : List Loc} {ls : Array Slot} (A : At1 Γ L g H locs ls) : lv_has ls (gC Γ).maxLocals (lvv L) := A.2.2.2.2.2.1
theorem At1.hs {L : LL} {g : HP} {H : Heap} {locs : List Loc} {ls : Array Slot} (A : At1 Γ L g H locs ls) : (gS Γ).heap.size ≤ H.size := A.2.2.2.2.2.2
theorem At1.ls {L L' : LL} {g : HP} {H : Heap} {locs : List Loc} {ls ls' : Array Slot} (A : At1 Γ L g H locs ls) (h : lv_has ls' (gC Γ).maxLocals (lvv L')) : At1 Γ L' g H locs ls' := ⟨A.1, A.2.1, A.2.2.1, A.2.2.2.1, A.2.2.2.2.1, h, A.hs⟩
end Acc
