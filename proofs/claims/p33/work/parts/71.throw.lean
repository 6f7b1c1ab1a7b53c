/-! A throw out of a method, and its catching. -/
theorem Pi1_bump {κ : KK} {g : HP} {H H1 : Heap} (h : Pi1 κ g H) (hs : H1.size = H.size + 1) (ho : ∀ q, q < H.size → H1[q]? = H[q]?) : Pi1 κ (bump g 1 6 0) H1 := by
  obtain ⟨⟨z, hc, hw, hb⟩, hk⟩ := h
  refine ⟨⟨by rw [hs, z]; rfl, fun x => ?_, fun x hx => Nat.lt_succ_of_lt (hw x hx), fun x h1 h2 h3 => hb x h1 h2 h3⟩, Nat.le_succ_of_le hk⟩
  obtain ⟨c1, c2, c3⟩ := hc x
  have key : tg g x ≠ 0 → H1[x]? = H[x]? := fun h0 => ho x (by rw [z]; exact hw x h0)
  have et : tg (bump g 1 6 0) x = tg g x := rfl
  refine ⟨fun cj hj hl => objAt_kept (c1 cj hj hl) (key (by rw [et] at hj; omega)) fun k' => rfl, fun hi => ?_, fun hi => ?_⟩
  · rw [key (by rw [et] at hi; unfold isI at hi; omega)]; exact c2 hi
  · rw [key (by rw [et] at hi; unfold isO at hi; omega)]; exact c3 hi
theorem Pi2_bump {κ : KK} {g : HP} {H H1 : Heap} (h : Pi2 κ g H) (hs : H1.size = H.size + 1) (ho : ∀ q, q < H.size → H1[q]? = H[q]?) : Pi2 κ (bump g 1 6 0) H1 := by
  obtain ⟨h0, V, p⟩ := h
  refine ⟨bump h0 1 6 0, ⟨?_, ?_, V.2.2⟩, Pi1_bump p hs ho⟩
  · show nx h0 + 1 = nx g + 1
    rw [V.1]
  · show ((se h0).1 + 6, (se h0).2 + 0) = ((se g).1 + 6, (se g).2 + 0)
    rw [V.2.1]
/-- thrown: an IllegalStateException, its cell the one new one -/
def XCM (κ : KK) (P : HP → Heap → Prop) (g' : HP) : String → State → State → Prop := fun E st t => E = iseN ∧ KX κ t t.heap ∧ P g' t.heap ∧ (∀ q, q < kb κ → t.heap[q]? = st.heap[q]?) ∧ st.heap.size ≤ t.heap.size
def NoQ : Array Value → State → Outcome → State → Prop := fun _ _ _ _ => False
/-- how the walk of a method ends that throws -/
def RTX (Γ : GG) (PP : KK → HP → Heap → Prop) (h : HP) : Prop :=
  gQ Γ = vx_MQ (gB Γ) NoQ (XCM (gK Γ) (PP (gK Γ)) (bump h 1 6 0)) (gA Γ) (gS Γ) (gtn Γ - gn0 Γ) (gts Γ - gs0 Γ) (fun q => kb (gK Γ) ≤ q) ∧ gtn Γ = cu (bump h 1 6 0) ∧ gts Γ = sl (bump h 1 6 0) ∧ (∀ x ∈ (gC Γ).exceptionTable.toList, False) ∧ (gL Γ).stackTraces = false
/-- y, called with as at the heap g, throws where the heap is o's -/
def TA (l : Launch) (κ : KK) (PP : KK → HP → Heap → Prop) (y : MethodName) (cc : ByteArray) (nL : Nat) (ret : Option FieldType) (F Lw : Nat) (as : List VV) (g : HP) (o : Option HP) : Prop :=
  ∀ h, o = some h → cu g ≤ cu (bump h 1 6 0) ∧ sl g ≤ sl (bump h 1 6 0) ∧ vx_Met l y (.code y cc nL ret :: gtbl) (rmM F Lw g (bump h 1 6 0)) (PcM κ (PP κ) as g) NoQ (XCM κ (PP κ) (bump h 1 6 0)) (cu (bump h 1 6 0) - cu g) (sl (bump h 1 6 0) - sl g) (fun q => kb κ ≤ q)
theorem TA_of {l : Launch} (hst : l.stackTraces = false) {κ : KK} {PP : KK → HP → Heap → Prop} {okb : Nat → Bool} (hPO : PO κ (PP κ) okb) {y : MethodName} {cc : ByteArray} {nL n : Nat} {ret : Option FieldType} {F Lw : Nat} {as : List VV} {g : HP} {o : Option HP} (hm : MF y cc nL ret n)
    (hmono : ∀ a, o = some a → cu g ≤ cu a ∧ sl g ≤ sl a) (hlen : (as.map vc).sum ≤ nL)
    (body : ∀ (Γ : GG) (fin : HP), o = some fin → gL Γ = l → gK Γ = κ → (gMe Γ).name = y.name → CX Γ cc nL y.cls PP okb F Lw → RTX Γ PP fin → X Γ 0 (entL 0 as) [] g True) : TA l κ PP y cc nL ret F Lw as g o := by
  intro h ha
  obtain ⟨m1', m2'⟩ := hmono h ha
  have ec : cu (bump h 1 6 0) = cu h + 1 := by show ex h + 0 + (nx h + 1) = ex h + nx h + 1; omega
  have es : sl (bump h 1 6 0) = sl h + 6 := rfl
  have m1 : cu g ≤ cu (bump h 1 6 0) := by omega
  have m2 : sl g ≤ sl (bump h 1 6 0) := by omega
  refine ⟨m1, m2, vx_ofW (cc := cc) (maxL := nL) (ret := ret) hm.2.2.2 rfl ?_⟩
  intro p e s m args below meth c s₁ B hml htab hv
  obtain ⟨rfl, hK, hP⟩ := hv
  have hts : ∀ w ∈ Cond.code y cc nL ret :: gtbl, w.before (as.map vv).toArray s = true := atoms_spec (ws := Cond.code y cc nL ret :: gtbl) B.pre
  have hown : s.vm.findClass y.cls = some m.cls := findClass_of_methodNamed B.named
  have hname : meth.name = y.name := (name_of_methodNamed B.named B.method).1
  have hl := lv_entry (as.map vv) (n := nL) (by rw [lg_len]; exact hlen)
  rw [lg_entry_eq]
  generalize (lg_sl (as.map vv) ++ List.replicate (nL - (lg_sl (as.map vv)).length) Slot.unset).toArray = ls at hl ⊢
  rw [entL_eq] at hl
  generalize hfin : bump h 1 6 0 = fin at m1 m2 ⊢
  have CC : CX (p, l, e, rmM F Lw g fin, s, m, (as.map vv).toArray, below, meth, c, κ, PP κ, vx_MQ below NoQ (XCM κ (PP κ) fin) (as.map vv).toArray s (cu fin - cu g) (sl fin - sl g) (fun q => kb κ ≤ q), cu g, sl g, cu fin, sl fin) cc nL y.cls PP okb F Lw :=
    ⟨B.exec, B.bytes, hml, hown, fun w hw => hts w (List.mem_cons_of_mem _ hw), hK, hPO, B.notSynchronized, Nat.le_refl _, Nat.le_refl _, rfl, rfl, rfl⟩
  obtain ⟨b1, b2, b3⟩ := body _ h ha (by rfl) (by rfl) (by exact hname) CC ⟨by rw [hfin]; rfl, by rw [hfin]; rfl, by rw [hfin]; rfl, htab, hst⟩ trivial
  have := b3 s.heap [] ls ⟨Nat.le_refl _, Nat.le_refl _, hP, fun _ _ => rfl, fun z hz => (by cases hz), by show lv_has ls c.maxLocals _; rw [hml]; exact hl, Nat.le_refl _⟩
  have e1 : cu g - cu g = 0 := Nat.sub_self _
  have e2 : sl g - sl g = 0 := Nat.sub_self _
  unfold WG at this
  rw [show gn0 (p, l, e, rmM F Lw g fin, s, m, (as.map vv).toArray, below, meth, c, κ, PP κ, vx_MQ below NoQ (XCM κ (PP κ) fin) (as.map vv).toArray s (cu fin - cu g) (sl fin - sl g) (fun q => kb κ ≤ q), cu g, sl g, cu fin, sl fin) = cu g from rfl, show gs0 (p, l, e, rmM F Lw g fin, s, m, (as.map vv).toArray, below, meth, c, κ, PP κ, vx_MQ below NoQ (XCM κ (PP κ) fin) (as.map vv).toArray s (cu fin - cu g) (sl fin - sl g) (fun q => kb κ ≤ q), cu g, sl g, cu fin, sl fin) = sl g from rfl, e1, e2] at this
  exact this
/-- the words of the throw -/
theorem mem_str {k : Nat} {tx : String} (h : strW[0]? = some (k, tx) ∨ strW[1]? = some (k, tx) ∨ strW[2]? = some (k, tx) ∨ strW[3]? = some (k, tx)) : (k, tx) ∈ strW := by
  rcases h with h | h | h | h <;> exact List.mem_of_getElem? h
