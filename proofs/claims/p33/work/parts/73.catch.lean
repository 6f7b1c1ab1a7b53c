/-! The rules: to throw, to call what throws and catch it, to call a method with a table. -/
section Throws
variable {Γ : GG} {cc : ByteArray} {nL : Nat} {own : String} {okb : Nat → Bool} {rf rl : Nat} {pc : Nat} {L : LL} {st rest : List VV} {g : HP} {φ : Prop}
theorem CX.ow_at (C : CX Γ cc nL "Blockduty" Pi2 okb rf rl) : ∀ w ∈ vx_atS "Blockduty" 107 iseN iseNames, w.before (gA Γ) (gS Γ) = true := by
  intro w hw
  obtain ⟨h1, h2⟩ := List.mem_filter.mp hw
  obtain ⟨h3, h4⟩ := ow_all w h1 h2
  rcases h3 with h3 | h3
  · exact C.hts w h3
  · have hk := C.kx.2.2.2.2.2.2.2.2.2.2.1 w h3
    refine va_tabs ?_ rfl hk
    unfold throwW at h3
    simp only [List.mem_cons, List.not_mem_nil, or_false] at h3
    rcases h3 with rfl | rfl | rfl | rfl <;> rfl
theorem ow_good : ∀ w ∈ Cond.classLink "Blockduty" 103 iseN :: Cond.initialized iseN :: vx_atS "Blockduty" 107 iseN iseNames, vx_ot w = true := by
  intro w hw
  rcases List.mem_cons.mp hw with rfl | hw
  · rfl
  · rcases List.mem_cons.mp hw with rfl | hw
    · rfl
    · obtain ⟨h1, h2⟩ := List.mem_filter.mp hw
      exact (ow_all w h1 h2).2
theorem CX.castE (C : CX Γ cc nL own Pi2 okb rf rl) : (Cond.castable iseN iseN).before (gA Γ) (gS Γ) = true :=
  va_tabs rfl rfl (C.kx.2.2.2.2.2.2.2.2.2.2.1 _ (List.mem_of_getElem? (i := 0) rfl))
theorem thr_core (C : CX Γ cc nL "Blockduty" Pi2 okb rf rl) {fin : HP} (Z : RTX Γ Pi2 fin) (hφ : φ → fin = g)
    (hw : ∀ (H : Heap) (locs : List Loc) (ls : Array Slot), At1 Γ L g H locs ls → gPi Γ g H → va_S (fun q => kb (gK Γ) ≤ q) (gS Γ).heap H locs → ls.size = (gC Γ).maxLocals →
      (∀ t : State, (gS Γ).vm.Alike t.vm → (gS Γ).WarmedH t.vm → t.heap.size = H.size + 1 → (∀ q : Nat, q < H.size → t.heap[q]? = H[q]?) → XCM (gK Γ) (Pi2 (gK Γ)) (bump g 1 6 0) iseN (gS Γ) t) → cu g + 1 ≤ gtn Γ → sl g + 6 ≤ gts Γ → gn0 Γ ≤ cu g → gs0 Γ ≤ sl g →
      W (gP Γ) (gL Γ) (gE Γ) (gR Γ) (gS Γ) (gM Γ) (gA Γ) (gB Γ) (gMe Γ) (gC Γ) H locs (cu g - gn0 Γ) (sl g - gs0 Γ) (vx_MQ (gB Γ) NoQ (XCM (gK Γ) (Pi2 (gK Γ)) (bump g 1 6 0)) (gA Γ) (gS Γ) (gtn Γ - gn0 Γ) (gts Γ - gs0 Γ) (fun q => kb (gK Γ) ≤ q)) (F0 (gM Γ) pc ls (st.map vv))) :
    X Γ pc L st g φ := fun h => by
  have e := hφ h
  subst e
  obtain ⟨z1, z2, z3, z4, z5⟩ := Z
  have ec : cu (bump fin 1 6 0) = cu fin + 1 := by show ex fin + 0 + (nx fin + 1) = ex fin + nx fin + 1; omega
  have es : sl (bump fin 1 6 0) = sl fin + 6 := rfl
  refine ⟨by omega, by omega, fun H locs ls A => ?_⟩
  unfold WG
  rw [z1]
  have hz := (C.po.sz A.pic).1
  have hkb := (C.po.sz A.pic).2
  refine hw H locs ls A A.pic ⟨A.hs, fun q h1 h2 => A.fr q (Nat.lt_of_not_le h2), fun z hz => A.lo z hz⟩ A.lv.1 (fun t hA hW hsz hk => ?_) (by omega) (by omega) A.n0 A.s0
  have hk2 : ∀ q, q < kb (gK Γ) → t.heap[q]? = (gS Γ).heap[q]? := fun q hq => by rw [hk q (by omega)]; exact A.fr q hq
  refine ⟨rfl, C.kx.at rfl hW hk2 (by omega), ?_, hk2, by have := A.hs; omega⟩
  have hP : Pi2 (gK Γ) fin H := by have := A.pic; rw [C.pp] at this; exact this
  exact Pi2_bump hP hsz hk
theorem z_thr (C : CX Γ cc nL "Blockduty" Pi2 okb rf rl) {fin : HP} (Z : RTX Γ Pi2 fin) {is : Nat} {tx : String} (hs : (is, tx) ∈ strW) (hrf : 6 ≤ rf) (hrl : 90 ≤ rl) (hlen : (st.map vc).sum ≤ 8)
    (d0 : decode cc pc = .ok (.new 103, 3)) (d3 : decode cc (pc + 3) = .ok (.dup, 1)) (d4 : decode cc (pc + 4) = .ok (.ldc is, 2)) (d6 : decode cc (pc + 6) = .ok (.invokespecial 107, 3)) (d9 : decode cc (pc + 9) = .ok (.athrow, 1)) (hφ : φ → fin = g) : X Γ pc L st g φ := by
  refine thr_core C Z hφ fun H locs ls A hP hS hz hx h1 h2 h3 h4 => ?_
  obtain ⟨sa, hsa⟩ := C.kx.2.2.2.2.2.2.2.2.2.2.2 _ hs
  have hrc := C.rc
  have hrs := C.rs
  refine vx_throwS C.exec C.code Z.2.2.2.2 C.ow (by decide) (fun n hn => ?_) (C.hts _ kx369) (C.hts _ kx21) hsa C.ow_at ow_good C.kx.2.2.1.2.1 C.kx.2.2.1.2.2.1 hS hz d0 d3 d4 d6 d9 (fun x hx => (Z.2.2.2.1 x hx).elim) ?_ ?_ (by omega) (by omega) C.locks hx A.lo (by omega) (by omega)
  · unfold iseNames at hn
    simp only [List.mem_cons, List.not_mem_nil, or_false] at hn
    rcases hn with rfl | rfl <;> decide
  · rw [C.hrf]; exact hrf
  · rw [C.hrl, cat_sum]
    show _ + (13 * 3 + 43) ≤ _
    omega
theorem z_thrw (C : CX Γ cc nL "Blockduty" Pi2 okb rf rl) {fin : HP} (Z : RTX Γ Pi2 fin) {is : Nat} {tx : String} (hs : (is, tx) ∈ strW) (hrf : 6 ≤ rf) (hrl : 90 ≤ rl) (hlen : (st.map vc).sum ≤ 8)
    (d0 : decode cc pc = .ok (.new 103, 3)) (d3 : decode cc (pc + 3) = .ok (.dup, 1)) (d4 : decode cc (pc + 4) = .ok (.ldc_w is, 3)) (d7 : decode cc (pc + 7) = .ok (.invokespecial 107, 3)) (d10 : decode cc (pc + 10) = .ok (.athrow, 1)) (hφ : φ → fin = g) : X Γ pc L st g φ := by
  refine thr_core C Z hφ fun H locs ls A hP hS hz hx h1 h2 h3 h4 => ?_
  obtain ⟨sa, hsa⟩ := C.kx.2.2.2.2.2.2.2.2.2.2.2 _ hs
  have hrc := C.rc
  have hrs := C.rs
  refine vx_throwSW C.exec C.code Z.2.2.2.2 C.ow (by decide) (fun n hn => ?_) (C.hts _ kx369) (C.hts _ kx21) hsa C.ow_at ow_good C.kx.2.2.1.2.1 C.kx.2.2.1.2.2.1 hS hz d0 d3 d4 d7 d10 (fun x hx => (Z.2.2.2.1 x hx).elim) ?_ ?_ (by omega) (by omega) C.locks hx A.lo (by omega) (by omega)
  · unfold iseNames at hn
    simp only [List.mem_cons, List.not_mem_nil, or_false] at hn
    rcases hn with rfl | rfl <;> decide
  · rw [C.hrf]; exact hrf
  · rw [C.hrl, cat_sum]
    show _ + (13 * 3 + 43) ≤ _
    omega
end Throws
/-- a call that answers or throws -/
def tryG {α β : Type} (o : Option α) (x : Option HP) (k1 : α → Option β) (k2 : HP → Option β) : Option β := match o with
  | some a => k1 a
  | none => x.bind fun h => k2 (bump h 1 6 0)
section Catch
variable {Γ : GG} {cc : ByteArray} {nL : Nat} {own : String} {okb : Nat → Bool} {rf rl : Nat} {pc : Nat} {L : LL} {st rest : List VV} {g : HP} {φ : Prop}
variable {y : MethodName} {cc' : ByteArray} {nL' F Lw F' Lw' n index : Nat} {ret : Option FieldType} {As : List VV} {b : Nat}
theorem z_catch (C : CX Γ cc nL own Pi2 okb rf rl) {ci N : Nat} {T : u_T} {ty : Nat → FieldType} (hcf : CF ci y.cls T N ty) (hm : MF y cc' nL' ret n) (hin : Cond.instanceMethod y ∈ gtbl) (hsel : Cond.selects y.cls y y ∈ gtbl) (hlink : Cond.methodLink own index y ∈ gtbl)
    {x : Option HP} (hM : TA (gL Γ) (gK Γ) Pi2 y cc' nL' ret F Lw (vR (some b) :: As) g x) (ht : tg g b = ci + 1) (hn : As.length = n) (hR : F + 1 ≤ rf ∧ 8 + (nL' + 11) + Lw ≤ rl) (hst : st = As.reverse ++ vR (some b) :: rest) (hW : (rest.map vc).sum ≤ 8) (hdg : decode cc pc = .ok (.invokevirtual index, 3))
    {pre suf : List ExceptionTableEntry} {z : ExceptionTableEntry} (hsplit : (gC Γ).exceptionTable.toList = pre ++ z :: suf) (hpre : ∀ z ∈ pre, covers z pc = false) (hcov : covers z pc = true) (h0 : z.catchType ≠ 0) (hcl : Cond.classLink own z.catchType iseN ∈ gtbl)
    {h : HP} (hx : φ → x = some h) (kk : ∀ q, X Γ z.handlerPc L [vR (some q)] (bump h 1 6 0) φ) : X Γ pc L st g φ := fun hφ => by
  obtain ⟨m1, m2, m3⟩ := hM h (hx hφ)
  obtain ⟨b1, b2, -⟩ := kk 0 hφ
  refine ⟨Nat.le_trans m1 b1, Nat.le_trans m2 b2, fun H locs ls A => ?_⟩
  obtain ⟨cell, h1, h2, h3⟩ := C.po.recv A.pic ht hcf.2.2.2.2.1
  have hca := (C.kx.1.1 ci _ hcf.1).2
  have hkb := (C.po.sz A.pic).2
  have hz := (C.po.sz A.pic).1
  have a1 := A.n0
  have a2 := A.s0
  have hrc := C.rc
  have hrs := C.rs
  have hP : Pi2 (gK Γ) g H := by have := A.pic; rw [C.pp] at this; exact this
  generalize hg1 : bump h 1 6 0 = g1 at *
  have hrun := vx_runV (g := F0 (gM Γ) pc ls (st.map vv)) (As := As.map vv) (rest := rest.map vv) C.fix m3 (cwV (mc := cu g1 - cu g) (ms := sl g1 - sl g) (index := index) (maxL := nL') (ret := ret) n C.hts (gtbl_in fun w hw => by
      unfold wsV at hw
      simp only [List.mem_append, List.mem_cons, List.not_mem_nil, or_false] at hw
      rcases hw with (rfl | rfl | rfl | rfl) | rfl | hw
      · exact hlink
      · exact hin
      · exact hsel
      · exact hm.2.1
      · exact hm.1
      · exact hw) rfl rfl rfl ⟨rfl, hm.2.2.1⟩ (by rw [C.hrf, C.hrl]; exact hR)) (⟨PcM_blind _ _ _ _, ⟨cell, h1, h2, by rw [h3]; exact hca.1⟩, fun U hU hW => ⟨rfl, C.kx.at hU hW A.fr (by rw [hz]; exact hkb), by rw [hU]; exact hP⟩⟩ : PreV (gS Γ) H y.cls b (PcM (gK Γ) (Pi2 (gK Γ)) (vR (some b) :: As) g) (As.map vv)) (R := gR Γ) (cells := cu g - gn0 Γ) (slots := sl g - gs0 Γ) (locs := locs) (p := gP Γ) (e := gE Γ) (below := gB Γ) (meth := gMe Γ) rfl (by rw [List.length_map]; exact hn) (by show ls.size = nL; rw [A.lv.1]; exact C.ml) (by show st.map vv = _; rw [hst, map_app_rev]; rfl) (by show 2 * 0 + _ ≤ 8; rw [cat_sum]; omega) hdg (by constructor <;> omega)
  intro T hT X0
  rcases hrun T hT X0 with ⟨v, st₀, t, T', Lc, e0, X', hLc, eh, ev, hq, -⟩ | ⟨q, st₀, t, T', Lc, E, ce, e0, X', hLc, eh, ev, ⟨x1, x2, x3, x4, x5⟩, hce, hcv, hcl9, hgo⟩
  · exact hq.elim
  · subst x1
    have ec : cu g - gn0 Γ + (cu g1 - cu g) = cu g1 - gn0 Γ := by omega
    have es : sl g - gs0 Γ + (sl g1 - sl g) = sl g1 - gs0 Γ := by omega
    rw [ec, es] at X'
    have hA : At1 Γ L g1 T'.heap (locs ++ Lc) ls := by
      refine ⟨Nat.le_trans a1 m1, Nat.le_trans a2 m2, by rw [C.pp, eh]; exact x3, fun q hq => ?_, fun z hz => ?_, A.lv, by rw [eh]; exact Nat.le_trans A.hs (by rw [← e0]; exact x5)⟩
      · rw [eh, x4 q hq, e0]; exact A.fr q hq
      · rcases List.mem_append.mp hz with hz | hz
        · exact A.lo z hz
        · exact hLc z hz
    have hk := (kk q hφ).2.2 T'.heap (locs ++ Lc) ls hA
    have hcat := vx_catch (rest := rest.map vv) (pc := pc) (ls := ls) C.ow pre z suf hsplit (fun z hz => Or.inl (hpre z hz)) hcov h0 (C.hts _ hcl) C.castE (H := T'.heap) (by rw [eh]; exact hce) hcv hcl9 hk
    obtain ⟨t2, s1, s2⟩ := hcat T' rfl X'
    exact ⟨t2, hgo.trans s1, s2⟩
theorem z_try (C : CX Γ cc nL own Pi2 okb rf rl) {ci N : Nat} {T : u_T} {ty : Nat → FieldType} (hcf : CF ci y.cls T N ty) (hm : MF y cc' nL' ret n) (hin : Cond.instanceMethod y ∈ gtbl) (hsel : Cond.selects y.cls y y ∈ gtbl) (hlink : Cond.methodLink own index y ∈ gtbl)
    {o : Option (Int32 × HP)} {x : Option HP} (hM : MA (gL Γ) (gK Γ) Pi2 y cc' nL' ret F Lw (vR (some b) :: As) g (wIg o)) (hT : TA (gL Γ) (gK Γ) Pi2 y cc' nL' ret F' Lw' (vR (some b) :: As) g x) (ht : tg g b = ci + 1) (hn : As.length = n) (hR : F + 1 ≤ rf ∧ 8 + (nL' + 11) + Lw ≤ rl) (hR' : F' + 1 ≤ rf ∧ 8 + (nL' + 11) + Lw' ≤ rl) (hst : st = As.reverse ++ vR (some b) :: rest) (hW : (rest.map vc).sum ≤ 8) (hdg : decode cc pc = .ok (.invokevirtual index, 3))
    {pre suf : List ExceptionTableEntry} {z : ExceptionTableEntry} (hsplit : (gC Γ).exceptionTable.toList = pre ++ z :: suf) (hpre : ∀ z ∈ pre, covers z pc = false) (hcov : covers z pc = true) (h0 : z.catchType ≠ 0) (hcl : Cond.classLink own z.catchType iseN ∈ gtbl)
    {β : Type} {k1 : Int32 × HP → Option β} {k2 : HP → Option β} {v0 : β} (kk1 : ∀ r, X Γ (pc + 3) L (vI r.1 :: rest) r.2 (k1 r = some v0)) (kk2 : ∀ g1 q, X Γ z.handlerPc L [vR (some q)] g1 (k2 g1 = some v0)) : X Γ pc L st g (tryG o x k1 k2 = some v0) := by
  cases o with
  | some r =>
    refine z_callV C hcf hm hin hsel hlink hM ht hn hR hst hW hdg (φ' := fun r' => r' = (some (vI r.1), r.2) ∧ k1 r = some v0) (fun h => ⟨_, rfl, rfl, h⟩) fun r' => ?_
    intro hr
    obtain ⟨rfl, hr2⟩ := hr
    exact kk1 r hr2
  | none =>
    cases x with
    | none => exact fun h => by cases h
    | some h =>
      exact z_catch C hcf hm hin hsel hlink hT ht hn hR' hst hW hdg hsplit hpre hcov h0 hcl (h := h) (fun _ => rfl) (fun q => kk2 (bump h 1 6 0) q)
end Catch
