/-! The law's entry: what is known there. -/
theorem tblw {w : Cond} {i : Nat} (h : tables_1[i]? = some w) : w ∈ lw_tbl := List.mem_append.mpr (Or.inr (List.mem_of_getElem? h))
def insI (ci : Nat) : Nat := [35, 521, 489, 90, 190, 996, 105, 74, 403, 61, 27].getD ci 0
set_option maxRecDepth 100000 in
theorem e_known {s : State} {args : Array Value} (hts : ∀ w ∈ lw_tbl, w.before args s = true) (ci : Nat) : ∃ (cC : ClassId) (iS : Nat → Nat), ∀ r : vw_C, vwCl[ci]? = some r → u_Kn s r.1 r.2.1 r.2.2 cC iS := by
  have hg : ∀ w ∈ gtbl, w.before args s = true := fun w hw => hts w (List.mem_filter.mp hw).1
  have key : ∀ {C : String} {T : u_T} {N n : Nat}, (∀ w ∈ u_ws C T N, w ∈ gtbl) → Cond.instantiable C n ∈ lw_tbl → vwCl[ci]? = some (C, T, N) → ∃ (cC : ClassId) (iS : Nat → Nat), ∀ r : vw_C, vwCl[ci]? = some r → u_Kn s r.1 r.2.1 r.2.2 cC iS := fun hin hi hr => by
    obtain ⟨cC, iS, h⟩ := u_known hg hin (hts _ hi)
    exact ⟨cC, iS, fun r h' => by rw [hr] at h'; cases h'; exact h⟩
  by_cases hci : ci < 11
  · rcases (show ci = 0 ∨ ci = 1 ∨ ci = 2 ∨ ci = 3 ∨ ci = 4 ∨ ci = 5 ∨ ci = 6 ∨ ci = 7 ∨ ci = 8 ∨ ci = 9 ∨ ci = 10 by omega) with rfl | rfl | rfl | rfl | rfl | rfl | rfl | rfl | rfl | rfl | rfl
    · exact key uw0 (n := 3) (tblw (i := 35) rfl) rfl
    · exact key uw1 (n := 5) (tblw (i := 521) rfl) rfl
    · exact key uw2 (n := 3) (tblw (i := 489) rfl) rfl
    · exact key uw3 (n := 2) (tblw (i := 90) rfl) rfl
    · exact key uw4 (n := 3) (tblw (i := 190) rfl) rfl
    · exact key uw5 (n := 6) (tblw (i := 996) rfl) rfl
    · exact key uw6 (n := 4) (tblw (i := 105) rfl) rfl
    · exact key uw7 (n := 1) (tblw (i := 74) rfl) rfl
    · exact key uw8 (n := 12) (tblw (i := 403) rfl) rfl
    · exact key uw9 (n := 2) (tblw (i := 61) rfl) rfl
    · exact key uw10 (n := 14) (tblw (i := 27) rfl) rfl
  · exact ⟨0, fun _ => 0, fun r h => by
      have : vwCl[ci]? = none := List.getElem?_eq_none (by show 11 ≤ ci; omega)
      rw [this] at h; cases h⟩
theorem e_arr {s : State} {args : Array Value} {ty : FieldType} (h : (Cond.arrayClass ty).before args s = true) : ∃ c, ArrOfT s c ty ∧ s.vm.findClass ("[" ++ ty.toString) = some c := by
  obtain ⟨c, k, comp, h1, h2, h3⟩ := Cond.arrayClass_spec h
  exact ⟨c, fun n z => ⟨fun k' z => (by cases z), k, h2, comp, h3⟩, h1⟩
theorem e_arrO {s : State} {args : Array Value} (h : (Cond.arrayOver (.object "java/lang/Object")).before args s = true) : ∃ c, ArrOfT s c (.object "java/lang/Object") ∧ va_RA s c (.object "java/lang/Object") := by
  obtain ⟨comp, c, k, h1, h2, h3, h4, h5⟩ := Cond.arrayOver_spec h
  exact ⟨c, fun n z => ⟨fun k' z => (by cases z), k, h3, comp, h4⟩, k, comp, h3, h4, h1, h5⟩
theorem e_arrA {s : State} {args : Array Value} (h : (Cond.arrayOver (.array .int)).before args s = true) : ∃ c, ArrOfT s c (.array .int) ∧ va_RA s c (.array .int) := by
  obtain ⟨comp, c, k, h1, h2, h3, h4, h5⟩ := arrayOverA_spec h
  exact ⟨c, fun n z => ⟨fun k' z => (by cases z), k, h3, comp, h4⟩, h5⟩
set_option maxRecDepth 100000 in
theorem e_KS {s : State} {args : Array Value} (hts : ∀ w ∈ lw_tbl, w.before args s = true) : KS s := by
  refine ⟨fun w hw => ?_, fun x hx => ?_⟩
  · unfold throwW at hw
    simp only [List.mem_cons, List.not_mem_nil, or_false] at hw
    rcases hw with rfl | rfl | rfl | rfl
    · exact va_tabs rfl rfl (hts _ (tblw (i := 371) rfl))
    · exact va_tabs rfl rfl (hts _ (tblw (i := 282) rfl))
    · exact va_tabs rfl rfl (hts _ (tblw (i := 284) rfl))
    · exact va_tabs rfl rfl (hts _ (tblw (i := 286) rfl))
  · have hc := hts _ (tblw (i := 27) rfl : Cond.instantiable "Blockduty" 14 ∈ lw_tbl)
    obtain ⟨cC, kC, hfc, -⟩ := Cond.instantiable_spec hc
    have key : ∀ {k : Nat} {tx : String}, Cond.stringRef "Blockduty" k tx ∈ lw_tbl → ∃ a, vk_R "Blockduty" k tx a s := fun h => by
      have h1 : (Cond.stringRef "Blockduty" _ _).before #[] s = true := hts _ h
      obtain ⟨-, -, -, sa, -, -, -, -, -, hev⟩ := Cond.stringRef_spec hfc h1
      exact ⟨sa, h1, hev⟩
    unfold strW at hx
    simp only [List.mem_cons, List.not_mem_nil, or_false] at hx
    rcases hx with rfl | rfl | rfl | rfl
    · exact key (tblw (i := 946) rfl)
    · exact key (tblw (i := 955) rfl)
    · exact key (tblw (i := 986) rfl)
    · exact key (tblw (i := 1044) rfl)
set_option maxRecDepth 100000 in
theorem e_KN {s : State} {args : Array Value} (hts : ∀ w ∈ lw_tbl, w.before args s = true) : KN s := by
  refine ⟨fun ci r h => ?_, hts _ (tblw (i := 179) rfl), va_Dc.of (hts _ (tblw (i := 1079) rfl)), fun w hw => ?_, hts _ (tblw (i := 1058) rfl), e_KS hts⟩
  · by_cases hci : ci < 11
    · rcases (show ci = 0 ∨ ci = 1 ∨ ci = 2 ∨ ci = 3 ∨ ci = 4 ∨ ci = 5 ∨ ci = 6 ∨ ci = 7 ∨ ci = 8 ∨ ci = 9 ∨ ci = 10 by omega) with rfl | rfl | rfl | rfl | rfl | rfl | rfl | rfl | rfl | rfl | rfl <;> cases h
      · exact va_tabs rfl rfl (hts _ (tblw (i := 1062) rfl))
      · exact va_tabs rfl rfl (hts _ (tblw (i := 1073) rfl))
      · exact va_tabs rfl rfl (hts _ (tblw (i := 1072) rfl))
      · exact va_tabs rfl rfl (hts _ (tblw (i := 1065) rfl))
      · exact va_tabs rfl rfl (hts _ (tblw (i := 1067) rfl))
      · exact va_tabs rfl rfl (hts _ (tblw (i := 1074) rfl))
      · exact va_tabs rfl rfl (hts _ (tblw (i := 1066) rfl))
      · exact va_tabs rfl rfl (hts _ (tblw (i := 1064) rfl))
      · exact va_tabs rfl rfl (hts _ (tblw (i := 1071) rfl))
      · exact va_tabs rfl rfl (hts _ (tblw (i := 1063) rfl))
      · exact va_tabs rfl rfl (hts _ (tblw (i := 1061) rfl))
    · have : vwCl[ci]? = none := List.getElem?_eq_none (by show 11 ≤ ci; omega)
      rw [this] at h; cases h
  · unfold nestW at hw
    simp only [List.mem_cons, List.not_mem_nil, or_false] at hw
    rcases hw with rfl | rfl | rfl | rfl
    · exact va_tabs rfl rfl (hts _ (tblw (i := 62) rfl))
    · exact va_tabs rfl rfl (hts _ (tblw (i := 75) rfl))
    · exact va_tabs rfl rfl (hts _ (tblw (i := 91) rfl))
    · exact va_tabs rfl rfl (hts _ (tblw (i := 527) rfl))
/-- the JDK's empty array -/
abbrev dcT : Term := .static "java/util/ArrayList" "DEFAULTCAPACITY_EMPTY_ELEMENTDATA" "[Ljava/lang/Object;"
theorem e_empty {s : State} {args : Array Value} (harr : (Cond.arrayOf dcT (.object "java/lang/Object")).before args s = true) (hlen : (Cond.eq (.length dcT) (.int 0)).before args s = true) :
    ∃ (t : Nat) (c : Cell), dcT.eval args s none [] s = some (.ref t) ∧ s.heap[t]? = some c ∧ s.isArrayOf c (.object "java/lang/Object") ∧ c.vm ≠ .unknown ∧ c.slots.size = 0 := by
  have he := va_eqt hlen
  obtain ⟨t, cell, ht, hat, hv⟩ := Term.length_spec he
  obtain ⟨hcell, hkn, -, -⟩ := State.arrayAt?_spec hat
  obtain ⟨hof, -⟩ := Cond.arrayOf_spec harr ht hcell
  refine ⟨t, cell, ht, hcell, hof, hkn, ?_⟩
  by_cases h : cell.slots.size < 2 ^ 31
  · have h1 : (0 : Int32) = cell.slots.size.toInt32 := Value.int.inj hv
    have h2 : (Int32.ofNat cell.slots.size).toNatClampNeg = cell.slots.size := Int32.toNatClampNeg_ofNat_of_lt h
    have h3 : Int32.ofNat cell.slots.size = 0 := h1.symm
    rw [h3] at h2
    exact h2.symm
  · exfalso
    have : (Term.length dcT).eval args s none [] s = none := by
      have e : (Term.length dcT).eval args s none [] s = (do
        let .ref a ← dcT.eval args s none [] s | none
        let n := (← s.arrayAt? a).slots.size
        if n < 2 ^ 31 then pure (.int n.toInt32) else none) := rfl
      rw [e, ht]
      show (do
        let n := (← s.arrayAt? t).slots.size
        if n < 2 ^ 31 then pure (.int n.toInt32) else none : Option Value) = none
      rw [hat]
      exact if_neg h
    rw [this] at he
    cases he
