/-! The law's walk out of the law as a function of the heap. -/
theorem stand_drop {p : Program} {l : Launch} {e : Env} {R : Room} {s : State} {m : MethodId} {args : Array Value} {below : List Frame} {meth : Method} {c : Code} {T : State} {locs : List Loc} {cells slots : Nat} (X : Stand p l e R s m args below meth c T locs cells slots) (h : ∀ z ∈ locs, s.heap.size ≤ z.base) : Stand p l e R s m args below meth c T [] cells slots := by
  obtain ⟨h1, h2, h3, h4, h5, h6⟩ := X.same
  exact { X with same := ⟨h1, h2, h3, h4, h5, fun a c9 h9 => by
    obtain ⟨c', e1, e2, e3, e4⟩ := h6 a c9 h9
    refine ⟨c', e1, e2, e3, fun i _ => e4 i fun hm => ?_⟩
    have := h _ hm
    have h8 := (Array.getElem?_eq_some_iff.mp h9).1
    exact absurd h8 (Nat.not_lt.mpr this)⟩ }
def g0H (b e n : Nat) (l : List Int32) : HP := ((fun q => if q = b then 25 else if q = e then 24 else 0), (fun _ _ => 0), (fun _ _ => none), (fun q => if q = b then l else []), (fun _ => []), n, 0, 0)
theorem tg_g0H (b e n : Nat) (l : List Int32) (q : Nat) : tg (g0H b e n l) q = if q = b then 25 else if q = e then 24 else 0 := rfl
/-- the law, on every script, answers true, and its room suffices -/
def LawTrue : Prop := ∀ (b e n : Nat) (l : List Int32), l.length ≤ 260 → b < n → e < n → b ≠ e → ∃ g', f_L_law (some b) (g0H b e n l) = some (1, g') ∧ cu g' ≤ n + 12160 ∧ sl g' ≤ 417000
theorem g0_tag {b e n : Nat} {l : List Int32} {q : Nat} : (tg (g0H b e n l) q = 25 ∧ q = b) ∨ (tg (g0H b e n l) q = 24 ∧ q = e) ∨ tg (g0H b e n l) q = 0 := by
  rw [tg_g0H]
  by_cases h : q = b
  · rw [if_pos h]; exact Or.inl ⟨rfl, h⟩
  · rw [if_neg h]
    by_cases h2 : q = e
    · rw [if_pos h2]; exact Or.inr (Or.inl ⟨rfl, h2⟩)
    · rw [if_neg h2]; exact Or.inr (Or.inr rfl)
theorem g0_pic {κ : KK} {H : Heap} {b : Nat} {l : List Int32} {cb ce : Cell} (hb : H[b]? = some cb) (he : H[kE κ]? = some ce) (hne : b ≠ kE κ) (hz : kb κ = H.size) (lb : LkI κ 25 l cb) (le : LkO κ 24 [] ce) : Pi2 κ (g0H b (kE κ) H.size l) H := by
  have tb : tg (g0H b (kE κ) H.size l) b = 25 := by rw [tg_g0H, if_pos rfl]
  have te : tg (g0H b (kE κ) H.size l) (kE κ) = 24 := by rw [tg_g0H, if_neg hne.symm, if_pos rfl]
  have hb' := (Array.getElem?_eq_some_iff.mp hb).1
  have he' := (Array.getElem?_eq_some_iff.mp he).1
  refine ⟨g0H b (kE κ) H.size l, ⟨rfl, rfl, fun q => ?_, fun j q _ => ⟨rfl, rfl⟩, rfl, fun q _ => rfl, fun a ha => ?_, te, rfl, fun a ha => ?_⟩, ⟨rfl, fun x => ⟨fun ci h1 h2 => ?_, fun hi => ?_, fun hi => ?_⟩, fun q hq => ?_, fun q h1 h2 h3 => ?_⟩, Nat.le_of_eq hz⟩
  · rcases g0_tag (b := b) (e := kE κ) (n := H.size) (l := l) (q := q) with h | h | h
    · rw [h.1]; rfl
    · rw [h.1]; rfl
    · rw [h]; rfl
  · rcases g0_tag (b := b) (e := kE κ) (n := H.size) (l := l) (q := a) with h | h | h <;> omega
  · rcases g0_tag (b := b) (e := kE κ) (n := H.size) (l := l) (q := a) with h | h | h <;> omega
  · rcases g0_tag (b := b) (e := kE κ) (n := H.size) (l := l) (q := x) with h | h | h <;> omega
  · rcases g0_tag (b := b) (e := kE κ) (n := H.size) (l := l) (q := x) with h | h | h
    · obtain ⟨h1, rfl⟩ := h
      have e1 : ia (g0H x (kE κ) H.size l) x = l := if_pos rfl
      rw [h1, e1]
      exact ⟨cb, hb, lb⟩
    · unfold isI at hi; omega
    · unfold isI at hi; omega
  · rcases g0_tag (b := b) (e := kE κ) (n := H.size) (l := l) (q := x) with h | h | h
    · unfold isO at hi; omega
    · obtain ⟨h1, h2⟩ := h
      rw [h1, h2]
      exact ⟨ce, he, le⟩
    · unfold isO at hi; omega
  · show q < H.size
    rcases g0_tag (b := b) (e := kE κ) (n := H.size) (l := l) (q := q) with h | h | h
    · rw [h.2]; exact hb'
    · rw [h.2]; exact he'
    · exact absurd h hq
  · rcases g0_tag (b := b) (e := kE κ) (n := H.size) (l := l) (q := q) with h | h | h <;> omega
set_option maxRecDepth 100000 in
theorem entry_K {s : State} {b L : Nat} {xs : Nat → Int32} (hts : ∀ w ∈ lw_tbl, w.before #[Value.ref b] s = true) (hX : va_X b L xs s s.heap) (hgv : (Jvm.Cond.and given_1 narrow_1).before #[Value.ref b] s = true) :
    ∃ κ, kb κ = s.heap.size ∧ KX κ s s.heap ∧ Pi2 κ (g0H b (kE κ) s.heap.size ((List.range L).map xs)) s.heap ∧ b ≠ kE κ ∧ kE κ < s.heap.size := by
  have hs := flat_of_before _ hgv
  have n1 : (Cond.isRef (.mirror "[Ljava/lang/Object;")).before #[Value.ref b] s = true := hs _ (by decide +kernel)
  have n3 : (Cond.arrayOf dcT (.object "java/lang/Object")).before #[Value.ref b] s = true := hs _ (by decide +kernel)
  have n4 : (Cond.eq (.length dcT) (.int 0)).before #[Value.ref b] s = true := hs _ (by decide +kernel)
  have n5 : (Cond.isRef (.static Bundle.tN "UNASSIGNED_STACK" Bundle.steD)).before #[Value.ref b] s = true := hs _ (by decide +kernel)
  have n6 : (Cond.isRef (.static Bundle.tN "SUPPRESSED_SENTINEL" Bundle.listD)).before #[Value.ref b] s = true := hs _ (by decide +kernel)
  obtain ⟨mi, hmi⟩ := va_Mi.of n1
  obtain ⟨ea, ce, et, hce, ofe, kne, sze⟩ := e_empty n3 n4
  have hel := (Array.getElem?_eq_some_iff.mp hce).1
  have hg : ∀ w ∈ gtbl, w.before #[Value.ref b] s = true := fun w hw => hts w (List.mem_filter.mp hw).1
  obtain ⟨c20, a20, r20⟩ := e_arr (hg _ arr20)
  obtain ⟨c21, a21, r21⟩ := e_arr (hg _ arr21)
  obtain ⟨c22, a22, r22⟩ := e_arrO (hts _ (tblw (i := 179) rfl : Cond.arrayOver (.object "java/lang/Object") ∈ lw_tbl))
  obtain ⟨c23, a23, r23⟩ := e_arrA (hts _ (tblw (i := 1058) rfl : Cond.arrayOver (.array .int) ∈ lw_tbl))
  have hnA : ∀ a : Nat, a < s.heap.size → ¬ s.heap.size ≤ a := fun a h => Nat.not_le.mpr h
  have hZ : va_Z "java/util/ArrayList" "DEFAULTCAPACITY_EMPTY_ELEMENTDATA" "[Ljava/lang/Object;" (.ref ea) (fun q => s.heap.size ≤ q) s s.heap := va_Zref (hts _ (tblw (i := 47) rfl)) (hts _ (tblw (i := 4) rfl)) et hnA
  have hZ1 : vx_Zq Bundle.tN "UNASSIGNED_STACK" Bundle.steD (fun q => s.heap.size ≤ q) s s.heap := vx_Zqof (hts _ (tblw (i := 305) rfl)) (hts _ (tblw (i := 16) rfl)) n5 hnA
  have hZ2 : vx_Zq Bundle.tN "SUPPRESSED_SENTINEL" Bundle.listD (fun q => s.heap.size ≤ q) s s.heap := vx_Zqof (hts _ (tblw (i := 307) rfl)) (hts _ (tblw (i := 16) rfl)) n6 hnA
  obtain ⟨cb, hcb, ofb, knb, szb, rdb⟩ := hX
  have hbe : b ≠ ea := fun z => by
    rw [z, hce] at hcb
    cases hcb
    obtain ⟨-, k1, q1, q2, q3⟩ := ofb
    obtain ⟨-, k2, p1, p2, p3⟩ := ofe
    rw [q1] at p1
    cases p1
    rw [q3] at p3
    cases p3
  let κ : KK := (s.heap.size, ((fun ci => Classical.choose (e_known hts ci)), (fun ci => Classical.choose (Classical.choose_spec (e_known hts ci)))), (fun t => if t = 20 then c20 else if t = 21 then c21 else if t = 22 then c22 else if t = 23 then c23 else if t = 25 then cb.cls else ce.cls), ea, mi)
  have arrT : ∀ {c : Cell} {ty : FieldType}, s.isArrayOf c ty → ArrOfT s c.cls ty := fun h n z => ⟨fun k' z => (by cases z), h.2⟩
  have hA25 : ArrOfT s (kA κ 25) .int := arrT ofb
  have hA24 : ArrOfT s (kA κ 24) (.object "java/lang/Object") := arrT ofe
  refine ⟨κ, rfl, ⟨⟨fun ci r h => Classical.choose_spec (Classical.choose_spec (e_known hts ci)) r h, fun k q h => ?_⟩, hmi, ⟨hZ, hZ1, hZ2, hA25, hA24⟩, hel, Nat.le_refl _, e_KN hts⟩, ?_, hbe, hel⟩
  · rcases (show k = 0 ∨ k = 1 ∨ k = 2 ∨ k = 3 ∨ 4 ≤ k by omega) with rfl | rfl | rfl | rfl | h4
    · cases h; exact ⟨a20, r20⟩
    · cases h; exact ⟨a21, r21⟩
    · cases h; exact ⟨a22, r22⟩
    · cases h; exact ⟨a23, r23⟩
    · have : (tysK κ)[k]? = none := List.getElem?_eq_none h4
      rw [this] at h; cases h
  · refine g0_pic (κ := κ) hcb hce hbe rfl ⟨rfl, ?_, knb, ofb.1, fun h => absurd rfl h⟩ ⟨rfl, ?_, kne, ofe.1, fun h => absurd rfl h⟩
    · apply Array.ext_getElem?
      intro i
      by_cases hi : i < L
      · rw [rdb i hi, cellI_read _ (by rw [List.length_map, List.length_range]; exact hi), List.getD_eq_getElem?_getD, List.getElem?_map, List.getElem?_range hi]; rfl
      · rw [Array.getElem?_eq_none (by omega), Array.getElem?_eq_none (by rw [cellI_size, List.length_map, List.length_range]; omega)]
    · have h1 : ce.slots = #[] := Array.eq_empty_of_size_eq_zero sze
      have h2 : (cellO (arC κ 24) []).slots = #[] := Array.eq_empty_of_size_eq_zero (cellO_size _ _)
      rw [h1, h2]
theorem whole_of (hlaw : LawTrue) {p : Program} {e : Env} {s : State} {m : MethodId} {below : List Frame} {meth : Method} {c : Code} (l : Launch) (hflags : l.flags = flags0) {b L : Nat} {xs : Nat → Int32} (hL : L ≤ 260) (C0 : lw_At p s m meth c b L xs) : W p l e room_1 s m #[Value.ref b] below meth c s.heap [] 0 0 (lw_Z below #[Value.ref b] s) (entryFrame m ([Value.ref b] : List Value).toArray 19) := by
  obtain ⟨hx, hb, hr, hml, hown, hts, hX, hbl, hlocks, hgv⟩ := C0
  obtain ⟨κ, k1, k2, k3, k4, k5⟩ := entry_K hts hX hgv
  have hg : ∀ w ∈ gtbl, w.before #[Value.ref b] s = true := fun w hw => hts w (List.mem_filter.mp hw).1
  have hst : l.stackTraces = false := by unfold Launch.stackTraces; rw [hflags]; decide
  obtain ⟨g', f1, f2, f3⟩ := hlaw b (kE κ) s.heap.size ((List.range L).map xs) (by rw [List.length_map, List.length_range]; exact hL) hbl k5 k4
  have hrk : 12160 ≤ room_1.cells := Nat.le_of_ble_eq_true rfl
  have hrn : 417000 ≤ room_1.slots := Nat.le_of_ble_eq_true rfl
  replace f2 : cu g' ≤ s.heap.size + room_1.cells := by omega
  replace f3 : sl g' ≤ room_1.slots := by omega
  have hl := lv_entry ([vR (some b)].map vv) (n := 19) (by rw [lg_len]; exact Nat.le_of_ble_eq_true rfl)
  rw [lg_entry_eq]
  generalize hls : (lg_sl ([Value.ref b]) ++ List.replicate (19 - (lg_sl [Value.ref b]).length) Slot.unset).toArray = ls at ⊢
  have hl2 : lv_has ls 19 (lvv [(0, vR (some b))]) := by
    rw [← hls]
    exact hl
  have hd0 := Drawn.sameBut.refl s.drawn lw_cs
  have cg : cu (g0H b (kE κ) s.heap.size ((List.range L).map xs)) = s.heap.size := by show 0 + s.heap.size = _; omega
  have sg : sl (g0H b (kE κ) s.heap.size ((List.range L).map xs)) = 0 := rfl
  have CC : CX (p, l, e, room_1, s, m, #[Value.ref b], below, meth, c, κ, Pi2 κ, lw_Z below #[Value.ref b] s, s.heap.size, 0, s.heap.size + room_1.cells, room_1.slots) cL_law 19 "BlockdutyLaw" Pi2 ok2 2048 84000 :=
    ⟨hx, hb, hml, hown, hg, k2, PO_Pi2 κ, hlocks, by show s.heap.size + room_1.cells - s.heap.size ≤ room_1.cells; omega, by show room_1.slots - 0 ≤ room_1.slots; omega, rfl, rfl, rfl⟩
  have Z : LE (p, l, e, room_1, s, m, #[Value.ref b], below, meth, c, κ, Pi2 κ, lw_Z below #[Value.ref b] s, s.heap.size, 0, s.heap.size + room_1.cells, room_1.slots) (1, g') := by
    refine ⟨f2, f3, fun L9 H locs ls9 A => ?_⟩
    have hlo := A.lo
    have hn0 := A.n0
    unfold WG
    intro T hT X
    have X1 := stand_drop X (fun z hz => by have := hlo z hz; rw [show kb (gK (p, l, e, room_1, s, m, #[Value.ref b], below, meth, c, κ, Pi2 κ, lw_Z below #[Value.ref b] s, s.heap.size, 0, s.heap.size + room_1.cells, room_1.slots)) = s.heap.size from k1] at this; exact this)
    have f2' : cu g' - s.heap.size ≤ room_1.cells := by omega
    have X2 := stand_widen (k := room_1.cells) (n := room_1.slots) X1 f2' f3
    exact lw_ret (d0 := s.drawn) hd0 hx hb hr hlocks dL_law_1070 T hT X2
  obtain ⟨-, -, b3⟩ := k_L_law CC hst Z (some b) _ f1
  have := b3 s.heap [] ls ⟨Nat.le_of_eq cg.symm, Nat.le_refl _, k3, fun _ _ => rfl, fun z hz => (by cases hz), by show lv_has ls c.maxLocals _; rw [hml]; exact hl2, Nat.le_refl _⟩
  unfold WG at this
  rw [show cu (g0H b (kE κ) s.heap.size ((List.range L).map xs)) - gn0 (p, l, e, room_1, s, m, #[Value.ref b], below, meth, c, κ, Pi2 κ, lw_Z below #[Value.ref b] s, s.heap.size, 0, s.heap.size + room_1.cells, room_1.slots) = 0 by rw [cg]; exact Nat.sub_self _, sg] at this
  exact this
