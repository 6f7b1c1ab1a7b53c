/-! The two trial rows: what they are filled with, and what a swap would be. -/
theorem loop_askG {β γ : Type} {Z : Nat → Nat} {c : HP} {l : List Nat} {F : Nat → β → Int32 → HP → Option γ} {mk : β → HP → γ} {step : β → Nat → β} {s : Nat} (hend : ∀ m a g, Sim Z g c → F (m + 1) a (Int32.ofNat l.length) g = some (mk a g)) (hstep : ∀ m a i x g, s ≤ i → Sim Z g c → l[i]? = some x → ∃ g', F (m + 1) a (Int32.ofNat i) g = F m (step a x) (Int32.ofNat i + 1) g' ∧ Sim Z g' c ∧ Spd Z 0 0 g g') :
    ∀ (m i : Nat) (a : β) (g : HP), s ≤ i → l.length - i < m → i ≤ l.length → Sim Z g c → ∃ g', F m a (Int32.ofNat i) g = some (mk ((l.drop i).foldl step a) g') ∧ Sim Z g' c ∧ Spd Z 0 0 g g' := by
  intro m
  induction m with
  | zero => intro i a g hs hm; omega
  | succ m ih =>
    intro i a g hs hm hi S
    by_cases hc : i = l.length
    · rw [hc, hend m a g S, List.drop_eq_nil_of_le (Nat.le_refl _)]; exact ⟨g, rfl, S, Spd.rf⟩
    · have hlt : i < l.length := by omega
      obtain ⟨x, hx⟩ : ∃ x, l[i]? = some x := ⟨_, List.getElem?_eq_getElem hlt⟩
      obtain ⟨g1, h1, h2, h3⟩ := hstep m a i x g hs S hx
      obtain ⟨g2, k1, k2, k3⟩ := ih (i + 1) (step a x) g1 (by omega) (by omega) (by omega) h2
      rw [h1, show Int32.ofNat i + 1 = Int32.ofNat (i + 1) from nAdd i 1, drop_cons hx]
      exact ⟨g2, k1, k2, h3.tr k3⟩
theorem Ask.bind {α β : Type} {Z : Nat → Nat} {c : HP} {f : HP → Option (α × HP)} {K : α → HP → Option (β × HP)} {v : α} {u : β} (h1 : Ask Z c f v) (h2 : Ask Z c (K v) u) : Ask Z c (fun g => (f g).bind fun x => K x.1 x.2) u := fun g S => by
  obtain ⟨g1, a1, a2, a3⟩ := h1 g S
  obtain ⟨g2, b1, b2, b3⟩ := h2 g1 a2
  exact ⟨g2, by show (f g).bind _ = _; rw [a1, Option.bind_some]; exact b1, b2, a3.tr b3⟩
theorem Ask.of {α : Type} {Z : Nat → Nat} {c : HP} {f f' : HP → Option (α × HP)} {v : α} (h : Ask Z c f' v) (he : ∀ g, Sim Z g c → f g = f' g) : Ask Z c f v := fun g S => by
  obtain ⟨g1, a1, a2⟩ := h g S
  exact ⟨g1, (he g S).trans a1, a2⟩
def TrD (Z : Nat → Nat) (r b : Nat) : Prop := (r = Z 6 ∧ b = Z 1) ∨ (r = Z 7 ∧ b = Z 2)
section Trial
variable {Z : Nat → Nat} {g c : HP} {r b : Nat} {L : List Nat}
theorem TrD.ok (j : J Z c) (h : TrD Z r b) : tg c r = 8 ∧ fr c 112 r = some b ∧ rlA c r = b ∧ tg c b = 1 ∧ (b = Z 1 ∨ b = Z 2) := by
  obtain ⟨h6, h7, h112, h112', _, _, _, _, _, _, _, hz⟩ := j.gg
  rcases h with ⟨rfl, rfl⟩ | ⟨rfl, rfl⟩
  · exact ⟨h6, h112, by unfold rlA; rw [h112]; rfl, hz.1, Or.inl rfl⟩
  · exact ⟨h7, h112', by unfold rlA; rw [h112']; rfl, hz.2.1, Or.inr rfl⟩
/-- what is done to a trial row alone -/
def Tri (Z : Nat → Nat) (c : HP) (b : Nat) (g g' : HP) : Prop := Sim Z g' c ∧ Spd Z 0 0 g g' ∧ ∀ a, tg c a ≠ 0 → (∀ k, fi g' k a = fi g k a) ∧ (a ≠ b → oa g' a = oa g a)
theorem Tri.tr {g1 g2 : HP} (h1 : Tri Z c b g g1) (h2 : Tri Z c b g1 g2) : Tri Z c b g g2 :=
  ⟨h2.1, h1.2.1.tr h2.2.1, fun a ha => ⟨fun k => ((h2.2.2 a ha).1 k).trans ((h1.2.2 a ha).1 k), fun hb => ((h2.2.2 a ha).2 hb).trans ((h1.2.2 a ha).2 hb)⟩⟩
theorem Tri.rf (S : Sim Z g c) : Tri Z c b g g := ⟨S, Spd.rf, fun _ _ => ⟨fun _ => rfl, fun _ => rfl⟩⟩
theorem RowIs.tri {g' : HP} (h : RowIs g c r L) (T : Tri Z c b g g') (hb : rlA c r ≠ b) : RowIs g' c r L :=
  ⟨h.1, h.2.1, h.2.2.1, by rw [(T.2.2 _ (by rw [h.2.2.1]; decide)).2 hb]; exact h.2.2.2.1, h.2.2.2.2⟩
theorem tri_row (j : J Z c) (h : TrD Z r b) (ho : oa g b = L.map some) (hl : L.length ≤ 40) (hT : ∀ t ∈ L, IsT c t) : RowIs g c r L := by
  obtain ⟨h1, h2, h3, h4, h5⟩ := TrD.ok j h
  exact ⟨h1, by rw [h3]; exact h2, by rw [h3]; exact h4, by rw [h3]; exact ho, hl, hT⟩
theorem tri_clear (S : Sim Z g c) (j : J Z c) (h : TrD Z r b) : ∃ g', al_clear b g = some g' ∧ Tri Z c b g g' ∧ oa g' b = [] := by
  obtain ⟨h1, h2, h3, h4, h5⟩ := TrD.ok j h
  have hl : (oa g b).length ≤ 16 := by rcases h5 with rfl | rfl; exact S.2.2.2.2.2.1.1; exact S.2.2.2.2.2.2.1.1
  refine ⟨setO g b [], by unfold al_clear; rw [if_pos ⟨S.tag (n := 0) h4, by omega⟩], ⟨S.wT h5 (by simp), Spd.wO (S.tag (n := 0) h4), fun a ha => ⟨fun k => rfl, fun hb => by rw [oa_setO, if_neg hb]⟩⟩, by rw [oa_setO, if_pos rfl]⟩
theorem tri_add (S : Sim Z g c) (j : J Z c) (h : TrD Z r b) {t : Nat} (ht : tg c t = 9) (hl : (oa g b).length ≤ 15) : ∃ g', al_add b (some t) g = some (1, g') ∧ Tri Z c b g g' ∧ oa g' b = oa g b ++ [some t] := by
  obtain ⟨h1, h2, h3, h4, h5⟩ := TrD.ok j h
  obtain ⟨g', a1, a2, a3, a4, a5, a6⟩ := S.addT h5 (x := t) (by omega) (by omega) hl
  exact ⟨g', a1, ⟨a2, a3, fun a ha => ⟨fun k => a5 k a ha, a6 a ha⟩⟩, a4⟩
theorem tri_part (j : J Z c) (h : TrD Z r b) {r2 e : Nat} (he : e < 2147483648) : ∀ (m i : Nat) (g : HP), L.length - i < m → i ≤ L.length → i < 2147483648 → Sim Z g c → RowIs g c r2 L → rlA c r2 ≠ b → (oa g b).length + (L.length - i) ≤ 16 →
    ∃ g', f_X6_addPart_L7 r (some r2) (Int32.ofNat e) m (Int32.ofNat i) g = some g' ∧ Tri Z c b g g' ∧ oa g' b = oa g b ++ ((L.take e).drop i).map some := by
  intro m
  induction m with
  | zero => intro i g hm; omega
  | succ m ih =>
    intro i g hm hi hi2 S hR hne hroom
    obtain ⟨h1, h2, h3, h4, h5⟩ := TrD.ok j h
    have h40 := hR.le
    rw [f_X6_addPart_L7]
    by_cases hc : e ≤ i
    · rw [if_pos ((nLe he hi2).mpr hc), List.drop_eq_nil_of_le (by rw [List.length_take]; omega), List.map_nil, List.append_nil]
      exact ⟨g, rfl, Tri.rf S, rfl⟩
    · rw [if_neg (fun z => hc ((nLe he hi2).mp z)), hR.l S, Option.bind_some, hR.v S, Option.bind_some, hR.sz S, Option.bind_some]
      by_cases hc2 : L.length ≤ i
      · rw [if_pos ((nLe (by omega) hi2).mpr hc2), List.drop_eq_nil_of_le (by rw [List.length_take]; omega), List.map_nil, List.append_nil]
        exact ⟨g, rfl, Tri.rf S, rfl⟩
      · obtain ⟨x, hx⟩ : ∃ x, L[i]? = some x := ⟨_, List.getElem?_eq_getElem (by omega)⟩
        have ht := (hR.tr hx).1
        have er : gfR 7 0 (some r) g = some (some b) := by rw [S.rdR (ci := 7) h1 (by decide) (by decide) 0]; exact congrArg some h2
        obtain ⟨g1, a1, a2, a3⟩ := tri_add S j h ht (by omega)
        rw [if_neg (fun z => hc2 ((nLe (by omega) hi2).mp z)), er, Option.bind_some, Option.bind_some, hR.v S, Option.bind_some, hR.at S hx, Option.bind_some, S.cs (ci := 8) ht, Option.bind_some, S.rc (ci := 0) h4, Option.bind_some, a1, Option.bind_some, show Int32.ofNat i + 1 = Int32.ofNat (i + 1) from nAdd i 1]
        obtain ⟨g', k1, k2, k3⟩ := ih (i + 1) g1 (by omega) (by omega) (by omega) a2.1 (hR.tri a2 hne) hne (by rw [a3, List.length_append, List.length_singleton]; omega)
        have hx' : (L.take e)[i]? = some x := by rw [List.getElem?_take, if_pos (by omega)]; exact hx
        refine ⟨g', k1, a2.tr k2, ?_⟩
        rw [k3, a3, drop_cons hx', List.map_cons, List.append_assoc]
        rfl
theorem tri_addPart (S : Sim Z g c) (j : J Z c) (h : TrD Z r b) {r2 s e : Nat} (hR : RowIs g c r2 L) (hne : rlA c r2 ≠ b) (hs : s ≤ L.length) (he : e ≤ L.length) (hroom : (oa g b).length + (L.length - s) ≤ 16) :
    ∃ g', f_X6_addPart r (some r2) (Int32.ofNat s) (Int32.ofNat e) g = some g' ∧ Tri Z c b g g' ∧ oa g' b = oa g b ++ ((L.take e).drop s).map some := by
  have h40 := hR.le
  obtain ⟨g', k1, k2⟩ := tri_part j h (r2 := r2) (e := e) (L := L) (by omega) FU s g (by show _ < 4096; omega) hs (by omega) S hR hne hroom
  refine ⟨g', ?_, k2⟩
  unfold f_X6_addPart
  rw [if_neg (Int32.not_lt.mpr (n0 (by omega))), k1]
  rfl
/-- a part up to e < the whole: room is asked for that part alone -/
theorem tri_part2 (j : J Z c) (h : TrD Z r b) {r2 e : Nat} (he : e ≤ L.length) : ∀ (m i : Nat) (g : HP), e - i < m → i ≤ e → Sim Z g c → RowIs g c r2 L → rlA c r2 ≠ b → (oa g b).length + (e - i) ≤ 16 →
    ∃ g', f_X6_addPart_L7 r (some r2) (Int32.ofNat e) m (Int32.ofNat i) g = some g' ∧ Tri Z c b g g' ∧ oa g' b = oa g b ++ ((L.take e).drop i).map some := by
  intro m
  induction m with
  | zero => intro i g hm; omega
  | succ m ih =>
    intro i g hm hi S hR hne hroom
    obtain ⟨h1, h2, h3, h4, h5⟩ := TrD.ok j h
    have h40 := hR.le
    rw [f_X6_addPart_L7]
    by_cases hc : e ≤ i
    · rw [if_pos ((nLe (by omega) (by omega)).mpr hc), List.drop_eq_nil_of_le (by rw [List.length_take]; omega), List.map_nil, List.append_nil]
      exact ⟨g, rfl, Tri.rf S, rfl⟩
    · obtain ⟨x, hx⟩ : ∃ x, L[i]? = some x := ⟨_, List.getElem?_eq_getElem (by omega)⟩
      have ht := (hR.tr hx).1
      have er : gfR 7 0 (some r) g = some (some b) := by rw [S.rdR (ci := 7) h1 (by decide) (by decide) 0]; exact congrArg some h2
      obtain ⟨g1, a1, a2, a3⟩ := tri_add S j h ht (by omega)
      rw [if_neg (fun z => hc ((nLe (by omega) (by omega)).mp z)), hR.l S, Option.bind_some, hR.v S, Option.bind_some, hR.sz S, Option.bind_some, if_neg (fun z => by have := (nLe (a := L.length) (b := i) (by omega) (by omega)).mp z; omega), er, Option.bind_some, Option.bind_some, hR.v S, Option.bind_some, hR.at S hx, Option.bind_some, S.cs (ci := 8) ht, Option.bind_some, S.rc (ci := 0) h4, Option.bind_some, a1, Option.bind_some, show Int32.ofNat i + 1 = Int32.ofNat (i + 1) from nAdd i 1]
      obtain ⟨g', k1, k2, k3⟩ := ih (i + 1) g1 (by omega) (by omega) a2.1 (hR.tri a2 hne) hne (by rw [a3, List.length_append, List.length_singleton]; omega)
      have hx' : (L.take e)[i]? = some x := by rw [List.getElem?_take, if_pos (by omega)]; exact hx
      refine ⟨g', k1, a2.tr k2, ?_⟩
      rw [k3, a3, drop_cons hx', List.map_cons, List.append_assoc]
      rfl
theorem tri_join (S : Sim Z g c) (j : J Z c) (h : TrD Z r b) {r1 r2 s k : Nat} {H T : List Nat} (hH : RowIs g c r1 H) (hT : RowIs g c r2 T) (n1 : rlA c r1 ≠ b) (n2 : rlA c r2 ≠ b) (hs : s ≤ H.length) (hk : k ≤ T.length) (h16 : s + (T.length - k) ≤ 16) :
    ∃ g', f_X6_join r (some r1) (Int32.ofNat s) (some r2) (Int32.ofNat k) g = some g' ∧ Tri Z c b g g' ∧ RowIs g' c r (H.take s ++ T.drop k) := by
  obtain ⟨h1, h2, h3, h4, h5⟩ := TrD.ok j h
  have er : gfR 7 0 (some r) g = some (some b) := by rw [S.rdR (ci := 7) h1 (by decide) (by decide) 0]; exact congrArg some h2
  obtain ⟨g1, a1, a2, a3⟩ := tri_clear S j h
  have hH1 := hH.tri a2 n1
  have hT1 := hT.tri a2 n2
  have l1 := hH.le
  have l2 := hT.le
  obtain ⟨g2, b1, b2, b3⟩ := tri_part2 j h (r2 := r1) (e := s) (L := H) hs FU 0 g1 (by show _ < 4096; omega) (Nat.zero_le _) a2.1 hH1 n1 (by rw [a3]; show 0 + _ ≤ _; omega)
  have hT2 := hT1.tri b2 n2
  have e2 : oa g2 b = (H.take s).map some := by rw [b3, a3, List.drop_zero]; rfl
  obtain ⟨g3, d1, d2, d3⟩ := tri_addPart b2.1 j h (s := k) (e := T.length) hT2 n2 hk (Nat.le_refl _) (by rw [e2, List.length_map, List.length_take]; omega)
  refine ⟨g3, ?_, (a2.tr b2).tr d2, tri_row j h (by rw [d3, e2, List.take_length, List.map_append]) (by rw [List.length_append, List.length_take, List.length_drop]; omega) (fun t ht => ?_)⟩
  · have q1 : f_X6_addPart r (some r1) 0 (Int32.ofNat s) g1 = some g2 := by
      have b1' : f_X6_addPart_L7 r (some r1) (Int32.ofNat s) FU 0 g1 = some g2 := b1
      unfold f_X6_addPart
      rw [if_neg (by decide), b1']
      rfl
    unfold f_X6_join
    rw [er, Option.bind_some, S.rc (ci := 0) h4, Option.bind_some, a1, Option.bind_some, a2.1.rc (ci := 7) h1, Option.bind_some, q1, Option.bind_some, b2.1.rc (ci := 7) hT.1, Option.bind_some, r_count b2.1 hT2, Option.bind_some, b2.1.rc (ci := 7) h1, Option.bind_some, d1, Option.bind_some]
  · rcases List.mem_append.mp ht with q | q
    · exact hH.2.2.2.2.2 t (List.mem_of_mem_take q)
    · exact hT.2.2.2.2.2 t (List.mem_of_mem_drop q)
theorem tri_copy (S : Sim Z g c) (j : J Z c) (h : TrD Z r b) {r2 : Nat} (hT : RowIs g c r2 L) (n2 : rlA c r2 ≠ b) (h16 : L.length ≤ 16) :
    ∃ g', f_X6_copy r (some r2) g = some g' ∧ Tri Z c b g g' ∧ oa g' b = L.map some := by
  obtain ⟨h1, h2, h3, h4, h5⟩ := TrD.ok j h
  have er : gfR 7 0 (some r) g = some (some b) := by rw [S.rdR (ci := 7) h1 (by decide) (by decide) 0]; exact congrArg some h2
  obtain ⟨g1, a1, a2, a3⟩ := tri_clear S j h
  have hT1 := hT.tri a2 n2
  obtain ⟨g3, d1, d2, d3⟩ := tri_addPart a2.1 j h (s := 0) (e := L.length) hT1 n2 (Nat.zero_le _) (Nat.le_refl _) (by rw [a3]; show 0 + _ ≤ _; omega)
  refine ⟨g3, ?_, a2.tr d2, by rw [d3, a3, List.take_length, List.drop_zero]; rfl⟩
  have d1' : f_X6_addPart r (some r2) 0 (Int32.ofNat L.length) g1 = some g3 := d1
  unfold f_X6_copy
  rw [er, Option.bind_some, S.rc (ci := 0) h4, Option.bind_some, a1, Option.bind_some, a2.1.rc (ci := 7) hT.1, Option.bind_some, r_count a2.1 hT1, Option.bind_some, a2.1.rc (ci := 7) h1, Option.bind_some, d1', Option.bind_some]
/-- may the tail behind k of T join the first s of H -/
def prv (H : List Nat) (s : Nat) : Option Nat := if s = 0 then none else H[s - 1]?
def cjV (c : HP) (H : List Nat) (s : Nat) (T : List Nat) (k : Nat) : Bool := match prv H s, T[k]? with
  | some a, some t => canF c a t
  | _, _ => true
theorem r_canJoin (S : Sim Z g c) {r1 r2 s k : Nat} {H T : List Nat} (hH : RowIs g c r1 H) (hT : RowIs g c r2 T) (hs : s ≤ 40) (hk : k ≤ 40) : f_X9_canJoin (some r1) (Int32.ofNat s) (some r2) (Int32.ofNat k) g = some (b32 (cjV c H s T k)) := by
  have e1 : f_X6_get r1 (Int32.ofNat s - 1) g = some (prv H s) := by
    unfold prv
    by_cases h0 : s = 0
    · rw [h0, if_pos rfl]
      unfold f_X6_get
      rw [if_pos (by decide)]
    · rw [if_neg h0, show Int32.ofNat s - 1 = Int32.ofNat (s - 1) from nSub (a := s) (b := 1) (by omega), r_rget S hH (by omega)]
  unfold f_X9_canJoin cjV
  rw [S.rc (ci := 7) hH.1, Option.bind_some, e1, Option.bind_some, S.rc (ci := 7) hT.1, Option.bind_some, r_rget S hT (by omega), Option.bind_some]
  cases hp : prv H s with
  | none => rw [if_pos rfl]; rfl
  | some a =>
    rw [if_neg sn]
    cases ht : T[k]? with
    | none => rw [if_pos rfl]; rfl
    | some t =>
      have ha : IsT c a := by
        unfold prv at hp
        split at hp
        · cases hp
        · exact hH.tr hp
      rw [if_neg sn, S.rc (ci := 8) (hT.tr ht).1, Option.bind_some, r_canFollow S (hT.tr ht) ha, Option.bind_some]
      show (if b32 (canF c a t) = 0 then _ else _) = some (b32 (canF c a t))
      cases canF c a t <;> rfl
def csV (c : HP) (H : List Nat) (s : Nat) (T : List Nat) (k : Nat) : Bool := cjV c H s T k && cjV c T k H s
theorem r_canSwap (S : Sim Z g c) {r1 r2 s k : Nat} {H T : List Nat} (hH : RowIs g c r1 H) (hT : RowIs g c r2 T) (hs : s ≤ 40) (hk : k ≤ 40) : f_X9_canSwap (some r1) (Int32.ofNat s) (some r2) (Int32.ofNat k) g = some (b32 (csV c H s T k)) := by
  unfold f_X9_canSwap csV
  rw [r_canJoin S hH hT hs hk, Option.bind_some, r_canJoin S hT hH hk hs]
  cases cjV c H s T k <;> cases cjV c T k H s <;> rfl
theorem J.rl (j : J Z c) {x : Nat} (h : x ∈ bks Z c) : LK c (rlB c x) 10 x 9 := by
  obtain ⟨i, _, _, h1, ⟨h2, h3, h4, h5, _⟩, _⟩ := j.bok h
  exact h5
theorem J.rowD (j : J Z c) {x y : Nat} (hx : x ∈ bks Z c) (hy : y ∈ bks Z c) (hxy : x ≠ y) : (rowB c x).length + (rowB c y).length ≤ 16 := by
  have := subset_len (l := rowB c x ++ rowB c y) (m := tls Z c) (nodup_app (j.rN hx) (j.rN hy) fun t h1 h2 => by
    have e1 := (j.rT hx h1).2
    rw [(j.rT hy h2).2] at e1
    exact hxy (Option.some.inj e1).symm) (fun t ht => by
    rcases List.mem_append.mp ht with h | h
    · exact (j.rT hx h).1
    · exact (j.rT hy h).1)
  rw [List.length_append] at this
  exact Nat.le_trans this j.t.1
theorem r_trySwap (S : Sim Z g c) (j : J Z c) {x y s k : Nat} (hx : x ∈ bks Z c) (hy : y ∈ bks Z c) (hxy : x ≠ y) (hs : s ≤ (rowB c x).length) (hk : k ≤ (rowB c y).length) :
    ∃ g', f_X9_trySwap (Z 0) (some (rwA c x)) (Int32.ofNat s) (some (rwA c y)) (Int32.ofNat k) g = some g' ∧ Sim Z g' c ∧ Spd Z 0 0 g g' ∧ RowIs g' c (Z 6) ((rowB c x).take s ++ (rowB c y).drop k) ∧ RowIs g' c (Z 7) ((rowB c y).take k ++ (rowB c x).drop s) := by
  have hR := j.row S hx
  have hT := j.row S hy
  have kx := j.rl hx
  have ky := j.rl hy
  have h16 := j.rowD hx hy hxy
  have d6 : TrD Z (Z 6) (Z 1) := Or.inl ⟨rfl, rfl⟩
  have d7 : TrD Z (Z 7) (Z 2) := Or.inr ⟨rfl, rfl⟩
  have nx1 : rlA c (rwA c x) ≠ Z 1 := kx.z1 j.gg (by decide)
  have ny1 : rlA c (rwA c y) ≠ Z 1 := ky.z1 j.gg (by decide)
  have nx2 : rlA c (rwA c x) ≠ Z 2 := kx.z2 j.gg (by decide)
  have ny2 : rlA c (rwA c y) ≠ Z 2 := ky.z2 j.gg (by decide)
  obtain ⟨g1, a1, a2, a3⟩ := tri_join S j d6 hR hT nx1 ny1 hs hk (by omega)
  obtain ⟨g2, b1, b2, b3⟩ := tri_join a2.1 j d7 (hT.tri a2 ny1) (hR.tri a2 nx1) ny2 nx2 hk hs (by omega)
  have h12 : rlA c (Z 6) ≠ Z 2 := by
    rw [(TrD.ok j d6).2.2.1]
    exact j.gg.2.2.2.2.2.2.2.2.2.2.2.2.2.2.2.2.1
  refine ⟨g2, ?_, b2.1, a2.2.1.tr b2.2.1, a3.tri b2 h12, b3⟩
  unfold f_X9_trySwap
  rw [rM10 S j, Option.bind_some, S.rc (ci := 7) j.gg.1, Option.bind_some, a1, Option.bind_some, rM11 a2.1 j, Option.bind_some, a2.1.rc (ci := 7) j.gg.2.1, Option.bind_some, b1, Option.bind_some]
/-- the empty minutes behind a swap, or -1 -/
def esV (Z : Nat → Nat) (c : HP) (x s y k : Nat) : Int32 :=
  if csV c (rowB c x) s (rowB c y) k = true then
    (if 0 ≤ chR c (Z 9) (fi c 17 x) 0 ((rowB c x).take s ++ (rowB c y).drop k) then
      (if 0 ≤ chR c (Z 9) (fi c 17 y) 0 ((rowB c y).take k ++ (rowB c x).drop s) then emptyR c (Z 9) ((rowB c x).take s ++ (rowB c y).drop k) + emptyR c (Z 9) ((rowB c y).take k ++ (rowB c x).drop s) else -1) else -1) else -1
theorem q_emptyOfSwap (j : J Z c) {x y s k : Nat} (hx : x ∈ bks Z c) (hy : y ∈ bks Z c) (hxy : x ≠ y) (hs : s ≤ (rowB c x).length) (hk : k ≤ (rowB c y).length) : Ask Z c (f_X9_emptyOfSwap (Z 0) (some x) (Int32.ofNat s) (some y) (Int32.ofNat k)) (esV Z c x s y k) := by
  intro g S
  have hR := j.row S hx
  have hT := j.row S hy
  have lx := j.rlen hx
  have ly := j.rlen hy
  have hd := j.gg.2.2.2.2.2.2.2.1
  unfold f_X9_emptyOfSwap esV
  rw [j.rBr S hx, Option.bind_some, j.rBr S hy, Option.bind_some, r_canSwap S hR hT (by omega) (by omega), Option.bind_some]
  by_cases h1 : csV c (rowB c x) s (rowB c y) k = true
  · obtain ⟨g1, a1, a2, a3, a4, a5⟩ := r_trySwap S j hx hy hxy hs hk
    have ex : gfI 1 1 (some x) g1 = some (fi c 17 x) := a2.rdI (ci := 1) (j.tb hx) (by decide) (by decide) (by decide) 1
    have ey : gfI 1 1 (some y) g1 = some (fi c 17 y) := a2.rdI (ci := 1) (j.tb hy) (by decide) (by decide) (by decide) 1
    rw [if_neg (by rw [h1]; decide), if_pos h1, Option.bind_some, Option.bind_some, rMv S j, Option.bind_some, a1, Option.bind_some, rM10 a2 j, Option.bind_some, ex, Option.bind_some, rMv a2 j, Option.bind_some, r_flat a2 j a4, Option.bind_some]
    by_cases h2 : 0 ≤ chR c (Z 9) (fi c 17 x) 0 ((rowB c x).take s ++ (rowB c y).drop k)
    · rw [if_pos h2, if_pos rfl, if_pos h2, rM11 a2 j, Option.bind_some, ey, Option.bind_some, Option.bind_some, r_flat a2 j a5, Option.bind_some]
      by_cases h3 : 0 ≤ chR c (Z 9) (fi c 17 y) 0 ((rowB c y).take k ++ (rowB c x).drop s)
      · rw [if_pos h3, if_pos rfl, if_pos h3, Option.bind_some, rM6 a2 j, Option.bind_some, a2.rc (ci := 7) a4.1, Option.bind_some, r_empty a2 a4 hd, Option.bind_some, Option.bind_some, Option.bind_some, a2.rc (ci := 7) a5.1, Option.bind_some, r_empty a2 a5 hd, Option.bind_some]
        exact ⟨g1, rfl, a2, a3⟩
      · rw [if_neg h3, if_neg (by decide), if_neg h3]
        exact ⟨g1, rfl, a2, a3⟩
    · rw [if_neg h2, if_neg (by decide), if_neg h2]
      exact ⟨g1, rfl, a2, a3⟩
  · have : csV c (rowB c x) s (rowB c y) k = false := by simpa using h1
    rw [this]
    exact ⟨g, rfl, S, Spd.rf⟩
end Trial
