/-! What is read of the county: places, trips, rows, pieces. -/
def lA (c : HP) (t : Nat) : Nat := (fr c 129 t).getD 0
def fA (c : HP) (t : Nat) : Nat := (fr c 130 t).getD 0
def tA (c : HP) (t : Nat) : Nat := (fr c 131 t).getD 0
def IsT (c : HP) (t : Nat) : Prop := tg c t = 9 ∧ (fr c 129 t = some (lA c t) ∧ tg c (lA c t) = 5) ∧ (fr c 130 t = some (fA c t) ∧ tg c (fA c t) = 7) ∧ (fr c 131 t = some (tA c t) ∧ tg c (tA c t) = 7)
def dist (c : HP) (p q : Nat) : Int32 := if fi c 97 q ≤ fi c 97 p then fi c 97 p - fi c 97 q else fi c 97 q - fi c 97 p
def tst (c : HP) (t : Nat) : Int32 := fi c 132 t
def tmn (c : HP) (t : Nat) : Int32 := fi c 133 t
def tend (c : HP) (t : Nat) : Int32 := fi c 132 t + fi c 133 t
/-- may t come right behind a -/
def canF (c : HP) (a t : Nat) : Bool := decide (¬ tst c t < (tend c a + dist c (tA c a) (fA c t)) + 4)
def b32 (b : Bool) : Int32 := if b = true then 1 else 0
section Reads
variable {Z : Nat → Nat} {g c : HP}
theorem r_emptyTo (S : Sim Z g c) {p q : Nat} (hp : tg c p = 7) (hq : tg c q = 7) : f_X5_emptyTo p (some q) g = some (dist c p q) := by
  have e1 := S.rdI (ci := 6) hp (by decide) (by decide) (by decide) 1
  have e2 := S.rdI (ci := 6) hq (by decide) (by decide) (by decide) 1
  unfold f_X5_emptyTo dist
  simp only [e1, e2, Option.bind_some]
  split <;> rfl
theorem r_end (S : Sim Z g c) {t : Nat} (ht : tg c t = 9) : f_X7_end t g = some (tend c t) := by
  unfold f_X7_end
  simp only [S.rdT ht 4 rfl, S.rdT ht 5 rfl, Option.bind_some]
  rfl
theorem r_tEmpty (S : Sim Z g c) {t u : Nat} (ht : IsT c t) (hu : IsT c u) : f_X7_emptyTo t (some u) g = some (dist c (tA c t) (fA c u)) := by
  unfold f_X7_emptyTo
  have e1 : gfR 8 3 (some t) g = some (some (tA c t)) := by rw [S.rdR (ci := 8) ht.1 (by decide) (by decide) 3]; exact congrArg some ht.2.2.2.1
  have e2 : gfR 8 2 (some u) g = some (some (fA c u)) := by rw [S.rdR (ci := 8) hu.1 (by decide) (by decide) 2]; exact congrArg some hu.2.2.1.1
  simp only [e1, e2, S.rc (ci := 6) ht.2.2.2.2, r_emptyTo S ht.2.2.2.2 hu.2.2.1.2, Option.bind_some]
theorem rT_to (S : Sim Z g c) {t : Nat} (ht : IsT c t) : gfR 8 3 (some t) g = some (some (tA c t)) := by rw [S.rdR (ci := 8) ht.1 (by decide) (by decide) 3]; exact congrArg some ht.2.2.2.1
theorem rT_from (S : Sim Z g c) {t : Nat} (ht : IsT c t) : gfR 8 2 (some t) g = some (some (fA c t)) := by rw [S.rdR (ci := 8) ht.1 (by decide) (by decide) 2]; exact congrArg some ht.2.2.1.1
theorem rT_line (S : Sim Z g c) {t : Nat} (ht : IsT c t) : gfR 8 1 (some t) g = some (some (lA c t)) := by rw [S.rdR (ci := 8) ht.1 (by decide) (by decide) 1]; exact congrArg some ht.2.1.1
theorem r_wait (S : Sim Z g c) {t a : Nat} (ht : IsT c t) (ha : IsT c a) : f_X7_waitBehind t (some a) g = some ((tst c t - tend c a) - dist c (tA c a) (fA c t)) := by
  unfold f_X7_waitBehind
  simp only [S.rdT ht.1 4 rfl, S.rc (ci := 8) ha.1, r_end S ha.1, rT_to S ha, rT_from S ht, S.rc (ci := 6) ha.2.2.2.2, r_emptyTo S ha.2.2.2.2 ht.2.2.1.2, Option.bind_some]
  rfl
theorem r_canFollow (S : Sim Z g c) {t a : Nat} (ht : IsT c t) (ha : IsT c a) : f_X7_canFollow t (some a) g = some (b32 (canF c a t)) := by
  unfold f_X7_canFollow
  simp only [S.rdT ht.1 4 rfl, S.rc (ci := 8) ha.1, r_end S ha.1, rT_to S ha, rT_from S ht, S.rc (ci := 6) ha.2.2.2.2, r_emptyTo S ha.2.2.2.2 ht.2.2.1.2, Option.bind_some]
  unfold b32 canF
  by_cases h : fi c (128 + 4) t < (tend c a + dist c (tA c a) (fA c t)) + 4
  · have h' : tst c t < (tend c a + dist c (tA c a) (fA c t)) + 4 := h
    rw [if_pos h]; simp [h']
  · have h' : ¬ tst c t < (tend c a + dist c (tA c a) (fA c t)) + 4 := h
    rw [if_neg h]; simp [h']
/-- a row of references of one kind -/
def refs (c : HP) (a : Nat) : List Nat := (oa c a).map fun v => v.getD 0
def IsL (c : HP) (a n : Nat) : Prop := tg c a = 1 ∧ (oa c a = (refs c a).map some) ∧ (∀ x ∈ refs c a, tg c x = n) ∧ (refs c a).length ≤ 40
theorem IsL.len {a n : Nat} (h : IsL c a n) : (oa c a).length = (refs c a).length := by unfold refs; rw [List.length_map]
theorem IsL.size (S : Sim Z g c) {a n : Nat} (h : IsL c a n) (h1 : a ≠ Z 1) (h2 : a ≠ Z 2) : al_size a g = some (Int32.ofNat (refs c a).length) := by
  rw [S.sz h.1 h1 h2, h.len]
theorem IsL.get (S : Sim Z g c) {a n i : Nat} (h : IsL c a n) (h1 : a ≠ Z 1) (h2 : a ≠ Z 2) {x : Nat} (hi : (refs c a)[i]? = some x) : al_get a (Int32.ofNat i) g = some (some x) := by
  have hlt : i < (refs c a).length := (List.getElem?_eq_some_iff.mp hi).1
  have h40 := h.2.2.2
  rw [S.at h.1 h1 h2 (by rw [h.len]; exact hlt) (by omega), h.2.1]
  rw [List.getD_eq_getElem?_getD, List.getElem?_map, hi]; rfl
/-- a row of trips, of the county or for a trial: it holds L -/
def rlA (c : HP) (r : Nat) : Nat := (fr c 112 r).getD 0
def RowIs (g c : HP) (r : Nat) (L : List Nat) : Prop := tg c r = 8 ∧ fr c 112 r = some (rlA c r) ∧ tg c (rlA c r) = 1 ∧ oa g (rlA c r) = L.map some ∧ L.length ≤ 40 ∧ ∀ t ∈ L, IsT c t
variable {r d i : Nat} {L : List Nat}
theorem RowIs.l (h : RowIs g c r L) (S : Sim Z g c) : gfR 7 0 (some r) g = some (some (rlA c r)) := by
  rw [S.rdR (ci := 7) h.1 (by decide) (by decide) 0]; exact congrArg some h.2.1
theorem RowIs.v (h : RowIs g c r L) (S : Sim Z g c) : rcv 0 (some (rlA c r)) g = some (rlA c r) := S.rc (ci := 0) h.2.2.1
theorem RowIs.le (h : RowIs g c r L) : L.length ≤ 40 := h.2.2.2.2.1
theorem RowIs.sz (h : RowIs g c r L) (S : Sim Z g c) : al_size (rlA c r) g = some (Int32.ofNat L.length) := by
  unfold al_size
  rw [if_pos (S.tag (n := 0) h.2.2.1), h.2.2.2.1, List.length_map]
theorem RowIs.tr (h : RowIs g c r L) {x : Nat} (hi : L[i]? = some x) : IsT c x := h.2.2.2.2.2 x (List.mem_of_getElem? hi)
theorem RowIs.at (h : RowIs g c r L) (S : Sim Z g c) {x : Nat} (hi : L[i]? = some x) : al_get (rlA c r) (Int32.ofNat i) g = some (some x) := by
  have hlt : i < L.length := (List.getElem?_eq_some_iff.mp hi).1
  have h40 := h.le
  have hb : i < 2147483648 := by omega
  unfold al_get
  rw [h.2.2.2.1, if_pos ⟨S.tag (n := 0) h.2.2.1, n0 hb, by rw [nN hb, List.length_map]; exact hlt⟩, nN hb, List.getD_eq_getElem?_getD, List.getElem?_map, hi]; rfl
theorem r_count (S : Sim Z g c) (h : RowIs g c r L) : f_X6_count r g = some (Int32.ofNat L.length) := by
  unfold f_X6_count
  simp only [h.l S, h.v S, h.sz S, Option.bind_some]
theorem r_rget (S : Sim Z g c) (h : RowIs g c r L) (hi : i < 2147483648) : f_X6_get r (Int32.ofNat i) g = some (L[i]?) := by
  unfold f_X6_get
  rw [if_neg (Int32.not_lt.mpr (n0 hi))]
  simp only [h.l S, h.v S, h.sz S, Option.bind_some]
  by_cases hc : L.length ≤ i
  · rw [if_pos ((nLe (by have := h.le; omega) hi).mpr hc), List.getElem?_eq_none hc]
  · have hlt : i < L.length := by omega
    obtain ⟨x, hx⟩ : ∃ x, L[i]? = some x := ⟨_, List.getElem?_eq_getElem hlt⟩
    rw [if_neg (fun z => hc ((nLe (by have := h.le; omega) hi).mp z))]
    simp only [h.at S hx, S.cs (ci := 8) (h.tr hx).1, Option.bind_some, hx]
theorem r_rlast (S : Sim Z g c) (h : RowIs g c r L) : f_X6_last r g = some (L.getLast?) := by
  unfold f_X6_last
  simp only [h.l S, h.v S, h.sz S, S.rc (ci := 7) h.1, Option.bind_some]
  by_cases h0 : L.length = 0
  · have : L = [] := List.eq_nil_of_length_eq_zero h0
    rw [this]
    unfold f_X6_get
    rw [if_pos (by decide)]; rfl
  · have e : Int32.ofNat L.length - 1 = Int32.ofNat (L.length - 1) := nSub (a := L.length) (b := 1) (by omega)
    rw [e, r_rget S h (by have := h.le; omega), List.getLast?_eq_getElem?]
    rfl
/-- how far a row is driven without a trip, from place p on; and where it ends -/
def emptyG (c : HP) : Nat → List Nat → Int32 → Int32 × Nat
  | p, [], s => (s, p)
  | p, t :: ts, s => emptyG c (tA c t) ts (s + dist c p (fA c t))
def emptyR (c : HP) (d : Nat) (L : List Nat) : Int32 := (emptyG c d L 0).1 + dist c (emptyG c d L 0).2 d
theorem emptyG_place {d : Nat} (hd : tg c d = 7) : ∀ (L : List Nat) (p : Nat) (s : Int32), (∀ t ∈ L, IsT c t) → tg c p = 7 → tg c (emptyG c p L s).2 = 7
  | [], p, s, _, hp => hp
  | t :: ts, p, s, hL, _ => emptyG_place hd ts (tA c t) _ (fun x hx => hL x (List.mem_cons_of_mem _ hx)) (hL t List.mem_cons_self).2.2.2.2
theorem r_empty_loop (S : Sim Z g c) (h : RowIs g c r L) : ∀ (m i : Nat) (p : Nat) (s : Int32), L.length - i < m → i ≤ L.length → tg c p = 7 →
    f_X6_empty_L7 r (some d) g m s (some p) (Int32.ofNat i) = some ((emptyG c p (L.drop i) s).1, some (emptyG c p (L.drop i) s).2) := by
  intro m
  induction m with
  | zero => intro i p s hm; omega
  | succ m ih =>
    intro i p s hm hi hp
    have h40 := h.le
    unfold f_X6_empty_L7
    simp only [h.l S, h.v S, h.sz S, Option.bind_some]
    by_cases hc : L.length ≤ i
    · rw [if_pos ((nLe (by omega) (by omega)).mpr hc), List.drop_eq_nil_of_le hc]; rfl
    · have hlt : i < L.length := by omega
      rw [if_neg (fun z => hc ((nLe (by omega) (by omega)).mp z))]
      obtain ⟨x, hx⟩ : ∃ x, L[i]? = some x := ⟨_, List.getElem?_eq_getElem hlt⟩
      have ht := h.tr hx
      simp only [h.at S hx, S.cs (ci := 8) ht.1, rT_from S ht, rT_to S ht, S.rc (ci := 6) hp, r_emptyTo S hp ht.2.2.1.2, Option.bind_some]
      have e1 : Int32.ofNat i + 1 = Int32.ofNat (i + 1) := nAdd i 1
      rw [e1, ih (i + 1) (tA c x) _ (by omega) (by omega) ht.2.2.2.2]
      have ed : L.drop i = x :: L.drop (i + 1) := by
        rw [List.drop_eq_getElem_cons hlt]
        congr 1
        exact (List.getElem?_eq_some_iff.mp hx).2
      rw [ed]; rfl
theorem r_empty (S : Sim Z g c) (h : RowIs g c r L) (hd : tg c d = 7) : f_X6_empty r (some d) g = some (emptyR c d L) := by
  unfold f_X6_empty
  have h40 := h.le
  have hl := r_empty_loop S (d := d) h FU 0 d 0 (by show _ < 4096; omega) (Nat.zero_le _) hd
  have e0 : Int32.ofNat 0 = 0 := rfl
  rw [e0, List.drop_zero] at hl
  rw [hl]
  have hp := emptyG_place hd L d 0 h.2.2.2.2.2 hd
  simp only [S.rc (ci := 6) hp, r_emptyTo S hp hd, Option.bind_some]
  rfl
end Reads
