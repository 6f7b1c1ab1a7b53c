/-! The least CHARGE of a row. -/
def chStep (c : HP) (cap cold : Int32) (p t : Nat) (ahead : Option Nat) (ch le : Int32) : Int32 × Int32 :=
  let e := dist c p (fA c t)
  let ch1 := ch - e
  let le1 := if ch1 < le then ch1 else le
  let ch2 := match ahead with
    | none => ch1
    | some a => if ch1 + fi c 98 (fA c t) * ((tst c t - tend c a) - e) < cap then ch1 + fi c 98 (fA c t) * ((tst c t - tend c a) - e) else cap
  let ch3 := ch2 - tmn c t * (2 + cold)
  (ch3, if ch3 < le1 then ch3 else le1)
def chG (c : HP) (cap cold : Int32) : Nat → Option Nat → List Nat → Int32 → Int32 → Int32 × Int32 × Nat
  | p, _, [], ch, le => (ch, le, p)
  | p, ahead, t :: ts, ch, le => chG c cap cold (tA c t) (some t) ts (chStep c cap cold p t ahead ch le).1 (chStep c cap cold p t ahead ch le).2
def chR (c : HP) (d : Nat) (cap cold : Int32) (L : List Nat) : Int32 :=
  let q := chG c cap cold d none L cap cap
  if q.1 - dist c q.2.2 d < q.2.1 then q.1 - dist c q.2.2 d else q.2.1
theorem min_le (x y : Int32) : (if y < x then y else x) ≤ x := by
  split
  · rename_i h; exact Int32.le_of_lt h
  · exact Int32.le_refl _
theorem chStep_le (c : HP) (cap cold : Int32) (p t : Nat) (ahead : Option Nat) (ch le : Int32) : (chStep c cap cold p t ahead ch le).2 ≤ le := by
  unfold chStep
  exact Int32.le_trans (min_le _ _) (min_le _ _)
theorem chG_le (c : HP) (cap cold : Int32) : ∀ (L : List Nat) (p : Nat) (ahead : Option Nat) (ch le : Int32), (chG c cap cold p ahead L ch le).2.1 ≤ le
  | [], _, _, _, _ => Int32.le_refl _
  | t :: ts, p, ahead, ch, le => Int32.le_trans (chG_le c cap cold ts _ _ _ _) (chStep_le c cap cold p t ahead ch le)
theorem chR_le (c : HP) (d : Nat) (cap cold : Int32) (L : List Nat) : chR c d cap cold L ≤ cap := Int32.le_trans (min_le _ _) (chG_le c cap cold L d none cap cap)
theorem chG_place {c : HP} {cap cold : Int32} : ∀ (L : List Nat) (p : Nat) (ah : Option Nat) (ch le : Int32), (∀ t ∈ L, IsT c t) → tg c p = 7 → tg c (chG c cap cold p ah L ch le).2.2 = 7
  | [], p, _, _, _, _, hp => hp
  | t :: ts, p, _, _, _, hL, _ => chG_place ts (tA c t) _ _ _ (fun x hx => hL x (List.mem_cons_of_mem _ hx)) (hL t List.mem_cons_self).2.2.2.2
section Charge
variable {Z : Nat → Nat} {g c : HP} {r d i : Nat} {L : List Nat}
theorem r_ch_loop (S : Sim Z g c) {cap cold : Int32} (h : RowIs g c r L) : ∀ (m i : Nat) (p : Nat) (ah : Option Nat) (ch le : Int32), L.length - i < m → i ≤ L.length → tg c p = 7 → (∀ a, ah = some a → IsT c a) →
    f_X6_leastCharge_L15 r (some d) cap cold g m ch le (some p) ah (Int32.ofNat i) = some ((chG c cap cold p ah (L.drop i) ch le).1, (chG c cap cold p ah (L.drop i) ch le).2.1, some (chG c cap cold p ah (L.drop i) ch le).2.2) := by
  intro m
  induction m with
  | zero => intro i p ah ch le hm; omega
  | succ m ih =>
    intro i p ah ch le hm hi hp hah
    have h40 := h.le
    unfold f_X6_leastCharge_L15
    simp only [h.l S, h.v S, h.sz S, Option.bind_some]
    by_cases hc : L.length ≤ i
    · rw [if_pos ((nLe (by omega) (by omega)).mpr hc), List.drop_eq_nil_of_le hc]; rfl
    · have hlt : i < L.length := by omega
      rw [if_neg (fun z => hc ((nLe (by omega) (by omega)).mp z))]
      obtain ⟨x, hx⟩ : ∃ x, L[i]? = some x := ⟨_, List.getElem?_eq_getElem hlt⟩
      have ht := h.tr hx
      have ep := S.rdI (ci := 6) ht.2.2.1.2 (by decide) (by decide) (by decide) 2
      have e1 : Int32.ofNat i + 1 = Int32.ofNat (i + 1) := nAdd i 1
      have ed : L.drop i = x :: L.drop (i + 1) := by
        rw [List.drop_eq_getElem_cons hlt]
        congr 1
        exact (List.getElem?_eq_some_iff.mp hx).2
      simp only [h.at S hx, S.cs (ci := 8) ht.1, rT_from S ht, rT_to S ht, S.rc (ci := 6) hp, r_emptyTo S hp ht.2.2.1.2, S.rdT ht.1 5 rfl, Option.bind_some]
      cases ah with
      | none =>
        simp only [if_pos, Option.bind_some]
        rw [e1, ih (i + 1) (tA c x) (some x) _ _ (by omega) (by omega) ht.2.2.2.2 (fun a ha => by cases ha; exact ht), ed]
        rfl
      | some a =>
        have hta := hah a rfl
        have hne : ¬ (some a = none) := fun z => by cases z
        simp only [if_neg hne, S.rdT ht.1 4 rfl, S.rc (ci := 8) hta.1, r_end S hta.1, ep, Option.bind_some]
        rw [e1, ih (i + 1) (tA c x) (some x) _ _ (by omega) (by omega) ht.2.2.2.2 (fun a ha => by cases ha; exact ht), ed]
        rfl
theorem r_charge (S : Sim Z g c) {cap cold : Int32} (h : RowIs g c r L) (hd : tg c d = 7) : f_X6_leastCharge r (some d) cap cold g = some (chR c d cap cold L) := by
  unfold f_X6_leastCharge
  have h40 := h.le
  have hl := r_ch_loop S (d := d) (cap := cap) (cold := cold) h FU 0 d none cap cap (by show _ < 4096; omega) (Nat.zero_le _) hd (fun a ha => by cases ha)
  have e0 : Int32.ofNat 0 = 0 := rfl
  rw [e0, List.drop_zero] at hl
  rw [hl]
  have hp : tg c (chG c cap cold d none L cap cap).2.2 = 7 := chG_place L d none cap cap h.2.2.2.2.2 hd
  simp only [S.rc (ci := 6) hp, r_emptyTo S hp hd, Option.bind_some]
  rfl
end Charge
