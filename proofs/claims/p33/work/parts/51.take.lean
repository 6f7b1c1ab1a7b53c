/-! A block takes over a trial row. -/
theorem add_oa {b a : Nat} {x : Option Nat} {g : HP} {r : Int32 × HP} (h : al_add b x g = some r) (hb : a ≠ b) (hn : a ≠ nx g) : oa r.2 a = oa g a := by
  unfold al_add at h
  split at h
  · cases h
    show oa (setO (al_room b g) b _) a = _
    rw [oa_setO, if_neg hb]
    rcases room_eff b g with e | ⟨_, e⟩
    · rw [e]
    · rw [e, oa_grow, if_neg hn]
  · cases h
section Take
variable {Z : Nat → Nat} {g v c c' u : HP} {N : Nat → Prop}
theorem setO_id {c : HP} {l : Nat} {x : List (Option Nat)} (h : oa c l = x) : setO c l x = c := by
  rw [← h]
  show (c.1, c.2.1, c.2.2.1, c.2.2.2.1, up1 c.2.2.2.2.1 l (c.2.2.2.2.1 l), c.2.2.2.2.2) = c
  rw [up1_id]
theorem zTQ (S : Sim Z g u) : Z 1 ≠ nx g ∧ Z 2 ≠ nx g := by
  have h1 := S.lt (a := Z 1) (by rw [S.2.2.2.2.2.2.2.1]; decide)
  have h2 := S.lt (a := Z 2) (by rw [S.2.2.2.2.2.2.2.2.1]; decide)
  constructor <;> omega
theorem cp_part {rw l r b1 : Nat} {T : List Nat} (t1 : tg u rw = 8) (t2 : fr u 112 rw = some l) (t3 : tg u l = 1) (z1 : l ≠ Z 1) (z2 : l ≠ Z 2) (hb1 : b1 = Z 1 ∨ b1 = Z 2) (q1 : tg u r = 8) (q2 : fr u 112 r = some b1) (q3 : tg u b1 = 1) (hTt : ∀ t ∈ T, IsT u t) (h16 : T.length ≤ 16) :
    ∀ (m i : Nat) (w : HP), T.length - i < m → i ≤ T.length → Sim Z w (setO u l ((T.take i).map some)) → oa w b1 = T.map some →
    ∃ w', f_X6_addPart_L7 rw (some r) (Int32.ofNat T.length) m (Int32.ofNat i) w = some w' ∧ Sim Z w' (setO u l (T.map some)) ∧ Spd Z (T.length - i) (100 * (T.length - i)) w w' ∧ TQ Z w w' := by
  have er : rlA u r = b1 := by unfold rlA; rw [q2]; rfl
  intro m
  induction m with
  | zero => intro i w hm; omega
  | succ m ih =>
    intro i w hm hi S ho
    have hR : RowIs w (setO u l ((T.take i).map some)) r T := ⟨q1, by show fr u 112 r = some (rlA u r); rw [er]; exact q2, by show tg u (rlA u r) = 1; rw [er]; exact q3, by show oa w (rlA u r) = _; rw [er]; exact ho, by omega, fun t ht => hTt t ht⟩
    rw [f_X6_addPart_L7]
    by_cases hc : T.length ≤ i
    · rw [if_pos ((nLe (by omega) (by omega)).mpr hc)]
      rw [List.take_of_length_le hc] at S
      exact ⟨w, rfl, S, Spd.rf.up (Nat.zero_le _) (Nat.zero_le _), TQ.rf⟩
    · obtain ⟨x, hx⟩ : ∃ x, T[i]? = some x := ⟨_, List.getElem?_eq_getElem (by omega)⟩
      have ht := (hR.tr hx).1
      have e2 : gfR 7 0 (some rw) w = some (some l) := by rw [S.rdR (ci := 7) t1 (by decide) (by decide) 0]; exact congrArg some t2
      obtain ⟨w1, a1, a2, a3, a4⟩ := S.add (b := l) (x := x) t3 z1 z2 (by rw [ht]; decide) (by rw [ht]; decide) (by rw [oa_setO, if_pos rfl, List.length_map, List.length_take]; omega)
      have eo : oa (setO u l ((T.take i).map some)) l ++ [some x] = (T.take (i + 1)).map some := by
        rw [oa_setO, if_pos rfl, List.take_add_one, hx, List.map_append]; rfl
      rw [eo, setO_setO] at a2
      obtain ⟨y1, y2⟩ := zTQ S
      have hq : TQ Z w w1 := ⟨add_oa a1 (fun z => z1 z.symm) y1, add_oa a1 (fun z => z2 z.symm) y2⟩
      obtain ⟨w', k1, k2, k3, k4⟩ := ih (i + 1) w1 (by omega) (by omega) a2 (by
        rcases hb1 with h | h
        · rw [h, hq.1, ← h]; exact ho
        · rw [h, hq.2, ← h]; exact ho)
      rw [if_neg (fun z => hc ((nLe (by omega) (by omega)).mp z)), hR.l S, Option.bind_some, hR.v S, Option.bind_some, hR.sz S, Option.bind_some, if_neg (fun z => hc ((nLe (by omega) (by omega)).mp z)), e2, Option.bind_some, Option.bind_some, hR.v S, Option.bind_some, hR.at S hx, Option.bind_some, S.cs (ci := 8) ht, Option.bind_some, S.rc (ci := 0) t3, Option.bind_some, a1, Option.bind_some, show Int32.ofNat i + 1 = Int32.ofNat (i + 1) from nAdd i 1]
      exact ⟨w', k1, k2, (a3.tr k3).up (by omega) (by omega), hq.tr k4⟩
/-- a row's trips are told whose they are -/
theorem tk_loop {b r l : Nat} {T : List Nat} (t1 : tg u b = 2) (t2 : fr u 19 b = some r) (t3 : tg u r = 8) (t4 : fr u 112 r = some l) (t5 : tg u l = 1) (hTt : ∀ t ∈ T, IsT u t) (h16 : T.length ≤ 16) :
    ∀ (m i : Nat) (w v : HP), T.length - i < m → i ≤ T.length → Sim Z w v → oa w l = T.map some → (∀ a, tg v a = tg u a) → (∀ k x, k ≠ 135 → fr v k x = fr u k x) →
    ∃ w' v', f_X0_takeOver_L14 b m (Int32.ofNat i) w = some w' ∧ Sim Z w' v' ∧ Spd Z 0 0 w w' ∧ (∀ a, oa w' a = oa w a) ∧ (∀ a, tg v' a = tg v a) ∧ (∀ k a, fi v' k a = fi v k a) ∧ (∀ a, oa v' a = oa v a) ∧ (∀ k x, k ≠ 135 → fr v' k x = fr v k x) ∧ ∀ x, fr v' 135 x = if x ∈ T.drop i then some b else fr v 135 x := by
  have er : rlA u r = l := by unfold rlA; rw [t4]; rfl
  intro m
  induction m with
  | zero => intro i w v hm; omega
  | succ m ih =>
    intro i w v hm hi S ho e1 e2
    have erv : rlA v r = l := by unfold rlA; rw [e2 112 r (by decide), t4]; rfl
    have hR : RowIs w v r T := ⟨by rw [e1]; exact t3, by rw [erv, e2 112 r (by decide)]; exact t4, by rw [erv, e1]; exact t5, by rw [erv]; exact ho, by omega, fun t ht => by
      have := hTt t ht
      unfold IsT lA fA tA
      rw [e1, e2 129 _ (by decide), e2 130 _ (by decide), e2 131 _ (by decide), e1, e1, e1]
      exact this⟩
    have eB : gfR 1 3 (some b) w = some (some r) := by
      rw [S.rdR (ci := 1) (by rw [e1]; exact t1) (by decide) (by decide) 3]
      exact congrArg some ((e2 19 b (by decide)).trans t2)
    rw [f_X0_takeOver_L14, eB, Option.bind_some, S.rc (ci := 7) hR.1, Option.bind_some, r_count S hR, Option.bind_some]
    by_cases hc : T.length ≤ i
    · rw [if_pos ((nLe (by omega) (by omega)).mpr hc)]
      exact ⟨w, v, rfl, S, Spd.rf, fun _ => rfl, fun _ => rfl, fun _ _ => rfl, fun _ => rfl, fun _ _ _ => rfl, fun x => by rw [List.drop_eq_nil_of_le hc, if_neg List.not_mem_nil]⟩
    · obtain ⟨x, hx⟩ : ∃ x, T[i]? = some x := ⟨_, List.getElem?_eq_getElem (by omega)⟩
      have ht := (hR.tr hx).1
      have S1 : Sim Z (setR w 135 x (some b)) (setR v 135 x (some b)) := S.wR (by rw [ht]; decide)
      have epf : pfR 8 7 (some x) (some b) w = some (setR w 135 x (some b)) := pfR_eq (ci := 8) (S.tag ht)
      obtain ⟨w', v', k1, k2, k3, k4, k5, k6, k7, k8, k9⟩ := ih (i + 1) _ _ (by omega) (by omega) S1 ho e1 (fun k y hk => by rw [fr_setR, if_neg fun z => hk z.1]; exact e2 k y hk)
      rw [if_neg (fun z => hc ((nLe (by omega) (by omega)).mp z)), Option.bind_some, hR.l S, Option.bind_some, hR.v S, Option.bind_some, hR.at S hx, Option.bind_some, S.cs (ci := 8) ht, Option.bind_some, epf, Option.bind_some, show Int32.ofNat i + 1 = Int32.ofNat (i + 1) from nAdd i 1]
      refine ⟨w', v', k1, k2, (Spd.wR S (by rw [ht]; decide)).tr k3, k4, k5, k6, k7, fun k y hk => (k8 k y hk).trans (by rw [fr_setR, if_neg fun z => hk z.1]), fun y => ?_⟩
      rw [k9, drop_cons hx, fr_setR]
      by_cases h1 : y ∈ T.drop (i + 1)
      · rw [if_pos h1, if_pos (List.mem_cons_of_mem _ h1)]
      · rw [if_neg h1]
        by_cases h2 : y = x
        · rw [if_pos ⟨rfl, h2⟩, if_pos (by rw [h2]; exact List.mem_cons_self)]
        · rw [if_neg fun z => h2 z.2, if_neg fun z => (List.mem_cons.mp z).elim h2 h1]
theorem r_take (S : Sim Z g v) (O : Ov N v c) (j : J Z c) {b : Nat} (hb : b ∈ bks Z c) (hN : NB Z N c b) {r b1 : Nat} {T : List Nat} (hr : TrD Z r b1) (hT : oa g b1 = T.map some) (hl : T.length ≤ 16) (hTt : ∀ t ∈ T, IsT c t) :
    ∃ g' v' c', f_X0_takeOver b (some r) g = some g' ∧ Sim Z g' v' ∧ Ov (fun a => N a ∨ a = rlB c b) v' c' ∧ J Z c' ∧ Fg Z b (rowB c b) c c' ∧ Spd Z 16 1600 g g' ∧ TQ Z g g' ∧ oa v' (rlB c b) = T.map some ∧ (∀ a, N a → oa v' a = oa v a) ∧ (∀ x, fr v' 135 x = if x ∈ T then some b else fr v 135 x) := by
  obtain ⟨w1, v1, c1, a1, S1, O1, K1, p1, q1, j1, F⟩ := r_forgetO S O j hb hN
  obtain ⟨f1, f2, f3, f4, f5, f6, f7, f8, f9⟩ := id F
  obtain ⟨d1, d2, d3, d4, d5⟩ := TrD.ok j1 hr
  have hb1 : b ∈ bks Z c1 := by rw [bks_eq f2.2.2.1]; exact hb
  have el : rlB c1 b = rlB c b := ag_rlB f1 j hb
  have hN1 : NB Z N c1 b := hN.mv j f1 f2
  obtain ⟨n1, n2, k1, k2⟩ := j1.bz hb1
  rw [el] at k1
  have z1 := k1.z1 j1.gg (by decide)
  have z2 := k1.z2 j1.gg (by decide)
  obtain ⟨_, _, _, h1, ⟨h2, h3, h4, h5, h6, h7⟩, _⟩ := j1.bok hb1
  rw [el] at h4
  have hNl : ∀ a, N a → a ≠ rlB c b := fun a ha z => by
    obtain ⟨x, y1, y2, y3⟩ := hN1 a ha
    exact y1 ((j1.bz y2).2.2.1.own k1 (y3.symm.trans z))
  have eT : oa w1 b1 = T.map some := by
    rcases d5 with e | e
    · rw [e, q1.1, ← e]; exact hT
    · rw [e, q1.2, ← e]; exact hT
  have hTt1 : ∀ t ∈ T, IsT c1 t := fun t ht => ag_isT f1 (hTt t ht)
  have hTv : ∀ t ∈ T, IsT v1 t := fun t ht => by
    have := hTt1 t ht
    unfold IsT lA fA tA
    rw [O1.1, O1.2.2.1 129 _ (by decide), O1.2.2.1 130 _ (by decide), O1.2.2.1 131 _ (by decide), O1.1, O1.1, O1.1]
    exact this
  have tw : tg w1 (rlB c b) = 1 := S1.tag (n := 0) ((O1.1 _).trans k1.1.1)
  have eR : gfR 7 0 (some (rwA c1 b)) w1 = some (some (rlB c b)) := by rw [ovR S1 O1 (ci := 7) h3 (by decide) (by decide) 0 (by decide)]; exact congrArg some h4
  have elt : (oa w1 (rlB c b)).length < 4000 := by
    have hnl : ¬ N (rlB c b) := fun z => hNl _ z rfl
    rw [ovoa S1 O1 j1.gg k1 (by decide) (by decide) hnl, List.length_map]
    have := k1.1.2.2.2
    omega
  have ecl : al_clear (rlB c b) w1 = some (setO w1 (rlB c b) []) := if_pos ⟨tw, elt⟩
  have S2 : Sim Z (setO w1 (rlB c b) []) (setO v1 (rlB c b) ((T.take 0).map some)) := by
    rw [List.take_zero]
    exact S1.wO z1 z2
  have eT2 : oa (setO w1 (rlB c b) []) b1 = T.map some := by
    rw [oa_setO, if_neg (fun z => by rcases d5 with e | e; exact z1 (z.symm.trans e); exact z2 (z.symm.trans e))]
    exact eT
  have er : rlA (setO v1 (rlB c b) ((T.take 0).map some)) r = b1 := by
    show (fr v1 112 r).getD 0 = b1
    rw [O1.2.2.1 112 r (by decide), d2]; rfl
  have hRt : RowIs (setO w1 (rlB c b) []) (setO v1 (rlB c b) ((T.take 0).map some)) r T := ⟨(O1.1 r).trans d1, by rw [er]; exact (O1.2.2.1 112 r (by decide)).trans d2, by rw [er]; exact (O1.1 b1).trans d4, by rw [er]; exact eT2, by omega, fun t ht => hTv t ht⟩
  obtain ⟨w3, e1, e2, e3, e4⟩ := cp_part (u := v1) (rw := rwA c1 b) (l := rlB c b) ((O1.1 _).trans h3) ((O1.2.2.1 112 _ (by decide)).trans h4) ((O1.1 _).trans k1.1.1) z1 z2 d5 ((O1.1 r).trans d1) ((O1.2.2.1 112 r (by decide)).trans d2) ((O1.1 b1).trans d4) hTv hl FU 0 _ (by show _ < 4096; omega) (Nat.zero_le _) S2 eT2
  have oT : oa w3 (rlB c b) = T.map some := by
    rw [e2.2.2.2.1 (rlB c b) ((O1.1 _).trans k1.1.1) z1 z2, oa_setO, if_pos rfl]
  obtain ⟨w4, v4, m1, m2, m3, m4, m5, m6, m7, m8, m9⟩ := tk_loop (u := setO v1 (rlB c b) (T.map some)) (b := b) (r := rwA c1 b) (l := rlB c b) ((O1.1 _).trans (j1.tb hb1)) ((O1.2.2.1 19 _ (by decide)).trans h2) ((O1.1 _).trans h3) ((O1.2.2.1 112 _ (by decide)).trans h4) ((O1.1 _).trans k1.1.1) (fun t ht => hTv t ht) hl FU 0 w3 (setO v1 (rlB c b) (T.map some)) (by show _ < 4096; omega) (Nat.zero_le _) e2 oT (fun _ => rfl) (fun _ _ _ => rfl)
  have e3' := e3
  rw [Nat.sub_zero] at e3'
  refine ⟨w4, v4, c1, ?_, m2, ⟨fun a => (m5 a).trans (O1.1 a), fun k a => (m6 k a).trans (O1.2.1 k a), fun k a hk => (m8 k a hk).trans (O1.2.2.1 k a hk), fun a ha => ?_⟩, j1, F, ((p1.tr ((Spd.wO tw).tr e3')).tr m3).up (by omega) (by omega), ?_, ?_, fun a ha => ?_, fun x => ?_⟩
  · have m1' : f_X0_takeOver_L14 b FU 0 w3 = some w4 := m1
    have e1' : f_X6_addPart_L7 (rwA c1 b) (some r) (Int32.ofNat T.length) FU 0 (setO w1 (rlB c b) []) = some w3 := e1
    have ea : f_X6_addPart (rwA c1 b) (some r) 0 (Int32.ofNat T.length) (setO w1 (rlB c b) []) = some w3 := by
      unfold f_X6_addPart
      rw [if_neg (by decide), e1']; rfl
    have eg : gfR 1 3 (some b) w1 = some (some (rwA c1 b)) := by rw [ovR S1 O1 (ci := 1) (j1.tb hb1) (by decide) (by decide) 3 (by decide)]; exact congrArg some h2
    unfold f_X0_takeOver f_X6_copy
    rw [ovrc S O (ci := 1) (j.tb hb), Option.bind_some, a1, Option.bind_some, eg, Option.bind_some, ovrc S1 O1 (ci := 7) h3, Option.bind_some, eR, Option.bind_some, ovrc S1 O1 (ci := 0) k1.1.1, Option.bind_some, ecl, Option.bind_some, S2.rc (ci := 7) hRt.1, Option.bind_some, r_count S2 hRt, Option.bind_some, S2.rc (ci := 7) ((O1.1 _).trans h3), Option.bind_some, ea, Option.bind_some, Option.bind_some, m1', Option.bind_some]
  · rw [m7, oa_setO, if_neg fun z => ha (Or.inr z)]
    exact O1.2.2.2 a fun z => ha (Or.inl z)
  · refine (q1.tr (TQ.tr (g1 := setO w1 (rlB c b) []) ⟨?_, ?_⟩ e4)).tr ⟨m4 _, m4 _⟩
    · rw [oa_setO, if_neg fun z => z1 z.symm]
    · rw [oa_setO, if_neg fun z => z2 z.symm]
  · rw [m7, oa_setO, if_pos rfl]
  · rw [m7, oa_setO, if_neg (hNl a ha)]
    exact K1.2 a ha
  · rw [m9, List.drop_zero]
    split
    · rfl
    · exact K1.1 x
end Take
