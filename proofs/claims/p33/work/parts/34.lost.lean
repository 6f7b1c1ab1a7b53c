/-! A block's day is run. -/
section Lost
variable {Z : Nat → Nat} {c : HP} {r b : Nat} {L : List Nat}
theorem SameDay.rf {g : HP} {M : List Nat} : SameDay g g M := ⟨fun _ _ _ _ => rfl, fun _ => rfl, fun _ => rfl⟩
theorem RowIs.same {g g' : HP} (h : RowIs g c r L) (he : ∀ a, oa g' a = oa g a) : RowIs g' c r L := ⟨h.1, h.2.1, h.2.2.1, (he _).trans h.2.2.2.1, h.2.2.2.2⟩
theorem lost_loop {br dl : Int32} {del : Option Nat} (hb : tg c b = 2) (hbr : fr c 19 b = some r) (hN : L.Nodup) (hTP : ∀ t ∈ L, IsTP c t) : ∀ (m i n : Nat) (ran : Option (Nat × Int32)) (w : HP), L.length - i < m → i ≤ L.length → Sim Z w c → RowIs w c r L →
    (∀ q, ran = some q → IsT c q.1 ∧ fi w 139 q.1 = q.2 ∧ q.1 ∉ L.drop i) →
    ∃ w', f_X0_lostIf_L9 b br del dl m (Int32.ofNat n) (ran.map fun q => q.1) (Int32.ofNat i) w = some (Int32.ofNat (n + lostN (dayL c br del dl ran (L.drop i))), w') ∧ Sim Z w' c ∧ Spd Z 0 0 w w' ∧ (∀ q ∈ dayL c br del dl ran (L.drop i), dayAt w' q) ∧ SameDay w w' (L.drop i) := by
  intro m
  induction m with
  | zero => intro i n ran w hm; omega
  | succ m ih =>
    intro i n ran w hm hi S hr hran
    have h40 := hr.le
    have eb : gfR 1 3 (some b) w = some (some r) := by rw [S.rdR (ci := 1) hb (by decide) (by decide) 3]; exact congrArg some hbr
    have ec : f_X6_count r w = some (Int32.ofNat L.length) := by
      unfold f_X6_count
      simp only [hr.l S, hr.v S, hr.sz S, Option.bind_some]
    unfold f_X0_lostIf_L9
    simp only [eb, S.rc (ci := 7) hr.1, ec, Option.bind_some]
    by_cases hc : L.length ≤ i
    · rw [if_pos ((nLe (by omega) (by omega)).mpr hc), List.drop_eq_nil_of_le hc]
      exact ⟨w, rfl, S, Spd.rf, fun q hq => (by cases hq), SameDay.rf⟩
    · have hlt : i < L.length := by omega
      rw [if_neg (fun z => hc ((nLe (by omega) (by omega)).mp z))]
      obtain ⟨x, hx⟩ : ∃ x, L[i]? = some x := ⟨_, List.getElem?_eq_getElem hlt⟩
      have ht := hr.tr hx
      have htp := hTP x (List.mem_of_getElem? hx)
      have e1 : Int32.ofNat i + 1 = Int32.ofNat (i + 1) := nAdd i 1
      have ed : L.drop i = x :: L.drop (i + 1) := by
        rw [List.drop_eq_getElem_cons hlt]
        congr 1
        exact (List.getElem?_eq_some_iff.mp hx).2
      have hnd : x ∉ L.drop (i + 1) := by
        have := (List.drop_sublist i L).nodup hN
        rw [ed] at this
        exact (List.nodup_cons.mp this).1
      simp only [hr.l S, hr.v S, hr.at S hx, S.cs (ci := 8) ht.1, Option.bind_some]
      have eready : ((if (ran.map fun q => q.1) = none then some ((ran.map fun q => q.1), (0 : Int32)) else (gfI 8 11 (ran.map fun q => q.1) w).bind fun x9 => (rcv 8 (ran.map fun q => q.1) w).bind fun b10 => (f_X7_emptyTo b10 (some x) w).bind fun x11 => some ((some b10), x9 + x11))) =
          some ((ran.map fun q => q.1), (readyF c ran x)) := by
        cases ran with
        | none => rfl
        | some q =>
          obtain ⟨h1, h2, h3⟩ := hran q rfl
          have e139 : gfI 8 11 (some q.1) w = some (fi w 139 q.1) := S.rdD h1.1 11
          show (if (some q.1) = none then _ else _) = _
          rw [if_neg (fun z => by cases z)]
          show Option.bind (gfI 8 11 (some q.1) w) _ = _
          rw [e139]
          show Option.bind (rcv 8 (some q.1) w) _ = _
          rw [S.rc (ci := 8) h1.1]
          show Option.bind (f_X7_emptyTo q.1 (some x) w) _ = _
          rw [r_tEmpty S h1 ht, h2]
          rfl
      rw [eready]
      have e4 : gfI 8 4 (some x) w = some (tst c x) := S.rdT ht.1 4 rfl
      simp only [e4, Option.bind_some]
      have ers : (if tst c x < (readyF c ran x) then (readyF c ran x) else tst c x) = dayStart c ran x := rfl
      rw [ers]
      have w1e : pfI 8 10 (some x) (dayStart c ran x) w = some (setI w 138 x (dayStart c ran x)) := pfI_eq (ci := 8) (S.tag ht.1)
      have S1 : Sim Z (setI w 138 x (dayStart c ran x)) c := S.wD rfl ht.1
      simp only [w1e, S1.rc (ci := 8) ht.1, r_cause S1 htp, Option.bind_some]
      have e138 : fi (setI w 138 x (dayStart c ran x)) 138 x = dayStart c ran x := by rw [fi_setI, if_pos ⟨rfl, rfl⟩]
      rw [e138]
      have w2e : pfI 8 9 (some x) (causeF c br x (dayStart c ran x)) (setI w 138 x (dayStart c ran x)) = some (setI (setI w 138 x (dayStart c ran x)) 137 x (causeF c br x (dayStart c ran x))) := pfI_eq (ci := 8) (S1.tag ht.1)
      have S2 : Sim Z (setI (setI w 138 x (dayStart c ran x)) 137 x (causeF c br x (dayStart c ran x))) c := S1.wD rfl ht.1
      simp only [w2e, S2.rc (ci := 8) ht.1, r_runs S2 ht.1, Option.bind_some]
      have e137 : fi (setI (setI w 138 x (dayStart c ran x)) 137 x (causeF c br x (dayStart c ran x))) 137 x = causeF c br x (dayStart c ran x) := by rw [fi_setI, if_pos ⟨rfl, rfl⟩]
      rw [e137, ed]
      show ∃ w', _ = some (Int32.ofNat (n + lostN ((x, dayStart c ran x, causeF c br x (dayStart c ran x), dayEnd c del dl x (dayStart c ran x)) :: dayL c br del dl (if causeF c br x (dayStart c ran x) = 0 then some (x, dayEnd c del dl x (dayStart c ran x)) else ran) (L.drop (i + 1)))), w') ∧ _
      by_cases hca : causeF c br x (dayStart c ran x) = 0
      · rw [if_pos hca, if_neg (show ¬ ((1 : Int32) = 0) by decide), if_pos hca]
        have edel : ((if (some x) = del then some dl else (gfI 8 6 (some x) (setI (setI w 138 x (dayStart c ran x)) 137 x (causeF c br x (dayStart c ran x)))).bind fun x20 => some x20)) = some (if some x = del then dl else fi c 134 x) := by
          rw [S2.rdT ht.1 6 rfl]
          split <;> rfl
        rw [edel]
        have e10 : gfI 8 10 (some x) (setI (setI w 138 x (dayStart c ran x)) 137 x (causeF c br x (dayStart c ran x))) = some (dayStart c ran x) := by
          rw [S2.rdD ht.1 10]
          show some (fi _ 138 x) = _
          rw [fi_setI, if_neg (by omega), e138]
        have e5 : gfI 8 5 (some x) (setI (setI w 138 x (dayStart c ran x)) 137 x (causeF c br x (dayStart c ran x))) = some (tmn c x) := S2.rdT ht.1 5 rfl
        have w3e : pfI 8 11 (some x) (dayEnd c del dl x (dayStart c ran x)) (setI (setI w 138 x (dayStart c ran x)) 137 x (causeF c br x (dayStart c ran x))) = some (setI (setI (setI w 138 x (dayStart c ran x)) 137 x (causeF c br x (dayStart c ran x))) 139 x (dayEnd c del dl x (dayStart c ran x))) := pfI_eq (ci := 8) (S2.tag ht.1)
        simp only [e10, e5, Option.bind_some]
        have edE : (dayStart c ran x + tmn c x) + (if some x = del then dl else fi c 134 x) = dayEnd c del dl x (dayStart c ran x) := rfl
        rw [edE, w3e]
        simp only [Option.bind_some]
        have S3 : Sim Z (setI (setI (setI w 138 x (dayStart c ran x)) 137 x (causeF c br x (dayStart c ran x))) 139 x (dayEnd c del dl x (dayStart c ran x))) c := S2.wD rfl ht.1
        obtain ⟨w', h1, h2, h3, h4, h5⟩ := ih (i + 1) n (some (x, dayEnd c del dl x (dayStart c ran x))) _ (by omega) (by omega) S3 (hr.same fun _ => rfl) (fun q hq => by
          cases hq
          exact ⟨ht, by rw [fi_setI, if_pos ⟨rfl, rfl⟩], hnd⟩)
        rw [e1]
        have elost : lostN ((x, dayStart c ran x, causeF c br x (dayStart c ran x), dayEnd c del dl x (dayStart c ran x)) :: dayL c br del dl (some (x, dayEnd c del dl x (dayStart c ran x))) (L.drop (i + 1))) = lostN (dayL c br del dl (some (x, dayEnd c del dl x (dayStart c ran x))) (L.drop (i + 1))) := by
          unfold lostN
          rw [List.filter_cons_of_neg (by simp [hca])]
        rw [elost]
        refine ⟨w', h1, h2, ((Spd.wI.tr Spd.wI).tr Spd.wI).tr h3, fun q hq => ?_, ?_, fun a => (h5.2.1 a), fun a => (h5.2.2 a)⟩
        · rcases List.mem_cons.mp hq with rfl | hq
          · refine ⟨?_, ?_, fun _ => ?_⟩
            · rw [h5.1 x 138 rfl hnd, fi_setI, if_neg (by omega), fi_setI, if_neg (by omega), e138]
            · rw [h5.1 x 137 rfl hnd, fi_setI, if_neg (by omega), e137]
            · rw [h5.1 x 139 rfl hnd, fi_setI, if_pos ⟨rfl, rfl⟩]
          · exact h4 q (by rw [if_pos hca] at hq; exact hq)
        · intro t j hj hnt
          have hne : t ≠ x := fun z => hnt (by rw [z]; exact List.mem_cons_self)
          rw [h5.1 t j hj (fun z => hnt (List.mem_cons_of_mem _ z)), fi_setI, if_neg (fun z => hne z.2), fi_setI, if_neg (fun z => hne z.2), fi_setI, if_neg (fun z => hne z.2)]
      · rw [if_neg hca, if_pos rfl, if_neg hca]
        have en : Int32.ofNat n + 1 = Int32.ofNat (n + 1) := nAdd n 1
        obtain ⟨w', h1, h2, h3, h4, h5⟩ := ih (i + 1) (n + 1) ran _ (by omega) (by omega) S2 (hr.same fun _ => rfl) (fun q hq => by
          obtain ⟨q1, q2, q3⟩ := hran q hq
          exact ⟨q1, by rw [fi_setI, if_neg (by omega), fi_setI, if_neg (by omega)]; exact q2, fun z => q3 (by rw [ed]; exact List.mem_cons_of_mem _ z)⟩)
        rw [e1, en]
        have elost : n + lostN ((x, dayStart c ran x, causeF c br x (dayStart c ran x), dayEnd c del dl x (dayStart c ran x)) :: dayL c br del dl ran (L.drop (i + 1))) = n + 1 + lostN (dayL c br del dl ran (L.drop (i + 1))) := by
          unfold lostN
          rw [List.filter_cons_of_pos (by simp [hca]), List.length_cons]
          omega
        rw [elost]
        refine ⟨w', h1, h2, (Spd.wI.tr Spd.wI).tr h3, fun q hq => ?_, ?_, fun a => (h5.2.1 a), fun a => (h5.2.2 a)⟩
        · rcases List.mem_cons.mp hq with rfl | hq
          · refine ⟨?_, ?_, fun z => absurd z hca⟩
            · rw [h5.1 x 138 rfl hnd, fi_setI, if_neg (by omega), e138]
            · rw [h5.1 x 137 rfl hnd, e137]
          · exact h4 q (by rw [if_neg hca] at hq; exact hq)
        · intro t j hj hnt
          have hne : t ≠ x := fun z => hnt (by rw [z]; exact List.mem_cons_self)
          rw [h5.1 t j hj (fun z => hnt (List.mem_cons_of_mem _ z)), fi_setI, if_neg (fun z => hne z.2), fi_setI, if_neg (fun z => hne z.2)]
theorem r_lostIf {g : HP} {br dl : Int32} {del : Option Nat} (hb : tg c b = 2) (hbr : fr c 19 b = some r) (hN : L.Nodup) (hTP : ∀ t ∈ L, IsTP c t) (S : Sim Z g c) (hr : RowIs g c r L) :
    ∃ g', f_X0_lostIf b br del dl g = some (Int32.ofNat (lostN (dayL c br del dl none L)), g') ∧ Sim Z g' c ∧ Spd Z 0 0 g g' ∧ (∀ q ∈ dayL c br del dl none L, dayAt g' q) ∧ SameDay g g' L := by
  have h40 := hr.le
  obtain ⟨w', h1, h2⟩ := lost_loop (br := br) (dl := dl) (del := del) hb hbr hN hTP FU 0 0 none g (by show _ < 4096; omega) (Nat.zero_le _) S hr (fun q hq => by cases hq)
  refine ⟨w', ?_, h2⟩
  unfold f_X0_lostIf
  rw [Nat.zero_add] at h1
  rw [show f_X0_lostIf_L9 b br del dl FU 0 none 0 g = _ from h1]
  rfl
end Lost
