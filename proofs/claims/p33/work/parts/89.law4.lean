/-! What a day costs: the runs of the county and what one block loses. -/
section Law4
variable {Z : Nat → Nat} {g c c' : HP} {T : Nat} {xs rs fs : List Int32}
theorem int_sub {a b u v : Nat} (h : a + u = b + v) : Int32.ofNat a = Int32.ofNat b - (Int32.ofNat u - Int32.ofNat v) := by
  have h1 : Int32.ofNat a + Int32.ofNat u = Int32.ofNat b + Int32.ofNat v := by rw [nAdd, nAdd, h]
  grind
theorem filter_2q (p q : Nat → Bool) : ∀ l : List Nat, (l.filter p).length = (l.filter fun t => p t && !q t).length + ((l.filter q).filter p).length
  | [] => rfl
  | x :: xs => by
    have ih := filter_2q p q xs
    rw [List.filter_filter] at ih ⊢
    cases hp : p x <;> cases hq : q x <;> simp [hp, hq, List.filter_cons] <;> omega
theorem row_perm (j : J Z c) {b : Nat} (hb : b ∈ bks Z c) : ((tls Z c).filter fun t => decide (fr c 135 t = some b)).Perm (rowB c b) := by
  refine (List.perm_ext_iff_of_nodup ((List.filter_sublist).nodup j.tN) (j.rN hb)).mpr fun t => ?_
  rw [List.mem_filter, decide_eq_true_iff]
  constructor
  · intro h; exact (j.inB h.1 h.2).2
  · intro h; exact j.rT hb h
theorem cnt_split (j : J Z c) {b : Nat} (hb : b ∈ bks Z c) (P : Nat → Bool) : ((tls Z c).filter P).length = ((tls Z c).filter fun t => P t && !decide (fr c 135 t = some b)).length + ((rowB c b).filter P).length := by
  rw [filter_2q P (fun t => decide (fr c 135 t = some b)), ((row_perm j hb).filter P).length_eq]
theorem find_self : ∀ {D : List (Nat × Int32 × Int32 × Int32)}, (D.map fun q => q.1).Nodup → ∀ q ∈ D, D.find? (fun r => decide (r.1 = q.1)) = some q
  | [], _, q, h => by cases h
  | r :: D, hn, q, h => by
    have hn' := List.nodup_cons.mp hn
    rw [List.find?_cons]
    rcases List.mem_cons.mp h with rfl | h
    · rw [decide_eq_true rfl]
    · have hne : ¬ r.1 = q.1 := fun z => hn'.1 (List.mem_map.mpr ⟨q, h, z.symm⟩)
      rw [decide_eq_false hne]
      exact find_self hn'.2 q h
theorem cau_day (j : J Z c) {b : Nat} (hb : b ∈ bks Z c) : ∀ q ∈ dayB c b, cauT c q.1 = q.2.2.1 := fun q hq => by
  have hm : (dayB c b).map (fun q => q.1) = rowB c b := dayL_map _ _ _ _ _ _
  have hr : q.1 ∈ rowB c b := by rw [← hm]; exact List.mem_map.mpr ⟨q, hq, rfl⟩
  have hd : dq c q.1 = some q := by
    unfold dq
    rw [(j.rT hb hr).2]
    exact find_self (by rw [hm]; exact j.rN hb) q hq
  unfold cauT
  rw [hd]
theorem run_row (j : J Z c) {b : Nat} (hb : b ∈ bks Z c) : ((rowB c b).filter fun t => decide (cauT c t = 0)).length + lostN (dayB c b) = (rowB c b).length := by
  have hm : (dayB c b).map (fun q => q.1) = rowB c b := dayL_map _ _ _ _ _ _
  have e1 : ((rowB c b).filter fun t => decide (cauT c t = 0)).length = ((dayB c b).filter fun q => decide (q.2.2.1 = 0)).length := by
    rw [← hm, List.filter_map, List.length_map]
    congr 1
    refine List.filter_congr fun q hq => ?_
    show decide (cauT c q.1 = 0) = _
    rw [cau_day j hb q hq]
  have e2 : ∀ D : List (Nat × Int32 × Int32 × Int32), (D.filter fun q => decide (q.2.2.1 = 0)).length + (D.filter fun q => decide (q.2.2.1 ≠ 0)).length = D.length := fun D => by
    induction D with
    | nil => rfl
    | cons q D ih =>
      rw [List.filter_cons, List.filter_cons]
      by_cases h : q.2.2.1 = 0
      · rw [decide_eq_true h, decide_eq_false (fun z => z h), if_pos rfl, if_neg (by decide), List.length_cons, List.length_cons]; omega
      · rw [decide_eq_false h, decide_eq_true h, if_pos rfl, if_neg (by decide), List.length_cons, List.length_cons]; omega
  rw [e1]
  have := e2 (dayB c b)
  rw [← hm, List.length_map]
  exact this
theorem dq_eq {t : Nat} (h1 : fr c' 135 t = fr c 135 t) (h2 : ∀ b, fr c 135 t = some b → dayB c' b = dayB c b) : dq c' t = dq c t := by
  unfold dq
  rw [h1]
  cases hfb : fr c 135 t with
  | none => rw [Option.bind_none, Option.bind_none]
  | some b => rw [Option.bind_some, Option.bind_some, h2 b hfb]
theorem cau_eq {t : Nat} (h : dq c' t = dq c t) : cauT c' t = cauT c t := by unfold cauT; rw [h]
/-- another day of one block -/
theorem cnt_chg (j : J Z c) (j' : J Z c') (ht : tls Z c' = tls Z c) (hbk : bks Z c' = bks Z c) (hf : ∀ t, fr c' 135 t = fr c 135 t) (hr : ∀ b ∈ bks Z c, rowB c' b = rowB c b) {b : Nat} (hb : b ∈ bks Z c) (hd : ∀ b' ∈ bks Z c, b' ≠ b → dayB c' b' = dayB c b') :
    cntC Z c' 0 + lostN (dayB c' b) = cntC Z c 0 + lostN (dayB c b) := by
  have hb' : b ∈ bks Z c' := by rw [hbk]; exact hb
  have e1 := cnt_split j hb (fun t => decide (cauT c t = 0))
  have e2 := cnt_split j' hb' (fun t => decide (cauT c' t = 0))
  have r1 := run_row j hb
  have r2 := run_row j' hb'
  rw [hr b hb] at e2 r2
  rw [ht] at e2
  have e3 : ((tls Z c).filter fun t => decide (cauT c' t = 0) && !decide (fr c' 135 t = some b)) = ((tls Z c).filter fun t => decide (cauT c t = 0) && !decide (fr c 135 t = some b)) := by
    refine List.filter_congr fun t htt => ?_
    rw [hf]
    by_cases h : fr c 135 t = some b
    · rw [decide_eq_true h, Bool.not_true, Bool.and_false, Bool.and_false]
    · rw [cau_eq (dq_eq (hf t) fun b' hfb => hd b' (j.inB htt hfb).1 (fun z => h (by rw [hfb, z])))]
  rw [e3] at e2
  unfold cntC
  rw [ht]
  omega
/-- .. and of none -/
theorem cnt_same (ht : tls Z c' = tls Z c) (j : J Z c) (hf : ∀ t, fr c' 135 t = fr c 135 t) (hd : ∀ b' ∈ bks Z c, dayB c' b' = dayB c b') (w : Int32) : cntC Z c' w = cntC Z c w := by
  unfold cntC
  rw [ht]
  congr 1
  refine List.filter_congr fun t htt => ?_
  rw [cau_eq (dq_eq (hf t) fun b' hfb => hd b' (j.inB htt hfb).1)]
theorem setI_self {k a : Nat} {v : Int32} : setI (setI c k a v) k a (fi c k a) = c := by
  have : up2 (up2 c.2.1 k a v) k a (c.2.1 k a) = c.2.1 := by
    funext j b
    unfold up2
    by_cases h : j = k ∧ b = a
    · rw [if_pos h, h.1, h.2]
    · rw [if_neg h, if_neg h]
  show (c.1, up2 (up2 c.2.1 k a v) k a (c.2.1 k a), c.2.2) = c
  rw [this]
theorem setI_set {k a : Nat} {v w : Int32} : setI (setI c k a v) k a w = setI c k a w := by
  have : up2 (up2 c.2.1 k a v) k a w = up2 c.2.1 k a w := by
    funext j b
    unfold up2
    by_cases h : j = k ∧ b = a
    · rw [if_pos h, if_pos h]
    · rw [if_neg h, if_neg h, if_neg h]
  show (c.1, up2 (up2 c.2.1 k a v) k a w, c.2.2) = (c.1, up2 c.2.1 k a w, c.2.2)
  rw [this]
end Law4
