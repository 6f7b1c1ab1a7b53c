/-! The new object: all that is made ahead of the places. -/
def lstN (b k : Nat) (g : HP) : HP := setR (setT (newG g 31 3 [] []) (nx g) 1) k b (some (nx g))
theorem tg_lstN (b k : Nat) (g : HP) (a : Nat) : tg (lstN b k g) a = if a = nx g then 1 else tg g a := by
  show up1 (up1 g.1 (nx g) 31) (nx g) 1 a = _
  unfold up1
  by_cases e : a = nx g
  · rw [if_pos e, if_pos e]
  · rw [if_neg e, if_neg e, if_neg e]; rfl
theorem fi_lstN (b k : Nat) (g : HP) (q a : Nat) : fi (lstN b k g) q a = if a = nx g then 0 else fi g q a := rfl
theorem fr_lstN (b k : Nat) (g : HP) (q a : Nat) : fr (lstN b k g) q a = if q = k ∧ a = b then some (nx g) else if a = nx g then none else fr g q a := rfl
theorem oa_lstN (b k : Nat) (g : HP) (a : Nat) : oa (lstN b k g) a = if a = nx g then [] else oa g a := rfl
theorem ia_lstN (b k : Nat) (g : HP) (a : Nat) : ia (lstN b k g) a = if a = nx g then [] else ia g a := rfl
theorem nx_lstN (b k : Nat) (g : HP) : nx (lstN b k g) = nx g + 1 := rfl
theorem sl_lstN (b k : Nat) (g : HP) : sl (lstN b k g) = sl g + 3 := rfl
theorem ex_lstN (b k : Nat) (g : HP) : ex (lstN b k g) = ex g := rfl
/-- the trial row that comes next, with its list -/
def rowN (b k : Nat) (g : HP) : HP := setR (setR (setT (newG (newG g 8 1 [] []) 31 3 [] []) (nx g + 1) 1) 112 (nx g) (some (nx g + 1))) k b (some (nx g))
theorem tg_rowN (b k : Nat) (g : HP) (a : Nat) : tg (rowN b k g) a = if a = nx g + 1 then 1 else if a = nx g then 8 else tg g a := by
  show up1 (up1 (up1 g.1 (nx g) 8) (nx g + 1) 31) (nx g + 1) 1 a = _
  unfold up1
  by_cases e : a = nx g + 1
  · rw [if_pos e, if_pos e]
  · rw [if_neg e, if_neg e, if_neg e]; rfl
theorem fi_rowN (b k : Nat) (g : HP) (q a : Nat) : fi (rowN b k g) q a = if a = nx g + 1 then 0 else if a = nx g then 0 else fi g q a := rfl
theorem fr_rowN (b k : Nat) (g : HP) (q a : Nat) : fr (rowN b k g) q a = if q = k ∧ a = b then some (nx g) else if q = 112 ∧ a = nx g then some (nx g + 1) else if a = nx g + 1 then none else if a = nx g then none else fr g q a := rfl
theorem oa_rowN (b k : Nat) (g : HP) (a : Nat) : oa (rowN b k g) a = if a = nx g + 1 then [] else if a = nx g then [] else oa g a := rfl
theorem ia_rowN (b k : Nat) (g : HP) (a : Nat) : ia (rowN b k g) a = if a = nx g + 1 then [] else if a = nx g then [] else ia g a := rfl
theorem nx_rowN (b k : Nat) (g : HP) : nx (rowN b k g) = nx g + 2 := rfl
theorem sl_rowN (b k : Nat) (g : HP) : sl (rowN b k g) = sl g + 4 := rfl
/-- the rules -/
def rulN (b : Nat) (g : HP) : HP := setI (setR (setI (setI (newG g 10 2 [] []) 144 (nx g) 600) 145 (nx g) 240) 167 b (some (nx g))) 169 b 5
theorem tg_rulN (b : Nat) (g : HP) (a : Nat) : tg (rulN b g) a = if a = nx g then 10 else tg g a := rfl
theorem fi_rulN (b : Nat) (g : HP) (q a : Nat) : fi (rulN b g) q a = if q = 169 ∧ a = b then 5 else if q = 145 ∧ a = nx g then 240 else if q = 144 ∧ a = nx g then 600 else if a = nx g then 0 else fi g q a := rfl
theorem fr_rulN (b : Nat) (g : HP) (q a : Nat) : fr (rulN b g) q a = if q = 167 ∧ a = b then some (nx g) else if a = nx g then none else fr g q a := rfl
theorem oa_rulN (b : Nat) (g : HP) (a : Nat) : oa (rulN b g) a = if a = nx g then [] else oa g a := rfl
theorem ia_rulN (b : Nat) (g : HP) (a : Nat) : ia (rulN b g) a = if a = nx g then [] else ia g a := rfl
theorem nx_rulN (b : Nat) (g : HP) : nx (rulN b g) = nx g + 1 := rfl
theorem sl_rulN (b : Nat) (g : HP) : sl (rulN b g) = sl g + 2 := rfl
/-- an array of the county's own -/
def arrN (b k t : Nat) (g : HP) : HP := setR (newG g t 16 (List.replicate 16 0) []) k b (some (nx g))
theorem tg_arrN (b k t : Nat) (g : HP) (a : Nat) : tg (arrN b k t g) a = if a = nx g then t else tg g a := rfl
theorem fi_arrN (b k t : Nat) (g : HP) (q a : Nat) : fi (arrN b k t g) q a = if a = nx g then 0 else fi g q a := rfl
theorem fr_arrN (b k t : Nat) (g : HP) (q a : Nat) : fr (arrN b k t g) q a = if q = k ∧ a = b then some (nx g) else if a = nx g then none else fr g q a := rfl
theorem oa_arrN (b k t : Nat) (g : HP) (a : Nat) : oa (arrN b k t g) a = if a = nx g then [] else oa g a := rfl
theorem ia_arrN (b k t : Nat) (g : HP) (a : Nat) : ia (arrN b k t g) a = if a = nx g then List.replicate 16 0 else ia g a := rfl
theorem nx_arrN (b k t : Nat) (g : HP) : nx (arrN b k t g) = nx g + 1 := rfl
theorem sl_arrN (b k t : Nat) (g : HP) : sl (arrN b k t g) = sl g + 16 := rfl
/-- the followers, with their two arrays -/
def folN (b : Nat) (g : HP) : HP := setR (arrN (nx g) 49 21 (arrN (nx g) 48 20 (newG g 4 2 [] []))) 173 b (some (nx g))
theorem tg_folN (b : Nat) (g : HP) (a : Nat) : tg (folN b g) a = if a = nx g + 2 then 21 else if a = nx g + 1 then 20 else if a = nx g then 4 else tg g a := rfl
theorem fi_folN (b : Nat) (g : HP) (q a : Nat) : fi (folN b g) q a = if a = nx g + 2 then 0 else if a = nx g + 1 then 0 else if a = nx g then 0 else fi g q a := rfl
theorem fr_folN (b : Nat) (g : HP) (q a : Nat) : fr (folN b g) q a = if q = 173 ∧ a = b then some (nx g) else if q = 49 ∧ a = nx g then some (nx g + 2) else if a = nx g + 2 then none else if q = 48 ∧ a = nx g then some (nx g + 1) else if a = nx g + 1 then none else if a = nx g then none else fr g q a := rfl
theorem oa_folN (b : Nat) (g : HP) (a : Nat) : oa (folN b g) a = if a = nx g + 2 then [] else if a = nx g + 1 then [] else if a = nx g then [] else oa g a := rfl
theorem ia_folN (b : Nat) (g : HP) (a : Nat) : ia (folN b g) a = if a = nx g + 2 then List.replicate 16 0 else if a = nx g + 1 then List.replicate 16 0 else if a = nx g then [] else ia g a := rfl
theorem nx_folN (b : Nat) (g : HP) : nx (folN b g) = nx g + 3 := rfl
theorem sl_folN (b : Nat) (g : HP) : sl (folN b g) = sl g + 34 := rfl
/-- the depot -/
def depN (b : Nat) (g : HP) : HP := setR (setI (setI (newG g 7 4 [] []) 96 (nx g) 0) 99 (nx g) 1) 166 b (some (nx g))
theorem tg_depN (b : Nat) (g : HP) (a : Nat) : tg (depN b g) a = if a = nx g then 7 else tg g a := rfl
theorem fi_depN (b : Nat) (g : HP) (q a : Nat) : fi (depN b g) q a = if q = 99 ∧ a = nx g then 1 else if q = 96 ∧ a = nx g then 0 else if a = nx g then 0 else fi g q a := rfl
theorem fr_depN (b : Nat) (g : HP) (q a : Nat) : fr (depN b g) q a = if q = 166 ∧ a = b then some (nx g) else if a = nx g then none else fr g q a := rfl
theorem oa_depN (b : Nat) (g : HP) (a : Nat) : oa (depN b g) a = if a = nx g then [] else oa g a := rfl
theorem ia_depN (b : Nat) (g : HP) (a : Nat) : ia (depN b g) a = if a = nx g then [] else ia g a := rfl
theorem nx_depN (b : Nat) (g : HP) : nx (depN b g) = nx g + 1 := rfl
theorem sl_depN (b : Nat) (g : HP) : sl (depN b g) = sl g + 4 := rfl
def ini6 (b : Nat) (g : HP) : HP := lstN b 165 (lstN b 164 (lstN b 163 (lstN b 162 (lstN b 161 (lstN b 160 g)))))
def iniA (b : Nat) (g : HP) : HP := depN b (folN b (arrN b 172 20 (rowN b 171 (rowN b 170 (rulN b (ini6 b g))))))
section Init
variable {g : HP} {b : Nat}
theorem i_lst {k : Nat} (ht : tg g b = 11) (hn : b ≠ nx g) : ((al_init (nx g) (newG g 31 3 [] [])).bind fun g1 => pfR 10 k (some b) (some (nx g)) g1) = some (lstN b (160 + k) g) := by
  rw [al_init_eq, Option.bind_some]
  exact pfR_eq (ci := 10) (by show up1 (up1 g.1 (nx g) 31) (nx g) 1 b = 11; unfold up1; rw [if_neg hn, if_neg hn]; exact ht)
theorem i_ini (hn : nx g = b + 1) (ht : tg g b = 11) : f_X9_init b g =
    ((gfR 10 0 (some b) (iniA b g)).bind fun r26 => (gfR 10 6 (some b) (iniA b g)).bind fun r27 => (rcv 0 r26 (iniA b g)).bind fun b28 => (al_add b28 r27 (iniA b g)).bind fun v29 => (f_X9_init_L153 b FU 1 v29.2).bind fun q34 => (f_X9_init_L183 b FU 0 q34).bind fun q39 => some q39) := by
  have e1 := i_lst (k := 0) ht (by omega)
  have t1 : tg (lstN b 160 g) b = 11 := by rw [tg_lstN, if_neg (by omega)]; exact ht
  have n1 : nx (lstN b 160 g) = b + 2 := by rw [nx_lstN, hn]
  have e2 := i_lst (k := 1) t1 (by omega)
  have t2 : tg (lstN b 161 (lstN b 160 g)) b = 11 := by rw [tg_lstN, if_neg (by omega)]; exact t1
  have n2 : nx (lstN b 161 (lstN b 160 g)) = b + 3 := by rw [nx_lstN, n1]
  have e3 := i_lst (k := 2) t2 (by omega)
  have t3 : tg (lstN b 162 (lstN b 161 (lstN b 160 g))) b = 11 := by rw [tg_lstN, if_neg (by omega)]; exact t2
  have n3 : nx (lstN b 162 (lstN b 161 (lstN b 160 g))) = b + 4 := by rw [nx_lstN, n2]
  have e4 := i_lst (k := 3) t3 (by omega)
  have t4 : tg (lstN b 163 (lstN b 162 (lstN b 161 (lstN b 160 g)))) b = 11 := by rw [tg_lstN, if_neg (by omega)]; exact t3
  have n4 : nx (lstN b 163 (lstN b 162 (lstN b 161 (lstN b 160 g)))) = b + 5 := by rw [nx_lstN, n3]
  have e5 := i_lst (k := 4) t4 (by omega)
  have t5 : tg (lstN b 164 (lstN b 163 (lstN b 162 (lstN b 161 (lstN b 160 g))))) b = 11 := by rw [tg_lstN, if_neg (by omega)]; exact t4
  have n5 : nx (lstN b 164 (lstN b 163 (lstN b 162 (lstN b 161 (lstN b 160 g))))) = b + 6 := by rw [nx_lstN, n4]
  have e6 := i_lst (k := 5) t5 (by omega)
  have t6 : tg (ini6 b g) b = 11 := by show tg (lstN b 165 _) b = 11; rw [tg_lstN, if_neg (by omega)]; exact t5
  have n6 : nx (ini6 b g) = b + 7 := by show nx (lstN b 165 _) = _; rw [nx_lstN, n5]
  have bb' : ∀ {α : Type} (o : Option HP) (F : HP → Option HP) (K : HP → Option α) (r : HP), o.bind F = some r → (o.bind fun x => (F x).bind K) = K r := fun o F K r h => by
    cases o with
    | none => cases h
    | some x => show (F x).bind K = K r; rw [show F x = some r from h]; rfl
  generalize hg6 : ini6 b g = h6 at t6 n6
  -- the rules
  have tr : tg (newG h6 10 2 [] []) (nx h6) = 9 + 1 := by rw [tg_newG, if_pos rfl]
  have trb : tg (newG h6 10 2 [] []) b = 10 + 1 := by rw [tg_newG, if_neg (by omega)]; exact t6
  have e7 : f_X8_init (nx h6) (newG h6 10 2 [] []) = some (setI (setI (newG h6 10 2 [] []) 144 (nx h6) 600) 145 (nx h6) 240) := by
    unfold f_X8_init
    rw [pfI_eq (ci := 9) tr, Option.bind_some, pfI_eq (ci := 9) (by exact tr), Option.bind_some]
  have e8 : pfR 10 7 (some b) (some (nx h6)) (setI (setI (newG h6 10 2 [] []) 144 (nx h6) 600) 145 (nx h6) 240) = some (setR (setI (setI (newG h6 10 2 [] []) 144 (nx h6) 600) 145 (nx h6) 240) 167 b (some (nx h6))) := pfR_eq (ci := 10) trb
  have e9 : pfI 10 9 (some b) 5 (setR (setI (setI (newG h6 10 2 [] []) 144 (nx h6) 600) 145 (nx h6) 240) 167 b (some (nx h6))) = some (rulN b h6) := pfI_eq (ci := 10) trb
  have t7 : tg (rulN b h6) b = 11 := by rw [tg_rulN, if_neg (by omega)]; exact t6
  have n7 : nx (rulN b h6) = b + 8 := by rw [nx_rulN, n6]
  -- the trial rows
  have eRow : ∀ (h : HP) (k : Nat), tg h b = 11 → b < nx h → ((f_X6_init (nx h) (newG h 8 1 [] [])).bind fun g16 => pfR 10 k (some b) (some (nx h)) g16) = some (rowN b (160 + k) h) := fun h k hb hlt => by
    have a1 : al_init (nx (newG h 8 1 [] [])) (newG (newG h 8 1 [] []) 31 3 [] []) = some (setT (newG (newG h 8 1 [] []) 31 3 [] []) (nx h + 1) 1) := al_init_eq (newG h 8 1 [] [])
    have tt : tg (setT (newG (newG h 8 1 [] []) 31 3 [] []) (nx h + 1) 1) (nx h) = 7 + 1 := by
      show up1 (up1 (up1 h.1 (nx h) 8) (nx h + 1) 31) (nx h + 1) 1 (nx h) = 8
      unfold up1
      rw [if_neg (by omega), if_neg (by omega), if_pos rfl]
    have tb : tg (setT (newG (newG h 8 1 [] []) 31 3 [] []) (nx h + 1) 1) b = 10 + 1 := by
      show up1 (up1 (up1 h.1 (nx h) 8) (nx h + 1) 31) (nx h + 1) 1 b = 11
      unfold up1
      rw [if_neg (by omega), if_neg (by omega), if_neg (by omega)]; exact hb
    unfold f_X6_init
    rw [a1, Option.bind_some, pfR_eq (ci := 7) tt, Option.bind_some, Option.bind_some]
    exact pfR_eq (ci := 10) tb
  have e10 := eRow (rulN b h6) 10 t7 (by omega)
  have t8 : tg (rowN b 170 (rulN b h6)) b = 11 := by rw [tg_rowN, if_neg (by omega), if_neg (by omega)]; exact t7
  have n8 : nx (rowN b 170 (rulN b h6)) = b + 10 := by rw [nx_rowN, n7]
  have e11 := eRow (rowN b 170 (rulN b h6)) 11 t8 (by omega)
  generalize hg7 : rulN b h6 = h7 at *
  have t9 : tg (rowN b 171 (rowN b 170 h7)) b = 11 := by rw [tg_rowN, if_neg (by omega), if_neg (by omega)]; exact t8
  have n9 : nx (rowN b 171 (rowN b 170 h7)) = b + 12 := by rw [nx_rowN, n8]
  generalize hg9 : rowN b 171 (rowN b 170 h7) = h9 at *
  -- the arrays
  have eArr : ∀ (h : HP) (t : Nat), nwI t 16 h = some (nx h, newG h t 16 (List.replicate 16 0) []) := fun h t => by unfold nwI; rw [if_pos (by decide)]; rfl
  have e12 : pfR 10 12 (some b) (some (nx h9)) (newG h9 20 16 (List.replicate 16 0) []) = some (arrN b 172 20 h9) := pfR_eq (ci := 10) (by rw [tg_newG, if_neg (by omega)]; exact t9)
  have t10 : tg (arrN b 172 20 h9) b = 11 := by rw [tg_arrN, if_neg (by omega)]; exact t9
  have n10 : nx (arrN b 172 20 h9) = b + 13 := by rw [nx_arrN, n9]
  generalize hg10 : arrN b 172 20 h9 = h10 at *
  -- the followers
  have e13 : f_X2_init (nx h10) (newG h10 4 2 [] []) = some (arrN (nx h10) 49 21 (arrN (nx h10) 48 20 (newG h10 4 2 [] []))) := by
    have f1 : tg (newG h10 4 2 [] []) (nx h10) = 4 := by rw [tg_newG, if_pos rfl]
    have f2 : pfR 3 0 (some (nx h10)) (some (nx (newG h10 4 2 [] []))) (newG (newG h10 4 2 [] []) 20 16 (List.replicate 16 0) []) = some (arrN (nx h10) 48 20 (newG h10 4 2 [] [])) := pfR_eq (ci := 3) (by rw [tg_newG, if_neg (by show nx h10 ≠ nx h10 + 1; omega)]; exact f1)
    have f3 : tg (arrN (nx h10) 48 20 (newG h10 4 2 [] [])) (nx h10) = 4 := by rw [tg_arrN, if_neg (by show nx h10 ≠ nx h10 + 1; omega)]; exact f1
    have f4 : pfR 3 1 (some (nx h10)) (some (nx (arrN (nx h10) 48 20 (newG h10 4 2 [] [])))) (newG (arrN (nx h10) 48 20 (newG h10 4 2 [] [])) 21 16 (List.replicate 16 0) []) = some (arrN (nx h10) 49 21 (arrN (nx h10) 48 20 (newG h10 4 2 [] []))) := pfR_eq (ci := 3) (by rw [tg_newG, if_neg (by show nx h10 ≠ nx h10 + 2; omega)]; exact f3)
    unfold f_X2_init
    rw [eArr, Option.bind_some]
    show Option.bind (pfR 3 0 (some (nx h10)) (some (nx (newG h10 4 2 [] []))) (newG (newG h10 4 2 [] []) 20 16 (List.replicate 16 0) [])) _ = _
    rw [f2, Option.bind_some, eArr, Option.bind_some]
    show Option.bind (pfR 3 1 (some (nx h10)) (some (nx (arrN (nx h10) 48 20 (newG h10 4 2 [] [])))) (newG (arrN (nx h10) 48 20 (newG h10 4 2 [] [])) 21 16 (List.replicate 16 0) [])) _ = _
    rw [f4, Option.bind_some]
  have e14 : pfR 10 13 (some b) (some (nx h10)) (arrN (nx h10) 49 21 (arrN (nx h10) 48 20 (newG h10 4 2 [] []))) = some (folN b h10) := pfR_eq (ci := 10) (by rw [tg_arrN, if_neg (by show b ≠ nx h10 + 2; omega), tg_arrN, if_neg (by show b ≠ nx h10 + 1; omega), tg_newG, if_neg (by omega)]; exact t10)
  have t11 : tg (folN b h10) b = 11 := by rw [tg_folN, if_neg (by omega), if_neg (by omega), if_neg (by omega)]; exact t10
  have n11 : nx (folN b h10) = b + 16 := by rw [nx_folN, n10]
  generalize hg11 : folN b h10 = h11 at *
  have e15 : f_X5_init (nx h11) 0 (newG h11 7 4 [] []) = some (setI (setI (newG h11 7 4 [] []) 96 (nx h11) 0) 99 (nx h11) 1) := by
    have f1 : tg (newG h11 7 4 [] []) (nx h11) = 6 + 1 := by rw [tg_newG, if_pos rfl]
    unfold f_X5_init
    rw [pfI_eq (ci := 6) f1, Option.bind_some, if_pos rfl, pfZ_eq (ci := 6) (by exact f1) (Or.inr rfl), Option.bind_some]
  have e16 : pfR 10 6 (some b) (some (nx h11)) (setI (setI (newG h11 7 4 [] []) 96 (nx h11) 0) 99 (nx h11) 1) = some (depN b h11) := pfR_eq (ci := 10) (by show tg (newG h11 7 4 [] []) b = 11; rw [tg_newG, if_neg (by omega)]; exact t11)
  have eA : iniA b g = depN b h11 := by unfold iniA; rw [hg6, hg7, hg9, hg10, hg11]
  unfold f_X9_init
  rw [bb' _ _ _ _ e1, bb' _ _ _ _ e2, bb' _ _ _ _ e3, bb' _ _ _ _ e4, bb' _ _ _ _ e5, bb' _ _ _ _ e6]
  have hg6' : lstN b (160 + 5) (lstN b 164 (lstN b 163 (lstN b 162 (lstN b 161 (lstN b 160 g))))) = h6 := hg6
  rw [hg6', e7, Option.bind_some, e8, Option.bind_some, e9, Option.bind_some, bb' _ _ _ _ e10, bb' _ _ _ _ e11, eArr, Option.bind_some]
  show (Option.bind (pfR 10 12 (some b) (some (nx h9)) (newG h9 20 16 (List.replicate 16 0) [])) _) = _
  rw [e12, Option.bind_some, e13, Option.bind_some, e14, Option.bind_some, e15, Option.bind_some, e16, Option.bind_some, eA]
end Init
