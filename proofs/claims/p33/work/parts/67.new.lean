/-! A new county. -/
def Zb (b i : Nat) : Nat := b + [0, 9, 11, 12, 14, 15, 8, 10, 13, 16, 7, 1, 2, 3, 4, 5, 6].getD i 0
def ghK (n : Nat) : Int32 := if n = 9 then 7 else if n = 11 then 8 else Int32.ofNat n
def iniC (b : Nat) (g : HP) : HP :=
  ((fun a => if b ≤ a ∧ a ≤ b + 16 then tg (iniA b g) a else 0),
   (fun k a => if k = 9 ∧ tg (iniA b g) a = 1 then ghK (a - b) else fi (iniA b g) k a),
   (fun k a => if k = 9 ∧ tg (iniA b g) a = 1 then some 0 else fr (iniA b g) k a), (iniA b g).2.2.2)
theorem tg_iniC (b : Nat) (g : HP) (a : Nat) : tg (iniC b g) a = if b ≤ a ∧ a ≤ b + 16 then tg (iniA b g) a else 0 := rfl
theorem fi_iniC (b : Nat) (g : HP) (k a : Nat) : fi (iniC b g) k a = if k = 9 ∧ tg (iniA b g) a = 1 then ghK (a - b) else fi (iniA b g) k a := rfl
theorem fr_iniC (b : Nat) (g : HP) (k a : Nat) : fr (iniC b g) k a = if k = 9 ∧ tg (iniA b g) a = 1 then some 0 else fr (iniA b g) k a := rfl
theorem oa_iniC (b : Nat) (g : HP) (a : Nat) : oa (iniC b g) a = oa (iniA b g) a := rfl
section New
variable {g : HP} {b : Nat}
theorem i_tg (hn : nx g = b + 1) (ht : tg g b = 11) : (tg (iniA b g) b = 11 ∧ tg (iniA b g) (b + 1) = 1 ∧ tg (iniA b g) (b + 2) = 1 ∧ tg (iniA b g) (b + 3) = 1 ∧ tg (iniA b g) (b + 4) = 1 ∧ tg (iniA b g) (b + 5) = 1 ∧ tg (iniA b g) (b + 6) = 1 ∧ tg (iniA b g) (b + 7) = 10) ∧
    (tg (iniA b g) (b + 8) = 8 ∧ tg (iniA b g) (b + 9) = 1 ∧ tg (iniA b g) (b + 10) = 8 ∧ tg (iniA b g) (b + 11) = 1 ∧ tg (iniA b g) (b + 12) = 20 ∧ tg (iniA b g) (b + 13) = 4 ∧ tg (iniA b g) (b + 14) = 20 ∧ tg (iniA b g) (b + 15) = 21 ∧ tg (iniA b g) (b + 16) = 7) := by
  refine ⟨⟨?_, ?_, ?_, ?_, ?_, ?_, ?_, ?_⟩, ?_, ?_, ?_, ?_, ?_, ?_, ?_, ?_, ?_⟩
  all_goals
    simp only [iniA, ini6, tg_depN, tg_folN, tg_arrN, tg_rowN, tg_rulN, tg_lstN, nx_depN, nx_folN, nx_arrN, nx_rowN, nx_rulN, nx_lstN, hn, if_true, and_true, true_and]
    repeat (first | rw [if_pos trivial] | rw [if_pos (by omega)] | rw [if_neg (by omega)])
  all_goals exact ht
theorem i_fr (hn : nx g = b + 1) : (fr (iniA b g) 160 b = some (b + 1) ∧ fr (iniA b g) 161 b = some (b + 2) ∧ fr (iniA b g) 162 b = some (b + 3) ∧ fr (iniA b g) 163 b = some (b + 4) ∧ fr (iniA b g) 164 b = some (b + 5) ∧ fr (iniA b g) 165 b = some (b + 6) ∧ fr (iniA b g) 166 b = some (b + 16) ∧ fr (iniA b g) 167 b = some (b + 7) ∧ fr (iniA b g) 170 b = some (b + 8) ∧ fr (iniA b g) 171 b = some (b + 10) ∧ fr (iniA b g) 172 b = some (b + 12) ∧ fr (iniA b g) 173 b = some (b + 13)) ∧
    (fr (iniA b g) 112 (b + 8) = some (b + 9) ∧ fr (iniA b g) 112 (b + 10) = some (b + 11) ∧ fr (iniA b g) 48 (b + 13) = some (b + 14) ∧ fr (iniA b g) 49 (b + 13) = some (b + 15)) ∧ fr (iniA b g) 0 (b + 9) = none ∧ fr (iniA b g) 0 (b + 11) = none := by
  refine ⟨⟨?_, ?_, ?_, ?_, ?_, ?_, ?_, ?_, ?_, ?_, ?_, ?_⟩, ⟨?_, ?_, ?_, ?_⟩, ?_, ?_⟩
  all_goals
    simp only [iniA, ini6, fr_depN, fr_folN, fr_arrN, fr_rowN, fr_rulN, fr_lstN, nx_depN, nx_folN, nx_arrN, nx_rowN, nx_rulN, nx_lstN, hn, if_true, and_true, true_and]
    repeat (first | rw [if_pos trivial] | rw [if_pos (by omega)] | rw [if_neg (by omega)])
theorem i_fi (hn : nx g = b + 1) (h8 : fi g 168 b = 0) : fi (iniA b g) 168 b = 0 ∧ fi (iniA b g) 169 b = 5 ∧ fi (iniA b g) 144 (b + 7) = 600 ∧ fi (iniA b g) 145 (b + 7) = 240 ∧ fi (iniA b g) 96 (b + 16) = 0 ∧ fi (iniA b g) 97 (b + 16) = 0 := by
  refine ⟨?_, ?_, ?_, ?_, ?_, ?_⟩
  all_goals
    simp only [iniA, ini6, fi_depN, fi_folN, fi_arrN, fi_rowN, fi_rulN, fi_lstN, nx_depN, nx_folN, nx_arrN, nx_rowN, nx_rulN, nx_lstN, hn, if_true, and_true, true_and]
    repeat (first | rw [if_pos trivial] | rw [if_pos (by omega)] | rw [if_neg (by omega)])
  all_goals exact h8
theorem i_oa (hn : nx g = b + 1) : oa (iniA b g) (b + 1) = [] ∧ oa (iniA b g) (b + 2) = [] ∧ oa (iniA b g) (b + 3) = [] ∧ oa (iniA b g) (b + 4) = [] ∧ oa (iniA b g) (b + 5) = [] ∧ oa (iniA b g) (b + 6) = [] ∧ oa (iniA b g) (b + 9) = [] ∧ oa (iniA b g) (b + 11) = [] ∧
    ia (iniA b g) (b + 12) = List.replicate 16 0 ∧ ia (iniA b g) (b + 14) = List.replicate 16 0 ∧ ia (iniA b g) (b + 15) = List.replicate 16 0 := by
  refine ⟨?_, ?_, ?_, ?_, ?_, ?_, ?_, ?_, ?_, ?_, ?_⟩
  all_goals
    simp only [iniA, ini6, oa_depN, oa_folN, oa_arrN, oa_rowN, oa_rulN, oa_lstN, ia_depN, ia_folN, ia_arrN, ia_rowN, ia_rulN, ia_lstN, nx_depN, nx_folN, nx_arrN, nx_rowN, nx_rulN, nx_lstN, hn, if_true, and_true, true_and]
    repeat (first | rw [if_pos trivial] | rw [if_pos (by omega)] | rw [if_neg (by omega)])
theorem i_nx (hn : nx g = b + 1) : nx (iniA b g) = b + 17 := by
  simp only [iniA, ini6, nx_depN, nx_folN, nx_arrN, nx_rowN, nx_rulN, nx_lstN, hn]
theorem i_sl : sl (iniA b g) = sl g + 18 + 2 + 8 + 16 + 34 + 4 := by
  simp only [iniA, ini6, sl_depN, sl_folN, sl_arrN, sl_rowN, sl_rulN, sl_lstN]
theorem i_old (hn : nx g = b + 1) {a : Nat} (h : a < b) : tg (iniA b g) a = tg g a ∧ ia (iniA b g) a = ia g a ∧ oa (iniA b g) a = oa g a := by
  refine ⟨?_, ?_, ?_⟩
  all_goals
    simp only [iniA, ini6, tg_depN, tg_folN, tg_arrN, tg_rowN, tg_rulN, tg_lstN, oa_depN, oa_folN, oa_arrN, oa_rowN, oa_rulN, oa_lstN, ia_depN, ia_folN, ia_arrN, ia_rowN, ia_rulN, ia_lstN, nx_depN, nx_folN, nx_arrN, nx_rowN, nx_rulN, nx_lstN, hn, if_true, and_true, true_and]
    repeat (first | rw [if_pos trivial] | rw [if_pos (by omega)] | rw [if_neg (by omega)])
end New
