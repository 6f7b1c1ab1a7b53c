/-! isSound: all the pieces of a block, all the blocks. -/
def nonE (c : HP) (l : List Nat) : Nat := (l.filter fun b => decide (rowB c b ≠ [])).length
section Sound5
variable {Z : Nat → Nat} {g c c' : HP} {T : Nat} {xs rs fs : List Int32} {mA pA gA rA n0' : Nat}
theorem nodup_fm {f : Nat → List Nat} : ∀ {l : List Nat}, l.Nodup → (∀ x ∈ l, (f x).Nodup) → (∀ x ∈ l, ∀ y ∈ l, ∀ z, z ∈ f x → z ∈ f y → x = y) → (l.flatMap f).Nodup
  | [], _, _, _ => List.nodup_nil
  | x :: xs, h1, h2, h3 => by
    obtain ⟨a1, a2⟩ := List.nodup_cons.mp h1
    rw [List.flatMap_cons]
    refine List.nodup_append.mpr ⟨h2 x List.mem_cons_self, nodup_fm a2 (fun y hy => h2 y (List.mem_cons_of_mem _ hy)) (fun y hy z hz => h3 y (List.mem_cons_of_mem _ hy) z (List.mem_cons_of_mem _ hz)), fun a ha b hb e => ?_⟩
    obtain ⟨y, hy, hby⟩ := List.mem_flatMap.mp hb
    have := h3 x List.mem_cons_self y (List.mem_cons_of_mem _ hy) a ha (e ▸ hby)
    exact a1 (this ▸ hy)
theorem j_pcsN (j : J Z c) {b : Nat} (hb : b ∈ bks Z c) : (pcs c b).Nodup := by
  obtain ⟨_, _, _, _, _, _, h, _⟩ := j.bok hb; exact h
theorem j_rows1 (j : J Z c) {b b' t : Nat} (hb : b ∈ bks Z c) (hb' : b' ∈ bks Z c) (h1 : t ∈ rowB c b) (h2 : t ∈ rowB c b') : b = b' := by
  have e1 := (j.rT hb h1).2
  rw [(j.rT hb' h2).2] at e1
  exact (Option.some.inj e1).symm
theorem j_pcs1 (j : J Z c) {b b' p : Nat} (hb : b ∈ bks Z c) (hb' : b' ∈ bks Z c) (h1 : p ∈ pcs c b) (h2 : p ∈ pcs c b') : b = b' := j_rows1 j hb hb' (j.pk hb h1).2.2.2.1 (j.pk hb' h2).2.2.2.1
theorem j_allP (j : J Z c) {l : List Nat} (hl : l.Nodup) (h : ∀ b ∈ l, b ∈ bks Z c) : (l.flatMap (pcs c)).Nodup ∧ ∀ p ∈ l.flatMap (pcs c), InP Z c p := by
  refine ⟨nodup_fm hl (fun b hb => j_pcsN j (h b hb)) fun x hx y hy z h1 h2 => j_pcs1 j (h x hx) (h y hy) h1 h2, fun p hp => ?_⟩
  obtain ⟨b, hb, hpb⟩ := List.mem_flatMap.mp hp
  exact ⟨b, h b hb, hpb⟩
theorem s534_loop (h : LI Z c T xs rs fs) (hmp : mA ≠ pA) (n1 : n0' ≤ mA) (n2 : n0' ≤ pA) (n3 : n0' ≤ gA) (n4 : rA < n0') {i b : Nat} (hi : (bks Z c)[i]? = some b) {s1 : Option Nat} {p3 p8 p9 p10 : Int32} : ∀ (ps pre Q R : List Nat) (m a : Nat) (w : HP), pcs c b = pre ++ ps → ps.length < m → (ps = [] ∨ Cuts c (rowB c b) a ps) → (Q ++ ps).Nodup → (∀ q ∈ Q ++ ps, InP Z c q) → PSt Z w c mA pA gA rA rs Q R →
    ∃ w' R' a', f_L_isSound_L534 (Z 0) s1 (some rA) p3 p8 p9 p10 mA pA gA (Int32.ofNat i) (Int32.ofNat (rowB c b).length) m (Int32.ofNat (gvn c Q).length) (Int32.ofNat a) (Int32.ofNat pre.length) w = some (Int32.ofNat (gvn c (Q ++ ps)).length, Int32.ofNat a', w') ∧ PSt Z w' c mA pA gA rA rs (Q ++ ps) R' ∧ SL n0' Z ps.length (3 * ps.length) w w' ∧ (Cuts c (rowB c b) a ps → a' = (rowB c b).length) := by
  intro ps
  have j := h.1
  have hb := List.mem_of_getElem? hi
  have l40 : (pcs c b).length ≤ 40 := (j.bz hb).2.2.2.1.2.2.2
  induction ps with
  | nil =>
    intro pre Q R m a w hpre hm _ _ _ P
    obtain ⟨w1, e1, S1, s1'⟩ := q_ofBlock j hi (w := 3) (by decide) (by decide) w P.1
    rw [vB3] at e1
    cases m with
    | zero => exact absurd hm (Nat.not_lt_zero _)
    | succ m =>
      refine ⟨w1, R, a, ?_, by rw [List.append_nil]; exact P.sp S1 s1', s1'.sl, fun z => z⟩
      rw [f_L_isSound_L534, rMv P.1 j, Option.bind_some, e1, Option.bind_some]
      show (if Int32.ofNat (pcs c b).length ≤ Int32.ofNat pre.length then some (Int32.ofNat (gvn c Q).length, Int32.ofNat a, w1) else _) = _
      rw [if_pos (by rw [hpre, List.append_nil]; exact Int32.le_refl _), List.append_nil]
  | cons p ps ih =>
    intro pre Q R m a w hpre hm hcut hn hq P
    cases m with
    | zero => exact absurd hm (Nat.not_lt_zero _)
    | succ m =>
      obtain ⟨n, c1, c2, c3, c4, c5, c6, c7⟩ : Cuts c (rowB c b) a (p :: ps) := hcut.resolve_left (fun z => by cases z)
      have hp : (pcs c b)[pre.length]? = some p := by rw [hpre, List.getElem?_append_right (Nat.le_refl _), Nat.sub_self]; rfl
      have eQ : Q ++ p :: ps = (Q ++ [p]) ++ ps := by rw [List.append_assoc]; rfl
      rw [eQ] at hn hq ⊢
      obtain ⟨w1, R1, e1, P1, s1'⟩ := s534_step h hmp n1 n2 n3 n4 hi P hp c1 c2 c3 c4 c5 c6 (List.nodup_append.mp hn).1 (fun q z => hq q (List.mem_append_left _ z)) (s1 := s1) (p3 := p3) (p8 := p8) (p9 := p9) (p10 := p10) m
      obtain ⟨w2, R2, a', e2, P2, s2', k2⟩ := ih (pre ++ [p]) (Q ++ [p]) R1 m (a + n) w1 (by rw [hpre, List.append_assoc]; rfl) (by rw [List.length_cons] at hm; omega) (Or.inr c7) hn hq P1
      rw [List.length_append, List.length_singleton] at e2
      refine ⟨w2, R2, a', by rw [e1, e2], P2, (s1'.tr s2').up (by rw [List.length_cons]; omega) (by rw [List.length_cons]; omega), fun _ => k2 c7⟩
theorem s354_loop (h : LI Z c T xs rs fs) (hmp : mA ≠ pA) (n1 : n0' ≤ mA) (n2 : n0' ≤ pA) (n3 : n0' ≤ gA) (n4 : rA < n0') {xA : Nat} (n5 : xA < n0') {p3 p8 : Int32} : ∀ (bs pre R : List Nat) (m : Nat) (w : HP), bks Z c = pre ++ bs → bs.length < m → PSt Z w c mA pA gA rA rs (pre.flatMap (pcs c)) R → Arr Z w 20 xA xs →
    ∃ w' R', f_L_isSound_L354 (Z 0) (some xA) (some rA) p3 p8 mA pA gA m (Int32.ofNat (nonE c pre)) (Int32.ofNat (pre.flatMap (rowB c)).length) (Int32.ofNat (gvn c (pre.flatMap (pcs c))).length) (Int32.ofNat pre.length) w = some (Int32.ofNat (nonE c (bks Z c)), Int32.ofNat ((bks Z c).flatMap (rowB c)).length, w') ∧ PSt Z w' c mA pA gA rA rs ((bks Z c).flatMap (pcs c)) R' ∧ SL n0' Z (bs.flatMap (pcs c)).length (3 * (bs.flatMap (pcs c)).length) w w' := by
  intro bs
  have j := h.1
  have l8 := j.b.1
  induction bs with
  | nil =>
    intro pre R m w hpre hm P A
    rw [List.append_nil] at hpre
    obtain ⟨w1, e1, S1, s1'⟩ := q_many j (w := 1) (by decide) (by decide) w P.1
    rw [vM1] at e1
    cases m with
    | zero => exact absurd hm (Nat.not_lt_zero _)
    | succ m =>
      rw [hpre]
      refine ⟨w1, R, ?_, P.sp S1 s1', s1'.sl⟩
      rw [f_L_isSound_L354, rMv P.1 j, Option.bind_some, e1, Option.bind_some]
      show (if Int32.ofNat (bks Z c).length ≤ Int32.ofNat pre.length then some (Int32.ofNat (nonE c pre), Int32.ofNat (pre.flatMap (rowB c)).length, w1) else _) = _
      rw [if_pos (by rw [hpre]; exact Int32.le_refl _)]
  | cons b bs ih =>
    intro pre R m w hpre hm P A
    cases m with
    | zero => exact absurd hm (Nat.not_lt_zero _)
    | succ m =>
      have hi : (bks Z c)[pre.length]? = some b := by rw [hpre, List.getElem?_append_right (Nat.le_refl _), Nat.sub_self]; rfl
      have hb := List.mem_of_getElem? hi
      have hi8 := bi31 j hi
      have l16 := j.rlen hb
      have l40 : (pcs c b).length ≤ 40 := (j.bz hb).2.2.2.1.2.2.2
      have hlt := (List.getElem?_eq_some_iff.mp hi).1
      have eP : ∀ f : Nat → List Nat, (pre ++ [b]).flatMap f = pre.flatMap f ++ f b := fun f => by rw [List.flatMap_append, List.flatMap_singleton]
      have e1' : bks Z c = (pre ++ [b]) ++ bs := by rw [hpre, List.append_assoc]; rfl
      obtain ⟨hn, hq⟩ := j_allP j (l := pre ++ [b]) (by have := j.bN; rw [e1'] at this; exact (List.nodup_append.mp this).1) (fun x hx => by rw [e1']; exact List.mem_append_left _ hx)
      rw [eP] at hn hq
      have S := P.1
      obtain ⟨w1, e1, S1, s1'⟩ := q_many j (w := 1) (by decide) (by decide) w S
      obtain ⟨w2, e2, S2, s2'⟩ := q_ofBlock j hi (w := 1) (by decide) (by decide) w1 S1
      rw [vM1] at e1
      rw [vB1] at e2
      obtain ⟨w3, e3, S3, s3'⟩ := s398_loop h hi (s2 := some rA) (p3 := p3) (p8 := p8) (p9 := Int32.ofNat (nonE c pre) + (if Int32.ofNat (rowB c b).length ≤ 0 then 0 else 1)) (p10 := Int32.ofNat (pre.flatMap (rowB c)).length + Int32.ofNat (rowB c b).length) (p14 := Int32.ofNat (gvn c (pre.flatMap (pcs c))).length) (p11 := mA) (p12 := pA) (p13 := gA) FU 0 w2 (by show _ < 4096; omega) (Nat.zero_le _) S2 ((A.sp s1' (Or.inl rfl)).sp s2' (Or.inl rfl))
      obtain ⟨w4, e4, S4, s4'⟩ := q_ofBlock j hi (w := 4) (by decide) (by decide) w3 S3
      obtain ⟨w5, e5, S5, s5'⟩ := q_ofBlock j hi (w := 5) (by decide) (by decide) w4 S4
      obtain ⟨w6, e6, S6, s6'⟩ := q_ofBlock j hi (w := 5) (by decide) (by decide) w5 S5
      obtain ⟨w7, e7, S7, s7'⟩ := q_ofBlock j hi (w := 0) (by decide) (by decide) w6 S6
      rw [vB4] at e4
      rw [vB5] at e5 e6
      rw [vB0] at e7
      have t7 := (((((s1'.tr s2').tr s3').tr s4').tr s5').tr s6').tr s7'
      have P7 := P.sp S7 t7
      obtain ⟨_, _, _, _, _, _, _, _, hcuts⟩ := j.bok hb
      obtain ⟨w8, R8, a8, e8, P8, s8', k8⟩ := s534_loop h hmp n1 n2 n3 n4 hi (s1 := some xA) (p3 := p3) (p8 := p8) (p9 := Int32.ofNat (nonE c pre) + (if Int32.ofNat (rowB c b).length ≤ 0 then 0 else 1)) (p10 := Int32.ofNat (pre.flatMap (rowB c)).length + Int32.ofNat (rowB c b).length) (pcs c b) [] (pre.flatMap (pcs c)) R FU 0 w7 rfl (by show _ < 4096; omega) hcuts hn hq P7
      obtain ⟨w9, e9, S9, s9'⟩ := q_ofBlock j hi (w := 3) (by decide) (by decide) w8 P8.1
      rw [vB3] at e9
      have P9 := P8.sp S9 s9'
      have sl9 := (t7.sl (n := n0')).tr (s8'.tr s9'.sl)
      rw [← eP] at P9
      obtain ⟨w10, R10, e10, P10, s10'⟩ := ih (pre ++ [b]) R8 m w9 e1' (by rw [List.length_cons] at hm; omega) P9 (A.sl sl9 (Or.inl rfl) n5)
      have eN : Int32.ofNat (nonE c pre) + (if Int32.ofNat (rowB c b).length ≤ 0 then 0 else 1) = Int32.ofNat (nonE c (pre ++ [b])) := by
        unfold nonE
        rw [List.filter_append, List.length_append]
        by_cases hr : rowB c b = []
        · rw [hr, if_pos (by decide), show ([b].filter fun b => decide (rowB c b ≠ [])) = [] by rw [List.filter_cons, decide_eq_false (fun z => z hr)]; rfl, Int32.add_zero]; rfl
        · have := List.length_pos_iff.mpr hr
          rw [if_neg (fun z => by have := (nLe (a := (rowB c b).length) (b := 0) (by omega) (by decide)).mp z; omega), show ([b].filter fun b => decide (rowB c b ≠ [])) = [b] by rw [List.filter_cons, decide_eq_true hr]; rfl]
          exact nAdd _ 1
      have eA : Int32.ofNat (pre.flatMap (rowB c)).length + Int32.ofNat (rowB c b).length = Int32.ofNat ((pre ++ [b]).flatMap (rowB c)).length := by rw [nAdd, eP, List.length_append]
      have eI : Int32.ofNat pre.length + 1 = Int32.ofNat (pre ++ [b]).length := by rw [List.length_append]; exact nAdd _ 1
      refine ⟨w10, R10, ?_, P10, (sl9.tr s10').up (by rw [List.flatMap_cons, List.length_append]; omega) (by rw [List.flatMap_cons, List.length_append]; omega)⟩
      rw [f_L_isSound_L354, rMv S j, Option.bind_some, e1, Option.bind_some]
      show (if Int32.ofNat (bks Z c).length ≤ Int32.ofNat pre.length then _ else (rcv 10 (some (Z 0)) w1).bind _) = _
      rw [if_neg (fun z => by have := (nLe (by omega) (by omega)).mp z; omega), rMv S1 j, Option.bind_some, e2, Option.bind_some]
      show Option.bind (if Int32.ofNat (rowB c b).length ≤ 0 then some (0 : Int32) else some (1 : Int32)) _ = _
      rw [show (if Int32.ofNat (rowB c b).length ≤ 0 then some (0 : Int32) else some (1 : Int32)) = some (if Int32.ofNat (rowB c b).length ≤ 0 then 0 else 1) by split <;> rfl, Option.bind_some]
      show ((f_L_isSound_L398 (Z 0) (some xA) (some rA) p3 p8 (Int32.ofNat (nonE c pre) + (if Int32.ofNat (rowB c b).length ≤ 0 then 0 else 1)) (Int32.ofNat (pre.flatMap (rowB c)).length + Int32.ofNat (rowB c b).length) mA pA gA (Int32.ofNat (gvn c (pre.flatMap (pcs c))).length) (Int32.ofNat pre.length) (Int32.ofNat (rowB c b).length) FU (Int32.ofNat 0) w2).bind _) = _
      rw [e3, Option.bind_some, rMv S3 j, Option.bind_some]
      show ((f_X9_at (Z 0) (Int32.ofNat pre.length) (Int32.ofNat (rowB c b).length) w3).bind _) = _
      rw [q_at S3 j hi (by omega), Option.bind_some, vAt_no (List.getElem?_eq_none (Nat.le_refl _)), if_pos rfl, Option.bind_some, e4, Option.bind_some]
      show Option.bind (if (if 0 ≤ chB Z c b then (0 : Int32) else 1) = 1 then some (1 : Int32) else some (0 : Int32)) _ = _
      rw [show (if (if 0 ≤ chB Z c b then (0 : Int32) else 1) = 1 then some (1 : Int32) else some (0 : Int32)) = some (if 0 ≤ chB Z c b then 0 else 1) by
        by_cases hc : 0 ≤ chB Z c b
        · rw [if_pos hc, if_neg (by decide)]
        · rw [if_neg hc, if_pos rfl], Option.bind_some]
      show ((rcv 10 (some (Z 0)) w4).bind _) = _
      rw [rMv S4 j, Option.bind_some, e5, Option.bind_some]
      show Option.bind (if 0 ≤ chB Z c b then some (0 : Int32) else some (1 : Int32)) _ = _
      rw [show (if 0 ≤ chB Z c b then some (0 : Int32) else some (1 : Int32)) = some (if 0 ≤ chB Z c b then 0 else 1) by split <;> rfl, Option.bind_some, if_pos rfl]
      show ((rcv 10 (some (Z 0)) w5).bind _) = _
      rw [rMv S5 j, Option.bind_some, e6, Option.bind_some]
      show ((rcv 10 (some (Z 0)) w6).bind _) = _
      rw [rMv S6 j, Option.bind_some, e7, Option.bind_some]
      show (if chB Z c b ≤ fi c 17 b then ((f_L_isSound_L534 (Z 0) (some xA) (some rA) p3 p8 (Int32.ofNat (nonE c pre) + (if Int32.ofNat (rowB c b).length ≤ 0 then 0 else 1)) (Int32.ofNat (pre.flatMap (rowB c)).length + Int32.ofNat (rowB c b).length) mA pA gA (Int32.ofNat pre.length) (Int32.ofNat (rowB c b).length) FU (Int32.ofNat (gvn c (pre.flatMap (pcs c))).length) (Int32.ofNat 0) (Int32.ofNat ([] : List Nat).length) w7).bind _) else none) = _
      rw [if_pos (show chB Z c b ≤ fi c 17 b from chR_le _ _ _ _ _), e8, Option.bind_some]
      show ((rcv 10 (some (Z 0)) w8).bind _) = _
      rw [rMv P8.1 j, Option.bind_some, e9, Option.bind_some]
      rw [eN, eA, eI, ← eP]
      show (if Int32.ofNat (pcs c b).length ≤ 0 then f_L_isSound_L354 (Z 0) (some xA) (some rA) p3 p8 mA pA gA m (Int32.ofNat (nonE c (pre ++ [b]))) (Int32.ofNat ((pre ++ [b]).flatMap (rowB c)).length) (Int32.ofNat (gvn c ((pre ++ [b]).flatMap (pcs c))).length) (Int32.ofNat (pre ++ [b]).length) w9 else (if Int32.ofNat a8 = Int32.ofNat (rowB c b).length then f_L_isSound_L354 (Z 0) (some xA) (some rA) p3 p8 mA pA gA m (Int32.ofNat (nonE c (pre ++ [b]))) (Int32.ofNat ((pre ++ [b]).flatMap (rowB c)).length) (Int32.ofNat (gvn c ((pre ++ [b]).flatMap (pcs c))).length) (Int32.ofNat (pre ++ [b]).length) w9 else none)) = _
      rw [e10]
      by_cases h0 : pcs c b = []
      · rw [if_pos (by rw [h0]; decide)]
      · have h1 := List.length_pos_iff.mpr h0
        rw [if_neg (fun z => by have := (nLe (a := (pcs c b).length) (b := 0) (by omega) (by decide)).mp z; omega), if_pos (by rw [k8 (hcuts.resolve_left h0)])]
end Sound5
