/-! The law's fifty steps. -/
section Law8
variable {Z : Nat → Nat} {g c c' : HP} {T b xA rA fA : Nat} {bl xs rs fs : List Int32}
theorem LoS.sp {w : HP} {k m : Nat} (L : LoS Z b bl xA rA fA T xs rs g c fs) (S : Sim Z w c) (s : Spd Z k m g w) : LoS Z b bl xA rA fA T xs rs w c fs := by
  obtain ⟨_, h, A1, A2, A3, A4⟩ := L
  exact ⟨S, h, A1.sp s (Or.inr (Or.inr (Or.inr rfl))), A2.sp s (Or.inl rfl), A3.sp s (Or.inr (Or.inl rfl)), A4.sp s (Or.inl rfl)⟩
theorem s269_loop (n1 : b < fA) (n2 : xA < fA) (n3 : rA < fA) (hT : 0 < T) (hb : bl.length ≤ 260) : ∀ (m i : Nat) (g c : HP) (fs : List Int32), 50 - i < m → i ≤ 50 → LoS Z b bl xA rA fA T xs rs g c fs →
    ∃ w, f_L_law_L269 (some b) (some (Z 0)) xA rA (Int32.ofNat T) 5 fA m (Int32.ofNat i) g = some w ∧ ∃ c' fs', LoS Z b bl xA rA fA T xs rs w c' fs' ∧ SL fA Z ((50 - i) * 240) ((50 - i) * 8200) g w := by
  intro m
  induction m with
  | zero => intro i g c fs hm; omega
  | succ m ih =>
    intro i g c fs hm hi L
    have e50 : (50 : Int32) ≤ Int32.ofNat i ↔ 50 ≤ i := nLe (a := 50) (by decide) (by omega)
    rw [f_L_law_L269]
    by_cases hc : 50 ≤ i
    · rw [if_pos (e50.mpr hc)]
      exact ⟨g, rfl, c, fs, L, SL.rf.up (by omega) (by omega)⟩
    · obtain ⟨S, h, A1, A2, A3, A4⟩ := id L
      have j := h.1
      obtain ⟨r1, hr1, er1⟩ := mod16 (n := i) (by omega)
      obtain ⟨r2, hr2, er2⟩ := mod16 (n := 7 * i + 3) (by omega)
      have e7 : (7 : Int32) * Int32.ofNat i + 3 = Int32.ofNat (7 * i + 3) := by
        rw [show (7 : Int32) * Int32.ofNat i = Int32.ofNat (7 * i) from (Int32.ofNat_mul 7 i).symm]
        exact nAdd (7 * i) 3
      obtain ⟨x35, hx35⟩ := lw_cell A1 (Or.inr rfl) (by omega) (i := r1) (by omega)
      obtain ⟨x36, hx36⟩ := lw_cell A1 (Or.inr rfl) (by omega) (i := r2) (by omega)
      obtain ⟨w1, e1, S1, s1⟩ := q_many j (w := 1) (by decide) (by decide) g S
      rw [vM1] at e1
      have L1 := L.sp S1 s1
      rw [if_neg (fun z => hc (e50.mp z)), e7, er1, er2, hx35 g A1, Option.bind_some, hx36 g A1, Option.bind_some, rMv S j, Option.bind_some, e1, Option.bind_some]
      refine bind_arm (s_bq j _ w1) (fun q40 hq40 => ?_)
      refine bind_arm (s_bq j _ w1) (fun q42 hq42 => ?_)
      refine bind_arm (Q := fun x => ∃ k t, x = Int32.ofNat k ∧ (tls Z c)[k]? = some t) ?_ (fun x43 hx43 => ?_)
      · obtain ⟨k, k1, k2⟩ := lw_below (n := T) hT (by have := h.2.1.1; have := j.t.1; omega) (x36 + (5 * Int32.ofNat i)) w1
        exact ⟨Int32.ofNat k, k2, k, _, rfl, List.getElem?_eq_getElem (by rw [h.2.1.1]; exact k1)⟩
      refine bind_arm (Q := fun x => ∃ r, r < 16 ∧ x = Int32.ofNat r) ?_ (fun x44 hx44 => ?_)
      · obtain ⟨k, k1, k2⟩ := lw_below (n := 16) (by decide) (by decide) (x35 + (31 * Int32.ofNat i)) w1
        exact ⟨Int32.ofNat k, k2, k, k1, rfl⟩
      obtain ⟨k, t, rfl, hk⟩ := hx43
      obtain ⟨r, hr, rfl⟩ := hx44
      refine bind_arm (Q := fun x => ∃ c' fs', LoS Z b bl xA rA fA T xs rs x c' fs' ∧ SL fA Z 200 8000 w1 x) ?_ (fun q45 hQ => ?_)
      · have hr' : r = 0 ∨ r = 1 ∨ r = 2 ∨ r = 3 ∨ r = 4 ∨ r = 5 ∨ r = 6 ∨ r = 7 ∨ r = 8 ∨ r = 9 ∨ r = 10 ∨ r = 11 ∨ r = 12 ∨ r = 13 ∨ r = 14 ∨ r = 15 := by omega
        have ng : ∀ {u v : Nat}, u < 16 → v < 16 → u ≠ v → ¬ (Int32.ofNat u = Int32.ofNat v) := fun hu hv hne z => hne ((nEq (by omega) (by omega)).mp z)
        have A21 := L1.2.2.2.1
        rcases hr' with rfl | rfl | rfl | rfl | rfl | rfl | rfl | rfl | rfl | rfl | rfl | rfl | rfl | rfl | rfl | rfl
        · rw [if_pos (by decide)]; exact of_lws L1 n1 n2 n3 (arm0 S1 h _ _)
        · rw [if_neg (by decide), if_pos (by decide)]; exact of_lws L1 n1 n2 n3 (arm1 S1 h _)
        · rw [if_neg (by decide), if_neg (by decide), if_pos (by decide)]; exact of_lws L1 n1 n2 n3 (arm2 S1 h A21 hq40 hk)
        · rw [if_neg (by decide), if_neg (by decide), if_neg (by decide), if_pos (by decide)]; exact of_lws L1 n1 n2 n3 (arm2 S1 h A21 hq40 hk)
        · rw [if_neg (by decide), if_neg (by decide), if_neg (by decide), if_neg (by decide), if_pos (by decide)]; exact of_lws L1 n1 n2 n3 (arm2 S1 h A21 hq40 hk)
        · rw [if_neg (by decide), if_neg (by decide), if_neg (by decide), if_neg (by decide), if_neg (by decide), if_pos (by decide)]; exact of_lws L1 n1 n2 n3 (arm5 S1 h hq40)
        · rw [if_neg (by decide), if_neg (by decide), if_neg (by decide), if_neg (by decide), if_neg (by decide), if_neg (by decide), if_pos (by decide)]; exact of_lws L1 n1 n2 n3 (arm6 S1 h hq40 hq42 _ _)
        · rw [if_neg (by decide), if_neg (by decide), if_neg (by decide), if_neg (by decide), if_neg (by decide), if_neg (by decide), if_neg (by decide), if_pos (by decide)]; exact of_lws L1 n1 n2 n3 (arm7 S1 h hq40)
        · rw [if_neg (by decide), if_neg (by decide), if_neg (by decide), if_neg (by decide), if_neg (by decide), if_neg (by decide), if_neg (by decide), if_neg (by decide), if_pos (by decide)]; exact of_lws L1 n1 n2 n3 (arm7 S1 h hq40)
        · rw [if_neg (by decide), if_neg (by decide), if_neg (by decide), if_neg (by decide), if_neg (by decide), if_neg (by decide), if_neg (by decide), if_neg (by decide), if_neg (by decide), if_pos (by decide)]; exact of_lws L1 n1 n2 n3 (arm9 S1 h hq40 _ _)
        · rw [if_neg (by decide), if_neg (by decide), if_neg (by decide), if_neg (by decide), if_neg (by decide), if_neg (by decide), if_neg (by decide), if_neg (by decide), if_neg (by decide), if_neg (by decide), if_pos (by decide)]; exact of_lws L1 n1 n2 n3 (arm9 S1 h hq40 _ _)
        · rw [if_neg (by decide), if_neg (by decide), if_neg (by decide), if_neg (by decide), if_neg (by decide), if_neg (by decide), if_neg (by decide), if_neg (by decide), if_neg (by decide), if_neg (by decide), if_neg (by decide), if_pos (by decide)]; exact of_lws L1 n1 n2 n3 (arm11 S1 h hk _)
        · rw [if_neg (by decide), if_neg (by decide), if_neg (by decide), if_neg (by decide), if_neg (by decide), if_neg (by decide), if_neg (by decide), if_neg (by decide), if_neg (by decide), if_neg (by decide), if_neg (by decide), if_neg (by decide), if_pos (by decide)]; exact of_lws L1 n1 n2 n3 (arm12 S1 h _ _)
        · rw [if_neg (by decide), if_neg (by decide), if_neg (by decide), if_neg (by decide), if_neg (by decide), if_neg (by decide), if_neg (by decide), if_neg (by decide), if_neg (by decide), if_neg (by decide), if_neg (by decide), if_neg (by decide), if_neg (by decide), if_pos (by decide)]; exact of_lws L1 n1 n2 n3 (arm13 S1 h hq40 _)
        · rw [if_neg (by decide), if_neg (by decide), if_neg (by decide), if_neg (by decide), if_neg (by decide), if_neg (by decide), if_neg (by decide), if_neg (by decide), if_neg (by decide), if_neg (by decide), if_neg (by decide), if_neg (by decide), if_neg (by decide), if_neg (by decide), if_pos (by decide)]; exact arm14 L1 n1 n2 n3 _ _ _
        · rw [if_neg (by decide), if_neg (by decide), if_neg (by decide), if_neg (by decide), if_neg (by decide), if_neg (by decide), if_neg (by decide), if_neg (by decide), if_neg (by decide), if_neg (by decide), if_neg (by decide), if_neg (by decide), if_neg (by decide), if_neg (by decide), if_neg (by decide)]; exact of_lws L1 n1 n2 n3 (armD S1 h hk)
      obtain ⟨c2, fs2, L2, s2⟩ := hQ
      have e1' : Int32.ofNat i + 1 = Int32.ofNat (i + 1) := nAdd i 1
      rw [e1']
      by_cases h3 : Int32.ofNat i - Int32.ofNat i / 3 * 3 = 1
      · rw [if_pos h3]
        obtain ⟨S2, h2, B1, B2, B3, B4⟩ := id L2
        obtain ⟨w3, e3, S3, s3⟩ := lw_isSound S2 h2 B2 B3 B4
        have L3 : LoS Z b bl xA rA fA T xs rs w3 c2 fs2 := ⟨S3, h2, B1.sl s3 (Or.inr (Or.inr (Or.inr rfl))) B1.2.1, B2.sl s3 (Or.inl rfl) B2.2.1, B3.sl s3 (Or.inr (Or.inl rfl)) B3.2.1, B4.sl s3 (Or.inl rfl) B4.2.1⟩
        obtain ⟨w4, e4, c4, fs4, L4, s4⟩ := ih (i + 1) w3 c2 fs2 (by omega) (by omega) L3
        refine ⟨w4, ?_, c4, fs4, L4, (((s1.sl (n := fA)).tr s2).tr ((s3.lo (by have := B4.2.1; omega)).tr s4)).up (by omega) (by omega)⟩
        rw [e3, Option.bind_some]
        exact (if_neg (show ¬ (1 : Int32) = 0 by decide)).trans e4
      · rw [if_neg h3]
        obtain ⟨w4, e4, c4, fs4, L4, s4⟩ := ih (i + 1) q45 c2 fs2 (by omega) (by omega) L2
        exact ⟨w4, e4, c4, fs4, L4, (((s1.sl (n := fA)).tr s2).tr s4).up (by omega) (by omega)⟩
end Law8
