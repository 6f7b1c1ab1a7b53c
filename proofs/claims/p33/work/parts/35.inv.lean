/-! What is always so of the county. Of a list the county keeps in places 9 its kind and its owner. -/
def pls (Z : Nat → Nat) (c : HP) : List Nat := refs c (Z 11)
def lns (Z : Nat → Nat) (c : HP) : List Nat := refs c (Z 12)
def tls (Z : Nat → Nat) (c : HP) : List Nat := refs c (Z 13)
def bss (Z : Nat → Nat) (c : HP) : List Nat := refs c (Z 14)
def bks (Z : Nat → Nat) (c : HP) : List Nat := refs c (Z 15)
def dvs (Z : Nat → Nat) (c : HP) : List Nat := refs c (Z 16)
def rwA (c : HP) (b : Nat) : Nat := (fr c 19 b).getD 0
def rlB (c : HP) (b : Nat) : Nat := rlA c (rwA c b)
def rowB (c : HP) (b : Nat) : List Nat := refs c (rlB c b)
def plB (c : HP) (b : Nat) : Nat := (fr c 20 b).getD 0
def pcs (c : HP) (b : Nat) : List Nat := refs c (plB c b)
def dpA (c : HP) (d : Nat) : Nat := (fr c 34 d).getD 0
def dps (c : HP) (d : Nat) : List Nat := refs c (dpA c d)
def pfA (c : HP) (p : Nat) : Nat := (fr c 82 p).getD 0
def pzA (c : HP) (p : Nat) : Nat := (fr c 83 p).getD 0
def nst (c : HP) (t : Nat) : Nat := (fi c 132 t).toNatClampNeg
def nmn (c : HP) (t : Nat) : Nat := (fi c 133 t).toNatClampNeg
def ndl (c : HP) (t : Nat) : Nat := (fi c 134 t).toNatClampNeg
def npx (c : HP) (p : Nat) : Nat := (fi c 97 p).toNatClampNeg
def LK (c : HP) (a : Nat) (k : Int32) (o n : Nat) : Prop := IsL c a n ∧ fi c 9 a = k ∧ fr c 9 a = some o
def JF (Z : Nat → Nat) (c : HP) : Prop := tg c (Z 0) = 11 ∧ fr c 160 (Z 0) = some (Z 11) ∧ fr c 161 (Z 0) = some (Z 12) ∧ fr c 162 (Z 0) = some (Z 13) ∧ fr c 163 (Z 0) = some (Z 14) ∧ fr c 164 (Z 0) = some (Z 15) ∧ fr c 165 (Z 0) = some (Z 16) ∧ fr c 166 (Z 0) = some (Z 9) ∧ fr c 167 (Z 0) = some (Z 10) ∧ fr c 170 (Z 0) = some (Z 6) ∧ fr c 171 (Z 0) = some (Z 7) ∧ fr c 172 (Z 0) = some (Z 3) ∧ fr c 173 (Z 0) = some (Z 8)
def JG (Z : Nat → Nat) (c : HP) : Prop := tg c (Z 6) = 8 ∧ tg c (Z 7) = 8 ∧ fr c 112 (Z 6) = some (Z 1) ∧ fr c 112 (Z 7) = some (Z 2) ∧ tg c (Z 8) = 4 ∧ fr c 48 (Z 8) = some (Z 4) ∧ fr c 49 (Z 8) = some (Z 5) ∧ tg c (Z 9) = 7 ∧ tg c (Z 10) = 10 ∧ fi c 9 (Z 1) = 7 ∧ fi c 9 (Z 2) = 8 ∧ ZT Z c
def JC (Z : Nat → Nat) (c : HP) : Prop := fi c 168 (Z 0) = 0 ∧ fi c 169 (Z 0) = 5 ∧ fi c 144 (Z 10) = 600 ∧ fi c 145 (Z 10) = 240
def JL (Z : Nat → Nat) (c : HP) : Prop := LK c (Z 11) 1 0 7 ∧ LK c (Z 12) 2 0 5 ∧ LK c (Z 13) 3 0 9 ∧ LK c (Z 14) 4 0 9 ∧ LK c (Z 15) 5 0 2 ∧ LK c (Z 16) 6 0 3
def JN (Z : Nat → Nat) (c : HP) : Prop := ((pls Z c).length = 8 ∧ (lns Z c).length = 4 ∧ Z 9 ∈ pls Z c) ∧ (∀ i p, (pls Z c)[i]? = some p → fi c 96 p = Int32.ofNat i ∧ fi c 97 p = Int32.ofNat (npx c p) ∧ npx c p ≤ 15) ∧ (∀ i l, (lns Z c)[i]? = some l → fi c 64 l = Int32.ofNat i)
/-- one trip -/
def TOk (Z : Nat → Nat) (c : HP) (i t : Nat) : Prop :=
  (IsT c t ∧ fi c 128 t = Int32.ofNat i ∧ lA c t ∈ lns Z c ∧ fA c t ∈ pls Z c ∧ tA c t ∈ pls Z c) ∧
  (fi c 132 t = Int32.ofNat (nst c t) ∧ nst c t ≤ 699 ∧ fi c 133 t = Int32.ofNat (nmn c t) ∧ 5 ≤ nmn c t ∧ nmn c t ≤ 44 ∧ fi c 134 t = Int32.ofNat (ndl c t) ∧ ndl c t ≤ 120) ∧
  (∀ b, fr c 135 t = some b → b ∈ bks Z c ∧ t ∈ rowB c b) ∧ (∀ p, fr c 136 t = some p → tg c p = 6 ∧ ∃ b, fr c 135 t = some b)
def JT (Z : Nat → Nat) (c : HP) : Prop := (tls Z c).length ≤ 16 ∧ ∀ i t, (tls Z c)[i]? = some t → TOk Z c i t
/-- a row is driven in order -/
def chn (c : HP) (R : List Nat) : Prop := ∀ k x y, R[k]? = some x → R[k + 1]? = some y → canF c x y = true
/-- the pieces of a row, from its place i on -/
def Cuts (c : HP) (R : List Nat) : Nat → List Nat → Prop
  | i, [] => i = R.length
  | i, p :: ps => ∃ n, 0 < n ∧ fi c 84 p = Int32.ofNat n ∧ R[i]? = some (pfA c p) ∧ R[i + n - 1]? = some (pzA c p) ∧ (i + n < R.length → fi c 99 (tA c (pzA c p)) ≠ 0) ∧ tend c (pzA c p) - tst c (pfA c p) ≤ 600 ∧ Cuts c R (i + n) ps
/-- one block -/
def BOk (Z : Nat → Nat) (c : HP) (i b : Nat) : Prop :=
  (fi c 16 b = Int32.ofNat i ∧ -1 ≤ fi c 18 b ∧ fi c 18 b ≤ 1600) ∧
  (fr c 19 b = some (rwA c b) ∧ tg c (rwA c b) = 8 ∧ fr c 112 (rwA c b) = some (rlB c b) ∧ LK c (rlB c b) 10 b 9 ∧ fr c 20 b = some (plB c b) ∧ LK c (plB c b) 11 b 6) ∧
  ((rowB c b).Nodup ∧ (∀ t ∈ rowB c b, t ∈ tls Z c ∧ fr c 135 t = some b) ∧ chn c (rowB c b)) ∧
  ((pcs c b).Nodup ∧ (∀ p ∈ pcs c b, fr c 81 p = some (rwA c b) ∧ fr c 82 p = some (pfA c p) ∧ pfA c p ∈ rowB c b ∧ fr c 83 p = some (pzA c p) ∧ pzA c p ∈ rowB c b ∧ fr c 136 (pfA c p) = some p) ∧ (pcs c b = [] ∨ Cuts c (rowB c b) 0 (pcs c b)))
def JB (Z : Nat → Nat) (c : HP) : Prop := (bks Z c).length ≤ 8 ∧ ∀ i b, (bks Z c)[i]? = some b → BOk Z c i b
/-- two pieces too near -/
def nearP (c : HP) (p q : Nat) : Prop := tst c (pfA c q) ≤ tend c (pzA c p) + 10 ∧ tst c (pfA c p) - 10 ≤ tend c (pzA c q)
def minP (c : HP) (p : Nat) : Int32 := tend c (pzA c p) - tst c (pfA c p)
def sumI (f : Nat → Int32) : List Nat → Int32
  | [] => 0
  | x :: xs => f x + sumI f xs
/-- one driver -/
def DOk (Z : Nat → Nat) (c : HP) (i d : Nat) : Prop :=
  (fi c 32 d = Int32.ofNat i ∧ (fi c 33 d = 0 ∨ fi c 33 d = 1)) ∧ (fr c 34 d = some (dpA c d) ∧ LK c (dpA c d) 12 d 6) ∧
  ((dps c d).Nodup ∧ (∀ p ∈ dps c d, fr c 85 p = some d ∧ ∃ b ∈ bks Z c, p ∈ pcs c b)) ∧ (∀ p ∈ dps c d, ∀ q ∈ dps c d, p ≠ q → ¬ nearP c p q) ∧ sumI (minP c) (dps c d) ≤ 600
def JD (Z : Nat → Nat) (c : HP) : Prop := (dvs Z c).length ≤ 6 ∧ ∀ i d, (dvs Z c)[i]? = some d → DOk Z c i d
def JQ (Z : Nat → Nat) (c : HP) : Prop := ∀ p d, tg c p = 6 → fr c 85 p = some d → d ∈ dvs Z c ∧ p ∈ dps c d
def JS (Z : Nat → Nat) (c : HP) : Prop := (∀ t ∈ bss Z c, t ∈ tls Z c) ∧ (bss Z c).length ≤ (tls Z c).length ∧ (bss Z c).Pairwise (fun x y => nst c x ≤ nst c y)
def J (Z : Nat → Nat) (c : HP) : Prop := (JF Z c ∧ JG Z c ∧ JC Z c ∧ JL Z c) ∧ (JN Z c ∧ JT Z c ∧ JB Z c ∧ JD Z c ∧ JQ Z c) ∧ JS Z c
section Jays
variable {Z : Nat → Nat} {g c : HP}
theorem J.f (j : J Z c) : JF Z c := j.1.1
theorem J.gg (j : J Z c) : JG Z c := j.1.2.1
theorem J.cc (j : J Z c) : JC Z c := j.1.2.2.1
theorem J.l (j : J Z c) : JL Z c := j.1.2.2.2
theorem J.n (j : J Z c) : JN Z c := j.2.1.1
theorem J.t (j : J Z c) : JT Z c := j.2.1.2.1
theorem J.b (j : J Z c) : JB Z c := j.2.1.2.2.1
theorem J.d (j : J Z c) : JD Z c := j.2.1.2.2.2.1
theorem J.q (j : J Z c) : JQ Z c := j.2.1.2.2.2.2
theorem J.s (j : J Z c) : JS Z c := j.2.2
theorem LK.z1 {a n o : Nat} {k : Int32} (h : LK c a k o n) (j : JG Z c) (hk : k ≠ 7) : a ≠ Z 1 := fun z => hk (by rw [← h.2.1, z]; exact j.2.2.2.2.2.2.2.2.2.1)
theorem LK.z2 {a n o : Nat} {k : Int32} (h : LK c a k o n) (j : JG Z c) (hk : k ≠ 8) : a ≠ Z 2 := fun z => hk (by rw [← h.2.1, z]; exact j.2.2.2.2.2.2.2.2.2.2.1)
theorem LK.ne {a n o a' n' o' : Nat} {k k' : Int32} (h : LK c a k o n) (h' : LK c a' k' o' n') (hk : k ≠ k') : a ≠ a' := fun z => hk (by rw [← h.2.1, z]; exact h'.2.1)
theorem LK.own {a n o a' n' o' : Nat} {k k' : Int32} (h : LK c a k o n) (h' : LK c a' k' o' n') (z : a = a') : o = o' := by
  have := h'.2.2
  rw [← z, h.2.2] at this
  exact Option.some.inj this
theorem LK.sz {a n o : Nat} {k : Int32} (S : Sim Z g c) (h : LK c a k o n) (j : JG Z c) (h7 : k ≠ 7) (h8 : k ≠ 8) : al_size a g = some (Int32.ofNat (refs c a).length) := IsL.size S h.1 (h.z1 j h7) (h.z2 j h8)
theorem LK.gt {a n o i x : Nat} {k : Int32} (S : Sim Z g c) (h : LK c a k o n) (j : JG Z c) (h7 : k ≠ 7) (h8 : k ≠ 8) (hi : (refs c a)[i]? = some x) : al_get a (Int32.ofNat i) g = some (some x) := IsL.get S h.1 (h.z1 j h7) (h.z2 j h8) hi
theorem LK.tg {a n o i x : Nat} {k : Int32} (h : LK c a k o n) (hi : (refs c a)[i]? = some x) : tg c x = n := h.1.2.2.1 x (List.mem_of_getElem? hi)
theorem LK.rc {a n o : Nat} {k : Int32} (S : Sim Z g c) (h : LK c a k o n) : rcv 0 (some a) g = some a := S.rc (ci := 0) h.1.1
theorem LK.oc {a n o : Nat} {k : Int32} (h : LK c a k o n) : oa c a = (refs c a).map some := h.1.2.1
theorem LK.oag {a n o : Nat} {k : Int32} (S : Sim Z g c) (h : LK c a k o n) (j : JG Z c) (h7 : k ≠ 7) (h8 : k ≠ 8) : oa g a = (refs c a).map some := by
  rw [S.2.2.2.1 a h.1.1 (h.z1 j h7) (h.z2 j h8)]; exact h.1.2.1
theorem mem_at {l : List Nat} {x : Nat} (h : x ∈ l) : ∃ i : Nat, l[i]? = some x := List.getElem?_of_mem h
theorem J.tok (j : J Z c) {t : Nat} (h : t ∈ tls Z c) : ∃ i, (tls Z c)[i]? = some t ∧ i < 16 ∧ TOk Z c i t := by
  obtain ⟨i, hi⟩ := mem_at h
  exact ⟨i, hi, by have := (List.getElem?_eq_some_iff.mp hi).1; have := j.t.1; omega, j.t.2 i t hi⟩
theorem J.bok (j : J Z c) {b : Nat} (h : b ∈ bks Z c) : ∃ i, (bks Z c)[i]? = some b ∧ i < 8 ∧ BOk Z c i b := by
  obtain ⟨i, hi⟩ := mem_at h
  exact ⟨i, hi, by have := (List.getElem?_eq_some_iff.mp hi).1; have := j.b.1; omega, j.b.2 i b hi⟩
theorem J.dok (j : J Z c) {d : Nat} (h : d ∈ dvs Z c) : ∃ i, (dvs Z c)[i]? = some d ∧ i < 6 ∧ DOk Z c i d := by
  obtain ⟨i, hi⟩ := mem_at h
  exact ⟨i, hi, by have := (List.getElem?_eq_some_iff.mp hi).1; have := j.d.1; omega, j.d.2 i d hi⟩
theorem J.isT (j : J Z c) {t : Nat} (h : t ∈ tls Z c) : IsT c t := by obtain ⟨_, _, _, h⟩ := j.tok h; exact h.1.1
theorem J.isTP (j : J Z c) {t : Nat} (h : t ∈ tls Z c) : IsTP c t := by
  refine ⟨j.isT h, fun p hp => ?_⟩
  obtain ⟨_, _, _, ht⟩ := j.tok h
  have h6 := (ht.2.2.2 p hp).1
  refine ⟨h6, fun d hd => ?_⟩
  obtain ⟨i, hi⟩ := mem_at (j.q p d h6 hd).1
  exact j.l.2.2.2.2.2.tg hi
theorem J.tb (j : J Z c) {b : Nat} (h : b ∈ bks Z c) : tg c b = 2 := by
  obtain ⟨i, hi⟩ := mem_at h
  exact j.l.2.2.2.2.1.tg hi
theorem J.td (j : J Z c) {d : Nat} (h : d ∈ dvs Z c) : tg c d = 3 := by
  obtain ⟨i, hi⟩ := mem_at h
  exact j.l.2.2.2.2.2.tg hi
theorem J.row (j : J Z c) (S : Sim Z g c) {b : Nat} (h : b ∈ bks Z c) : RowIs g c (rwA c b) (rowB c b) := by
  obtain ⟨i, _, _, h1, ⟨h2, h3, h4, h5, h6, h7⟩, ⟨h8, h9, h10⟩, _⟩ := j.bok h
  exact ⟨h3, h4, h5.1.1, h5.oag S j.gg (by decide) (by decide), h5.1.2.2.2, fun t ht => j.isT (h9 t ht).1⟩
theorem J.rT (j : J Z c) {b t : Nat} (h : b ∈ bks Z c) (ht : t ∈ rowB c b) : t ∈ tls Z c ∧ fr c 135 t = some b := by
  obtain ⟨i, _, _, h1, _, ⟨h8, h9, h10⟩, _⟩ := j.bok h
  exact h9 t ht
theorem J.rN (j : J Z c) {b : Nat} (h : b ∈ bks Z c) : (rowB c b).Nodup := by
  obtain ⟨i, _, _, h1, _, ⟨h8, h9, h10⟩, _⟩ := j.bok h
  exact h8
theorem J.inB (j : J Z c) {b t : Nat} (ht : t ∈ tls Z c) (h : fr c 135 t = some b) : b ∈ bks Z c ∧ t ∈ rowB c b := by
  obtain ⟨_, _, _, k⟩ := j.tok ht
  exact k.2.2.1 b h
theorem J.cap (j : J Z c) {b : Nat} (h : b ∈ bks Z c) : fr c 19 b = some (rwA c b) := by
  obtain ⟨i, _, _, h1, h2, _⟩ := j.bok h
  exact h2.1
theorem nodup_num {l : List Nat} {f : Nat → Int32} (hl : l.length ≤ 40) (h : ∀ i x, l[i]? = some x → f x = Int32.ofNat i) : l.Nodup := by
  refine List.pairwise_iff_getElem.mpr fun i k hi hk hik he => ?_
  have a := h i _ (List.getElem?_eq_getElem hi)
  have b := h k _ (List.getElem?_eq_getElem hk)
  rw [he, b] at a
  have := (nEq (by omega) (by omega)).mp a
  omega
theorem J.tN (j : J Z c) : (tls Z c).Nodup := nodup_num (f := fi c 128) (by have := j.t.1; omega) fun i t h => (j.t.2 i t h).1.2.1
theorem J.bN (j : J Z c) : (bks Z c).Nodup := nodup_num (f := fi c 16) (by have := j.b.1; omega) fun i t h => (j.b.2 i t h).1.1
theorem J.dN (j : J Z c) : (dvs Z c).Nodup := nodup_num (f := fi c 32) (by have := j.d.1; omega) fun i t h => (j.d.2 i t h).1.1
theorem subset_len : ∀ {l m : List Nat}, l.Nodup → (∀ x ∈ l, x ∈ m) → l.length ≤ m.length
  | [], _, _, _ => Nat.zero_le _
  | x :: xs, m, hn, hs => by
    have hn' := List.nodup_cons.mp hn
    have hx := hs x List.mem_cons_self
    have := subset_len (l := xs) (m := m.erase x) hn'.2 (fun y hy => by
      have hne : y ≠ x := fun z => hn'.1 (z ▸ hy)
      exact (List.mem_erase_of_ne hne).mpr (hs y (List.mem_cons_of_mem _ hy)))
    rw [List.length_erase_of_mem hx] at this
    have h0 := List.length_pos_of_mem hx
    rw [List.length_cons]
    omega
theorem J.rlen (j : J Z c) {b : Nat} (h : b ∈ bks Z c) : (rowB c b).length ≤ 16 := Nat.le_trans (subset_len (j.rN h) fun t ht => (j.rT h ht).1) j.t.1
/-- the fields of the object -/
theorem rM (S : Sim Z g c) (j : J Z c) {k a : Nat} (h : fr c (160 + k) (Z 0) = some a) : gfR 10 k (some (Z 0)) g = some (some a) := by
  rw [S.rdR (ci := 10) j.f.1 (by decide) (by decide) k]
  exact congrArg some h
theorem rM0 (S : Sim Z g c) (j : J Z c) : gfR 10 0 (some (Z 0)) g = some (some (Z 11)) := rM S j j.f.2.1
theorem rM1 (S : Sim Z g c) (j : J Z c) : gfR 10 1 (some (Z 0)) g = some (some (Z 12)) := rM S j j.f.2.2.1
theorem rM2 (S : Sim Z g c) (j : J Z c) : gfR 10 2 (some (Z 0)) g = some (some (Z 13)) := rM S j j.f.2.2.2.1
theorem rM3 (S : Sim Z g c) (j : J Z c) : gfR 10 3 (some (Z 0)) g = some (some (Z 14)) := rM S j j.f.2.2.2.2.1
theorem rM4 (S : Sim Z g c) (j : J Z c) : gfR 10 4 (some (Z 0)) g = some (some (Z 15)) := rM S j j.f.2.2.2.2.2.1
theorem rM5 (S : Sim Z g c) (j : J Z c) : gfR 10 5 (some (Z 0)) g = some (some (Z 16)) := rM S j j.f.2.2.2.2.2.2.1
theorem rM6 (S : Sim Z g c) (j : J Z c) : gfR 10 6 (some (Z 0)) g = some (some (Z 9)) := rM S j j.f.2.2.2.2.2.2.2.1
theorem rM7 (S : Sim Z g c) (j : J Z c) : gfR 10 7 (some (Z 0)) g = some (some (Z 10)) := rM S j j.f.2.2.2.2.2.2.2.2.1
theorem rM10 (S : Sim Z g c) (j : J Z c) : gfR 10 10 (some (Z 0)) g = some (some (Z 6)) := rM S j j.f.2.2.2.2.2.2.2.2.2.1
theorem rM11 (S : Sim Z g c) (j : J Z c) : gfR 10 11 (some (Z 0)) g = some (some (Z 7)) := rM S j j.f.2.2.2.2.2.2.2.2.2.2.1
theorem rM12 (S : Sim Z g c) (j : J Z c) : gfR 10 12 (some (Z 0)) g = some (some (Z 3)) := rM S j j.f.2.2.2.2.2.2.2.2.2.2.2.1
theorem rM13 (S : Sim Z g c) (j : J Z c) : gfR 10 13 (some (Z 0)) g = some (some (Z 8)) := rM S j j.f.2.2.2.2.2.2.2.2.2.2.2.2
theorem rMi (S : Sim Z g c) (j : J Z c) (k : Nat) : gfI 10 k (some (Z 0)) g = some (fi c (160 + k) (Z 0)) := S.rdI (ci := 10) j.f.1 (by decide) (by decide) (by decide) k
theorem rM8 (S : Sim Z g c) (j : J Z c) : gfI 10 8 (some (Z 0)) g = some 0 := by rw [rMi S j 8]; exact congrArg some j.cc.1
theorem rM9 (S : Sim Z g c) (j : J Z c) : gfI 10 9 (some (Z 0)) g = some 5 := by rw [rMi S j 9]; exact congrArg some j.cc.2.1
theorem rMv (S : Sim Z g c) (j : J Z c) : rcv 10 (some (Z 0)) g = some (Z 0) := S.rc (ci := 10) j.f.1
theorem j_tripNumbered (S : Sim Z g c) (j : J Z c) {i : Nat} (hi : i < 2147483648) : f_X9_tripNumbered (Z 0) (Int32.ofNat i) g = some ((tls Z c)[i]?) := by
  unfold f_X9_tripNumbered
  have hL := j.l.2.2.1
  have eZ : al_size (Z 13) g = some (Int32.ofNat (tls Z c).length) := hL.sz S j.gg (by decide) (by decide)
  rw [if_neg (Int32.not_lt.mpr (n0 hi))]
  simp only [rM2 S j, hL.rc S, eZ, Option.bind_some]
  have h40 := hL.1.2.2.2
  by_cases hc : (tls Z c).length ≤ i
  · rw [if_pos ((nLe (by show (tls Z c).length < _; have : (tls Z c).length ≤ 40 := h40; omega) hi).mpr hc), List.getElem?_eq_none hc]
  · have hlt : i < (tls Z c).length := by omega
    obtain ⟨x, hx⟩ : ∃ x, (tls Z c)[i]? = some x := ⟨_, List.getElem?_eq_getElem hlt⟩
    rw [if_neg (fun z => hc ((nLe (by have : (tls Z c).length ≤ 40 := h40; show (tls Z c).length < _; omega) hi).mp z))]
    simp only [hL.gt S j.gg (by decide) (by decide) hx, S.cs (ci := 8) (hL.tg hx), Option.bind_some, hx]
theorem j_placeNumbered (S : Sim Z g c) (j : J Z c) {i : Nat} (hi : i < 2147483648) : f_X9_placeNumbered (Z 0) (Int32.ofNat i) g = some ((pls Z c)[i]?) := by
  unfold f_X9_placeNumbered
  have hL := j.l.1
  have eZ : al_size (Z 11) g = some (Int32.ofNat (pls Z c).length) := hL.sz S j.gg (by decide) (by decide)
  rw [if_neg (Int32.not_lt.mpr (n0 hi))]
  simp only [rM0 S j, hL.rc S, eZ, Option.bind_some]
  have h40 := hL.1.2.2.2
  by_cases hc : (pls Z c).length ≤ i
  · rw [if_pos ((nLe (by show (pls Z c).length < _; have : (pls Z c).length ≤ 40 := h40; omega) hi).mpr hc), List.getElem?_eq_none hc]
  · have hlt : i < (pls Z c).length := by omega
    obtain ⟨x, hx⟩ : ∃ x, (pls Z c)[i]? = some x := ⟨_, List.getElem?_eq_getElem hlt⟩
    rw [if_neg (fun z => hc ((nLe (by have : (pls Z c).length ≤ 40 := h40; show (pls Z c).length < _; omega) hi).mp z))]
    simp only [hL.gt S j.gg (by decide) (by decide) hx, S.cs (ci := 6) (hL.tg hx), Option.bind_some, hx]
theorem j_lineNumbered (S : Sim Z g c) (j : J Z c) {i : Nat} (hi : i < 2147483648) : f_X9_lineNumbered (Z 0) (Int32.ofNat i) g = some ((lns Z c)[i]?) := by
  unfold f_X9_lineNumbered
  have hL := j.l.2.1
  have eZ : al_size (Z 12) g = some (Int32.ofNat (lns Z c).length) := hL.sz S j.gg (by decide) (by decide)
  rw [if_neg (Int32.not_lt.mpr (n0 hi))]
  simp only [rM1 S j, hL.rc S, eZ, Option.bind_some]
  have h40 := hL.1.2.2.2
  by_cases hc : (lns Z c).length ≤ i
  · rw [if_pos ((nLe (by show (lns Z c).length < _; have : (lns Z c).length ≤ 40 := h40; omega) hi).mpr hc), List.getElem?_eq_none hc]
  · have hlt : i < (lns Z c).length := by omega
    obtain ⟨x, hx⟩ : ∃ x, (lns Z c)[i]? = some x := ⟨_, List.getElem?_eq_getElem hlt⟩
    rw [if_neg (fun z => hc ((nLe (by have : (lns Z c).length ≤ 40 := h40; show (lns Z c).length < _; omega) hi).mp z))]
    simp only [hL.gt S j.gg (by decide) (by decide) hx, S.cs (ci := 4) (hL.tg hx), Option.bind_some, hx]
theorem j_blockNumbered (S : Sim Z g c) (j : J Z c) {i : Nat} (hi : i < 2147483648) : f_X9_blockNumbered (Z 0) (Int32.ofNat i) g = some ((bks Z c)[i]?) := by
  unfold f_X9_blockNumbered
  have hL := j.l.2.2.2.2.1
  have eZ : al_size (Z 15) g = some (Int32.ofNat (bks Z c).length) := hL.sz S j.gg (by decide) (by decide)
  rw [if_neg (Int32.not_lt.mpr (n0 hi))]
  simp only [rM4 S j, hL.rc S, eZ, Option.bind_some]
  have h40 := hL.1.2.2.2
  by_cases hc : (bks Z c).length ≤ i
  · rw [if_pos ((nLe (by show (bks Z c).length < _; have : (bks Z c).length ≤ 40 := h40; omega) hi).mpr hc), List.getElem?_eq_none hc]
  · have hlt : i < (bks Z c).length := by omega
    obtain ⟨x, hx⟩ : ∃ x, (bks Z c)[i]? = some x := ⟨_, List.getElem?_eq_getElem hlt⟩
    rw [if_neg (fun z => hc ((nLe (by have : (bks Z c).length ≤ 40 := h40; show (bks Z c).length < _; omega) hi).mp z))]
    simp only [hL.gt S j.gg (by decide) (by decide) hx, S.cs (ci := 1) (hL.tg hx), Option.bind_some, hx]
theorem j_driverNumbered (S : Sim Z g c) (j : J Z c) {i : Nat} (hi : i < 2147483648) : f_X9_driverNumbered (Z 0) (Int32.ofNat i) g = some ((dvs Z c)[i]?) := by
  unfold f_X9_driverNumbered
  have hL := j.l.2.2.2.2.2
  have eZ : al_size (Z 16) g = some (Int32.ofNat (dvs Z c).length) := hL.sz S j.gg (by decide) (by decide)
  rw [if_neg (Int32.not_lt.mpr (n0 hi))]
  simp only [rM5 S j, hL.rc S, eZ, Option.bind_some]
  have h40 := hL.1.2.2.2
  by_cases hc : (dvs Z c).length ≤ i
  · rw [if_pos ((nLe (by show (dvs Z c).length < _; have : (dvs Z c).length ≤ 40 := h40; omega) hi).mpr hc), List.getElem?_eq_none hc]
  · have hlt : i < (dvs Z c).length := by omega
    obtain ⟨x, hx⟩ : ∃ x, (dvs Z c)[i]? = some x := ⟨_, List.getElem?_eq_getElem hlt⟩
    rw [if_neg (fun z => hc ((nLe (by have : (dvs Z c).length ≤ 40 := h40; show (dvs Z c).length < _; omega) hi).mp z))]
    simp only [hL.gt S j.gg (by decide) (by decide) hx, S.cs (ci := 2) (hL.tg hx), Option.bind_some, hx]
theorem sTL (S : Sim Z g c) (j : J Z c) : al_size (Z 13) g = some (Int32.ofNat (tls Z c).length) := j.l.2.2.1.sz S j.gg (by decide) (by decide)
theorem sSL (S : Sim Z g c) (j : J Z c) : al_size (Z 14) g = some (Int32.ofNat (bss Z c).length) := j.l.2.2.2.1.sz S j.gg (by decide) (by decide)
theorem sBL (S : Sim Z g c) (j : J Z c) : al_size (Z 15) g = some (Int32.ofNat (bks Z c).length) := j.l.2.2.2.2.1.sz S j.gg (by decide) (by decide)
theorem sDL (S : Sim Z g c) (j : J Z c) : al_size (Z 16) g = some (Int32.ofNat (dvs Z c).length) := j.l.2.2.2.2.2.sz S j.gg (by decide) (by decide)
end Jays
