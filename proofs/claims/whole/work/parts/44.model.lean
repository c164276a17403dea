/-! the reference's object: its numbers and its arrays -/
/-- numbers by their field: 0 th, 2 fi, 3 po, 4 gd, 15 sc, 18 pl, 19 ke, 24 fc, 25 ma, 27 pr, 32 ch, 33 op, 36 ct, 37 su, 38 me -/
def mo_f (m : Nat) (i : Nat → Int32) : List Value := [.int (i 0), .ref (m + 1), .int (i 2), .int (i 3), .int (i 4), .ref (m + 2), .ref (m + 3), .ref (m + 4), .ref (m + 5), .ref (m + 6), .ref (m + 7), .ref (m + 8), .ref (m + 9), .ref (m + 10), .ref (m + 11), .int (i 15), .ref (m + 12), .ref (m + 13), .int (i 18), .int (i 19), .ref (m + 14), .ref (m + 15), .ref (m + 16), .ref (m + 17), .int (i 24), .int (i 25), .ref (m + 18), .int (i 27), .ref (m + 19), .ref (m + 20), .ref (m + 21), .ref (m + 22), .int (i 32), .int (i 33), .ref (m + 23), .ref (m + 24), .int (i 36), .int (i 37), .int (i 38)]
/-- arrays by their place: 1 Bu, 2 Th, 3 Ab, 4 Mn, 5 Ki, 6 Co, 7 Se, 8 Na, 9 Ty, 10 Ws, 11 Wt, 12 Vn, 13 Vt, 14 Cc, 15 Ct, 16 Sz, 17 Tx, 18 Mk, 19 Pc, 20 Pt, 21 Ps, 22 Px, 23 Cl, 24 Ar -/
def mo_ty (k : Nat) : FieldType := match k with
  | 1 => .char
  | 2 => .boolean
  | 6 => .boolean
  | 7 => .boolean
  | 17 => .char
  | 18 => .char
  | 22 => .char
  | _ => .int
def mo_sz (k : Nat) : Nat := match k with
  | 1 => 120
  | 2 => 10
  | 3 => 10
  | 4 => 10
  | 5 => 66
  | 6 => 66
  | 7 => 66
  | 8 => 66
  | 9 => 66
  | 10 => 66
  | 11 => 132
  | 12 => 5
  | 13 => 5
  | 14 => 33
  | 15 => 33
  | 16 => 33
  | 17 => 792
  | 18 => 200
  | 19 => 10
  | 20 => 10
  | 21 => 10
  | 22 => 240
  | 23 => 130
  | _ => 130
def updA (a : Nat → Nat → Int32) (k : Nat) (f : Nat → Int32) : Nat → Nat → Int32 := fun q => if q = k then f else a q
/-- the object at m has the numbers i and the arrays a -/
def mo (σ : am_H) (m : Nat) (i : Nat → Int32) (a : Nat → Nat → Int32) : Prop := σ m = some (.inr (.inl (11, mo_f m i))) ∧ ∀ k, 1 ≤ k → k ≤ 24 → σ (m + k) = some (.inl (mo_ty k, mo_sz k, .inl (a k)))
section MO
variable {σ σ' : am_H} {m : Nat} {i i' : Nat → Int32} {a : Nat → Nat → Int32}
theorem mo.kept (h : mo σ m i a) (hq : ∀ q, m ≤ q → q < m + 25 → σ' q = σ q) : mo σ' m i a :=
  ⟨(hq m (by omega) (by omega)).trans h.1, fun k h1 h2 => (hq _ (by omega) (by omega)).trans (h.2 k h1 h2)⟩
theorem mo.put (h : mo σ m i a) (i' : Nat → Int32) : mo (am_up σ m (.inr (.inl (11, mo_f m i')))) m i' a :=
  ⟨am_up_self _ _ _, fun k h1 h2 => (am_up_ne _ _ (by omega)).trans (h.2 k h1 h2)⟩
theorem mo.sto (h : mo σ m i a) (k : Nat) (h1 : 1 ≤ k) (h2 : k ≤ 24) (f : Nat → Int32) : mo (am_up σ (m + k) (.inl (mo_ty k, mo_sz k, .inl f))) m i (updA a k f) := by
  refine ⟨(am_up_ne _ _ (by omega)).trans h.1, fun q g1 g2 => ?_⟩
  by_cases e : q = k
  · subst e
    rw [am_up_self]
    unfold updA
    rw [if_pos rfl]
  · rw [am_up_ne _ _ (by omega), h.2 q g1 g2]
    unfold updA
    rw [if_neg e]
end MO
/-- the arrays at first -/
def mo_A (j : Nat) : am_C := .inl (mo_ty (j + 1), mo_sz (j + 1), .inl fun _ => 0)
theorem cm_step {σ : am_H} {m k : Nat} {o : am_C} (h : ∀ j, j < k → σ (m + 1 + j) = some (mo_A j)) : ∀ j, j < k + 1 → am_up (am_up σ (m + 1 + k) (mo_A k)) m o (m + 1 + j) = some (mo_A j) := by
  intro j hj
  rw [am_up_ne _ _ (by omega)]
  by_cases e : j = k
  · rw [e, am_up_self]
  · rw [am_up_ne _ _ (by omega)]
    exact h j (by omega)
def mi0 : Nat → Int32 := fun k => if k = 18 then -1 else 0
def ma0 : Nat → Nat → Int32 := fun _ _ => 0
theorem c_model {cs : Nat → Value} {d : Nat} {σ : am_H} {m sl : Nat} (hd : 0 < d) (hp : σ m = some (.inr (.inl (11, [.int 0, .null, .int 0, .int 0, .int 0, .null, .null, .null, .null, .null, .null, .null, .null, .null, .null, .int 0, .null, .null, .int 0, .int 0, .null, .null, .null, .null, .int 0, .int 0, .null, .int 0, .null, .null, .null, .null, .int 0, .int 0, .null, .null, .int 0, .int 0, .int 0])))) :
    ∃ σ' : am_H, am_to cd_t cs d 98 0 (am_ent 1 [.ref m]) [] σ (m + 1) sl (.inl none, σ', m + 25, sl + 2309) ∧ mo σ' m mi0 ma0 ∧ ∀ q, q < m → σ' q = σ q := by
  have hj0 : ∀ j, j < 0 → σ (m + 1 + j) = some (mo_A j) := fun j hj => absurd hj (Nat.not_lt_zero j)
  have hf0 : ∀ q, q < m → σ q = σ q := fun q _ => rfl
  obtain ⟨s1, hs1⟩ : ∃ s, s = am_up (am_up σ (m + 1 + 0) (mo_A 0)) m (.inr (.inl (11, [.int 0, .ref (m + 1), .int 0, .int 0, .int 0, .null, .null, .null, .null, .null, .null, .null, .null, .null, .null, .int 0, .null, .null, .int 0, .int 0, .null, .null, .null, .null, .int 0, .int 0, .null, .int 0, .null, .null, .null, .null, .int 0, .int 0, .null, .null, .int 0, .int 0, .int 0]))) := ⟨_, rfl⟩
  have o1 : s1 m = some (.inr (.inl (11, [.int 0, .ref (m + 1), .int 0, .int 0, .int 0, .null, .null, .null, .null, .null, .null, .null, .null, .null, .null, .int 0, .null, .null, .int 0, .int 0, .null, .null, .null, .null, .int 0, .int 0, .null, .int 0, .null, .null, .null, .null, .int 0, .int 0, .null, .null, .int 0, .int 0, .int 0]))) := by rw [hs1]; exact am_up_self _ _ _
  have hj1 : ∀ j, j < 1 → s1 (m + 1 + j) = some (mo_A j) := by rw [hs1]; exact cm_step hj0
  have hf1 : ∀ q, q < m → s1 q = σ q := fun q hq => by rw [hs1, am_up_ne _ _ (by omega), am_up_ne _ _ (by omega)]
  obtain ⟨s2, hs2⟩ : ∃ s, s = am_up (am_up s1 (m + 1 + 1) (mo_A 1)) m (.inr (.inl (11, [.int 0, .ref (m + 1), .int 0, .int 0, .int 0, .ref (m + 2), .null, .null, .null, .null, .null, .null, .null, .null, .null, .int 0, .null, .null, .int 0, .int 0, .null, .null, .null, .null, .int 0, .int 0, .null, .int 0, .null, .null, .null, .null, .int 0, .int 0, .null, .null, .int 0, .int 0, .int 0]))) := ⟨_, rfl⟩
  have o2 : s2 m = some (.inr (.inl (11, [.int 0, .ref (m + 1), .int 0, .int 0, .int 0, .ref (m + 2), .null, .null, .null, .null, .null, .null, .null, .null, .null, .int 0, .null, .null, .int 0, .int 0, .null, .null, .null, .null, .int 0, .int 0, .null, .int 0, .null, .null, .null, .null, .int 0, .int 0, .null, .null, .int 0, .int 0, .int 0]))) := by rw [hs2]; exact am_up_self _ _ _
  have hj2 : ∀ j, j < 2 → s2 (m + 1 + j) = some (mo_A j) := by rw [hs2]; exact cm_step hj1
  have hf2 : ∀ q, q < m → s2 q = σ q := fun q hq => by rw [hs2, am_up_ne _ _ (by omega), am_up_ne _ _ (by omega)]; exact hf1 q hq
  obtain ⟨s3, hs3⟩ : ∃ s, s = am_up (am_up s2 (m + 1 + 2) (mo_A 2)) m (.inr (.inl (11, [.int 0, .ref (m + 1), .int 0, .int 0, .int 0, .ref (m + 2), .ref (m + 3), .null, .null, .null, .null, .null, .null, .null, .null, .int 0, .null, .null, .int 0, .int 0, .null, .null, .null, .null, .int 0, .int 0, .null, .int 0, .null, .null, .null, .null, .int 0, .int 0, .null, .null, .int 0, .int 0, .int 0]))) := ⟨_, rfl⟩
  have o3 : s3 m = some (.inr (.inl (11, [.int 0, .ref (m + 1), .int 0, .int 0, .int 0, .ref (m + 2), .ref (m + 3), .null, .null, .null, .null, .null, .null, .null, .null, .int 0, .null, .null, .int 0, .int 0, .null, .null, .null, .null, .int 0, .int 0, .null, .int 0, .null, .null, .null, .null, .int 0, .int 0, .null, .null, .int 0, .int 0, .int 0]))) := by rw [hs3]; exact am_up_self _ _ _
  have hj3 : ∀ j, j < 3 → s3 (m + 1 + j) = some (mo_A j) := by rw [hs3]; exact cm_step hj2
  have hf3 : ∀ q, q < m → s3 q = σ q := fun q hq => by rw [hs3, am_up_ne _ _ (by omega), am_up_ne _ _ (by omega)]; exact hf2 q hq
  obtain ⟨s4, hs4⟩ : ∃ s, s = am_up (am_up s3 (m + 1 + 3) (mo_A 3)) m (.inr (.inl (11, [.int 0, .ref (m + 1), .int 0, .int 0, .int 0, .ref (m + 2), .ref (m + 3), .ref (m + 4), .null, .null, .null, .null, .null, .null, .null, .int 0, .null, .null, .int 0, .int 0, .null, .null, .null, .null, .int 0, .int 0, .null, .int 0, .null, .null, .null, .null, .int 0, .int 0, .null, .null, .int 0, .int 0, .int 0]))) := ⟨_, rfl⟩
  have o4 : s4 m = some (.inr (.inl (11, [.int 0, .ref (m + 1), .int 0, .int 0, .int 0, .ref (m + 2), .ref (m + 3), .ref (m + 4), .null, .null, .null, .null, .null, .null, .null, .int 0, .null, .null, .int 0, .int 0, .null, .null, .null, .null, .int 0, .int 0, .null, .int 0, .null, .null, .null, .null, .int 0, .int 0, .null, .null, .int 0, .int 0, .int 0]))) := by rw [hs4]; exact am_up_self _ _ _
  have hj4 : ∀ j, j < 4 → s4 (m + 1 + j) = some (mo_A j) := by rw [hs4]; exact cm_step hj3
  have hf4 : ∀ q, q < m → s4 q = σ q := fun q hq => by rw [hs4, am_up_ne _ _ (by omega), am_up_ne _ _ (by omega)]; exact hf3 q hq
  obtain ⟨s5, hs5⟩ : ∃ s, s = am_up (am_up s4 (m + 1 + 4) (mo_A 4)) m (.inr (.inl (11, [.int 0, .ref (m + 1), .int 0, .int 0, .int 0, .ref (m + 2), .ref (m + 3), .ref (m + 4), .ref (m + 5), .null, .null, .null, .null, .null, .null, .int 0, .null, .null, .int 0, .int 0, .null, .null, .null, .null, .int 0, .int 0, .null, .int 0, .null, .null, .null, .null, .int 0, .int 0, .null, .null, .int 0, .int 0, .int 0]))) := ⟨_, rfl⟩
  have o5 : s5 m = some (.inr (.inl (11, [.int 0, .ref (m + 1), .int 0, .int 0, .int 0, .ref (m + 2), .ref (m + 3), .ref (m + 4), .ref (m + 5), .null, .null, .null, .null, .null, .null, .int 0, .null, .null, .int 0, .int 0, .null, .null, .null, .null, .int 0, .int 0, .null, .int 0, .null, .null, .null, .null, .int 0, .int 0, .null, .null, .int 0, .int 0, .int 0]))) := by rw [hs5]; exact am_up_self _ _ _
  have hj5 : ∀ j, j < 5 → s5 (m + 1 + j) = some (mo_A j) := by rw [hs5]; exact cm_step hj4
  have hf5 : ∀ q, q < m → s5 q = σ q := fun q hq => by rw [hs5, am_up_ne _ _ (by omega), am_up_ne _ _ (by omega)]; exact hf4 q hq
  obtain ⟨s6, hs6⟩ : ∃ s, s = am_up (am_up s5 (m + 1 + 5) (mo_A 5)) m (.inr (.inl (11, [.int 0, .ref (m + 1), .int 0, .int 0, .int 0, .ref (m + 2), .ref (m + 3), .ref (m + 4), .ref (m + 5), .ref (m + 6), .null, .null, .null, .null, .null, .int 0, .null, .null, .int 0, .int 0, .null, .null, .null, .null, .int 0, .int 0, .null, .int 0, .null, .null, .null, .null, .int 0, .int 0, .null, .null, .int 0, .int 0, .int 0]))) := ⟨_, rfl⟩
  have o6 : s6 m = some (.inr (.inl (11, [.int 0, .ref (m + 1), .int 0, .int 0, .int 0, .ref (m + 2), .ref (m + 3), .ref (m + 4), .ref (m + 5), .ref (m + 6), .null, .null, .null, .null, .null, .int 0, .null, .null, .int 0, .int 0, .null, .null, .null, .null, .int 0, .int 0, .null, .int 0, .null, .null, .null, .null, .int 0, .int 0, .null, .null, .int 0, .int 0, .int 0]))) := by rw [hs6]; exact am_up_self _ _ _
  have hj6 : ∀ j, j < 6 → s6 (m + 1 + j) = some (mo_A j) := by rw [hs6]; exact cm_step hj5
  have hf6 : ∀ q, q < m → s6 q = σ q := fun q hq => by rw [hs6, am_up_ne _ _ (by omega), am_up_ne _ _ (by omega)]; exact hf5 q hq
  obtain ⟨s7, hs7⟩ : ∃ s, s = am_up (am_up s6 (m + 1 + 6) (mo_A 6)) m (.inr (.inl (11, [.int 0, .ref (m + 1), .int 0, .int 0, .int 0, .ref (m + 2), .ref (m + 3), .ref (m + 4), .ref (m + 5), .ref (m + 6), .ref (m + 7), .null, .null, .null, .null, .int 0, .null, .null, .int 0, .int 0, .null, .null, .null, .null, .int 0, .int 0, .null, .int 0, .null, .null, .null, .null, .int 0, .int 0, .null, .null, .int 0, .int 0, .int 0]))) := ⟨_, rfl⟩
  have o7 : s7 m = some (.inr (.inl (11, [.int 0, .ref (m + 1), .int 0, .int 0, .int 0, .ref (m + 2), .ref (m + 3), .ref (m + 4), .ref (m + 5), .ref (m + 6), .ref (m + 7), .null, .null, .null, .null, .int 0, .null, .null, .int 0, .int 0, .null, .null, .null, .null, .int 0, .int 0, .null, .int 0, .null, .null, .null, .null, .int 0, .int 0, .null, .null, .int 0, .int 0, .int 0]))) := by rw [hs7]; exact am_up_self _ _ _
  have hj7 : ∀ j, j < 7 → s7 (m + 1 + j) = some (mo_A j) := by rw [hs7]; exact cm_step hj6
  have hf7 : ∀ q, q < m → s7 q = σ q := fun q hq => by rw [hs7, am_up_ne _ _ (by omega), am_up_ne _ _ (by omega)]; exact hf6 q hq
  obtain ⟨s8, hs8⟩ : ∃ s, s = am_up (am_up s7 (m + 1 + 7) (mo_A 7)) m (.inr (.inl (11, [.int 0, .ref (m + 1), .int 0, .int 0, .int 0, .ref (m + 2), .ref (m + 3), .ref (m + 4), .ref (m + 5), .ref (m + 6), .ref (m + 7), .ref (m + 8), .null, .null, .null, .int 0, .null, .null, .int 0, .int 0, .null, .null, .null, .null, .int 0, .int 0, .null, .int 0, .null, .null, .null, .null, .int 0, .int 0, .null, .null, .int 0, .int 0, .int 0]))) := ⟨_, rfl⟩
  have o8 : s8 m = some (.inr (.inl (11, [.int 0, .ref (m + 1), .int 0, .int 0, .int 0, .ref (m + 2), .ref (m + 3), .ref (m + 4), .ref (m + 5), .ref (m + 6), .ref (m + 7), .ref (m + 8), .null, .null, .null, .int 0, .null, .null, .int 0, .int 0, .null, .null, .null, .null, .int 0, .int 0, .null, .int 0, .null, .null, .null, .null, .int 0, .int 0, .null, .null, .int 0, .int 0, .int 0]))) := by rw [hs8]; exact am_up_self _ _ _
  have hj8 : ∀ j, j < 8 → s8 (m + 1 + j) = some (mo_A j) := by rw [hs8]; exact cm_step hj7
  have hf8 : ∀ q, q < m → s8 q = σ q := fun q hq => by rw [hs8, am_up_ne _ _ (by omega), am_up_ne _ _ (by omega)]; exact hf7 q hq
  obtain ⟨s9, hs9⟩ : ∃ s, s = am_up (am_up s8 (m + 1 + 8) (mo_A 8)) m (.inr (.inl (11, [.int 0, .ref (m + 1), .int 0, .int 0, .int 0, .ref (m + 2), .ref (m + 3), .ref (m + 4), .ref (m + 5), .ref (m + 6), .ref (m + 7), .ref (m + 8), .ref (m + 9), .null, .null, .int 0, .null, .null, .int 0, .int 0, .null, .null, .null, .null, .int 0, .int 0, .null, .int 0, .null, .null, .null, .null, .int 0, .int 0, .null, .null, .int 0, .int 0, .int 0]))) := ⟨_, rfl⟩
  have o9 : s9 m = some (.inr (.inl (11, [.int 0, .ref (m + 1), .int 0, .int 0, .int 0, .ref (m + 2), .ref (m + 3), .ref (m + 4), .ref (m + 5), .ref (m + 6), .ref (m + 7), .ref (m + 8), .ref (m + 9), .null, .null, .int 0, .null, .null, .int 0, .int 0, .null, .null, .null, .null, .int 0, .int 0, .null, .int 0, .null, .null, .null, .null, .int 0, .int 0, .null, .null, .int 0, .int 0, .int 0]))) := by rw [hs9]; exact am_up_self _ _ _
  have hj9 : ∀ j, j < 9 → s9 (m + 1 + j) = some (mo_A j) := by rw [hs9]; exact cm_step hj8
  have hf9 : ∀ q, q < m → s9 q = σ q := fun q hq => by rw [hs9, am_up_ne _ _ (by omega), am_up_ne _ _ (by omega)]; exact hf8 q hq
  obtain ⟨s10, hs10⟩ : ∃ s, s = am_up (am_up s9 (m + 1 + 9) (mo_A 9)) m (.inr (.inl (11, [.int 0, .ref (m + 1), .int 0, .int 0, .int 0, .ref (m + 2), .ref (m + 3), .ref (m + 4), .ref (m + 5), .ref (m + 6), .ref (m + 7), .ref (m + 8), .ref (m + 9), .ref (m + 10), .null, .int 0, .null, .null, .int 0, .int 0, .null, .null, .null, .null, .int 0, .int 0, .null, .int 0, .null, .null, .null, .null, .int 0, .int 0, .null, .null, .int 0, .int 0, .int 0]))) := ⟨_, rfl⟩
  have o10 : s10 m = some (.inr (.inl (11, [.int 0, .ref (m + 1), .int 0, .int 0, .int 0, .ref (m + 2), .ref (m + 3), .ref (m + 4), .ref (m + 5), .ref (m + 6), .ref (m + 7), .ref (m + 8), .ref (m + 9), .ref (m + 10), .null, .int 0, .null, .null, .int 0, .int 0, .null, .null, .null, .null, .int 0, .int 0, .null, .int 0, .null, .null, .null, .null, .int 0, .int 0, .null, .null, .int 0, .int 0, .int 0]))) := by rw [hs10]; exact am_up_self _ _ _
  have hj10 : ∀ j, j < 10 → s10 (m + 1 + j) = some (mo_A j) := by rw [hs10]; exact cm_step hj9
  have hf10 : ∀ q, q < m → s10 q = σ q := fun q hq => by rw [hs10, am_up_ne _ _ (by omega), am_up_ne _ _ (by omega)]; exact hf9 q hq
  obtain ⟨s11, hs11⟩ : ∃ s, s = am_up (am_up s10 (m + 1 + 10) (mo_A 10)) m (.inr (.inl (11, [.int 0, .ref (m + 1), .int 0, .int 0, .int 0, .ref (m + 2), .ref (m + 3), .ref (m + 4), .ref (m + 5), .ref (m + 6), .ref (m + 7), .ref (m + 8), .ref (m + 9), .ref (m + 10), .ref (m + 11), .int 0, .null, .null, .int 0, .int 0, .null, .null, .null, .null, .int 0, .int 0, .null, .int 0, .null, .null, .null, .null, .int 0, .int 0, .null, .null, .int 0, .int 0, .int 0]))) := ⟨_, rfl⟩
  have o11 : s11 m = some (.inr (.inl (11, [.int 0, .ref (m + 1), .int 0, .int 0, .int 0, .ref (m + 2), .ref (m + 3), .ref (m + 4), .ref (m + 5), .ref (m + 6), .ref (m + 7), .ref (m + 8), .ref (m + 9), .ref (m + 10), .ref (m + 11), .int 0, .null, .null, .int 0, .int 0, .null, .null, .null, .null, .int 0, .int 0, .null, .int 0, .null, .null, .null, .null, .int 0, .int 0, .null, .null, .int 0, .int 0, .int 0]))) := by rw [hs11]; exact am_up_self _ _ _
  have hj11 : ∀ j, j < 11 → s11 (m + 1 + j) = some (mo_A j) := by rw [hs11]; exact cm_step hj10
  have hf11 : ∀ q, q < m → s11 q = σ q := fun q hq => by rw [hs11, am_up_ne _ _ (by omega), am_up_ne _ _ (by omega)]; exact hf10 q hq
  obtain ⟨s12, hs12⟩ : ∃ s, s = am_up (am_up s11 (m + 1 + 11) (mo_A 11)) m (.inr (.inl (11, [.int 0, .ref (m + 1), .int 0, .int 0, .int 0, .ref (m + 2), .ref (m + 3), .ref (m + 4), .ref (m + 5), .ref (m + 6), .ref (m + 7), .ref (m + 8), .ref (m + 9), .ref (m + 10), .ref (m + 11), .int 0, .ref (m + 12), .null, .int 0, .int 0, .null, .null, .null, .null, .int 0, .int 0, .null, .int 0, .null, .null, .null, .null, .int 0, .int 0, .null, .null, .int 0, .int 0, .int 0]))) := ⟨_, rfl⟩
  have o12 : s12 m = some (.inr (.inl (11, [.int 0, .ref (m + 1), .int 0, .int 0, .int 0, .ref (m + 2), .ref (m + 3), .ref (m + 4), .ref (m + 5), .ref (m + 6), .ref (m + 7), .ref (m + 8), .ref (m + 9), .ref (m + 10), .ref (m + 11), .int 0, .ref (m + 12), .null, .int 0, .int 0, .null, .null, .null, .null, .int 0, .int 0, .null, .int 0, .null, .null, .null, .null, .int 0, .int 0, .null, .null, .int 0, .int 0, .int 0]))) := by rw [hs12]; exact am_up_self _ _ _
  have hj12 : ∀ j, j < 12 → s12 (m + 1 + j) = some (mo_A j) := by rw [hs12]; exact cm_step hj11
  have hf12 : ∀ q, q < m → s12 q = σ q := fun q hq => by rw [hs12, am_up_ne _ _ (by omega), am_up_ne _ _ (by omega)]; exact hf11 q hq
  obtain ⟨s13, hs13⟩ : ∃ s, s = am_up (am_up s12 (m + 1 + 12) (mo_A 12)) m (.inr (.inl (11, [.int 0, .ref (m + 1), .int 0, .int 0, .int 0, .ref (m + 2), .ref (m + 3), .ref (m + 4), .ref (m + 5), .ref (m + 6), .ref (m + 7), .ref (m + 8), .ref (m + 9), .ref (m + 10), .ref (m + 11), .int 0, .ref (m + 12), .ref (m + 13), .int 0, .int 0, .null, .null, .null, .null, .int 0, .int 0, .null, .int 0, .null, .null, .null, .null, .int 0, .int 0, .null, .null, .int 0, .int 0, .int 0]))) := ⟨_, rfl⟩
  have o13 : s13 m = some (.inr (.inl (11, [.int 0, .ref (m + 1), .int 0, .int 0, .int 0, .ref (m + 2), .ref (m + 3), .ref (m + 4), .ref (m + 5), .ref (m + 6), .ref (m + 7), .ref (m + 8), .ref (m + 9), .ref (m + 10), .ref (m + 11), .int 0, .ref (m + 12), .ref (m + 13), .int 0, .int 0, .null, .null, .null, .null, .int 0, .int 0, .null, .int 0, .null, .null, .null, .null, .int 0, .int 0, .null, .null, .int 0, .int 0, .int 0]))) := by rw [hs13]; exact am_up_self _ _ _
  have hj13 : ∀ j, j < 13 → s13 (m + 1 + j) = some (mo_A j) := by rw [hs13]; exact cm_step hj12
  have hf13 : ∀ q, q < m → s13 q = σ q := fun q hq => by rw [hs13, am_up_ne _ _ (by omega), am_up_ne _ _ (by omega)]; exact hf12 q hq
  obtain ⟨tp, htp⟩ : ∃ s, s = am_up s13 m (.inr (.inl (11, [.int 0, .ref (m + 1), .int 0, .int 0, .int 0, .ref (m + 2), .ref (m + 3), .ref (m + 4), .ref (m + 5), .ref (m + 6), .ref (m + 7), .ref (m + 8), .ref (m + 9), .ref (m + 10), .ref (m + 11), .int 0, .ref (m + 12), .ref (m + 13), .int (-1), .int 0, .null, .null, .null, .null, .int 0, .int 0, .null, .int 0, .null, .null, .null, .null, .int 0, .int 0, .null, .null, .int 0, .int 0, .int 0]))) := ⟨_, rfl⟩
  have otp : tp m = some (.inr (.inl (11, [.int 0, .ref (m + 1), .int 0, .int 0, .int 0, .ref (m + 2), .ref (m + 3), .ref (m + 4), .ref (m + 5), .ref (m + 6), .ref (m + 7), .ref (m + 8), .ref (m + 9), .ref (m + 10), .ref (m + 11), .int 0, .ref (m + 12), .ref (m + 13), .int (-1), .int 0, .null, .null, .null, .null, .int 0, .int 0, .null, .int 0, .null, .null, .null, .null, .int 0, .int 0, .null, .null, .int 0, .int 0, .int 0]))) := by rw [htp]; exact am_up_self _ _ _
  have jtp : ∀ j, j < 13 → tp (m + 1 + j) = some (mo_A j) := fun j hj => by rw [htp, am_up_ne _ _ (by omega)]; exact hj13 j hj
  have ftp : ∀ q, q < m → tp q = σ q := fun q hq => by rw [htp, am_up_ne _ _ (by omega)]; exact hf13 q hq
  obtain ⟨s14, hs14⟩ : ∃ s, s = am_up (am_up tp (m + 1 + 13) (mo_A 13)) m (.inr (.inl (11, [.int 0, .ref (m + 1), .int 0, .int 0, .int 0, .ref (m + 2), .ref (m + 3), .ref (m + 4), .ref (m + 5), .ref (m + 6), .ref (m + 7), .ref (m + 8), .ref (m + 9), .ref (m + 10), .ref (m + 11), .int 0, .ref (m + 12), .ref (m + 13), .int (-1), .int 0, .ref (m + 14), .null, .null, .null, .int 0, .int 0, .null, .int 0, .null, .null, .null, .null, .int 0, .int 0, .null, .null, .int 0, .int 0, .int 0]))) := ⟨_, rfl⟩
  have o14 : s14 m = some (.inr (.inl (11, [.int 0, .ref (m + 1), .int 0, .int 0, .int 0, .ref (m + 2), .ref (m + 3), .ref (m + 4), .ref (m + 5), .ref (m + 6), .ref (m + 7), .ref (m + 8), .ref (m + 9), .ref (m + 10), .ref (m + 11), .int 0, .ref (m + 12), .ref (m + 13), .int (-1), .int 0, .ref (m + 14), .null, .null, .null, .int 0, .int 0, .null, .int 0, .null, .null, .null, .null, .int 0, .int 0, .null, .null, .int 0, .int 0, .int 0]))) := by rw [hs14]; exact am_up_self _ _ _
  have hj14 : ∀ j, j < 14 → s14 (m + 1 + j) = some (mo_A j) := by rw [hs14]; exact cm_step jtp
  have hf14 : ∀ q, q < m → s14 q = σ q := fun q hq => by rw [hs14, am_up_ne _ _ (by omega), am_up_ne _ _ (by omega)]; exact ftp q hq
  obtain ⟨s15, hs15⟩ : ∃ s, s = am_up (am_up s14 (m + 1 + 14) (mo_A 14)) m (.inr (.inl (11, [.int 0, .ref (m + 1), .int 0, .int 0, .int 0, .ref (m + 2), .ref (m + 3), .ref (m + 4), .ref (m + 5), .ref (m + 6), .ref (m + 7), .ref (m + 8), .ref (m + 9), .ref (m + 10), .ref (m + 11), .int 0, .ref (m + 12), .ref (m + 13), .int (-1), .int 0, .ref (m + 14), .ref (m + 15), .null, .null, .int 0, .int 0, .null, .int 0, .null, .null, .null, .null, .int 0, .int 0, .null, .null, .int 0, .int 0, .int 0]))) := ⟨_, rfl⟩
  have o15 : s15 m = some (.inr (.inl (11, [.int 0, .ref (m + 1), .int 0, .int 0, .int 0, .ref (m + 2), .ref (m + 3), .ref (m + 4), .ref (m + 5), .ref (m + 6), .ref (m + 7), .ref (m + 8), .ref (m + 9), .ref (m + 10), .ref (m + 11), .int 0, .ref (m + 12), .ref (m + 13), .int (-1), .int 0, .ref (m + 14), .ref (m + 15), .null, .null, .int 0, .int 0, .null, .int 0, .null, .null, .null, .null, .int 0, .int 0, .null, .null, .int 0, .int 0, .int 0]))) := by rw [hs15]; exact am_up_self _ _ _
  have hj15 : ∀ j, j < 15 → s15 (m + 1 + j) = some (mo_A j) := by rw [hs15]; exact cm_step hj14
  have hf15 : ∀ q, q < m → s15 q = σ q := fun q hq => by rw [hs15, am_up_ne _ _ (by omega), am_up_ne _ _ (by omega)]; exact hf14 q hq
  obtain ⟨s16, hs16⟩ : ∃ s, s = am_up (am_up s15 (m + 1 + 15) (mo_A 15)) m (.inr (.inl (11, [.int 0, .ref (m + 1), .int 0, .int 0, .int 0, .ref (m + 2), .ref (m + 3), .ref (m + 4), .ref (m + 5), .ref (m + 6), .ref (m + 7), .ref (m + 8), .ref (m + 9), .ref (m + 10), .ref (m + 11), .int 0, .ref (m + 12), .ref (m + 13), .int (-1), .int 0, .ref (m + 14), .ref (m + 15), .ref (m + 16), .null, .int 0, .int 0, .null, .int 0, .null, .null, .null, .null, .int 0, .int 0, .null, .null, .int 0, .int 0, .int 0]))) := ⟨_, rfl⟩
  have o16 : s16 m = some (.inr (.inl (11, [.int 0, .ref (m + 1), .int 0, .int 0, .int 0, .ref (m + 2), .ref (m + 3), .ref (m + 4), .ref (m + 5), .ref (m + 6), .ref (m + 7), .ref (m + 8), .ref (m + 9), .ref (m + 10), .ref (m + 11), .int 0, .ref (m + 12), .ref (m + 13), .int (-1), .int 0, .ref (m + 14), .ref (m + 15), .ref (m + 16), .null, .int 0, .int 0, .null, .int 0, .null, .null, .null, .null, .int 0, .int 0, .null, .null, .int 0, .int 0, .int 0]))) := by rw [hs16]; exact am_up_self _ _ _
  have hj16 : ∀ j, j < 16 → s16 (m + 1 + j) = some (mo_A j) := by rw [hs16]; exact cm_step hj15
  have hf16 : ∀ q, q < m → s16 q = σ q := fun q hq => by rw [hs16, am_up_ne _ _ (by omega), am_up_ne _ _ (by omega)]; exact hf15 q hq
  obtain ⟨s17, hs17⟩ : ∃ s, s = am_up (am_up s16 (m + 1 + 16) (mo_A 16)) m (.inr (.inl (11, [.int 0, .ref (m + 1), .int 0, .int 0, .int 0, .ref (m + 2), .ref (m + 3), .ref (m + 4), .ref (m + 5), .ref (m + 6), .ref (m + 7), .ref (m + 8), .ref (m + 9), .ref (m + 10), .ref (m + 11), .int 0, .ref (m + 12), .ref (m + 13), .int (-1), .int 0, .ref (m + 14), .ref (m + 15), .ref (m + 16), .ref (m + 17), .int 0, .int 0, .null, .int 0, .null, .null, .null, .null, .int 0, .int 0, .null, .null, .int 0, .int 0, .int 0]))) := ⟨_, rfl⟩
  have o17 : s17 m = some (.inr (.inl (11, [.int 0, .ref (m + 1), .int 0, .int 0, .int 0, .ref (m + 2), .ref (m + 3), .ref (m + 4), .ref (m + 5), .ref (m + 6), .ref (m + 7), .ref (m + 8), .ref (m + 9), .ref (m + 10), .ref (m + 11), .int 0, .ref (m + 12), .ref (m + 13), .int (-1), .int 0, .ref (m + 14), .ref (m + 15), .ref (m + 16), .ref (m + 17), .int 0, .int 0, .null, .int 0, .null, .null, .null, .null, .int 0, .int 0, .null, .null, .int 0, .int 0, .int 0]))) := by rw [hs17]; exact am_up_self _ _ _
  have hj17 : ∀ j, j < 17 → s17 (m + 1 + j) = some (mo_A j) := by rw [hs17]; exact cm_step hj16
  have hf17 : ∀ q, q < m → s17 q = σ q := fun q hq => by rw [hs17, am_up_ne _ _ (by omega), am_up_ne _ _ (by omega)]; exact hf16 q hq
  obtain ⟨s18, hs18⟩ : ∃ s, s = am_up (am_up s17 (m + 1 + 17) (mo_A 17)) m (.inr (.inl (11, [.int 0, .ref (m + 1), .int 0, .int 0, .int 0, .ref (m + 2), .ref (m + 3), .ref (m + 4), .ref (m + 5), .ref (m + 6), .ref (m + 7), .ref (m + 8), .ref (m + 9), .ref (m + 10), .ref (m + 11), .int 0, .ref (m + 12), .ref (m + 13), .int (-1), .int 0, .ref (m + 14), .ref (m + 15), .ref (m + 16), .ref (m + 17), .int 0, .int 0, .ref (m + 18), .int 0, .null, .null, .null, .null, .int 0, .int 0, .null, .null, .int 0, .int 0, .int 0]))) := ⟨_, rfl⟩
  have o18 : s18 m = some (.inr (.inl (11, [.int 0, .ref (m + 1), .int 0, .int 0, .int 0, .ref (m + 2), .ref (m + 3), .ref (m + 4), .ref (m + 5), .ref (m + 6), .ref (m + 7), .ref (m + 8), .ref (m + 9), .ref (m + 10), .ref (m + 11), .int 0, .ref (m + 12), .ref (m + 13), .int (-1), .int 0, .ref (m + 14), .ref (m + 15), .ref (m + 16), .ref (m + 17), .int 0, .int 0, .ref (m + 18), .int 0, .null, .null, .null, .null, .int 0, .int 0, .null, .null, .int 0, .int 0, .int 0]))) := by rw [hs18]; exact am_up_self _ _ _
  have hj18 : ∀ j, j < 18 → s18 (m + 1 + j) = some (mo_A j) := by rw [hs18]; exact cm_step hj17
  have hf18 : ∀ q, q < m → s18 q = σ q := fun q hq => by rw [hs18, am_up_ne _ _ (by omega), am_up_ne _ _ (by omega)]; exact hf17 q hq
  obtain ⟨s19, hs19⟩ : ∃ s, s = am_up (am_up s18 (m + 1 + 18) (mo_A 18)) m (.inr (.inl (11, [.int 0, .ref (m + 1), .int 0, .int 0, .int 0, .ref (m + 2), .ref (m + 3), .ref (m + 4), .ref (m + 5), .ref (m + 6), .ref (m + 7), .ref (m + 8), .ref (m + 9), .ref (m + 10), .ref (m + 11), .int 0, .ref (m + 12), .ref (m + 13), .int (-1), .int 0, .ref (m + 14), .ref (m + 15), .ref (m + 16), .ref (m + 17), .int 0, .int 0, .ref (m + 18), .int 0, .ref (m + 19), .null, .null, .null, .int 0, .int 0, .null, .null, .int 0, .int 0, .int 0]))) := ⟨_, rfl⟩
  have o19 : s19 m = some (.inr (.inl (11, [.int 0, .ref (m + 1), .int 0, .int 0, .int 0, .ref (m + 2), .ref (m + 3), .ref (m + 4), .ref (m + 5), .ref (m + 6), .ref (m + 7), .ref (m + 8), .ref (m + 9), .ref (m + 10), .ref (m + 11), .int 0, .ref (m + 12), .ref (m + 13), .int (-1), .int 0, .ref (m + 14), .ref (m + 15), .ref (m + 16), .ref (m + 17), .int 0, .int 0, .ref (m + 18), .int 0, .ref (m + 19), .null, .null, .null, .int 0, .int 0, .null, .null, .int 0, .int 0, .int 0]))) := by rw [hs19]; exact am_up_self _ _ _
  have hj19 : ∀ j, j < 19 → s19 (m + 1 + j) = some (mo_A j) := by rw [hs19]; exact cm_step hj18
  have hf19 : ∀ q, q < m → s19 q = σ q := fun q hq => by rw [hs19, am_up_ne _ _ (by omega), am_up_ne _ _ (by omega)]; exact hf18 q hq
  obtain ⟨s20, hs20⟩ : ∃ s, s = am_up (am_up s19 (m + 1 + 19) (mo_A 19)) m (.inr (.inl (11, [.int 0, .ref (m + 1), .int 0, .int 0, .int 0, .ref (m + 2), .ref (m + 3), .ref (m + 4), .ref (m + 5), .ref (m + 6), .ref (m + 7), .ref (m + 8), .ref (m + 9), .ref (m + 10), .ref (m + 11), .int 0, .ref (m + 12), .ref (m + 13), .int (-1), .int 0, .ref (m + 14), .ref (m + 15), .ref (m + 16), .ref (m + 17), .int 0, .int 0, .ref (m + 18), .int 0, .ref (m + 19), .ref (m + 20), .null, .null, .int 0, .int 0, .null, .null, .int 0, .int 0, .int 0]))) := ⟨_, rfl⟩
  have o20 : s20 m = some (.inr (.inl (11, [.int 0, .ref (m + 1), .int 0, .int 0, .int 0, .ref (m + 2), .ref (m + 3), .ref (m + 4), .ref (m + 5), .ref (m + 6), .ref (m + 7), .ref (m + 8), .ref (m + 9), .ref (m + 10), .ref (m + 11), .int 0, .ref (m + 12), .ref (m + 13), .int (-1), .int 0, .ref (m + 14), .ref (m + 15), .ref (m + 16), .ref (m + 17), .int 0, .int 0, .ref (m + 18), .int 0, .ref (m + 19), .ref (m + 20), .null, .null, .int 0, .int 0, .null, .null, .int 0, .int 0, .int 0]))) := by rw [hs20]; exact am_up_self _ _ _
  have hj20 : ∀ j, j < 20 → s20 (m + 1 + j) = some (mo_A j) := by rw [hs20]; exact cm_step hj19
  have hf20 : ∀ q, q < m → s20 q = σ q := fun q hq => by rw [hs20, am_up_ne _ _ (by omega), am_up_ne _ _ (by omega)]; exact hf19 q hq
  obtain ⟨s21, hs21⟩ : ∃ s, s = am_up (am_up s20 (m + 1 + 20) (mo_A 20)) m (.inr (.inl (11, [.int 0, .ref (m + 1), .int 0, .int 0, .int 0, .ref (m + 2), .ref (m + 3), .ref (m + 4), .ref (m + 5), .ref (m + 6), .ref (m + 7), .ref (m + 8), .ref (m + 9), .ref (m + 10), .ref (m + 11), .int 0, .ref (m + 12), .ref (m + 13), .int (-1), .int 0, .ref (m + 14), .ref (m + 15), .ref (m + 16), .ref (m + 17), .int 0, .int 0, .ref (m + 18), .int 0, .ref (m + 19), .ref (m + 20), .ref (m + 21), .null, .int 0, .int 0, .null, .null, .int 0, .int 0, .int 0]))) := ⟨_, rfl⟩
  have o21 : s21 m = some (.inr (.inl (11, [.int 0, .ref (m + 1), .int 0, .int 0, .int 0, .ref (m + 2), .ref (m + 3), .ref (m + 4), .ref (m + 5), .ref (m + 6), .ref (m + 7), .ref (m + 8), .ref (m + 9), .ref (m + 10), .ref (m + 11), .int 0, .ref (m + 12), .ref (m + 13), .int (-1), .int 0, .ref (m + 14), .ref (m + 15), .ref (m + 16), .ref (m + 17), .int 0, .int 0, .ref (m + 18), .int 0, .ref (m + 19), .ref (m + 20), .ref (m + 21), .null, .int 0, .int 0, .null, .null, .int 0, .int 0, .int 0]))) := by rw [hs21]; exact am_up_self _ _ _
  have hj21 : ∀ j, j < 21 → s21 (m + 1 + j) = some (mo_A j) := by rw [hs21]; exact cm_step hj20
  have hf21 : ∀ q, q < m → s21 q = σ q := fun q hq => by rw [hs21, am_up_ne _ _ (by omega), am_up_ne _ _ (by omega)]; exact hf20 q hq
  obtain ⟨s22, hs22⟩ : ∃ s, s = am_up (am_up s21 (m + 1 + 21) (mo_A 21)) m (.inr (.inl (11, [.int 0, .ref (m + 1), .int 0, .int 0, .int 0, .ref (m + 2), .ref (m + 3), .ref (m + 4), .ref (m + 5), .ref (m + 6), .ref (m + 7), .ref (m + 8), .ref (m + 9), .ref (m + 10), .ref (m + 11), .int 0, .ref (m + 12), .ref (m + 13), .int (-1), .int 0, .ref (m + 14), .ref (m + 15), .ref (m + 16), .ref (m + 17), .int 0, .int 0, .ref (m + 18), .int 0, .ref (m + 19), .ref (m + 20), .ref (m + 21), .ref (m + 22), .int 0, .int 0, .null, .null, .int 0, .int 0, .int 0]))) := ⟨_, rfl⟩
  have o22 : s22 m = some (.inr (.inl (11, [.int 0, .ref (m + 1), .int 0, .int 0, .int 0, .ref (m + 2), .ref (m + 3), .ref (m + 4), .ref (m + 5), .ref (m + 6), .ref (m + 7), .ref (m + 8), .ref (m + 9), .ref (m + 10), .ref (m + 11), .int 0, .ref (m + 12), .ref (m + 13), .int (-1), .int 0, .ref (m + 14), .ref (m + 15), .ref (m + 16), .ref (m + 17), .int 0, .int 0, .ref (m + 18), .int 0, .ref (m + 19), .ref (m + 20), .ref (m + 21), .ref (m + 22), .int 0, .int 0, .null, .null, .int 0, .int 0, .int 0]))) := by rw [hs22]; exact am_up_self _ _ _
  have hj22 : ∀ j, j < 22 → s22 (m + 1 + j) = some (mo_A j) := by rw [hs22]; exact cm_step hj21
  have hf22 : ∀ q, q < m → s22 q = σ q := fun q hq => by rw [hs22, am_up_ne _ _ (by omega), am_up_ne _ _ (by omega)]; exact hf21 q hq
  obtain ⟨s23, hs23⟩ : ∃ s, s = am_up (am_up s22 (m + 1 + 22) (mo_A 22)) m (.inr (.inl (11, [.int 0, .ref (m + 1), .int 0, .int 0, .int 0, .ref (m + 2), .ref (m + 3), .ref (m + 4), .ref (m + 5), .ref (m + 6), .ref (m + 7), .ref (m + 8), .ref (m + 9), .ref (m + 10), .ref (m + 11), .int 0, .ref (m + 12), .ref (m + 13), .int (-1), .int 0, .ref (m + 14), .ref (m + 15), .ref (m + 16), .ref (m + 17), .int 0, .int 0, .ref (m + 18), .int 0, .ref (m + 19), .ref (m + 20), .ref (m + 21), .ref (m + 22), .int 0, .int 0, .ref (m + 23), .null, .int 0, .int 0, .int 0]))) := ⟨_, rfl⟩
  have o23 : s23 m = some (.inr (.inl (11, [.int 0, .ref (m + 1), .int 0, .int 0, .int 0, .ref (m + 2), .ref (m + 3), .ref (m + 4), .ref (m + 5), .ref (m + 6), .ref (m + 7), .ref (m + 8), .ref (m + 9), .ref (m + 10), .ref (m + 11), .int 0, .ref (m + 12), .ref (m + 13), .int (-1), .int 0, .ref (m + 14), .ref (m + 15), .ref (m + 16), .ref (m + 17), .int 0, .int 0, .ref (m + 18), .int 0, .ref (m + 19), .ref (m + 20), .ref (m + 21), .ref (m + 22), .int 0, .int 0, .ref (m + 23), .null, .int 0, .int 0, .int 0]))) := by rw [hs23]; exact am_up_self _ _ _
  have hj23 : ∀ j, j < 23 → s23 (m + 1 + j) = some (mo_A j) := by rw [hs23]; exact cm_step hj22
  have hf23 : ∀ q, q < m → s23 q = σ q := fun q hq => by rw [hs23, am_up_ne _ _ (by omega), am_up_ne _ _ (by omega)]; exact hf22 q hq
  obtain ⟨s24, hs24⟩ : ∃ s, s = am_up (am_up s23 (m + 1 + 23) (mo_A 23)) m (.inr (.inl (11, [.int 0, .ref (m + 1), .int 0, .int 0, .int 0, .ref (m + 2), .ref (m + 3), .ref (m + 4), .ref (m + 5), .ref (m + 6), .ref (m + 7), .ref (m + 8), .ref (m + 9), .ref (m + 10), .ref (m + 11), .int 0, .ref (m + 12), .ref (m + 13), .int (-1), .int 0, .ref (m + 14), .ref (m + 15), .ref (m + 16), .ref (m + 17), .int 0, .int 0, .ref (m + 18), .int 0, .ref (m + 19), .ref (m + 20), .ref (m + 21), .ref (m + 22), .int 0, .int 0, .ref (m + 23), .ref (m + 24), .int 0, .int 0, .int 0]))) := ⟨_, rfl⟩
  have o24 : s24 m = some (.inr (.inl (11, [.int 0, .ref (m + 1), .int 0, .int 0, .int 0, .ref (m + 2), .ref (m + 3), .ref (m + 4), .ref (m + 5), .ref (m + 6), .ref (m + 7), .ref (m + 8), .ref (m + 9), .ref (m + 10), .ref (m + 11), .int 0, .ref (m + 12), .ref (m + 13), .int (-1), .int 0, .ref (m + 14), .ref (m + 15), .ref (m + 16), .ref (m + 17), .int 0, .int 0, .ref (m + 18), .int 0, .ref (m + 19), .ref (m + 20), .ref (m + 21), .ref (m + 22), .int 0, .int 0, .ref (m + 23), .ref (m + 24), .int 0, .int 0, .int 0]))) := by rw [hs24]; exact am_up_self _ _ _
  have hj24 : ∀ j, j < 24 → s24 (m + 1 + j) = some (mo_A j) := by rw [hs24]; exact cm_step hj23
  have hf24 : ∀ q, q < m → s24 q = σ q := fun q hq => by rw [hs24, am_up_ne _ _ (by omega), am_up_ne _ _ (by omega)]; exact hf23 q hq
  refine ⟨s24, ?_, ⟨o24, fun k h1 h2 => ?_⟩, hf24⟩
  case refine_2 =>
    have h3 := hj24 (k - 1) (by omega)
    rw [show m + 1 + (k - 1) = m + k by omega] at h3
    rw [h3]
    unfold mo_A
    rw [show k - 1 + 1 = k by omega]
    rfl
  refine x_n cd_i98_0 rfl rfl ?_
  refine x_obj cd_i98_1 (by omega) rfl ?_
  refine x_n cd_i98_4 rfl rfl ?_
  refine x_bi cd_i98_5 (z := ii 120) (by decide) ?_
  show am_to cd_t _ _ 98 7 _ _ _ _ _ _
  refine x_newca cd_i98_7 (by decide) ?_
  refine x_putf cd_i98_9 (fs' := [.int 0, .ref (m + 1), .int 0, .int 0, .int 0, .null, .null, .null, .null, .null, .null, .null, .null, .null, .null, .int 0, .null, .null, .int 0, .int 0, .null, .null, .null, .null, .int 0, .int 0, .null, .int 0, .null, .null, .null, .null, .int 0, .int 0, .null, .null, .int 0, .int 0, .int 0]) ((am_up_ne _ _ (by omega)).trans hp) rfl rfl rfl ?_
  refine hs1 ▸ ?_
  refine x_n cd_i98_12 rfl rfl ?_
  refine x_bi cd_i98_13 (z := ii 10) (by decide) ?_
  show am_to cd_t _ _ 98 15 _ _ _ _ _ _
  refine x_newza cd_i98_15 (by decide) ?_
  refine x_putf cd_i98_17 (fs' := [.int 0, .ref (m + 1), .int 0, .int 0, .int 0, .ref (m + 2), .null, .null, .null, .null, .null, .null, .null, .null, .null, .int 0, .null, .null, .int 0, .int 0, .null, .null, .null, .null, .int 0, .int 0, .null, .int 0, .null, .null, .null, .null, .int 0, .int 0, .null, .null, .int 0, .int 0, .int 0]) ((am_up_ne _ _ (by omega)).trans o1) rfl rfl rfl ?_
  refine hs2 ▸ ?_
  refine x_n cd_i98_20 rfl rfl ?_
  refine x_bi cd_i98_21 (z := ii 10) (by decide) ?_
  show am_to cd_t _ _ 98 23 _ _ _ _ _ _
  refine x_newia cd_i98_23 (by decide) ?_
  refine x_putf cd_i98_25 (fs' := [.int 0, .ref (m + 1), .int 0, .int 0, .int 0, .ref (m + 2), .ref (m + 3), .null, .null, .null, .null, .null, .null, .null, .null, .int 0, .null, .null, .int 0, .int 0, .null, .null, .null, .null, .int 0, .int 0, .null, .int 0, .null, .null, .null, .null, .int 0, .int 0, .null, .null, .int 0, .int 0, .int 0]) ((am_up_ne _ _ (by omega)).trans o2) rfl rfl rfl ?_
  refine hs3 ▸ ?_
  refine x_n cd_i98_28 rfl rfl ?_
  refine x_bi cd_i98_29 (z := ii 10) (by decide) ?_
  show am_to cd_t _ _ 98 31 _ _ _ _ _ _
  refine x_newia cd_i98_31 (by decide) ?_
  refine x_putf cd_i98_33 (fs' := [.int 0, .ref (m + 1), .int 0, .int 0, .int 0, .ref (m + 2), .ref (m + 3), .ref (m + 4), .null, .null, .null, .null, .null, .null, .null, .int 0, .null, .null, .int 0, .int 0, .null, .null, .null, .null, .int 0, .int 0, .null, .int 0, .null, .null, .null, .null, .int 0, .int 0, .null, .null, .int 0, .int 0, .int 0]) ((am_up_ne _ _ (by omega)).trans o3) rfl rfl rfl ?_
  refine hs4 ▸ ?_
  refine x_n cd_i98_36 rfl rfl ?_
  refine x_bi cd_i98_37 (z := ii 66) (by decide) ?_
  show am_to cd_t _ _ 98 39 _ _ _ _ _ _
  refine x_newia cd_i98_39 (by decide) ?_
  refine x_putf cd_i98_41 (fs' := [.int 0, .ref (m + 1), .int 0, .int 0, .int 0, .ref (m + 2), .ref (m + 3), .ref (m + 4), .ref (m + 5), .null, .null, .null, .null, .null, .null, .int 0, .null, .null, .int 0, .int 0, .null, .null, .null, .null, .int 0, .int 0, .null, .int 0, .null, .null, .null, .null, .int 0, .int 0, .null, .null, .int 0, .int 0, .int 0]) ((am_up_ne _ _ (by omega)).trans o4) rfl rfl rfl ?_
  refine hs5 ▸ ?_
  refine x_n cd_i98_44 rfl rfl ?_
  refine x_bi cd_i98_45 (z := ii 66) (by decide) ?_
  show am_to cd_t _ _ 98 47 _ _ _ _ _ _
  refine x_newza cd_i98_47 (by decide) ?_
  refine x_putf cd_i98_49 (fs' := [.int 0, .ref (m + 1), .int 0, .int 0, .int 0, .ref (m + 2), .ref (m + 3), .ref (m + 4), .ref (m + 5), .ref (m + 6), .null, .null, .null, .null, .null, .int 0, .null, .null, .int 0, .int 0, .null, .null, .null, .null, .int 0, .int 0, .null, .int 0, .null, .null, .null, .null, .int 0, .int 0, .null, .null, .int 0, .int 0, .int 0]) ((am_up_ne _ _ (by omega)).trans o5) rfl rfl rfl ?_
  refine hs6 ▸ ?_
  refine x_n cd_i98_52 rfl rfl ?_
  refine x_bi cd_i98_53 (z := ii 66) (by decide) ?_
  show am_to cd_t _ _ 98 55 _ _ _ _ _ _
  refine x_newza cd_i98_55 (by decide) ?_
  refine x_putf cd_i98_57 (fs' := [.int 0, .ref (m + 1), .int 0, .int 0, .int 0, .ref (m + 2), .ref (m + 3), .ref (m + 4), .ref (m + 5), .ref (m + 6), .ref (m + 7), .null, .null, .null, .null, .int 0, .null, .null, .int 0, .int 0, .null, .null, .null, .null, .int 0, .int 0, .null, .int 0, .null, .null, .null, .null, .int 0, .int 0, .null, .null, .int 0, .int 0, .int 0]) ((am_up_ne _ _ (by omega)).trans o6) rfl rfl rfl ?_
  refine hs7 ▸ ?_
  refine x_n cd_i98_60 rfl rfl ?_
  refine x_bi cd_i98_61 (z := ii 66) (by decide) ?_
  show am_to cd_t _ _ 98 63 _ _ _ _ _ _
  refine x_newia cd_i98_63 (by decide) ?_
  refine x_putf cd_i98_65 (fs' := [.int 0, .ref (m + 1), .int 0, .int 0, .int 0, .ref (m + 2), .ref (m + 3), .ref (m + 4), .ref (m + 5), .ref (m + 6), .ref (m + 7), .ref (m + 8), .null, .null, .null, .int 0, .null, .null, .int 0, .int 0, .null, .null, .null, .null, .int 0, .int 0, .null, .int 0, .null, .null, .null, .null, .int 0, .int 0, .null, .null, .int 0, .int 0, .int 0]) ((am_up_ne _ _ (by omega)).trans o7) rfl rfl rfl ?_
  refine hs8 ▸ ?_
  refine x_n cd_i98_68 rfl rfl ?_
  refine x_bi cd_i98_69 (z := ii 66) (by decide) ?_
  show am_to cd_t _ _ 98 71 _ _ _ _ _ _
  refine x_newia cd_i98_71 (by decide) ?_
  refine x_putf cd_i98_73 (fs' := [.int 0, .ref (m + 1), .int 0, .int 0, .int 0, .ref (m + 2), .ref (m + 3), .ref (m + 4), .ref (m + 5), .ref (m + 6), .ref (m + 7), .ref (m + 8), .ref (m + 9), .null, .null, .int 0, .null, .null, .int 0, .int 0, .null, .null, .null, .null, .int 0, .int 0, .null, .int 0, .null, .null, .null, .null, .int 0, .int 0, .null, .null, .int 0, .int 0, .int 0]) ((am_up_ne _ _ (by omega)).trans o8) rfl rfl rfl ?_
  refine hs9 ▸ ?_
  refine x_n cd_i98_76 rfl rfl ?_
  refine x_bi cd_i98_77 (z := ii 66) (by decide) ?_
  show am_to cd_t _ _ 98 79 _ _ _ _ _ _
  refine x_newia cd_i98_79 (by decide) ?_
  refine x_putf cd_i98_81 (fs' := [.int 0, .ref (m + 1), .int 0, .int 0, .int 0, .ref (m + 2), .ref (m + 3), .ref (m + 4), .ref (m + 5), .ref (m + 6), .ref (m + 7), .ref (m + 8), .ref (m + 9), .ref (m + 10), .null, .int 0, .null, .null, .int 0, .int 0, .null, .null, .null, .null, .int 0, .int 0, .null, .int 0, .null, .null, .null, .null, .int 0, .int 0, .null, .null, .int 0, .int 0, .int 0]) ((am_up_ne _ _ (by omega)).trans o9) rfl rfl rfl ?_
  refine hs10 ▸ ?_
  refine x_n cd_i98_84 rfl rfl ?_
  refine x_si cd_i98_85 (z := ii 132) (by decide) ?_
  show am_to cd_t _ _ 98 88 _ _ _ _ _ _
  refine x_newia cd_i98_88 (by decide) ?_
  refine x_putf cd_i98_90 (fs' := [.int 0, .ref (m + 1), .int 0, .int 0, .int 0, .ref (m + 2), .ref (m + 3), .ref (m + 4), .ref (m + 5), .ref (m + 6), .ref (m + 7), .ref (m + 8), .ref (m + 9), .ref (m + 10), .ref (m + 11), .int 0, .null, .null, .int 0, .int 0, .null, .null, .null, .null, .int 0, .int 0, .null, .int 0, .null, .null, .null, .null, .int 0, .int 0, .null, .null, .int 0, .int 0, .int 0]) ((am_up_ne _ _ (by omega)).trans o10) rfl rfl rfl ?_
  refine hs11 ▸ ?_
  refine x_n cd_i98_93 rfl rfl ?_
  refine x_ic cd_i98_94 (z := ii 5) rfl ?_
  show am_to cd_t _ _ 98 95 _ _ _ _ _ _
  refine x_newia cd_i98_95 (by decide) ?_
  refine x_putf cd_i98_97 (fs' := [.int 0, .ref (m + 1), .int 0, .int 0, .int 0, .ref (m + 2), .ref (m + 3), .ref (m + 4), .ref (m + 5), .ref (m + 6), .ref (m + 7), .ref (m + 8), .ref (m + 9), .ref (m + 10), .ref (m + 11), .int 0, .ref (m + 12), .null, .int 0, .int 0, .null, .null, .null, .null, .int 0, .int 0, .null, .int 0, .null, .null, .null, .null, .int 0, .int 0, .null, .null, .int 0, .int 0, .int 0]) ((am_up_ne _ _ (by omega)).trans o11) rfl rfl rfl ?_
  refine hs12 ▸ ?_
  refine x_n cd_i98_100 rfl rfl ?_
  refine x_ic cd_i98_101 (z := ii 5) rfl ?_
  show am_to cd_t _ _ 98 102 _ _ _ _ _ _
  refine x_newia cd_i98_102 (by decide) ?_
  refine x_putf cd_i98_104 (fs' := [.int 0, .ref (m + 1), .int 0, .int 0, .int 0, .ref (m + 2), .ref (m + 3), .ref (m + 4), .ref (m + 5), .ref (m + 6), .ref (m + 7), .ref (m + 8), .ref (m + 9), .ref (m + 10), .ref (m + 11), .int 0, .ref (m + 12), .ref (m + 13), .int 0, .int 0, .null, .null, .null, .null, .int 0, .int 0, .null, .int 0, .null, .null, .null, .null, .int 0, .int 0, .null, .null, .int 0, .int 0, .int 0]) ((am_up_ne _ _ (by omega)).trans o12) rfl rfl rfl ?_
  refine hs13 ▸ ?_
  refine x_n cd_i98_107 rfl rfl ?_
  refine x_ic cd_i98_108 (z := (-1)) rfl ?_
  show am_to cd_t _ _ 98 109 _ _ _ _ _ _
  refine x_putf cd_i98_109 (fs' := [.int 0, .ref (m + 1), .int 0, .int 0, .int 0, .ref (m + 2), .ref (m + 3), .ref (m + 4), .ref (m + 5), .ref (m + 6), .ref (m + 7), .ref (m + 8), .ref (m + 9), .ref (m + 10), .ref (m + 11), .int 0, .ref (m + 12), .ref (m + 13), .int (-1), .int 0, .null, .null, .null, .null, .int 0, .int 0, .null, .int 0, .null, .null, .null, .null, .int 0, .int 0, .null, .null, .int 0, .int 0, .int 0]) o13 rfl rfl rfl ?_
  refine htp ▸ ?_
  refine x_n cd_i98_112 rfl rfl ?_
  refine x_bi cd_i98_113 (z := ii 33) (by decide) ?_
  show am_to cd_t _ _ 98 115 _ _ _ _ _ _
  refine x_newia cd_i98_115 (by decide) ?_
  refine x_putf cd_i98_117 (fs' := [.int 0, .ref (m + 1), .int 0, .int 0, .int 0, .ref (m + 2), .ref (m + 3), .ref (m + 4), .ref (m + 5), .ref (m + 6), .ref (m + 7), .ref (m + 8), .ref (m + 9), .ref (m + 10), .ref (m + 11), .int 0, .ref (m + 12), .ref (m + 13), .int (-1), .int 0, .ref (m + 14), .null, .null, .null, .int 0, .int 0, .null, .int 0, .null, .null, .null, .null, .int 0, .int 0, .null, .null, .int 0, .int 0, .int 0]) ((am_up_ne _ _ (by omega)).trans otp) rfl rfl rfl ?_
  refine hs14 ▸ ?_
  refine x_n cd_i98_120 rfl rfl ?_
  refine x_bi cd_i98_121 (z := ii 33) (by decide) ?_
  show am_to cd_t _ _ 98 123 _ _ _ _ _ _
  refine x_newia cd_i98_123 (by decide) ?_
  refine x_putf cd_i98_125 (fs' := [.int 0, .ref (m + 1), .int 0, .int 0, .int 0, .ref (m + 2), .ref (m + 3), .ref (m + 4), .ref (m + 5), .ref (m + 6), .ref (m + 7), .ref (m + 8), .ref (m + 9), .ref (m + 10), .ref (m + 11), .int 0, .ref (m + 12), .ref (m + 13), .int (-1), .int 0, .ref (m + 14), .ref (m + 15), .null, .null, .int 0, .int 0, .null, .int 0, .null, .null, .null, .null, .int 0, .int 0, .null, .null, .int 0, .int 0, .int 0]) ((am_up_ne _ _ (by omega)).trans o14) rfl rfl rfl ?_
  refine hs15 ▸ ?_
  refine x_n cd_i98_128 rfl rfl ?_
  refine x_bi cd_i98_129 (z := ii 33) (by decide) ?_
  show am_to cd_t _ _ 98 131 _ _ _ _ _ _
  refine x_newia cd_i98_131 (by decide) ?_
  refine x_putf cd_i98_133 (fs' := [.int 0, .ref (m + 1), .int 0, .int 0, .int 0, .ref (m + 2), .ref (m + 3), .ref (m + 4), .ref (m + 5), .ref (m + 6), .ref (m + 7), .ref (m + 8), .ref (m + 9), .ref (m + 10), .ref (m + 11), .int 0, .ref (m + 12), .ref (m + 13), .int (-1), .int 0, .ref (m + 14), .ref (m + 15), .ref (m + 16), .null, .int 0, .int 0, .null, .int 0, .null, .null, .null, .null, .int 0, .int 0, .null, .null, .int 0, .int 0, .int 0]) ((am_up_ne _ _ (by omega)).trans o15) rfl rfl rfl ?_
  refine hs16 ▸ ?_
  refine x_n cd_i98_136 rfl rfl ?_
  refine x_si cd_i98_137 (z := ii 792) (by decide) ?_
  show am_to cd_t _ _ 98 140 _ _ _ _ _ _
  refine x_newca cd_i98_140 (by decide) ?_
  refine x_putf cd_i98_142 (fs' := [.int 0, .ref (m + 1), .int 0, .int 0, .int 0, .ref (m + 2), .ref (m + 3), .ref (m + 4), .ref (m + 5), .ref (m + 6), .ref (m + 7), .ref (m + 8), .ref (m + 9), .ref (m + 10), .ref (m + 11), .int 0, .ref (m + 12), .ref (m + 13), .int (-1), .int 0, .ref (m + 14), .ref (m + 15), .ref (m + 16), .ref (m + 17), .int 0, .int 0, .null, .int 0, .null, .null, .null, .null, .int 0, .int 0, .null, .null, .int 0, .int 0, .int 0]) ((am_up_ne _ _ (by omega)).trans o16) rfl rfl rfl ?_
  refine hs17 ▸ ?_
  refine x_n cd_i98_145 rfl rfl ?_
  refine x_si cd_i98_146 (z := ii 200) (by decide) ?_
  show am_to cd_t _ _ 98 149 _ _ _ _ _ _
  refine x_newca cd_i98_149 (by decide) ?_
  refine x_putf cd_i98_151 (fs' := [.int 0, .ref (m + 1), .int 0, .int 0, .int 0, .ref (m + 2), .ref (m + 3), .ref (m + 4), .ref (m + 5), .ref (m + 6), .ref (m + 7), .ref (m + 8), .ref (m + 9), .ref (m + 10), .ref (m + 11), .int 0, .ref (m + 12), .ref (m + 13), .int (-1), .int 0, .ref (m + 14), .ref (m + 15), .ref (m + 16), .ref (m + 17), .int 0, .int 0, .ref (m + 18), .int 0, .null, .null, .null, .null, .int 0, .int 0, .null, .null, .int 0, .int 0, .int 0]) ((am_up_ne _ _ (by omega)).trans o17) rfl rfl rfl ?_
  refine hs18 ▸ ?_
  refine x_n cd_i98_154 rfl rfl ?_
  refine x_bi cd_i98_155 (z := ii 10) (by decide) ?_
  show am_to cd_t _ _ 98 157 _ _ _ _ _ _
  refine x_newia cd_i98_157 (by decide) ?_
  refine x_putf cd_i98_159 (fs' := [.int 0, .ref (m + 1), .int 0, .int 0, .int 0, .ref (m + 2), .ref (m + 3), .ref (m + 4), .ref (m + 5), .ref (m + 6), .ref (m + 7), .ref (m + 8), .ref (m + 9), .ref (m + 10), .ref (m + 11), .int 0, .ref (m + 12), .ref (m + 13), .int (-1), .int 0, .ref (m + 14), .ref (m + 15), .ref (m + 16), .ref (m + 17), .int 0, .int 0, .ref (m + 18), .int 0, .ref (m + 19), .null, .null, .null, .int 0, .int 0, .null, .null, .int 0, .int 0, .int 0]) ((am_up_ne _ _ (by omega)).trans o18) rfl rfl rfl ?_
  refine hs19 ▸ ?_
  refine x_n cd_i98_162 rfl rfl ?_
  refine x_bi cd_i98_163 (z := ii 10) (by decide) ?_
  show am_to cd_t _ _ 98 165 _ _ _ _ _ _
  refine x_newia cd_i98_165 (by decide) ?_
  refine x_putf cd_i98_167 (fs' := [.int 0, .ref (m + 1), .int 0, .int 0, .int 0, .ref (m + 2), .ref (m + 3), .ref (m + 4), .ref (m + 5), .ref (m + 6), .ref (m + 7), .ref (m + 8), .ref (m + 9), .ref (m + 10), .ref (m + 11), .int 0, .ref (m + 12), .ref (m + 13), .int (-1), .int 0, .ref (m + 14), .ref (m + 15), .ref (m + 16), .ref (m + 17), .int 0, .int 0, .ref (m + 18), .int 0, .ref (m + 19), .ref (m + 20), .null, .null, .int 0, .int 0, .null, .null, .int 0, .int 0, .int 0]) ((am_up_ne _ _ (by omega)).trans o19) rfl rfl rfl ?_
  refine hs20 ▸ ?_
  refine x_n cd_i98_170 rfl rfl ?_
  refine x_bi cd_i98_171 (z := ii 10) (by decide) ?_
  show am_to cd_t _ _ 98 173 _ _ _ _ _ _
  refine x_newia cd_i98_173 (by decide) ?_
  refine x_putf cd_i98_175 (fs' := [.int 0, .ref (m + 1), .int 0, .int 0, .int 0, .ref (m + 2), .ref (m + 3), .ref (m + 4), .ref (m + 5), .ref (m + 6), .ref (m + 7), .ref (m + 8), .ref (m + 9), .ref (m + 10), .ref (m + 11), .int 0, .ref (m + 12), .ref (m + 13), .int (-1), .int 0, .ref (m + 14), .ref (m + 15), .ref (m + 16), .ref (m + 17), .int 0, .int 0, .ref (m + 18), .int 0, .ref (m + 19), .ref (m + 20), .ref (m + 21), .null, .int 0, .int 0, .null, .null, .int 0, .int 0, .int 0]) ((am_up_ne _ _ (by omega)).trans o20) rfl rfl rfl ?_
  refine hs21 ▸ ?_
  refine x_n cd_i98_178 rfl rfl ?_
  refine x_si cd_i98_179 (z := ii 240) (by decide) ?_
  show am_to cd_t _ _ 98 182 _ _ _ _ _ _
  refine x_newca cd_i98_182 (by decide) ?_
  refine x_putf cd_i98_184 (fs' := [.int 0, .ref (m + 1), .int 0, .int 0, .int 0, .ref (m + 2), .ref (m + 3), .ref (m + 4), .ref (m + 5), .ref (m + 6), .ref (m + 7), .ref (m + 8), .ref (m + 9), .ref (m + 10), .ref (m + 11), .int 0, .ref (m + 12), .ref (m + 13), .int (-1), .int 0, .ref (m + 14), .ref (m + 15), .ref (m + 16), .ref (m + 17), .int 0, .int 0, .ref (m + 18), .int 0, .ref (m + 19), .ref (m + 20), .ref (m + 21), .ref (m + 22), .int 0, .int 0, .null, .null, .int 0, .int 0, .int 0]) ((am_up_ne _ _ (by omega)).trans o21) rfl rfl rfl ?_
  refine hs22 ▸ ?_
  refine x_n cd_i98_187 rfl rfl ?_
  refine x_si cd_i98_188 (z := ii 130) (by decide) ?_
  show am_to cd_t _ _ 98 191 _ _ _ _ _ _
  refine x_newia cd_i98_191 (by decide) ?_
  refine x_putf cd_i98_193 (fs' := [.int 0, .ref (m + 1), .int 0, .int 0, .int 0, .ref (m + 2), .ref (m + 3), .ref (m + 4), .ref (m + 5), .ref (m + 6), .ref (m + 7), .ref (m + 8), .ref (m + 9), .ref (m + 10), .ref (m + 11), .int 0, .ref (m + 12), .ref (m + 13), .int (-1), .int 0, .ref (m + 14), .ref (m + 15), .ref (m + 16), .ref (m + 17), .int 0, .int 0, .ref (m + 18), .int 0, .ref (m + 19), .ref (m + 20), .ref (m + 21), .ref (m + 22), .int 0, .int 0, .ref (m + 23), .null, .int 0, .int 0, .int 0]) ((am_up_ne _ _ (by omega)).trans o22) rfl rfl rfl ?_
  refine hs23 ▸ ?_
  refine x_n cd_i98_196 rfl rfl ?_
  refine x_si cd_i98_197 (z := ii 130) (by decide) ?_
  show am_to cd_t _ _ 98 200 _ _ _ _ _ _
  refine x_newia cd_i98_200 (by decide) ?_
  refine x_putf cd_i98_202 (fs' := [.int 0, .ref (m + 1), .int 0, .int 0, .int 0, .ref (m + 2), .ref (m + 3), .ref (m + 4), .ref (m + 5), .ref (m + 6), .ref (m + 7), .ref (m + 8), .ref (m + 9), .ref (m + 10), .ref (m + 11), .int 0, .ref (m + 12), .ref (m + 13), .int (-1), .int 0, .ref (m + 14), .ref (m + 15), .ref (m + 16), .ref (m + 17), .int 0, .int 0, .ref (m + 18), .int 0, .ref (m + 19), .ref (m + 20), .ref (m + 21), .ref (m + 22), .int 0, .int 0, .ref (m + 23), .ref (m + 24), .int 0, .int 0, .int 0]) ((am_up_ne _ _ (by omega)).trans o23) rfl rfl rfl ?_
  refine hs24 ▸ ?_
  exact x_end cd_i98_205 rfl rfl rfl
