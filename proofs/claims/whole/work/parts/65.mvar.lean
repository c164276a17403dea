/-! the reference's variables -/
def M_sco (i : Nat → Int32) (a : Nat → Nat → Int32) (vs : List (List Nat × Nat)) : Prop := i 15 = ii vs.length ∧ vs.length ≤ 5 ∧ (∀ q ∈ vs, (∀ c ∈ q.1, 97 ≤ c ∧ c ≤ 122) ∧ 1 ≤ q.1.length ∧ q.1.length ≤ 4 ∧ q.2 < 13) ∧ ∀ j, j < vs.length → a 12 j = ii (n27 (vs.getD j default).1) ∧ a 13 j = ii (vs.getD j default).2
section MV
variable {cs : Nat → Value} {d m top sl : Nat} {σ : am_H} {i : Nat → Int32} {a : Nat → Nat → Int32} {vs : List (List Nat × Nat)}
theorem m_refuse {w : Int32} (hM : mo σ m i a) : am_to cd_t cs d 121 0 (am_ent 2 [.ref m, .int w]) [] σ top sl (.inl (some (.int (ii 0))), am_up σ m (.inr (.inl (11, mo_f m (upd i 0 w)))), top, sl) := by
  refine x_n cd_i121_0 rfl rfl ?_
  refine x_n cd_i121_1 rfl rfl ?_
  show am_to cd_t _ _ 121 2 _ _ _ _ _ _
  refine x_putf cd_i121_2 (fs' := mo_f m (upd i 0 w)) hM.1 rfl rfl rfl ?_
  refine x_ic cd_i121_5 (z := ii 0) rfl ?_
  show am_to cd_t _ _ 121 6 _ _ _ _ _ _
  exact x_end cd_i121_6 rfl rfl rfl
theorem m_varOf_loop {x : Nat} (hM : mo σ m i a) (hS : M_sco i a vs) (hx : x < 2147483648) : ∀ (n j : Nat) (r : Option Nat), j + n = vs.length → (∀ k, r = some k → k < j ∧ n27 (vs.getD k default).1 = x) → (r = none → ∀ k, k < j → n27 (vs.getD k default).1 ≠ x) →
    ∃ r' : Option Nat, am_to cd_t cs d 124 4 [some (.ref m), some (.int (ii x)), some (.int (oi r)), some (.int (ii j))] [] σ top sl (.inl (some (.int (oi r'))), σ, top, sl) ∧ (∀ k, r' = some k → k < vs.length ∧ n27 (vs.getD k default).1 = x) ∧ (r' = none → ∀ k, k < vs.length → n27 (vs.getD k default).1 ≠ x) := by
  obtain ⟨h1, h2, h3, h4⟩ := hS
  intro n
  induction n with
  | zero =>
    intro j r hj hr1 hr2
    obtain rfl : j = vs.length := by omega
    refine ⟨r, ?_, hr1, hr2⟩
    refine x_n cd_i124_4 rfl rfl ?_
    refine x_n cd_i124_5 rfl rfl ?_
    show am_to cd_t _ _ 124 6 _ _ _ _ _ _
    refine x_getf cd_i124_6 hM.1 rfl rfl ?_
    rw [h1]
    refine x_icmp_t cd_i124_9 ((ii_le (by omega) (by omega)).mpr (Nat.le_refl _)) ?_
    refine x_n cd_i124_34 rfl rfl ?_
    show am_to cd_t _ _ 124 35 _ _ _ _ _ _
    exact x_end cd_i124_35 rfl rfl rfl
  | succ n ih =>
    intro j r hj hr1 hr2
    have hlt : j < vs.length := by omega
    have hmem : vs.getD j default ∈ vs := by
      rw [List.getD_eq_getElem?_getD, List.getElem?_eq_getElem hlt]
      exact List.getElem_mem hlt
    obtain ⟨m1, m2, m3, m4⟩ := h3 _ hmem
    have hsm := n27_small m1 m3
    have go : ∀ res, am_to cd_t cs d 124 19 [some (.ref m), some (.int (ii x)), some (.int (oi r)), some (.int (ii j))] [.int (ii x), .int (ii (n27 (vs.getD j default).1))] σ top sl res → am_to cd_t cs d 124 4 [some (.ref m), some (.int (ii x)), some (.int (oi r)), some (.int (ii j))] [] σ top sl res := by
      intro res hh
      refine x_n cd_i124_4 rfl rfl ?_
      refine x_n cd_i124_5 rfl rfl ?_
      show am_to cd_t _ _ 124 6 _ _ _ _ _ _
      refine x_getf cd_i124_6 hM.1 rfl rfl ?_
      rw [h1]
      refine x_icmp_f cd_i124_9 (fun z => by have := (ii_le (by omega) (by omega)).mp (show ii vs.length ≤ ii j from z); omega) ?_
      refine x_n cd_i124_12 rfl rfl ?_
      show am_to cd_t _ _ 124 13 _ _ _ _ _ _
      refine x_getf cd_i124_13 hM.1 rfl rfl ?_
      refine x_n cd_i124_16 rfl rfl ?_
      show am_to cd_t _ _ 124 17 _ _ _ _ _ _
      refine x_iaload cd_i124_17 (hM.2 12 (by decide) (by decide)) (show j < 5 by omega) (by decide) ?_
      rw [(h4 j hlt).1]
      refine x_n cd_i124_18 rfl rfl ?_
      show am_to cd_t _ _ 124 19 _ _ _ _ _ _
      exact hh
    by_cases e : n27 (vs.getD j default).1 = x
    · obtain ⟨r', k1, k2⟩ := ih (j + 1) (some j) (by omega) (fun k hk => by cases hk; exact ⟨by omega, e⟩) (fun h => by cases h)
      refine ⟨r', go _ ?_, k2⟩
      refine x_icmp_f cd_i124_19 (fun z => z (by rw [e])) ?_
      refine x_n cd_i124_22 rfl rfl ?_
      refine x_n cd_i124_23 rfl rfl ?_
      refine x_n cd_i124_27 rfl rfl ?_
      try dsimp only [List.set]
      show am_to cd_t _ _ 124 28 _ _ _ _ _ _
      refine x_iinc cd_i124_28 rfl (z := ii (j + 1)) (ii_add j 1) rfl ?_
      refine x_n cd_i124_31 rfl rfl ?_
      show am_to cd_t _ _ 124 4 _ _ _ _ _ _
      exact k1
    · obtain ⟨r', k1, k2⟩ := ih (j + 1) r (by omega) (fun k hk => ⟨by have := (hr1 k hk).1; omega, (hr1 k hk).2⟩) (fun h k hk => by
        by_cases ek : k = j
        · rw [ek]; exact e
        · exact hr2 h k (by omega))
      refine ⟨r', go _ ?_, k2⟩
      refine x_icmp_t cd_i124_19 (fun z => e ((ii_eq (by omega) hx).mp z)) ?_
      refine x_n cd_i124_26 rfl rfl ?_
      refine x_n cd_i124_27 rfl rfl ?_
      try dsimp only [List.set]
      show am_to cd_t _ _ 124 28 _ _ _ _ _ _
      refine x_iinc cd_i124_28 rfl (z := ii (j + 1)) (ii_add j 1) rfl ?_
      refine x_n cd_i124_31 rfl rfl ?_
      show am_to cd_t _ _ 124 4 _ _ _ _ _ _
      exact k1
theorem m_variableOf {x : Nat} (hM : mo σ m i a) (hS : M_sco i a vs) (hx : x < 2147483648) :
    ∃ r' : Option Nat, am_to cd_t cs d 124 0 (am_ent 4 [.ref m, .int (ii x)]) [] σ top sl (.inl (some (.int (oi r'))), σ, top, sl) ∧ (∀ k, r' = some k → k < vs.length ∧ n27 (vs.getD k default).1 = x) ∧ (r' = none → ∀ k, k < vs.length → n27 (vs.getD k default).1 ≠ x) := by
  obtain ⟨r', k1, k2⟩ := m_varOf_loop (cs := cs) (d := d) (top := top) (sl := sl) hM hS hx vs.length 0 none (by omega) (fun k hk => by cases hk) (fun _ k hk => absurd hk (Nat.not_lt_zero k))
  refine ⟨r', ?_, k2⟩
  refine x_ic cd_i124_0 (z := (-1)) rfl ?_
  refine x_n cd_i124_1 rfl rfl ?_
  try dsimp only [List.set]
  refine x_ic cd_i124_2 (z := ii 0) rfl ?_
  refine x_n cd_i124_3 rfl rfl ?_
  try dsimp only [List.set]
  show am_to cd_t _ _ 124 4 _ _ _ _ _ _
  exact k1
end MV
