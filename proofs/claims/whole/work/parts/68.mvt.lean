section MVT
variable {cs : Nat → Value} {d m top sl : Nat} {σ : am_H} {i : Nat → Int32} {a : Nat → Nat → Int32} {txt : List Nat} {vs : List (List Nat × Nat)}
/-- the end of the reference's variable: whether all is read and the name is new -/
theorem m_variable_must {x q : Nat} {z : Int32} {g : Bool} (hd : 1 < d) (hM : mo σ m i a) (hB : M_buf i a txt) (hS : M_sco i a vs) (hP : M_at i q) (hG : i 4 = b2i g) (hx : x < 2147483648) (hq : q < 1000) :
    ∃ (σ' : am_H) (s : Bool), (s = true ↔ (q = txt.length ∧ ∀ k, k < vs.length → n27 (vs.getD k default).1 ≠ x)) ∧ mo σ' m (upd (upd i 4 (b2i (g && s))) 2 (ii 0)) a ∧ (∀ y, y < m ∨ m + 25 ≤ y → σ' y = σ y) ∧
      ∀ res, am_to cd_t cs d 123 90 [some (.ref m), some (.int (ii x)), some (.int z)] [] σ' top sl res → am_to cd_t cs d 123 56 [some (.ref m), some (.int (ii x)), some (.int z)] [] σ top sl res := by
  have hlen := hB.2.1
  obtain ⟨r, v1, v2, v3⟩ := m_variableOf (cs := cs) (d := d - 1) (top := top) (sl := sl) hM hS hx
  have main : ∀ s : Bool, (s = true ↔ (q = txt.length ∧ ∀ k, k < vs.length → n27 (vs.getD k default).1 ≠ x)) → (∀ res, am_to cd_t cs d 123 82 [some (.ref m), some (.int (ii x)), some (.int z)] [.int (b2i s), .ref m] σ top sl res → am_to cd_t cs d 123 56 [some (.ref m), some (.int (ii x)), some (.int z)] [] σ top sl res) →
      ∃ (σ' : am_H) (s : Bool), (s = true ↔ (q = txt.length ∧ ∀ k, k < vs.length → n27 (vs.getD k default).1 ≠ x)) ∧ mo σ' m (upd (upd i 4 (b2i (g && s))) 2 (ii 0)) a ∧ (∀ y, y < m ∨ m + 25 ≤ y → σ' y = σ y) ∧
      ∀ res, am_to cd_t cs d 123 90 [some (.ref m), some (.int (ii x)), some (.int z)] [] σ' top sl res → am_to cd_t cs d 123 56 [some (.ref m), some (.int (ii x)), some (.int z)] [] σ top sl res := by
    intro s hs go
    obtain ⟨s1, b1, b2, b3⟩ := m_must (cs := cs) (d := d - 1) (top := top) (sl := sl) (s := s) (g := g) hM hG
    refine ⟨_, s, hs, b2.put (upd (upd i 4 (b2i (g && s))) 2 (ii 0)), fun y hy => (am_up_ne _ _ (by omega)).trans (b3 y hy), fun res hh => go res ?_⟩
    refine x_callv (as' := [.int (b2i s)]) (r := none) cd_i123_82 hM.1 (by omega) rfl rfl rfl rfl rfl rfl b1 ?_
    refine x_n cd_i123_85 rfl rfl ?_
    refine x_ic cd_i123_86 (z := ii 0) rfl ?_
    show am_to cd_t _ _ 123 87 _ _ _ _ _ _
    refine x_putf cd_i123_87 (fs' := mo_f m (upd (upd i 4 (b2i (g && s))) 2 (ii 0))) b2.1 rfl rfl rfl ?_
    exact hh
  have pre : ∀ res, am_to cd_t cs d 123 65 [some (.ref m), some (.int (ii x)), some (.int z)] [.int (ii txt.length), .int (ii q), .ref m] σ top sl res → am_to cd_t cs d 123 56 [some (.ref m), some (.int (ii x)), some (.int z)] [] σ top sl res := by
    intro res hh
    refine x_n cd_i123_56 rfl rfl ?_
    refine x_n cd_i123_57 rfl rfl ?_
    show am_to cd_t _ _ 123 58 _ _ _ _ _ _
    refine x_getf cd_i123_58 hM.1 rfl rfl ?_
    rw [show i 3 = ii q from hP]
    refine x_n cd_i123_61 rfl rfl ?_
    show am_to cd_t _ _ 123 62 _ _ _ _ _ _
    refine x_getf cd_i123_62 hM.1 rfl rfl ?_
    rw [hB.1]
    exact hh
  by_cases e : q = txt.length
  · cases r with
    | none =>
      refine main true ⟨fun _ => ⟨e, v3 rfl⟩, fun _ => rfl⟩ (fun res hh => pre res ?_)
      refine x_icmp_f cd_i123_65 (fun y => y (by rw [e])) ?_
      refine x_n cd_i123_68 rfl rfl ?_
      refine x_n cd_i123_69 rfl rfl ?_
      show am_to cd_t _ _ 123 70 _ _ _ _ _ _
      refine x_callv (as' := [.int (ii x)]) cd_i123_70 hM.1 (by omega) rfl rfl rfl rfl rfl rfl v1 ?_
      refine x_ic cd_i123_73 (z := (-1)) rfl ?_
      show am_to cd_t _ _ 123 74 _ _ _ _ _ _
      refine x_icmp_f cd_i123_74 (fun y => y rfl) ?_
      refine x_ic cd_i123_77 (z := ii 1) rfl ?_
      refine x_n cd_i123_78 rfl rfl ?_
      show am_to cd_t _ _ 123 82 _ _ _ _ _ _
      exact hh
    | some k =>
      obtain ⟨k1, k2⟩ := v2 k rfl
      refine main false ⟨(fun h => by cases h), fun h => absurd k2 (h.2 k k1)⟩ (fun res hh => pre res ?_)
      refine x_icmp_f cd_i123_65 (fun y => y (by rw [e])) ?_
      refine x_n cd_i123_68 rfl rfl ?_
      refine x_n cd_i123_69 rfl rfl ?_
      show am_to cd_t _ _ 123 70 _ _ _ _ _ _
      refine x_callv (as' := [.int (ii x)]) cd_i123_70 hM.1 (by omega) rfl rfl rfl rfl rfl rfl v1 ?_
      refine x_ic cd_i123_73 (z := (-1)) rfl ?_
      show am_to cd_t _ _ 123 74 _ _ _ _ _ _
      refine x_icmp_t cd_i123_74 (ii_ne1 (by have := hS.2.1; omega)) ?_
      refine x_ic cd_i123_81 (z := ii 0) rfl ?_
      show am_to cd_t _ _ 123 82 _ _ _ _ _ _
      exact hh
  · refine main false ⟨(fun h => by cases h), fun h => absurd h.1 e⟩ (fun res hh => pre res ?_)
    refine x_icmp_t cd_i123_65 (fun y => e ((ii_eq (by omega) (by omega)).mp y)) ?_
    refine x_ic cd_i123_81 (z := ii 0) rfl ?_
    show am_to cd_t _ _ 123 82 _ _ _ _ _ _
    exact hh
end MVT
