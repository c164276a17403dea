section MVF
variable {cs : Nat → Value} {d m top sl : Nat} {σ : am_H} {i : Nat → Int32} {a : Nat → Nat → Int32} {txt : List Nat} {vs : List (List Nat × Nat)}
/-- variable of the reference, where nothing more may be declared -/
theorem m_variable_full (hd : 0 < d) (hM : mo σ m i a) (hS : M_sco i a vs) (hf : vs.length = 5) :
    ∃ σ', am_to cd_t cs d 123 0 (am_ent 3 [.ref m]) [] σ top sl (.inl (some (.int (ii 0))), σ', top, sl) ∧ mo σ' m (upd (upd i 2 (ii 0)) 0 (ii 2)) a ∧ ∀ x, x < m ∨ m + 25 ≤ x → σ' x = σ x := by
  have hM1 := hM.put (upd i 2 (ii 0))
  refine ⟨_, ?_, hM1.put (upd (upd i 2 (ii 0)) 0 (ii 2)), fun x hx => by rw [am_up_ne _ _ (by omega), am_up_ne _ _ (by omega)]⟩
  refine x_n cd_i123_0 rfl rfl ?_
  show am_to cd_t _ _ 123 1 _ _ _ _ _ _
  refine x_getf cd_i123_1 hM.1 rfl rfl ?_
  rw [hS.1, hf]
  refine x_ic cd_i123_4 (z := ii 5) rfl ?_
  show am_to cd_t _ _ 123 5 _ _ _ _ _ _
  refine x_icmp_f cd_i123_5 (fun z => z rfl) ?_
  refine x_n cd_i123_8 rfl rfl ?_
  refine x_ic cd_i123_9 (z := ii 0) rfl ?_
  show am_to cd_t _ _ 123 10 _ _ _ _ _ _
  refine x_putf cd_i123_10 (fs' := mo_f m (upd i 2 (ii 0))) hM.1 rfl rfl rfl ?_
  refine x_n cd_i123_13 rfl rfl ?_
  refine x_ic cd_i123_14 (z := ii 2) rfl ?_
  show am_to cd_t _ _ 123 15 _ _ _ _ _ _
  refine x_callv (as' := [.int (ii 2)]) cd_i123_15 hM1.1 hd rfl rfl rfl rfl rfl rfl (m_refuse hM1) ?_
  exact x_end cd_i123_18 rfl rfl rfl
/-- its name and the colon behind it -/
theorem m_variable_name (hd : 2 < d) (hT : ∀ c ∈ txt, cok c) (hM : mo σ m i a) (hB : M_buf i a txt) (hS : M_sco i a vs) (hf : ¬ vs.length = 5) :
    ∃ (s1 : am_H) (i1 : Nat → Int32), mo s1 m i1 a ∧ M_at i1 (if txt.getD (wl txt 0).length 0 = 58 then (wl txt 0).length + 1 else (wl txt 0).length) ∧ i1 4 = b2i ((tkN txt 0).isSome && (txt.getD (wl txt 0).length 0 == 58)) ∧ M_same [3, 4] [] i i1 a a ∧ (∀ x, x < m ∨ m + 25 ≤ x → s1 x = σ x) ∧
      ∀ res, am_to cd_t cs d 123 40 [some (.ref m), some (.int (ii (wv27 txt 0))), none] [] s1 top sl res → am_to cd_t cs d 123 0 (am_ent 3 [.ref m]) [] σ top sl res := by
  have hM1 := hM.put (upd i 3 (ii 0))
  have hM2 := hM1.put (upd (upd i 3 (ii 0)) 4 (ii 1))
  have hlen := hB.2.1
  obtain ⟨s1, i1, a1, a2, a3, a4, a5, a6⟩ := m_readName (cs := cs) (d := d - 1) (top := top) (sl := sl) (g := true) (txt := txt) (p := 0) (by omega) hT hM2 hB rfl rfl (by decide)
  rw [Nat.zero_add] at a3
  rw [Bool.true_and] at a4
  have hB1 : M_buf i1 a txt := ⟨(a5.1 2 (by decide)).trans hB.1, hB.2⟩
  have hw := wl_len txt 0 (Nat.zero_le _)
  obtain ⟨s2, b1, b2, b3⟩ := m_expect (cs := cs) (d := d - 1) (top := top) (sl := sl) (c := 58) (g := (tkN txt 0).isSome) (by omega) a2 hB1 a3 a4 hT (by omega) (by decide)
  refine ⟨s2, _, b2, rfl, rfl, ?_, fun x hx => ?_, fun res hh => ?_⟩
  · exact (((M_same.num _ 3 _ (by decide)).trans (M_same.num _ 4 _ (by decide))).trans a5).trans ((M_same.num _ 3 _ (by decide)).trans (M_same.num _ 4 _ (by decide)))
  · rw [b3 x hx, a6 x hx, am_up_ne _ _ (by omega), am_up_ne _ _ (by omega)]
  · refine x_n cd_i123_0 rfl rfl ?_
    show am_to cd_t _ _ 123 1 _ _ _ _ _ _
    refine x_getf cd_i123_1 hM.1 rfl rfl ?_
    rw [hS.1]
    refine x_ic cd_i123_4 (z := ii 5) rfl ?_
    show am_to cd_t _ _ 123 5 _ _ _ _ _ _
    refine x_icmp_t cd_i123_5 (fun z => hf ((ii_eq (by have := hS.2.1; omega) (by decide)).mp z)) ?_
    refine x_n cd_i123_19 rfl rfl ?_
    refine x_ic cd_i123_20 (z := ii 0) rfl ?_
    show am_to cd_t _ _ 123 21 _ _ _ _ _ _
    refine x_putf cd_i123_21 (fs' := mo_f m (upd i 3 (ii 0))) hM.1 rfl rfl rfl ?_
    refine x_n cd_i123_24 rfl rfl ?_
    refine x_ic cd_i123_25 (z := ii 1) rfl ?_
    show am_to cd_t _ _ 123 26 _ _ _ _ _ _
    refine x_putf cd_i123_26 (fs' := mo_f m (upd (upd i 3 (ii 0)) 4 (ii 1))) hM1.1 rfl rfl rfl ?_
    refine x_n cd_i123_29 rfl rfl ?_
    show am_to cd_t _ _ 123 30 _ _ _ _ _ _
    refine x_callv (as' := []) cd_i123_30 hM2.1 (by omega) rfl rfl rfl rfl rfl rfl a1 ?_
    refine x_n cd_i123_33 rfl rfl ?_
    try dsimp only [List.set]
    refine x_n cd_i123_34 rfl rfl ?_
    refine x_bi cd_i123_35 (z := ii 58) (by decide) ?_
    show am_to cd_t _ _ 123 37 _ _ _ _ _ _
    refine x_callv (as' := [.int (ii 58)]) (r := none) cd_i123_37 a2.1 (by omega) rfl rfl rfl rfl rfl rfl b1 ?_
    exact hh
end MVF
