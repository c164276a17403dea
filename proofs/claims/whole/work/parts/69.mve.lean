section MVE
variable {cs : Nat → Value} {d m top sl : Nat} {σ : am_H} {i : Nat → Int32} {a : Nat → Nat → Int32} {n x t : Nat} {z : Int32} {lv2 : Option Value}
theorem m_variable_no (hd : 0 < d) (hM : mo σ m i a) (hG : i 4 = b2i false) : am_to cd_t cs d 123 90 [some (.ref m), some (.int (ii x)), some (.int z)] [] σ top sl (.inl (some (.int (ii 0))), am_up σ m (.inr (.inl (11, mo_f m (upd i 0 (ii 1))))), top, sl) := by
  refine x_n cd_i123_90 rfl rfl ?_
  show am_to cd_t _ _ 123 91 _ _ _ _ _ _
  refine x_getf cd_i123_91 hM.1 rfl rfl ?_
  rw [hG]
  refine x_if_f cd_i123_94 (fun y => y rfl) ?_
  refine x_n cd_i123_97 rfl rfl ?_
  refine x_ic cd_i123_98 (z := ii 1) rfl ?_
  show am_to cd_t _ _ 123 99 _ _ _ _ _ _
  refine x_callv (as' := [.int (ii 1)]) cd_i123_99 hM.1 hd rfl rfl rfl rfl rfl rfl (m_refuse hM) ?_
  exact x_end cd_i123_102 rfl rfl rfl
theorem m_variable_yes (hM : mo σ m i a) (hG : i 4 = b2i true) (hn : i 15 = ii n) (hn5 : n < 5) :
    ∃ σ', am_to cd_t cs d 123 90 [some (.ref m), some (.int (ii x)), some (.int (ii t))] [] σ top sl (.inl (some (.int (ii (n + 1)))), σ', top, sl) ∧ mo σ' m (upd (upd i 0 (ii 0)) 15 (ii (n + 1))) (updA (updA a 12 (upd (a 12) n (ii x))) 13 (upd (a 13) n (ii t))) ∧ ∀ y, y < m ∨ m + 25 ≤ y → σ' y = σ y := by
  have hM1 := hM.put (upd i 0 (ii 0))
  have hM2 := hM1.sto 12 (by decide) (by decide) (upd (a 12) n (ii x))
  have hM3 := hM2.sto 13 (by decide) (by decide) (upd (a 13) n (ii t))
  have hM4 := hM3.put (upd (upd i 0 (ii 0)) 15 (ii (n + 1)))
  refine ⟨_, ?_, hM4, fun y hy => by rw [am_up_ne _ _ (by omega), am_up_ne _ _ (by omega), am_up_ne _ _ (by omega), am_up_ne _ _ (by omega)]⟩
  refine x_n cd_i123_90 rfl rfl ?_
  show am_to cd_t _ _ 123 91 _ _ _ _ _ _
  refine x_getf cd_i123_91 hM.1 rfl rfl ?_
  rw [hG]
  refine x_if_t cd_i123_94 (fun y => absurd (show (1 : Int32) = 0 from y) (by decide)) ?_
  refine x_n cd_i123_103 rfl rfl ?_
  refine x_ic cd_i123_104 (z := ii 0) rfl ?_
  show am_to cd_t _ _ 123 105 _ _ _ _ _ _
  refine x_putf cd_i123_105 (fs' := mo_f m (upd i 0 (ii 0))) hM.1 rfl rfl rfl ?_
  refine x_n cd_i123_108 rfl rfl ?_
  show am_to cd_t _ _ 123 109 _ _ _ _ _ _
  refine x_getf cd_i123_109 hM1.1 rfl rfl ?_
  refine x_n cd_i123_112 rfl rfl ?_
  show am_to cd_t _ _ 123 113 _ _ _ _ _ _
  refine x_getf cd_i123_113 hM1.1 rfl rfl ?_
  rw [show upd i 0 (ii 0) 15 = ii n from hn]
  refine x_n cd_i123_116 rfl rfl ?_
  show am_to cd_t _ _ 123 117 _ _ _ _ _ _
  refine x_iastore cd_i123_117 (hM1.2 12 (by decide) (by decide)) (i := n) (show n < 5 by omega) (by decide) ?_
  refine x_n cd_i123_118 rfl rfl ?_
  show am_to cd_t _ _ 123 119 _ _ _ _ _ _
  refine x_getf cd_i123_119 hM2.1 rfl rfl ?_
  refine x_n cd_i123_122 rfl rfl ?_
  show am_to cd_t _ _ 123 123 _ _ _ _ _ _
  refine x_getf cd_i123_123 hM2.1 rfl rfl ?_
  rw [show upd i 0 (ii 0) 15 = ii n from hn]
  refine x_n cd_i123_126 rfl rfl ?_
  show am_to cd_t _ _ 123 127 _ _ _ _ _ _
  refine x_iastore cd_i123_127 (hM2.2 13 (by decide) (by decide)) (i := n) (show n < 5 by omega) (by decide) ?_
  refine x_n cd_i123_128 rfl rfl ?_
  refine x_n cd_i123_129 rfl rfl ?_
  show am_to cd_t _ _ 123 130 _ _ _ _ _ _
  refine x_getf cd_i123_130 hM3.1 rfl rfl ?_
  rw [show upd i 0 (ii 0) 15 = ii n from hn]
  refine x_ic cd_i123_133 (z := ii 1) rfl ?_
  show am_to cd_t _ _ 123 134 _ _ _ _ _ _
  refine x_iadd cd_i123_134 (z := ii (n + 1)) (ii_add _ _) ?_
  refine x_putf cd_i123_135 (fs' := mo_f m (upd (upd i 0 (ii 0)) 15 (ii (n + 1)))) hM3.1 rfl rfl rfl ?_
  refine x_n cd_i123_138 rfl rfl ?_
  show am_to cd_t _ _ 123 139 _ _ _ _ _ _
  refine x_getf cd_i123_139 hM4.1 rfl rfl ?_
  exact x_end cd_i123_142 rfl rfl rfl
end MVE
