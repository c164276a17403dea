/-! declare, of the reference -/
section RG
variable {cs : Nat → Value} {d m top sl : Nat} {txt : List Nat} {dec : Nat → Option Dec}
theorem m_copy {σ : am_H} {i : Nat → Int32} {a : Nat → Nat → Int32} {f t : Nat} {M : Mem} (hM : mo σ m i a) (hf : f < 66) (ht : t < 60) (hft : t < f) (h : M_mem a f M) (hl : M.2.2.2.2.1.length ≤ 2) :
    ∃ (σ' : am_H) (a' : Nat → Nat → Int32), am_to cd_t cs d 122 0 (am_ent 3 [.ref m, .int (ii f), .int (ii t)]) [] σ top sl (.inl none, σ', top, sl) ∧ mo σ' m i a' ∧ M_mem a' t M ∧ M_row t a a' ∧ ∀ x, x < m ∨ m + 25 ≤ x → σ' x = σ x := by
  obtain ⟨h1, h2, h3, h4, h5, h6, h7⟩ := h
  have m1 := hM.sto 5 (by decide) (by decide) (upd (a 5) t (ii M.1))
  have m2 := m1.sto 6 (by decide) (by decide) (upd (a 6) t (b2i (M.2.2.1 || M.1 == 2)))
  have m3 := m2.sto 7 (by decide) (by decide) (upd (a 7) t (b2i M.2.1))
  have m4 := m3.sto 8 (by decide) (by decide) (upd (a 8) t (ii (n27 M.2.2.2.1)))
  have m5 := m4.sto 9 (by decide) (by decide) (upd (a 9) t (ii M.2.2.2.2.2))
  have m6 := m5.sto 10 (by decide) (by decide) (upd (a 10) t (ii M.2.2.2.2.1.length))
  have m7 := m6.sto 11 (by decide) (by decide) (upd (a 11) (2 * t) (a 11 (2 * f)))
  have m8 := m7.sto 11 (by decide) (by decide) (upd (upd (a 11) (2 * t) (a 11 (2 * f))) (2 * t + 1) (a 11 (2 * f + 1)))
  have r1 : M_row t a (updA a 5 (upd (a 5) t (ii M.1))) := M_row.sto _ (by decide) (by decide)
  have r2 := r1.trans (M_row.sto (a := updA a 5 (upd (a 5) t (ii M.1))) (r := t) (k := 6) (b2i (M.2.2.1 || M.1 == 2)) (by decide) (by decide))
  refine ⟨_, _, ?_, m8, ⟨?_, ?_, ?_, ?_, ?_, ?_, ?_⟩, ?_, fun x hx => ?_⟩
  · refine x_n cd_i122_0 rfl rfl ?_
    refine x_getf cd_i122_1 hM.1 rfl rfl ?_
    refine x_n cd_i122_4 rfl rfl ?_
    refine x_n cd_i122_5 rfl rfl ?_
    refine x_getf cd_i122_6 hM.1 rfl rfl ?_
    refine x_n cd_i122_9 rfl rfl ?_
    show am_to cd_t _ _ 122 10 _ _ _ _ _ _
    refine x_iald cd_i122_10 (hM.2 5 (by decide) (by decide)) (show _ < 66 by omega) (by decide) (h1) ?_
    refine x_iastore cd_i122_11 (hM.2 5 (by decide) (by decide)) (show _ < 66 by omega) (by decide) ?_
    refine x_n cd_i122_12 rfl rfl ?_
    refine x_getf cd_i122_13 m1.1 rfl rfl ?_
    refine x_n cd_i122_16 rfl rfl ?_
    refine x_n cd_i122_17 rfl rfl ?_
    refine x_getf cd_i122_18 m1.1 rfl rfl ?_
    refine x_n cd_i122_21 rfl rfl ?_
    show am_to cd_t _ _ 122 22 _ _ _ _ _ _
    refine x_bald cd_i122_22 (m1.2 6 (by decide) (by decide)) (show _ < 66 by omega) (by decide) (h2) ?_
    refine x_bast (s := M.2.2.1 || M.1 == 2) cd_i122_23 (m1.2 6 (by decide) (by decide)) (show t < 66 by omega) (by decide) ?_
    refine x_n cd_i122_24 rfl rfl ?_
    refine x_getf cd_i122_25 m2.1 rfl rfl ?_
    refine x_n cd_i122_28 rfl rfl ?_
    refine x_n cd_i122_29 rfl rfl ?_
    refine x_getf cd_i122_30 m2.1 rfl rfl ?_
    refine x_n cd_i122_33 rfl rfl ?_
    show am_to cd_t _ _ 122 34 _ _ _ _ _ _
    refine x_bald cd_i122_34 (m2.2 7 (by decide) (by decide)) (show _ < 66 by omega) (by decide) (h3) ?_
    refine x_bast (s := M.2.1) cd_i122_35 (m2.2 7 (by decide) (by decide)) (show t < 66 by omega) (by decide) ?_
    refine x_n cd_i122_36 rfl rfl ?_
    refine x_getf cd_i122_37 m3.1 rfl rfl ?_
    refine x_n cd_i122_40 rfl rfl ?_
    refine x_n cd_i122_41 rfl rfl ?_
    refine x_getf cd_i122_42 m3.1 rfl rfl ?_
    refine x_n cd_i122_45 rfl rfl ?_
    show am_to cd_t _ _ 122 46 _ _ _ _ _ _
    refine x_iald cd_i122_46 (m3.2 8 (by decide) (by decide)) (show _ < 66 by omega) (by decide) (h4) ?_
    refine x_iastore cd_i122_47 (m3.2 8 (by decide) (by decide)) (show _ < 66 by omega) (by decide) ?_
    refine x_n cd_i122_48 rfl rfl ?_
    refine x_getf cd_i122_49 m4.1 rfl rfl ?_
    refine x_n cd_i122_52 rfl rfl ?_
    refine x_n cd_i122_53 rfl rfl ?_
    refine x_getf cd_i122_54 m4.1 rfl rfl ?_
    refine x_n cd_i122_57 rfl rfl ?_
    show am_to cd_t _ _ 122 58 _ _ _ _ _ _
    refine x_iald cd_i122_58 (m4.2 9 (by decide) (by decide)) (show _ < 66 by omega) (by decide) (h5) ?_
    refine x_iastore cd_i122_59 (m4.2 9 (by decide) (by decide)) (show _ < 66 by omega) (by decide) ?_
    refine x_n cd_i122_60 rfl rfl ?_
    refine x_getf cd_i122_61 m5.1 rfl rfl ?_
    refine x_n cd_i122_64 rfl rfl ?_
    refine x_n cd_i122_65 rfl rfl ?_
    refine x_getf cd_i122_66 m5.1 rfl rfl ?_
    refine x_n cd_i122_69 rfl rfl ?_
    show am_to cd_t _ _ 122 70 _ _ _ _ _ _
    refine x_iald cd_i122_70 (m5.2 10 (by decide) (by decide)) (show _ < 66 by omega) (by decide) (h6) ?_
    refine x_iastore cd_i122_71 (m5.2 10 (by decide) (by decide)) (show _ < 66 by omega) (by decide) ?_
    refine x_n cd_i122_72 rfl rfl ?_
    refine x_getf cd_i122_73 m6.1 rfl rfl ?_
    refine x_ic cd_i122_76 (z := ii 2) rfl ?_
    refine x_n cd_i122_77 rfl rfl ?_
    refine x_imul cd_i122_78 (ii_mul _ _) ?_
    refine x_n cd_i122_79 rfl rfl ?_
    refine x_getf cd_i122_80 m6.1 rfl rfl ?_
    refine x_ic cd_i122_83 (z := ii 2) rfl ?_
    refine x_n cd_i122_84 rfl rfl ?_
    refine x_imul cd_i122_85 (ii_mul _ _) ?_
    show am_to cd_t _ _ 122 86 _ _ _ _ _ _
    refine x_iald cd_i122_86 (m6.2 11 (by decide) (by decide)) (show _ < 132 by omega) (by decide) (rfl) ?_
    refine x_iastore cd_i122_87 (m6.2 11 (by decide) (by decide)) (show _ < 132 by omega) (by decide) ?_
    refine x_n cd_i122_88 rfl rfl ?_
    refine x_getf cd_i122_89 m7.1 rfl rfl ?_
    refine x_ic cd_i122_92 (z := ii 2) rfl ?_
    refine x_n cd_i122_93 rfl rfl ?_
    refine x_imul cd_i122_94 (ii_mul _ _) ?_
    refine x_ic cd_i122_95 (z := ii 1) rfl ?_
    refine x_iadd cd_i122_96 (ii_add _ _) ?_
    refine x_n cd_i122_97 rfl rfl ?_
    refine x_getf cd_i122_98 m7.1 rfl rfl ?_
    refine x_ic cd_i122_101 (z := ii 2) rfl ?_
    refine x_n cd_i122_102 rfl rfl ?_
    refine x_imul cd_i122_103 (ii_mul _ _) ?_
    refine x_ic cd_i122_104 (z := ii 1) rfl ?_
    refine x_iadd cd_i122_105 (ii_add _ _) ?_
    show am_to cd_t _ _ 122 106 _ _ _ _ _ _
    refine x_iald (z := a 11 (2 * f + 1)) cd_i122_106 (m7.2 11 (by decide) (by decide)) (show 2 * f + 1 < 132 by omega) (by decide) ?_ ?_
    · rw [updA_eq]
      exact upd_ne (by omega)
    refine x_iastore cd_i122_107 (m7.2 11 (by decide) (by decide)) (show _ < 132 by omega) (by decide) ?_
    exact x_end cd_i122_108 rfl rfl rfl
  · rw [updA_ne (by decide), updA_ne (by decide), updA_ne (by decide), updA_ne (by decide), updA_ne (by decide), updA_ne (by decide), updA_ne (by decide), updA_eq, upd_eq]
  · rw [updA_ne (by decide), updA_ne (by decide), updA_ne (by decide), updA_ne (by decide), updA_ne (by decide), updA_ne (by decide), updA_eq, upd_eq]
  · rw [updA_ne (by decide), updA_ne (by decide), updA_ne (by decide), updA_ne (by decide), updA_ne (by decide), updA_eq, upd_eq]
  · rw [updA_ne (by decide), updA_ne (by decide), updA_ne (by decide), updA_ne (by decide), updA_eq, upd_eq]
  · rw [updA_ne (by decide), updA_ne (by decide), updA_ne (by decide), updA_eq, upd_eq]
  · rw [updA_ne (by decide), updA_ne (by decide), updA_eq, upd_eq]
  · intro j hj
    rw [updA_eq]
    by_cases e : j = 1
    · rw [e, upd_eq]
      rw [e] at hj
      exact h7 1 hj
    · have e0 : j = 0 := by omega
      rw [e0, upd_ne (by omega), Nat.add_zero, upd_eq]
      rw [e0] at hj
      exact h7 0 hj
  · intro k q hk
    unfold updA
    by_cases e11 : k = 11
    · rw [if_pos e11, e11, upd_ne (by omega), upd_ne (by omega)]
    · rw [if_neg e11, if_neg e11]
      by_cases e10 : k = 10
      · rw [if_pos e10, e10, upd_ne (by omega)]
      · rw [if_neg e10]
        by_cases e9 : k = 9
        · rw [if_pos e9, e9, upd_ne (by omega)]
        · rw [if_neg e9]
          by_cases e8 : k = 8
          · rw [if_pos e8, e8, upd_ne (by omega)]
          · rw [if_neg e8]
            by_cases e7 : k = 7
            · rw [if_pos e7, e7, upd_ne (by omega)]
            · rw [if_neg e7]
              by_cases e6 : k = 6
              · rw [if_pos e6, e6, upd_ne (by omega)]
              · rw [if_neg e6]
                by_cases e5 : k = 5
                · rw [if_pos e5, e5, upd_ne (by omega)]
                · rw [if_neg e5]
  · rw [am_up_ne _ _ (by omega), am_up_ne _ _ (by omega), am_up_ne _ _ (by omega), am_up_ne _ _ (by omega), am_up_ne _ _ (by omega), am_up_ne _ _ (by omega), am_up_ne _ _ (by omega), am_up_ne _ _ (by omega)]
/-- the rows of one class alone change -/
def M_cls (c : Nat) (a a' : Nat → Nat → Int32) : Prop := ∀ k q, (k < 5 ∨ 11 < k ∨ (k ≤ 10 ∧ ¬ (6 * c ≤ q ∧ q < 6 * c + 6)) ∨ (k = 11 ∧ ¬ (12 * c ≤ q ∧ q < 12 * c + 12))) → a' k q = a k q
theorem m_copy_loop {c : Nat} {ms : List Mem} (hd : 0 < d) (hc : c < 10) (hl : ms.length ≤ 6) (hms : ∀ N ∈ ms, memOk N) :
    ∀ (n k : Nat) (σ : am_H) (i : Nat → Int32) (a : Nat → Nat → Int32), k + n = ms.length → mo σ m i a → i 38 = ii ms.length → (∀ j, j < ms.length → M_mem a (60 + j) (ms.getD j default)) → (∀ j, j < k → M_mem a (6 * c + j) (ms.getD j default)) →
    ∃ (σ' : am_H) (a' : Nat → Nat → Int32), am_to cd_t cs d 102 82 [some (.ref m), some (.int (ii c)), some (.int (ii k))] [] σ top sl (.inl (some (.int (ii ms.length))), σ', top, sl) ∧ mo σ' m i a' ∧ (∀ j, j < ms.length → M_mem a' (6 * c + j) (ms.getD j default)) ∧ M_cls c a a' ∧ ∀ x, x < m ∨ m + 25 ≤ x → σ' x = σ x := by
  intro n
  induction n with
  | zero =>
    intro k σ i a hk hM h38 hr hj
    refine ⟨σ, a, ?_, hM, fun j hj' => hj j (by omega), fun _ _ _ => rfl, fun _ _ => rfl⟩
    refine x_n cd_i102_82 rfl rfl ?_
    refine x_n cd_i102_83 rfl rfl ?_
    show am_to cd_t _ _ 102 84 _ _ _ _ _ _
    refine x_getf cd_i102_84 hM.1 (congrArg (fun z => some (Value.int z)) (h38)) rfl ?_
    refine x_icmp_t cd_i102_87 ((ii_le (by omega) (by omega)).mpr (by omega)) ?_
    refine x_n cd_i102_110 rfl rfl ?_
    show am_to cd_t _ _ 102 111 _ _ _ _ _ _
    refine x_getf cd_i102_111 hM.1 (congrArg (fun z => some (Value.int z)) (h38)) rfl ?_
    exact x_end cd_i102_114 rfl rfl rfl
  | succ n ih =>
    intro k σ i a hk hM h38 hr hj
    have hkl : k < ms.length := by omega
    have l2 : ∀ j, j < ms.length → (ms.getD j default).2.2.2.2.1.length ≤ 2 := fun j hj => (hms _ (getD_mem hj)).2.2.2.2.1
    obtain ⟨s1, a1, b1, b2, b3, b4, b5⟩ := m_copy (cs := cs) (d := d - 1) (top := top) (sl := sl) (f := 60 + k) (t := 6 * c + k) hM (by omega) (by omega) (by omega) (hr k hkl) (l2 k hkl)
    obtain ⟨s2, a2, k1, k2, k3, k4, k5⟩ := ih (k + 1) s1 i a1 (by omega) b2 h38 (fun j hj => (hr j hj).row b4 (by omega) (l2 j hj)) (fun j hj' => by
      by_cases e : j = k
      · rw [e]; exact b3
      · exact (hj j (by omega)).row b4 (by omega) (l2 j (by omega)))
    refine ⟨s2, a2, ?_, k2, k3, fun k' q hq => (k4 k' q hq).trans (b4 k' q (by omega)), fun x hx => (k5 x hx).trans (b5 x hx)⟩
    refine x_n cd_i102_82 rfl rfl ?_
    refine x_n cd_i102_83 rfl rfl ?_
    show am_to cd_t _ _ 102 84 _ _ _ _ _ _
    refine x_getf cd_i102_84 hM.1 (congrArg (fun z => some (Value.int z)) (h38)) rfl ?_
    refine x_icmp_f cd_i102_87 (fun z => by have := (ii_le (by omega) (by omega)).mp (show ii ms.length ≤ ii k from z); omega) ?_
    refine x_n cd_i102_90 rfl rfl ?_
    refine x_bi cd_i102_91 (z := ii 60) (by decide) ?_
    refine x_n cd_i102_93 rfl rfl ?_
    refine x_iadd cd_i102_94 (ii_add _ _) ?_
    refine x_bi cd_i102_95 (z := ii 6) (by decide) ?_
    refine x_n cd_i102_97 rfl rfl ?_
    refine x_imul cd_i102_98 (ii_mul _ _) ?_
    refine x_n cd_i102_99 rfl rfl ?_
    refine x_iadd cd_i102_100 (ii_add _ _) ?_
    show am_to cd_t _ _ 102 101 _ _ _ _ _ _
    refine x_callv (as' := [.int (ii (60 + k)), .int (ii (6 * c + k))]) (r := none) cd_i102_101 hM.1 (by omega) rfl rfl rfl rfl rfl rfl (b1) ?_
    refine x_iinc cd_i102_104 rfl (ii_add _ 1) rfl ?_
    try dsimp only [List.set]
    refine x_n cd_i102_107 rfl rfl ?_
    show am_to cd_t _ _ 102 82 _ _ _ _ _ _
    exact k1
theorem m_declare {σ : am_H} {i : Nat → Int32} {a : Nat → Nat → Int32} {rk : Nat → Nat} (hd : 6 < d) (hT : ∀ c ∈ txt, cok c) (hM : mo σ m i a) (hB : M_buf i a txt) (hC : M_cat a dec) (hO : catOk dec) (hrk : ranked dec rk) :
    ∃ (σ' : am_H) (i' : Nat → Int32) (a' : Nat → Nat → Int32) (r : Int32) (dec' : Nat → Option Dec), am_to cd_t cs d 102 0 (am_ent 3 [.ref m]) [] σ top sl (.inl (some (.int r)), σ', top, sl) ∧ mo σ' m i' a' ∧ M_buf i' a' [] ∧ M_cat a' dec' ∧ (∀ q, q ∉ [0, 2, 3, 4, 37, 38] → i' q = i q) ∧ (∀ k, 11 < k → a' k = a k) ∧ (∀ c, dec' c = none → a' 4 c = a 4 c) ∧ (∀ x, x < m ∨ m + 25 ≤ x → σ' x = σ x) ∧
      ((pDecl dec txt = none ∧ i' 0 = 1 ∧ dec' = dec) ∨ (∃ c par ms D, pDecl dec txt = some (c, par, ms) ∧ dec c = some D ∧ i' 0 = 2 ∧ dec' = dec) ∨
       (∃ c par ms, pDecl dec txt = some (c, par, ms) ∧ dec c = none ∧ i' 0 = 0 ∧ dec' = updD dec c (par, ms) ∧ r = ii ms.length)) := by
  have h1 := hM.put (upd i 3 (ii 0))
  have h2 := h1.put (upd (upd i 3 (ii 0)) 4 (ii 1))
  obtain ⟨s2, hs2⟩ : ∃ z, z = am_up (am_up σ m (.inr (.inl (11, mo_f m (upd i 3 (ii 0)))))) m (.inr (.inl (11, mo_f m (upd (upd i 3 (ii 0)) 4 (ii 1))))) := ⟨_, rfl⟩
  rw [← hs2] at h2
  have f2 : ∀ x, x < m ∨ m + 25 ≤ x → s2 x = σ x := fun x hx => by rw [hs2, am_up_ne _ _ (by omega), am_up_ne _ _ (by omega)]
  obtain ⟨s3, i3, a3, z, k1, k2, k3, k4, k5, k6, k7⟩ := m_readDecl (cs := cs) (d := d - 1) (top := top) (sl := sl) (by omega) hT h2 (show M_buf (upd (upd i 3 (ii 0)) 4 (ii 1)) a txt from hB) rfl rfl hC hO hrk
  have i3' : ∀ q, q ∉ [3, 4, 37, 38] → i3 q = i q := fun q hq => by
    rw [k5 q hq, upd_ne (fun z => hq (by rw [z]; decide)), upd_ne (fun z => hq (by rw [z]; decide))]
  have f3 : ∀ x, x < m ∨ m + 25 ≤ x → s3 x = σ x := fun x hx => (k7 x hx).trans (f2 x hx)
  have C3 : M_cat a3 dec := hC.low hO k6
  have h4 := k2.put (upd i3 2 (ii 0))
  obtain ⟨s4, hs4⟩ : ∃ z, z = am_up s3 m (.inr (.inl (11, mo_f m (upd i3 2 (ii 0))))) := ⟨_, rfl⟩
  rw [← hs4] at h4
  have f4 : ∀ x, x < m ∨ m + 25 ≤ x → s4 x = σ x := fun x hx => by rw [hs4, am_up_ne _ _ (by omega), f3 x hx]
  have i4' : ∀ q, q ∉ [0, 2, 3, 4, 37, 38] → upd i3 2 (ii 0) q = i q := fun q hq => by
    rw [upd_ne (fun z => hq (by rw [z]; decide)), i3' q (fun z => hq (by simp at z ⊢; omega))]
  have low11 : ∀ k, 11 < k → a3 k = a k := fun k hk => funext (fun q => k6 k q (by omega))
  have go1 : ∀ res, am_to cd_t cs d 102 24 [some (.ref m), some (.int z), none] [.int (b2i (pDecl dec txt).isSome)] s4 top sl res → am_to cd_t cs d 102 0 (am_ent 3 [.ref m]) [] σ top sl res := by
    intro res hh
    refine x_n cd_i102_0 rfl rfl ?_
    refine x_ic cd_i102_1 (z := ii 0) rfl ?_
    show am_to cd_t _ _ 102 2 _ _ _ _ _ _
    refine x_putf cd_i102_2 (fs' := mo_f m (upd i 3 (ii 0))) hM.1 rfl rfl rfl ?_
    refine x_n cd_i102_5 rfl rfl ?_
    refine x_ic cd_i102_6 (z := ii 1) rfl ?_
    show am_to cd_t _ _ 102 7 _ _ _ _ _ _
    refine x_putf cd_i102_7 (fs' := mo_f m (upd (upd i 3 (ii 0)) 4 (ii 1))) h1.1 rfl rfl rfl ?_
    refine hs2 ▸ ?_
    refine x_n cd_i102_10 rfl rfl ?_
    show am_to cd_t _ _ 102 11 _ _ _ _ _ _
    refine x_callv (as' := []) cd_i102_11 h2.1 (by omega) rfl rfl rfl rfl rfl rfl (k1) ?_
    refine x_n cd_i102_14 rfl rfl ?_
    try dsimp only [List.set]
    refine x_n cd_i102_15 rfl rfl ?_
    refine x_ic cd_i102_16 (z := ii 0) rfl ?_
    show am_to cd_t _ _ 102 17 _ _ _ _ _ _
    refine x_putf cd_i102_17 (fs' := mo_f m (upd i3 2 (ii 0))) k2.1 rfl rfl rfl ?_
    refine hs4 ▸ ?_
    refine x_n cd_i102_20 rfl rfl ?_
    show am_to cd_t _ _ 102 21 _ _ _ _ _ _
    refine x_getf cd_i102_21 h4.1 (congrArg (fun z => some (Value.int z)) (k3)) rfl ?_
    exact hh
  have refu : ∀ w : Int32, ∃ s5, am_to cd_t cs (d - 1) 121 0 (am_ent 2 [.ref m, .int w]) [] s4 top sl (.inl (some (.int (ii 0))), s5, top, sl) ∧ mo s5 m (upd (upd i3 2 (ii 0)) 0 w) a3 ∧ (∀ x, x < m ∨ m + 25 ≤ x → s5 x = σ x) ∧ ∀ q, q ∉ [0, 2, 3, 4, 37, 38] → upd (upd i3 2 (ii 0)) 0 w q = i q := fun w =>
    ⟨_, m_refuse h4, h4.put _, fun x hx => by rw [am_up_ne _ _ (by omega), f4 x hx], fun q hq => by rw [upd_ne (fun z => hq (by rw [z]; decide))]; exact i4' q hq⟩
  have bnil : ∀ (j : Nat → Int32) (b : Nat → Nat → Int32), j 2 = ii 0 → M_buf j b [] := fun j b h => ⟨h, by decide, fun q hq => absurd hq (Nat.not_lt_zero q)⟩
  cases hP : pDecl dec txt with
  | none =>
    rw [hP] at go1
    obtain ⟨s5, l1, l2, l3, l4⟩ := refu (ii 1)
    refine ⟨s5, _, a3, ii 0, dec, go1 _ ?_, l2, bnil _ _ rfl, C3, l4, low11, fun c _ => k6 4 c (by omega), l3, Or.inl ⟨rfl, rfl, rfl⟩⟩
    refine x_if_f cd_i102_24 (fun z => z rfl) ?_
    refine x_n cd_i102_27 rfl rfl ?_
    refine x_ic cd_i102_28 (z := ii 1) rfl ?_
    show am_to cd_t _ _ 102 29 _ _ _ _ _ _
    refine x_callv (as' := [.int (ii 1)]) cd_i102_29 h4.1 (by omega) rfl rfl rfl rfl rfl rfl (l1) ?_
    exact x_end cd_i102_32 rfl rfl rfl
  | some Q =>
    obtain ⟨c, par, ms⟩ := Q
    obtain ⟨y1, y2, y3, y4, y5, y6, y7⟩ := k4 c par ms hP
    rw [hP] at go1
    rw [y1] at go1
    have go2 : ∀ w : Int32, a3 2 c = w → ∀ res, am_to cd_t cs d 102 39 [some (.ref m), some (.int (ii c)), none] [.int w] s4 top sl res → am_to cd_t cs d 102 0 (am_ent 3 [.ref m]) [] σ top sl res := by
      intro w hw res hh
      refine go1 res (x_if_t cd_i102_24 (fun z => absurd (show (1 : Int32) = 0 from z) (by decide)) ?_)
      refine x_n cd_i102_33 rfl rfl ?_
      refine x_getf cd_i102_34 h4.1 rfl rfl ?_
      refine x_n cd_i102_37 rfl rfl ?_
      show am_to cd_t _ _ 102 38 _ _ _ _ _ _
      refine x_bald cd_i102_38 (h4.2 2 (by decide) (by decide)) (show _ < 10 by omega) (by decide) (hw) ?_
      exact hh
    cases hD : dec c with
    | some D =>
      obtain ⟨s5, l1, l2, l3, l4⟩ := refu (ii 2)
      refine ⟨s5, _, a3, ii 0, dec, go2 _ ((C3 c y2).2 D hD).1 _ ?_, l2, bnil _ _ rfl, C3, l4, low11, fun c _ => k6 4 c (by omega), l3, Or.inr (Or.inl ⟨c, par, ms, D, rfl, hD, rfl, rfl⟩)⟩
      refine x_if_f cd_i102_39 (fun z => absurd (show (1 : Int32) = 0 from z) (by decide)) ?_
      refine x_n cd_i102_42 rfl rfl ?_
      refine x_ic cd_i102_43 (z := ii 2) rfl ?_
      show am_to cd_t _ _ 102 44 _ _ _ _ _ _
      refine x_callv (as' := [.int (ii 2)]) cd_i102_44 h4.1 (by omega) rfl rfl rfl rfl rfl rfl (l1) ?_
      exact x_end cd_i102_47 rfl rfl rfl
    | none =>
      have h5 := h4.put (upd (upd i3 2 (ii 0)) 0 (ii 0))
      have h6 := h5.sto 2 (by decide) (by decide) (upd (a3 2) c (b2i true))
      have h7 := h6.sto 3 (by decide) (by decide) (upd (a3 3) c (oi par))
      have h8 := h7.sto 4 (by decide) (by decide) (upd (a3 4) c (ii ms.length))
      obtain ⟨s8, hs8⟩ : ∃ z, z = am_up (am_up (am_up (am_up s4 m (.inr (.inl (11, mo_f m (upd (upd i3 2 (ii 0)) 0 (ii 0)))))) (m + 2) (.inl (mo_ty 2, mo_sz 2, .inl (upd (a3 2) c (b2i true))))) (m + 3) (.inl (mo_ty 3, mo_sz 3, .inl (upd (a3 3) c (oi par))))) (m + 4) (.inl (mo_ty 4, mo_sz 4, .inl (upd (a3 4) c (ii ms.length)))) := ⟨_, rfl⟩
      rw [← hs8] at h8
      have f8 : ∀ x, x < m ∨ m + 25 ≤ x → s8 x = σ x := fun x hx => by rw [hs8, am_up_ne _ _ (by omega), am_up_ne _ _ (by omega), am_up_ne _ _ (by omega), am_up_ne _ _ (by omega), f4 x hx]
      generalize ha8 : updA (updA (updA a3 2 (upd (a3 2) c (b2i true))) 3 (upd (a3 3) c (oi par))) 4 (upd (a3 4) c (ii ms.length)) = a8 at h8
      have ne8 : ∀ k, k ≠ 2 → k ≠ 3 → k ≠ 4 → a8 k = a3 k := fun k z2 z3 z4 => by rw [← ha8, updA_ne z4, updA_ne z3, updA_ne z2]
      have e82 : a8 2 = upd (a3 2) c (b2i true) := by rw [← ha8, updA_ne (by decide), updA_ne (by decide), updA_eq]
      have e83 : a8 3 = upd (a3 3) c (oi par) := by rw [← ha8, updA_ne (by decide), updA_eq]
      have e84 : a8 4 = upd (a3 4) c (ii ms.length) := by rw [← ha8, updA_eq]
      have mem8 : ∀ r M, M_mem a3 r M → M_mem a8 r M := by
        intro r M ⟨q1, q2, q3, q4, q5, q6, q7⟩
        unfold M_mem
        rw [ne8 5 (by decide) (by decide) (by decide), ne8 6 (by decide) (by decide) (by decide), ne8 7 (by decide) (by decide) (by decide), ne8 8 (by decide) (by decide) (by decide), ne8 9 (by decide) (by decide) (by decide), ne8 10 (by decide) (by decide) (by decide), ne8 11 (by decide) (by decide) (by decide)]
        exact ⟨q1, q2, q3, q4, q5, q6, q7⟩
      obtain ⟨s9, a9, t1, t2, t3, t4, t5⟩ := m_copy_loop (cs := cs) (d := d) (m := m) (top := top) (sl := sl) (by omega) y2 y5 y6 ms.length 0 s8 (upd (upd i3 2 (ii 0)) 0 (ii 0)) a8 (Nat.zero_add _) h8 y4 (fun j hj => mem8 _ _ (y7 j hj)) (fun j hj => absurd hj (Nat.not_lt_zero j))
      refine ⟨s9, _, a9, ii ms.length, updD dec c (par, ms), go2 _ ((C3 c y2).1 hD) _ ?_, t2, bnil _ _ rfl, ?_, ?_, ?_, ?_, fun x hx => (t5 x hx).trans (f8 x hx), Or.inr (Or.inr ⟨c, par, ms, rfl, hD, rfl, rfl, rfl⟩)⟩
      · refine x_if_t cd_i102_39 rfl ?_
        refine x_n cd_i102_48 rfl rfl ?_
        refine x_ic cd_i102_49 (z := ii 0) rfl ?_
        show am_to cd_t _ _ 102 50 _ _ _ _ _ _
        refine x_putf cd_i102_50 (fs' := mo_f m (upd (upd i3 2 (ii 0)) 0 (ii 0))) h4.1 rfl rfl rfl ?_
        refine x_n cd_i102_53 rfl rfl ?_
        refine x_getf cd_i102_54 h5.1 rfl rfl ?_
        refine x_n cd_i102_57 rfl rfl ?_
        refine x_ic cd_i102_58 (z := ii 1) rfl ?_
        show am_to cd_t _ _ 102 59 _ _ _ _ _ _
        refine x_bast (s := true) cd_i102_59 (h5.2 2 (by decide) (by decide)) (show c < 10 from y2) (by decide) ?_
        refine x_n cd_i102_60 rfl rfl ?_
        refine x_getf cd_i102_61 h6.1 rfl rfl ?_
        refine x_n cd_i102_64 rfl rfl ?_
        refine x_n cd_i102_65 rfl rfl ?_
        show am_to cd_t _ _ 102 66 _ _ _ _ _ _
        refine x_getf cd_i102_66 h6.1 (congrArg (fun z => some (Value.int z)) (y3)) rfl ?_
        refine x_iastore cd_i102_69 (h6.2 3 (by decide) (by decide)) (show _ < 10 by omega) (by decide) ?_
        refine x_n cd_i102_70 rfl rfl ?_
        refine x_getf cd_i102_71 h7.1 rfl rfl ?_
        refine x_n cd_i102_74 rfl rfl ?_
        refine x_n cd_i102_75 rfl rfl ?_
        show am_to cd_t _ _ 102 76 _ _ _ _ _ _
        refine x_getf cd_i102_76 h7.1 (congrArg (fun z => some (Value.int z)) (y4)) rfl ?_
        refine x_iastore cd_i102_79 (h7.2 4 (by decide) (by decide)) (show _ < 10 by omega) (by decide) ?_
        refine hs8 ▸ ?_
        refine x_ic cd_i102_80 (z := ii 0) rfl ?_
        refine x_n cd_i102_81 rfl rfl ?_
        try dsimp only [List.set]
        show am_to cd_t _ _ 102 82 _ _ _ _ _ _
        exact t1
      · intro c' hc'
        unfold updD
        by_cases e : c' = c
        · rw [if_pos e, e]
          refine ⟨(fun h => by cases h), fun D hD' => ?_⟩
          have hD' := Option.some.inj hD'
          rw [← hD', t4 2 c (by omega), t4 3 c (by omega), t4 4 c (by omega), e82, e83, e84, upd_eq, upd_eq, upd_eq]
          refine ⟨rfl, ?_, rfl, y5, t3⟩
          cases par <;> rfl
        · rw [if_neg e]
          obtain ⟨w1, w2⟩ := C3 c' hc'
          refine ⟨fun h => ?_, fun D hD' => ?_⟩
          · rw [t4 2 c' (by omega), e82, upd_ne e]
            exact w1 h
          · obtain ⟨v1, v2, v3, v4, v5⟩ := w2 D hD'
            rw [t4 2 c' (by omega), t4 3 c' (by omega), t4 4 c' (by omega), e82, e83, e84, upd_ne e, upd_ne e, upd_ne e]
            refine ⟨v1, v2, v3, v4, fun k hk => ?_⟩
            have hl2 := ((hO c' D hD').2.1 _ (getD_mem hk)).2.2.2.2.1
            obtain ⟨q1, q2, q3, q4, q5, q6, q7⟩ := mem8 _ _ (v5 k hk)
            exact ⟨(t4 5 _ (by omega)).trans q1, (t4 6 _ (by omega)).trans q2, (t4 7 _ (by omega)).trans q3, (t4 8 _ (by omega)).trans q4, (t4 9 _ (by omega)).trans q5, (t4 10 _ (by omega)).trans q6, fun j hj => (t4 11 _ (by omega)).trans (q7 j hj)⟩
      · intro q hq
        rw [upd_ne (fun z => hq (by rw [z]; decide))]
        exact i4' q hq
      · intro k hk
        refine funext (fun q => ?_)
        rw [t4 k q (by omega), ne8 k (by omega) (by omega) (by omega), low11 k hk]
      · intro c' hc'
        have e : c' ≠ c := fun z => by unfold updD at hc'; rw [if_pos z] at hc'; cases hc'
        rw [t4 4 c' (by omega), e84, upd_ne e]
        exact k6 4 c' (by omega)
end RG
/-- how many classes are declared -/
def cnt1 (o : Option Dec) : Nat := if o.isSome = true then 1 else 0
def cnt (dec : Nat → Option Dec) : Nat := cnt1 (dec 0) + cnt1 (dec 1) + cnt1 (dec 2) + cnt1 (dec 3) + cnt1 (dec 4) + cnt1 (dec 5) + cnt1 (dec 6) + cnt1 (dec 7) + cnt1 (dec 8) + cnt1 (dec 9)
theorem cnt1_le (o : Option Dec) : cnt1 o ≤ 1 := by unfold cnt1; split <;> omega
theorem cnt_upd {dec : Nat → Option Dec} {c : Nat} {D : Dec} (hc : c < 10) (hn : dec c = none) : cnt (updD dec c D) = cnt dec + 1 ∧ cnt dec ≤ 9 := by
  have h0 := cnt1_le (dec 0)
  have h1 := cnt1_le (dec 1)
  have h2 := cnt1_le (dec 2)
  have h3 := cnt1_le (dec 3)
  have h4 := cnt1_le (dec 4)
  have h5 := cnt1_le (dec 5)
  have h6 := cnt1_le (dec 6)
  have h7 := cnt1_le (dec 7)
  have h8 := cnt1_le (dec 8)
  have h9 := cnt1_le (dec 9)
  have e0 : cnt1 (dec c) = 0 := by rw [hn]; rfl
  have e1 : cnt1 (updD dec c D c) = 1 := by unfold updD; rw [if_pos rfl]; rfl
  have ne : ∀ k, k ≠ c → updD dec c D k = dec k := fun k hk => by unfold updD; rw [if_neg hk]
  unfold cnt
  rcases (show c = 0 ∨ c = 1 ∨ c = 2 ∨ c = 3 ∨ c = 4 ∨ c = 5 ∨ c = 6 ∨ c = 7 ∨ c = 8 ∨ c = 9 by omega) with rfl | rfl | rfl | rfl | rfl | rfl | rfl | rfl | rfl | rfl
  · rw [e1, ne 1 (by decide), ne 2 (by decide), ne 3 (by decide), ne 4 (by decide), ne 5 (by decide), ne 6 (by decide), ne 7 (by decide), ne 8 (by decide), ne 9 (by decide)]; omega
  · rw [e1, ne 0 (by decide), ne 2 (by decide), ne 3 (by decide), ne 4 (by decide), ne 5 (by decide), ne 6 (by decide), ne 7 (by decide), ne 8 (by decide), ne 9 (by decide)]; omega
  · rw [e1, ne 0 (by decide), ne 1 (by decide), ne 3 (by decide), ne 4 (by decide), ne 5 (by decide), ne 6 (by decide), ne 7 (by decide), ne 8 (by decide), ne 9 (by decide)]; omega
  · rw [e1, ne 0 (by decide), ne 1 (by decide), ne 2 (by decide), ne 4 (by decide), ne 5 (by decide), ne 6 (by decide), ne 7 (by decide), ne 8 (by decide), ne 9 (by decide)]; omega
  · rw [e1, ne 0 (by decide), ne 1 (by decide), ne 2 (by decide), ne 3 (by decide), ne 5 (by decide), ne 6 (by decide), ne 7 (by decide), ne 8 (by decide), ne 9 (by decide)]; omega
  · rw [e1, ne 0 (by decide), ne 1 (by decide), ne 2 (by decide), ne 3 (by decide), ne 4 (by decide), ne 6 (by decide), ne 7 (by decide), ne 8 (by decide), ne 9 (by decide)]; omega
  · rw [e1, ne 0 (by decide), ne 1 (by decide), ne 2 (by decide), ne 3 (by decide), ne 4 (by decide), ne 5 (by decide), ne 7 (by decide), ne 8 (by decide), ne 9 (by decide)]; omega
  · rw [e1, ne 0 (by decide), ne 1 (by decide), ne 2 (by decide), ne 3 (by decide), ne 4 (by decide), ne 5 (by decide), ne 6 (by decide), ne 8 (by decide), ne 9 (by decide)]; omega
  · rw [e1, ne 0 (by decide), ne 1 (by decide), ne 2 (by decide), ne 3 (by decide), ne 4 (by decide), ne 5 (by decide), ne 6 (by decide), ne 7 (by decide), ne 9 (by decide)]; omega
  · rw [e1, ne 0 (by decide), ne 1 (by decide), ne 2 (by decide), ne 3 (by decide), ne 4 (by decide), ne 5 (by decide), ne 6 (by decide), ne 7 (by decide), ne 8 (by decide)]; omega
/-- ranks below the number of classes -/
def rankC (dec : Nat → Option Dec) (rk : Nat → Nat) : Prop := ranked dec rk ∧ ∀ c D, dec c = some D → rk c < cnt dec
theorem rank_upd {dec : Nat → Option Dec} {rk : Nat → Nat} {c : Nat} {D : Dec} (h : rankC dec rk) (hc : c < 10) (hn : dec c = none) (hp : ∀ p, D.1 = some p → ∃ D', dec p = some D') : rankC (updD dec c D) (upN rk c (cnt dec)) := by
  obtain ⟨h1, h2⟩ := h
  obtain ⟨k1, k2⟩ := cnt_upd (D := D) hc hn
  have par : ∀ p D', dec p = some D' → p ≠ c ∧ upN rk c (cnt dec) p = rk p ∧ updD dec c D p = some D' := by
    intro p D' hD'
    have : p ≠ c := fun z => by rw [z, hn] at hD'; cases hD'
    unfold upN updD
    rw [if_neg this, if_neg this]
    exact ⟨this, rfl, hD'⟩
  refine ⟨fun x Dx hx => ?_, fun x Dx hx => ?_⟩
  · by_cases e : x = c
    · have e2 : upN rk c (cnt dec) x = cnt dec := by unfold upN; rw [if_pos e]
      have hx : some D = some Dx := by rw [← hx]; unfold updD; rw [if_pos e]
      rw [← Option.some.inj hx, e2]
      refine ⟨by omega, by omega, fun p hp' => ?_⟩
      obtain ⟨D', hD'⟩ := hp p hp'
      obtain ⟨y1, y2, y3⟩ := par p D' hD'
      rw [y2]
      exact ⟨(h1 p D' hD').1, ⟨D', y3⟩, h2 p D' hD'⟩
    · have hx' : dec x = some Dx := by rw [← hx]; unfold updD; rw [if_neg e]
      obtain ⟨z1, z2, z3⟩ := h1 x Dx hx'
      obtain ⟨y1, y2, y3⟩ := par x Dx hx'
      rw [y2]
      refine ⟨z1, z2, fun p hp' => ?_⟩
      obtain ⟨w1, ⟨D', hD'⟩, w3⟩ := z3 p hp'
      obtain ⟨y1', y2', y3'⟩ := par p D' hD'
      rw [y2']
      exact ⟨w1, ⟨D', y3'⟩, w3⟩
  · rw [k1]
    unfold upN
    by_cases e : x = c
    · rw [if_pos e]
      omega
    · rw [if_neg e]
      have hx' : dec x = some Dx := by rw [← hx]; unfold updD; rw [if_neg e]
      have := h2 x Dx hx'
      omega
theorem catOk_upd {dec : Nat → Option Dec} {c : Nat} {D : Dec} (h : catOk dec) (hl : D.2.length ≤ 6) (hm : ∀ M ∈ D.2, memOk M) (hd : distM D.2) : catOk (updD dec c D) := by
  intro x Dx hx
  unfold updD at hx
  by_cases e : x = c
  · rw [if_pos e] at hx
    rw [← Option.some.inj hx]
    exact ⟨hl, hm, hd⟩
  · rw [if_neg e] at hx
    exact h x Dx hx
