/-! what is seen, in the reference -/
theorem div6 {x j : Nat} (hx : x < 11) (hj : j < 6) : ii (6 * x + j) / ii 6 = ii x := by
  have h : ∀ x, x < 11 → ∀ j, j < 6 → ii (6 * x + j) / ii 6 = ii x := by decide
  exact h x hx j hj
theorem rem6 {x j : Nat} (hx : x < 11) (hj : j < 6) : ii (6 * x + j) - ii (6 * x + j) / ii 6 * ii 6 = ii j := by
  have h : ∀ x, x < 11 → ∀ j, j < 6 → ii (6 * x + j) - ii (6 * x + j) / ii 6 * ii 6 = ii j := by decide
  exact h x hx j hj
theorem fsL_some {dec : Nat → Option Dec} {pl : Int32} {k x j : Nat} {w : List Nat} : ∀ (l : List Nat), fsL dec pl k w l = some (x, j) → x ∈ l ∧ j < (memsOf dec x).length ∧ isNm k w ((memsOf dec x).getD j default) = true ∧ bhB pl x ((memsOf dec x).getD j default) = true
  | [], h => by cases h
  | y :: l, h => by
    rw [fsL] at h
    cases hf : (memsOf dec y).findIdx? (fun M => isNm k w M && bhB pl y M) with
    | none =>
      rw [hf] at h
      obtain ⟨h1, h2⟩ := fsL_some l h
      exact ⟨List.mem_cons_of_mem _ h1, h2⟩
    | some i =>
      rw [hf] at h
      have h := Prod.mk.inj (Option.some.inj h)
      obtain ⟨f1, f2⟩ := find_some hf
      rw [Bool.and_eq_true] at f2
      rw [← h.1, ← h.2]
      exact ⟨List.mem_cons_self, f1, f2.1, f2.2⟩
theorem isNm_self (M : Mem) : isNm M.1 M.2.2.2.1 M = true := by unfold isNm; rw [beq_self_eq_true, beq_self_eq_true]; rfl
theorem snB_bh {dec : Nat → Option Dec} {pl : Int32} {c x j : Nat} (h : bhB pl x ((memsOf dec x).getD j default) = false) : snB dec pl c x j = false := by
  unfold snB
  cases hb : (fsL dec pl ((memsOf dec x).getD j default).1 ((memsOf dec x).getD j default).2.2.2.1 (chain dec 11 c) == some (x, j)) with
  | false => rw [Bool.and_false]
  | true =>
    have := (fsL_some _ (beq_iff_eq.mp hb)).2.2.2
    rw [h] at this
    cases this
section SM
variable {cs : Nat → Value} {d m top sl : Nat} {σ : am_H} {i : Nat → Int32} {a : Nat → Nat → Int32} {dec : Nat → Option Dec} {pl : Int32} {rk : Nat → Nat}
theorem m_usable {x j : Nat} {M : Mem} (hM : mo σ m i a) (hpl : i 18 = pl) (hx : x < 10) (hj : j < 6) (h : M_mem a (6 * x + j) M) :
    am_to cd_t cs d 138 0 (am_ent 2 [.ref m, .int (ii (6 * x + j))]) [] σ top sl (.inl (some (.int (b2i (usB pl x M)))), σ, top, sl) := by
  obtain ⟨h1, h2, h3, h4, h5, h6, h7⟩ := h
  unfold usB
  refine x_n cd_i138_0 rfl rfl ?_
  refine x_getf cd_i138_1 hM.1 rfl rfl ?_
  refine x_n cd_i138_4 rfl rfl ?_
  show am_to cd_t _ _ 138 5 _ _ _ _ _ _
  refine x_bald cd_i138_5 (hM.2 7 (by decide) (by decide)) (show _ < 66 by omega) (by decide) (h3) ?_
  cases hp : M.2.1 with
  | false =>
    refine x_if_t cd_i138_6 rfl ?_
    refine x_ic cd_i138_20 (z := ii 1) rfl ?_
    refine x_n cd_i138_21 rfl rfl ?_
    show am_to cd_t _ _ 138 25 _ _ _ _ _ _
    exact x_end cd_i138_25 rfl rfl rfl
  | true =>
    refine x_if_f cd_i138_6 (fun z => absurd (show (1 : Int32) = 0 from z) (by decide)) ?_
    refine x_n cd_i138_9 rfl rfl ?_
    show am_to cd_t _ _ 138 10 _ _ _ _ _ _
    refine x_getf cd_i138_10 hM.1 (congrArg (fun z => some (Value.int z)) (hpl)) rfl ?_
    refine x_n cd_i138_13 rfl rfl ?_
    refine x_bi cd_i138_14 (z := ii 6) (by decide) ?_
    show am_to cd_t _ _ 138 16 _ _ _ _ _ _
    refine x_idiv cd_i138_16 (fun z => absurd (show ii 6 = 0 from z) (by decide)) (div6 (by omega) hj) ?_
    refine x_icmp cd_i138_17 (fun z => ?_) (fun z => ?_)
    · rw [show (pl == ii x) = false from beq_eq_false_iff_ne.mpr z]
      refine x_ic cd_i138_24 (z := ii 0) rfl ?_
      show am_to cd_t _ _ 138 25 _ _ _ _ _ _
      exact x_end cd_i138_25 rfl rfl rfl
    · rw [show (pl == ii x) = true from beq_iff_eq.mpr (Decidable.not_not.mp z)]
      refine x_ic cd_i138_20 (z := ii 1) rfl ?_
      refine x_n cd_i138_21 rfl rfl ?_
      show am_to cd_t _ _ 138 25 _ _ _ _ _ _
      exact x_end cd_i138_25 rfl rfl rfl
theorem m_behind {x j : Nat} {M : Mem} (hd : 0 < d) (hM : mo σ m i a) (hpl : i 18 = pl) (hx : x < 10) (hj : j < 6) (h : M_mem a (6 * x + j) M) (hm : memOk M) :
    am_to cd_t cs d 144 0 (am_ent 2 [.ref m, .int (ii (6 * x + j))]) [] σ top sl (.inl (some (.int (b2i (bhB pl x M)))), σ, top, sl) := by
  have hus := m_usable (cs := cs) (d := d - 1) (top := top) (sl := sl) hM hpl hx hj h
  obtain ⟨h1, h2, h3, h4, h5, h6, h7⟩ := h
  have mk := hm.1
  have no : bhB pl x M = false → am_to cd_t cs d 144 31 (am_ent 2 [.ref m, .int (ii (6 * x + j))]) [] σ top sl (.inl (some (.int (b2i (bhB pl x M)))), σ, top, sl) := by
    intro z
    rw [z]
    refine x_ic cd_i144_31 (z := ii 0) rfl ?_
    show am_to cd_t _ _ 144 32 _ _ _ _ _ _
    exact x_end cd_i144_32 rfl rfl rfl
  refine x_n cd_i144_0 rfl rfl ?_
  refine x_getf cd_i144_1 hM.1 rfl rfl ?_
  refine x_n cd_i144_4 rfl rfl ?_
  show am_to cd_t _ _ 144 5 _ _ _ _ _ _
  refine x_iald cd_i144_5 (hM.2 5 (by decide) (by decide)) (show _ < 66 by omega) (by decide) (h1) ?_
  refine x_ic cd_i144_6 (z := ii 2) rfl ?_
  show am_to cd_t _ _ 144 7 _ _ _ _ _ _
  by_cases e : M.1 = 2
  · refine x_icmp_t cd_i144_7 (by rw [e]; exact rfl) (no ?_)
    unfold bhB
    rw [beq_iff_eq.mpr e]
    rfl
  · refine x_icmp_f cd_i144_7 (fun z => e ((ii_eq (by omega) (by decide)).mp z)) ?_
    rw [beq_eq_false_iff_ne.mpr e, Bool.or_false] at h2
    refine x_n cd_i144_10 rfl rfl ?_
    refine x_getf cd_i144_11 hM.1 rfl rfl ?_
    refine x_n cd_i144_14 rfl rfl ?_
    show am_to cd_t _ _ 144 15 _ _ _ _ _ _
    refine x_bald cd_i144_15 (hM.2 6 (by decide) (by decide)) (show _ < 66 by omega) (by decide) (h2) ?_
    cases hs : M.2.2.1 with
    | true =>
      refine x_if_t cd_i144_16 (fun z => absurd (show (1 : Int32) = 0 from z) (by decide)) (no ?_)
      unfold bhB
      rw [hs, Bool.not_true, Bool.and_false, Bool.false_and]
    | false =>
      refine x_if_f cd_i144_16 (fun z => z rfl) ?_
      refine x_n cd_i144_19 rfl rfl ?_
      refine x_n cd_i144_20 rfl rfl ?_
      show am_to cd_t _ _ 144 21 _ _ _ _ _ _
      refine x_callv (as' := [.int (ii (6 * x + j))]) cd_i144_21 hM.1 (by omega) rfl rfl rfl rfl rfl rfl (hus) ?_
      have eb : bhB pl x M = usB pl x M := by
        unfold bhB
        rw [hs, beq_eq_false_iff_ne.mpr e]
        rfl
      rw [eb] at no ⊢
      cases hu : usB pl x M with
      | true =>
        refine x_if_f cd_i144_24 (fun z => absurd (show (1 : Int32) = 0 from z) (by decide)) ?_
        refine x_ic cd_i144_27 (z := ii 1) rfl ?_
        refine x_n cd_i144_28 rfl rfl ?_
        show am_to cd_t _ _ 144 32 _ _ _ _ _ _
        exact x_end cd_i144_32 rfl rfl rfl
      | false =>
        rw [hu] at no
        exact x_if_t cd_i144_24 rfl (no rfl)
/-- whether a class has one of the same name behind -/
theorem m_sees_in {x j y : Nat} {D : Dec} {M : Mem} {v1 : Option Value} (hd : 1 < d) (hM : mo σ m i a) (hpl : i 18 = pl) (hx : x < 10) (hj : j < 6) (hy : y < 10) (h : M_mem a (6 * x + j) M) (hm : memOk M) (h4 : a 4 y = ii D.2.length) (hl : D.2.length ≤ 6) (hD : ∀ k, k < D.2.length → M_mem a (6 * y + k) (D.2.getD k default)) (hok : ∀ N ∈ D.2, memOk N) :
    ∀ (n k : Nat), k + n = D.2.length → (∀ q, q < k → (isNm M.1 M.2.2.2.1 (D.2.getD q default) && bhB pl y (D.2.getD q default)) = false) →
      ((∀ q, q < D.2.length → (isNm M.1 M.2.2.2.1 (D.2.getD q default) && bhB pl y (D.2.getD q default)) = false) ∧ ∃ v4, ∀ res, am_to cd_t cs d 143 114 [some (.ref m), v1, some (.int (ii (6 * x + j))), some (.int (ii y)), v4] [] σ top sl res → am_to cd_t cs d 143 49 [some (.ref m), v1, some (.int (ii (6 * x + j))), some (.int (ii y)), some (.int (ii (6 * y + k)))] [] σ top sl res) ∨
      ((∃ q, q < D.2.length ∧ (isNm M.1 M.2.2.2.1 (D.2.getD q default) && bhB pl y (D.2.getD q default)) = true) ∧ am_to cd_t cs d 143 49 [some (.ref m), v1, some (.int (ii (6 * x + j))), some (.int (ii y)), some (.int (ii (6 * y + k)))] [] σ top sl (.inl (some (.int (b2i false))), σ, top, sl)) := by
  obtain ⟨h1, h2, h3, h4', h5, h6, h7⟩ := id h
  have mk := hm.1
  intro n
  induction n with
  | zero =>
    intro k hk hq
    refine Or.inl ⟨fun q hq' => hq q (by omega), some (.int (ii (6 * y + k))), fun res hh => ?_⟩
    refine x_n cd_i143_49 rfl rfl ?_
    refine x_bi cd_i143_51 (z := ii 6) (by decide) ?_
    refine x_n cd_i143_53 rfl rfl ?_
    refine x_imul cd_i143_54 (ii_mul _ _) ?_
    refine x_n cd_i143_55 rfl rfl ?_
    refine x_getf cd_i143_56 hM.1 rfl rfl ?_
    refine x_n cd_i143_59 rfl rfl ?_
    show am_to cd_t _ _ 143 60 _ _ _ _ _ _
    refine x_iald cd_i143_60 (hM.2 4 (by decide) (by decide)) (show _ < 10 by omega) (by decide) (h4) ?_
    refine x_iadd cd_i143_61 (ii_add _ _) ?_
    show am_to cd_t _ _ 143 62 _ _ _ _ _ _
    exact x_icmp_t cd_i143_62 ((ii_le (by omega) (by omega)).mpr (by omega)) hh
  | succ n ih =>
    intro k hk hq
    have hkl : k < D.2.length := by omega
    have hN := hok _ (getD_mem hkl)
    have hb := m_behind (cs := cs) (d := d - 1) (top := top) (sl := sl) (by omega) hM hpl hy (by omega) (hD k hkl) hN
    obtain ⟨g1, g2, g3, g4, g5, g6, g7⟩ := hD k hkl
    have nk := hN.1
    have go : ∀ res, am_to cd_t cs d 143 71 [some (.ref m), v1, some (.int (ii (6 * x + j))), some (.int (ii y)), some (.int (ii (6 * y + k)))] [.int (b2i (bhB pl y (D.2.getD k default)))] σ top sl res → am_to cd_t cs d 143 49 [some (.ref m), v1, some (.int (ii (6 * x + j))), some (.int (ii y)), some (.int (ii (6 * y + k)))] [] σ top sl res := by
      intro res hh
      refine x_n cd_i143_49 rfl rfl ?_
      refine x_bi cd_i143_51 (z := ii 6) (by decide) ?_
      refine x_n cd_i143_53 rfl rfl ?_
      refine x_imul cd_i143_54 (ii_mul _ _) ?_
      refine x_n cd_i143_55 rfl rfl ?_
      refine x_getf cd_i143_56 hM.1 rfl rfl ?_
      refine x_n cd_i143_59 rfl rfl ?_
      show am_to cd_t _ _ 143 60 _ _ _ _ _ _
      refine x_iald cd_i143_60 (hM.2 4 (by decide) (by decide)) (show _ < 10 by omega) (by decide) (h4) ?_
      refine x_iadd cd_i143_61 (ii_add _ _) ?_
      show am_to cd_t _ _ 143 62 _ _ _ _ _ _
      refine x_icmp_f cd_i143_62 (fun z => by have := (ii_le (by omega) (by omega)).mp (show ii (6 * y + D.2.length) ≤ ii (6 * y + k) from z); omega) ?_
      refine x_n cd_i143_65 rfl rfl ?_
      refine x_n cd_i143_66 rfl rfl ?_
      show am_to cd_t _ _ 143 68 _ _ _ _ _ _
      refine x_callv (as' := [.int (ii (6 * y + k))]) cd_i143_68 hM.1 (by omega) rfl rfl rfl rfl rfl rfl (hb) ?_
      exact hh
    have nx : (isNm M.1 M.2.2.2.1 (D.2.getD k default) && bhB pl y (D.2.getD k default)) = false → (∀ res, am_to cd_t cs d 143 108 [some (.ref m), v1, some (.int (ii (6 * x + j))), some (.int (ii y)), some (.int (ii (6 * y + k)))] [] σ top sl res → am_to cd_t cs d 143 49 [some (.ref m), v1, some (.int (ii (6 * x + j))), some (.int (ii y)), some (.int (ii (6 * y + k)))] [] σ top sl res) →
        ((∀ q, q < D.2.length → (isNm M.1 M.2.2.2.1 (D.2.getD q default) && bhB pl y (D.2.getD q default)) = false) ∧ ∃ v4, ∀ res, am_to cd_t cs d 143 114 [some (.ref m), v1, some (.int (ii (6 * x + j))), some (.int (ii y)), v4] [] σ top sl res → am_to cd_t cs d 143 49 [some (.ref m), v1, some (.int (ii (6 * x + j))), some (.int (ii y)), some (.int (ii (6 * y + k)))] [] σ top sl res) ∨
      ((∃ q, q < D.2.length ∧ (isNm M.1 M.2.2.2.1 (D.2.getD q default) && bhB pl y (D.2.getD q default)) = true) ∧ am_to cd_t cs d 143 49 [some (.ref m), v1, some (.int (ii (6 * x + j))), some (.int (ii y)), some (.int (ii (6 * y + k)))] [] σ top sl (.inl (some (.int (b2i false))), σ, top, sl)) := by
      intro hf hgo
      have hgo' : ∀ res, am_to cd_t cs d 143 49 [some (.ref m), v1, some (.int (ii (6 * x + j))), some (.int (ii y)), some (.int (ii (6 * y + (k + 1))))] [] σ top sl res → am_to cd_t cs d 143 49 [some (.ref m), v1, some (.int (ii (6 * x + j))), some (.int (ii y)), some (.int (ii (6 * y + k)))] [] σ top sl res := by
        intro res hh
        refine hgo res ?_
        refine x_iinc cd_i143_108 rfl (z := ii (6 * y + (k + 1))) (ii_add _ 1) rfl ?_
        refine x_n cd_i143_111 rfl rfl ?_
        show am_to cd_t _ _ 143 49 _ _ _ _ _ _
        exact hh
      rcases ih (k + 1) (by omega) (fun q hq' => by
        by_cases e : q = k
        · rw [e]; exact hf
        · exact hq q (by omega)) with ⟨l1, v4, l2⟩ | ⟨l1, l2⟩
      · exact Or.inl ⟨l1, v4, fun res hh => hgo' res (l2 res hh)⟩
      · exact Or.inr ⟨l1, hgo' _ l2⟩
    cases hbb : bhB pl y (D.2.getD k default) with
    | false =>
      rw [hbb] at go
      exact nx (by rw [hbb, Bool.and_false]) (fun res hh => go res (x_if_t cd_i143_71 rfl hh))
    | true =>
      rw [hbb] at go
      have go2 : ∀ res, am_to cd_t cs d 143 87 [some (.ref m), v1, some (.int (ii (6 * x + j))), some (.int (ii y)), some (.int (ii (6 * y + k)))] [.int (ii M.1), .int (ii (D.2.getD k default).1)] σ top sl res → am_to cd_t cs d 143 49 [some (.ref m), v1, some (.int (ii (6 * x + j))), some (.int (ii y)), some (.int (ii (6 * y + k)))] [] σ top sl res := by
        intro res hh
        refine go res (x_if_f cd_i143_71 (fun z => absurd (show (1 : Int32) = 0 from z) (by decide)) ?_)
        refine x_n cd_i143_74 rfl rfl ?_
        refine x_getf cd_i143_75 hM.1 rfl rfl ?_
        refine x_n cd_i143_78 rfl rfl ?_
        show am_to cd_t _ _ 143 80 _ _ _ _ _ _
        refine x_iald cd_i143_80 (hM.2 5 (by decide) (by decide)) (show _ < 66 by omega) (by decide) (g1) ?_
        refine x_n cd_i143_81 rfl rfl ?_
        refine x_getf cd_i143_82 hM.1 rfl rfl ?_
        refine x_n cd_i143_85 rfl rfl ?_
        show am_to cd_t _ _ 143 86 _ _ _ _ _ _
        refine x_iald cd_i143_86 (hM.2 5 (by decide) (by decide)) (show _ < 66 by omega) (by decide) (h1) ?_
        exact hh
      by_cases ek : (D.2.getD k default).1 = M.1
      · have go3 : ∀ res, am_to cd_t cs d 143 103 [some (.ref m), v1, some (.int (ii (6 * x + j))), some (.int (ii y)), some (.int (ii (6 * y + k)))] [.int (ii (n27 M.2.2.2.1)), .int (ii (n27 (D.2.getD k default).2.2.2.1))] σ top sl res → am_to cd_t cs d 143 49 [some (.ref m), v1, some (.int (ii (6 * x + j))), some (.int (ii y)), some (.int (ii (6 * y + k)))] [] σ top sl res := by
          intro res hh
          refine go2 res (x_icmp_f cd_i143_87 (fun z => z (by rw [ek])) ?_)
          refine x_n cd_i143_90 rfl rfl ?_
          refine x_getf cd_i143_91 hM.1 rfl rfl ?_
          refine x_n cd_i143_94 rfl rfl ?_
          show am_to cd_t _ _ 143 96 _ _ _ _ _ _
          refine x_iald cd_i143_96 (hM.2 8 (by decide) (by decide)) (show _ < 66 by omega) (by decide) (g4) ?_
          refine x_n cd_i143_97 rfl rfl ?_
          refine x_getf cd_i143_98 hM.1 rfl rfl ?_
          refine x_n cd_i143_101 rfl rfl ?_
          show am_to cd_t _ _ 143 102 _ _ _ _ _ _
          refine x_iald cd_i143_102 (hM.2 8 (by decide) (by decide)) (show _ < 66 by omega) (by decide) (h4') ?_
          exact hh
        by_cases ew : (D.2.getD k default).2.2.2.1 = M.2.2.2.1
        · refine Or.inr ⟨⟨k, hkl, ?_⟩, go3 _ (x_icmp_f cd_i143_103 (fun z => z (by rw [ew])) ?_)⟩
          · unfold isNm
            rw [beq_iff_eq.mpr ek, beq_iff_eq.mpr ew, hbb]
            rfl
          · refine x_ic cd_i143_106 (z := ii 0) rfl ?_
            show am_to cd_t _ _ 143 107 _ _ _ _ _ _
            exact x_end cd_i143_107 rfl rfl rfl
        · refine nx ?_ (fun res hh => go3 res (x_icmp_t cd_i143_103 (fun z => ew ((n27_eq hN.2.1 hm.2.1).mp z)) hh))
          unfold isNm
          rw [beq_eq_false_iff_ne.mpr ew, Bool.and_false, Bool.false_and]
      · refine nx ?_ (fun res hh => go2 res (x_icmp_t cd_i143_87 (fun z => ek ((ii_eq (by omega) (by omega)).mp z)) hh))
        unfold isNm
        rw [beq_eq_false_iff_ne.mpr ek, Bool.false_and, Bool.false_and]
theorem m_sees_loop {x j : Nat} {Dx : Dec} {v1 : Option Value} (hd : 1 < d) (hM : mo σ m i a) (hC : M_cat a dec) (hO : catOk dec) (hr : ranked dec rk) (hpl : i 18 = pl) (hDx : dec x = some Dx) (hj : j < Dx.2.length) (hbh : bhB pl x (Dx.2.getD j default) = true) :
    ∀ (n y : Nat) (D : Dec) (v4 : Option Value), deep dec n y → dec y = some D → am_to cd_t cs d 143 19 [some (.ref m), v1, some (.int (ii (6 * x + j))), some (.int (ii y)), v4] [] σ top sl (.inl (some (.int (b2i (fsL dec pl (Dx.2.getD j default).1 (Dx.2.getD j default).2.2.2.1 (chain dec n y) == some (x, j))))), σ, top, sl)
  | 0, y, D, v4, h, _ => absurd h id
  | n + 1, y, D, v4, ⟨hy, hdeep⟩, hD => by
    have hx := (hr x Dx hDx).1
    obtain ⟨q1, q2, q3, q4, q5⟩ := (hC y hy).2 D hD
    obtain ⟨p1, p2, p3, p4, p5⟩ := (hC x hx).2 Dx hDx
    have hok := (hO x Dx hDx).2.1 _ (getD_mem hj)
    have emem : memsOf dec y = D.2 := by unfold memsOf; rw [hD]
    have ech : chain dec (n + 1) y = y :: (match D.1 with | none => [] | some p => chain dec n p) := by
      rw [chain_succ]
      unfold abv
      rw [hD]
      rfl
    have go : ∀ res, am_to cd_t cs d 143 38 [some (.ref m), v1, some (.int (ii (6 * x + j))), some (.int (ii y)), v4] [.int (ii y), .int (ii x)] σ top sl res → am_to cd_t cs d 143 19 [some (.ref m), v1, some (.int (ii (6 * x + j))), some (.int (ii y)), v4] [] σ top sl res := by
      intro res hh
      refine x_n cd_i143_19 rfl rfl ?_
      refine x_ic cd_i143_20 (z := (-1)) rfl ?_
      show am_to cd_t _ _ 143 21 _ _ _ _ _ _
      refine x_icmp_f cd_i143_21 (ii_ne1 (by omega)) ?_
      refine x_n cd_i143_24 rfl rfl ?_
      refine x_getf cd_i143_25 hM.1 rfl rfl ?_
      refine x_n cd_i143_28 rfl rfl ?_
      show am_to cd_t _ _ 143 29 _ _ _ _ _ _
      refine x_bald cd_i143_29 (hM.2 2 (by decide) (by decide)) (show _ < 10 by omega) (by decide) (q1) ?_
      refine x_if_f cd_i143_30 (fun z => absurd (show (1 : Int32) = 0 from z) (by decide)) ?_
      refine x_n cd_i143_33 rfl rfl ?_
      refine x_bi cd_i143_34 (z := ii 6) (by decide) ?_
      show am_to cd_t _ _ 143 36 _ _ _ _ _ _
      refine x_idiv cd_i143_36 (fun z => absurd (show ii 6 = 0 from z) (by decide)) (div6 (by omega) (by omega)) ?_
      refine x_n cd_i143_37 rfl rfl ?_
      show am_to cd_t _ _ 143 38 _ _ _ _ _ _
      exact hh
    rw [ech, fsL]
    by_cases exy : x = y
    · have hDD : D = Dx := by rw [exy, hD] at hDx; exact Option.some.inj hDx
      have hf := find_eq (Q := bhB pl x) (hO x Dx hDx).2.2 hj (isNm_self (Dx.2.getD j default))
      rw [if_pos hbh] at hf
      rw [emem, ← exy, hDD, hf, beq_self_eq_true]
      rw [← exy] at go
      refine go _ (x_icmp_f cd_i143_38 (fun z => z rfl) ?_)
      refine x_ic cd_i143_41 (z := ii 1) rfl ?_
      show am_to cd_t _ _ 143 42 _ _ _ _ _ _
      exact x_end cd_i143_42 rfl rfl rfl
    · have go2 : ∀ res, am_to cd_t cs d 143 49 [some (.ref m), v1, some (.int (ii (6 * x + j))), some (.int (ii y)), some (.int (ii (6 * y + 0)))] [] σ top sl res → am_to cd_t cs d 143 19 [some (.ref m), v1, some (.int (ii (6 * x + j))), some (.int (ii y)), v4] [] σ top sl res := by
        intro res hh
        refine go res (x_icmp_t cd_i143_38 (fun z => exy ((ii_eq (by omega) (by omega)).mp z)) ?_)
        refine x_bi cd_i143_43 (z := ii 6) (by decide) ?_
        refine x_n cd_i143_45 rfl rfl ?_
        refine x_imul cd_i143_46 (ii_mul _ _) ?_
        refine x_n cd_i143_47 rfl rfl ?_
        try dsimp only [List.set]
        show am_to cd_t _ _ 143 49 _ _ _ _ _ _
        exact hh
      rcases m_sees_in (cs := cs) (d := d) (top := top) (sl := sl) (v1 := v1) hd hM hpl hx (by omega) hy (p5 j hj) hok q3 q4 q5 (hO y D hD).2.1 D.2.length 0 (Nat.zero_add _) (fun q hq => absurd hq (Nat.not_lt_zero q)) with ⟨k1, v4', k2⟩ | ⟨⟨q, k1, k2⟩, k3⟩
      · have hn : (memsOf dec y).findIdx? (fun M => isNm (Dx.2.getD j default).1 (Dx.2.getD j default).2.2.2.1 M && bhB pl y M) = none := by
          rw [emem]
          exact find_none.mpr k1
        rw [hn]
        dsimp only
        refine go2 _ (k2 _ ?_)
        cases hp : D.1 with
        | none =>
          rw [hp] at q2
          refine x_n cd_i143_114 rfl rfl ?_
          refine x_getf cd_i143_115 hM.1 rfl rfl ?_
          refine x_n cd_i143_118 rfl rfl ?_
          show am_to cd_t _ _ 143 119 _ _ _ _ _ _
          refine x_iald cd_i143_119 (hM.2 3 (by decide) (by decide)) (show _ < 10 by omega) (by decide) (q2) ?_
          refine x_n cd_i143_120 rfl rfl ?_
          try dsimp only [List.set]
          refine x_n cd_i143_121 rfl rfl ?_
          refine x_n cd_i143_19 rfl rfl ?_
          refine x_ic cd_i143_20 (z := (-1)) rfl ?_
          show am_to cd_t _ _ 143 21 _ _ _ _ _ _
          refine x_icmp_t cd_i143_21 rfl ?_
          refine x_ic cd_i143_124 (z := ii 0) rfl ?_
          show am_to cd_t _ _ 143 125 _ _ _ _ _ _
          exact x_end cd_i143_125 rfl rfl rfl
        | some p =>
          rw [hp] at q2
          obtain ⟨D', hD'⟩ := ((hr y D hD).2.2 p hp).2.1
          refine x_n cd_i143_114 rfl rfl ?_
          refine x_getf cd_i143_115 hM.1 rfl rfl ?_
          refine x_n cd_i143_118 rfl rfl ?_
          show am_to cd_t _ _ 143 119 _ _ _ _ _ _
          refine x_iald cd_i143_119 (hM.2 3 (by decide) (by decide)) (show _ < 10 by omega) (by decide) (q2) ?_
          refine x_n cd_i143_120 rfl rfl ?_
          try dsimp only [List.set]
          refine x_n cd_i143_121 rfl rfl ?_
          show am_to cd_t _ _ 143 19 _ _ _ _ _ _
          exact m_sees_loop hd hM hC hO hr hpl hDx hj hbh n p D' v4' (hdeep D p hD hp) hD'
      · cases hn : (memsOf dec y).findIdx? (fun M => isNm (Dx.2.getD j default).1 (Dx.2.getD j default).2.2.2.1 M && bhB pl y M) with
        | none =>
          rw [emem] at hn
          have := find_none.mp hn q k1
          rw [k2] at this
          cases this
        | some q' =>
          dsimp only
          have : ¬ some (y, q') = some (x, j) := fun w => exy ((Prod.mk.inj (Option.some.inj w)).1).symm
          rw [beq_eq_false_iff_ne.mpr this]
          exact go2 _ k3
theorem m_sees {t x j : Nat} {Dx : Dec} (hd : 2 < d) (hM : mo σ m i a) (hC : M_cat a dec) (hO : catOk dec) (hr : ranked dec rk) (hpl : i 18 = pl) (ht : t < 13) (hDx : dec x = some Dx) (hj : j < Dx.2.length) :
    am_to cd_t cs d 143 0 (am_ent 5 [.ref m, .int (ii t), .int (ii (6 * x + j))]) [] σ top sl (.inl (some (.int (b2i (decide (3 ≤ t) && snB dec pl (t - 3) x j)))), σ, top, sl) := by
  have hx := (hr x Dx hDx).1
  obtain ⟨p1, p2, p3, p4, p5⟩ := (hC x hx).2 Dx hDx
  have hok := (hO x Dx hDx).2.1 _ (getD_mem hj)
  have emem : memsOf dec x = Dx.2 := by unfold memsOf; rw [hDx]
  have hb := m_behind (cs := cs) (d := d - 1) (top := top) (sl := sl) (by omega) hM hpl hx (by omega) (p5 j hj) hok
  have zero : am_to cd_t cs d 143 13 [some (.ref m), some (.int (ii t)), some (.int (ii (6 * x + j))), none, none] [] σ top sl (.inl (some (.int (b2i false))), σ, top, sl) := by
    refine x_ic cd_i143_13 (z := ii 0) rfl ?_
    show am_to cd_t _ _ 143 14 _ _ _ _ _ _
    exact x_end cd_i143_14 rfl rfl rfl
  refine x_n cd_i143_0 rfl rfl ?_
  refine x_ic cd_i143_1 (z := ii 3) rfl ?_
  show am_to cd_t _ _ 143 2 _ _ _ _ _ _
  by_cases h3 : 3 ≤ t
  · rw [decide_eq_true h3, Bool.true_and]
    refine x_icmp_f cd_i143_2 (fun z => by have := (ii_lt (by omega) (by decide)).mp (show ii t < ii 3 from z); omega) ?_
    refine x_n cd_i143_5 rfl rfl ?_
    refine x_n cd_i143_6 rfl rfl ?_
    show am_to cd_t _ _ 143 7 _ _ _ _ _ _
    refine x_callv (as' := [.int (ii (6 * x + j))]) cd_i143_7 hM.1 (by omega) rfl rfl rfl rfl rfl rfl (hb) ?_
    cases hbb : bhB pl x (Dx.2.getD j default) with
    | false =>
      rw [snB_bh (by rw [emem]; exact hbb)]
      exact x_if_f cd_i143_10 (fun z => z rfl) zero
    | true =>
      refine x_if_t cd_i143_10 (fun z => absurd (show (1 : Int32) = 0 from z) (by decide)) ?_
      have hk2 : ((Dx.2.getD j default).1 == 2) = false := by
        unfold bhB at hbb
        rw [Bool.and_eq_true, Bool.and_eq_true] at hbb
        have := hbb.1.1
        rw [Bool.not_eq_true'] at this
        exact this
      have esn : snB dec pl (t - 3) x j = (fsL dec pl (Dx.2.getD j default).1 (Dx.2.getD j default).2.2.2.1 (chain dec 11 (t - 3)) == some (x, j)) := by
        unfold snB
        rw [emem, hk2]
        rfl
      rw [esn]
      refine x_n cd_i143_15 rfl rfl ?_
      refine x_ic cd_i143_16 (z := ii 3) rfl ?_
      refine x_isub cd_i143_17 (ii_sub (by omega)) ?_
      refine x_n cd_i143_18 rfl rfl ?_
      try dsimp only [List.set]
      show am_to cd_t _ _ 143 19 _ _ _ _ _ _
      cases hD : dec (t - 3) with
      | none =>
        rw [fsL_none hD]
        refine x_n cd_i143_19 rfl rfl ?_
        refine x_ic cd_i143_20 (z := (-1)) rfl ?_
        show am_to cd_t _ _ 143 21 _ _ _ _ _ _
        refine x_icmp_f cd_i143_21 (ii_ne1 (by omega)) ?_
        refine x_n cd_i143_24 rfl rfl ?_
        refine x_getf cd_i143_25 hM.1 rfl rfl ?_
        refine x_n cd_i143_28 rfl rfl ?_
        show am_to cd_t _ _ 143 29 _ _ _ _ _ _
        refine x_bald cd_i143_29 (hM.2 2 (by decide) (by decide)) (show _ < 10 by omega) (by decide) ((hC (t - 3) (by omega)).1 hD) ?_
        refine x_if_t cd_i143_30 rfl ?_
        refine x_ic cd_i143_124 (z := ii 0) rfl ?_
        show am_to cd_t _ _ 143 125 _ _ _ _ _ _
        exact x_end cd_i143_125 rfl rfl rfl
      | some D =>
        exact m_sees_loop (by omega) hM hC hO hr hpl hDx hj hbb 11 (t - 3) D none (deep_11 hr (by omega)) hD
  · rw [decide_eq_false h3, Bool.false_and]
    exact x_icmp_t cd_i143_2 ((ii_lt (by omega) (by decide)).mpr (by omega)) zero
end SM
