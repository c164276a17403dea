/-! what the reference allows -/
section MA
variable {cs : Nat → Value} {d m top sl : Nat} {σ : am_H} {i : Nat → Int32} {a : Nat → Nat → Int32} {dec : Nat → Option Dec}
theorem getD_lt13 {l : List Nat} {j : Nat} (h : ∀ t ∈ l, t < 13) (hj : j < l.length) : l.getD j 0 < 13 := by
  rw [List.getD_eq_getElem?_getD, List.getElem?_eq_getElem hj]
  exact h _ (List.getElem_mem hj)
theorem m_sameTypes {r o : Nat} {M N : Mem} (hM : mo σ m i a) (hr : r < 66) (ho : o < 66) (h : M_mem a r M) (h' : M_mem a o N) (hm : memOk M) (hn : memOk N) :
    am_to cd_t cs d 120 0 (am_ent 5 [.ref m, .int (ii r), .int (ii o)]) [] σ top sl (.inl (some (.int (b2i (sameT M N)))), σ, top, sl) := by
  obtain ⟨h1, h2, h3, h4, h5, h6, h7⟩ := h
  obtain ⟨g1, g2, g3, g4, g5, g6, g7⟩ := h'
  have m5 := hm.2.2.2.2.2.2.1
  have n5 := hn.2.2.2.2.2.2.1
  have ml := hm.2.2.2.2.1
  have nl := hn.2.2.2.2.1
  have stop : ∀ v4 : Option Value, am_to cd_t cs d 120 91 [some (.ref m), some (.int (ii r)), some (.int (ii o)), some (.int (b2i (sameT M N))), v4] [] σ top sl (.inl (some (.int (b2i (sameT M N)))), σ, top, sl) := by
    intro v4
    refine x_n cd_i120_91 rfl rfl ?_
    show am_to cd_t _ _ 120 92 _ _ _ _ _ _
    cases sameT M N <;> exact x_end cd_i120_92 rfl rfl rfl
  have out : ∀ k, k < 100 → sameT M N = false → am_to cd_t cs d 120 39 [some (.ref m), some (.int (ii r)), some (.int (ii o)), some (.int (b2i false)), some (.int (ii k))] [] σ top sl (.inl (some (.int (b2i (sameT M N)))), σ, top, sl) := by
    intro k hk z
    have stop := stop (some (.int (ii k)))
    rw [z] at stop ⊢
    refine x_n cd_i120_39 rfl rfl ?_
    refine x_n cd_i120_41 rfl rfl ?_
    refine x_getf cd_i120_42 hM.1 rfl rfl ?_
    refine x_n cd_i120_45 rfl rfl ?_
    show am_to cd_t _ _ 120 46 _ _ _ _ _ _
    refine x_iald cd_i120_46 (hM.2 10 (by decide) (by decide)) (show _ < 66 by omega) (by decide) (h6) ?_
    refine x_icmp cd_i120_47 (fun _ => stop) (fun _ => ?_)
    refine x_n cd_i120_50 rfl rfl ?_
    show am_to cd_t _ _ 120 51 _ _ _ _ _ _
    exact x_if_t cd_i120_51 rfl stop
  have no : sameT M N = false → am_to cd_t cs d 120 34 [some (.ref m), some (.int (ii r)), some (.int (ii o)), none, none] [] σ top sl (.inl (some (.int (b2i (sameT M N)))), σ, top, sl) := by
    intro z
    refine x_ic cd_i120_34 (z := ii 0) rfl ?_
    refine x_n cd_i120_35 rfl rfl ?_
    try dsimp only [List.set]
    refine x_ic cd_i120_36 (z := ii 0) rfl ?_
    refine x_n cd_i120_37 rfl rfl ?_
    try dsimp only [List.set]
    show am_to cd_t _ _ 120 39 _ _ _ _ _ _
    exact out 0 (by decide) z
  refine x_n cd_i120_0 rfl rfl ?_
  refine x_getf cd_i120_1 hM.1 rfl rfl ?_
  refine x_n cd_i120_4 rfl rfl ?_
  show am_to cd_t _ _ 120 5 _ _ _ _ _ _
  refine x_iald cd_i120_5 (hM.2 9 (by decide) (by decide)) (show _ < 66 by omega) (by decide) (h5) ?_
  refine x_n cd_i120_6 rfl rfl ?_
  refine x_getf cd_i120_7 hM.1 rfl rfl ?_
  refine x_n cd_i120_10 rfl rfl ?_
  show am_to cd_t _ _ 120 11 _ _ _ _ _ _
  refine x_iald cd_i120_11 (hM.2 9 (by decide) (by decide)) (show _ < 66 by omega) (by decide) (g5) ?_
  refine x_icmp cd_i120_12 (fun z => no ?_) (fun z => ?_)
  · have : ¬ M.2.2.2.2.2 = N.2.2.2.2.2 := fun w => z (by rw [w])
    unfold sameT
    rw [beq_eq_false_iff_ne.mpr this, Bool.false_and]
  have ht : M.2.2.2.2.2 = N.2.2.2.2.2 := (ii_eq (by omega) (by omega)).mp (Decidable.not_not.mp z)
  refine x_n cd_i120_15 rfl rfl ?_
  refine x_getf cd_i120_16 hM.1 rfl rfl ?_
  refine x_n cd_i120_19 rfl rfl ?_
  show am_to cd_t _ _ 120 20 _ _ _ _ _ _
  refine x_iald cd_i120_20 (hM.2 10 (by decide) (by decide)) (show _ < 66 by omega) (by decide) (h6) ?_
  refine x_n cd_i120_21 rfl rfl ?_
  refine x_getf cd_i120_22 hM.1 rfl rfl ?_
  refine x_n cd_i120_25 rfl rfl ?_
  show am_to cd_t _ _ 120 26 _ _ _ _ _ _
  refine x_iald cd_i120_26 (hM.2 10 (by decide) (by decide)) (show _ < 66 by omega) (by decide) (g6) ?_
  refine x_icmp cd_i120_27 (fun z => no ?_) (fun z => ?_)
  · have : ¬ M.2.2.2.2.1 = N.2.2.2.2.1 := fun w => z (by rw [w])
    unfold sameT
    rw [beq_eq_false_iff_ne.mpr this, Bool.and_false]
  have hl : M.2.2.2.2.1.length = N.2.2.2.2.1.length := (ii_eq (by omega) (by omega)).mp (Decidable.not_not.mp z)
  have loop : ∀ (n k : Nat), k + n = M.2.2.2.2.1.length → (∀ j, j < k → M.2.2.2.2.1.getD j 0 = N.2.2.2.2.1.getD j 0) → am_to cd_t cs d 120 39 [some (.ref m), some (.int (ii r)), some (.int (ii o)), some (.int (b2i true)), some (.int (ii k))] [] σ top sl (.inl (some (.int (b2i (sameT M N)))), σ, top, sl) := by
    intro n
    induction n with
    | zero =>
      intro k hk hj
      have : M.2.2.2.2.1 = N.2.2.2.2.1 := by
        apply List.ext_getElem hl
        intro j j1 j2
        have := hj j (by omega)
        rw [List.getD_eq_getElem?_getD, List.getD_eq_getElem?_getD, List.getElem?_eq_getElem j1, List.getElem?_eq_getElem j2] at this
        exact this
      have e : sameT M N = true := by
        unfold sameT
        rw [beq_iff_eq.mpr ht, beq_iff_eq.mpr this]
        rfl
      have stop := stop (some (.int (ii k)))
      rw [e] at stop ⊢
      refine x_n cd_i120_39 rfl rfl ?_
      refine x_n cd_i120_41 rfl rfl ?_
      refine x_getf cd_i120_42 hM.1 rfl rfl ?_
      refine x_n cd_i120_45 rfl rfl ?_
      show am_to cd_t _ _ 120 46 _ _ _ _ _ _
      refine x_iald cd_i120_46 (hM.2 10 (by decide) (by decide)) (show _ < 66 by omega) (by decide) (h6) ?_
      exact x_icmp_t cd_i120_47 ((ii_le (by omega) (by omega)).mpr (by omega)) stop
    | succ n ih =>
      intro k hk hj
      have k1 : k < M.2.2.2.2.1.length := by omega
      have k2 : k < N.2.2.2.2.1.length := by omega
      have b1 := getD_lt13 hm.2.2.2.2.2.1 k1
      have b2 := getD_lt13 hn.2.2.2.2.2.1 k2
      refine x_n cd_i120_39 rfl rfl ?_
      refine x_n cd_i120_41 rfl rfl ?_
      refine x_getf cd_i120_42 hM.1 rfl rfl ?_
      refine x_n cd_i120_45 rfl rfl ?_
      show am_to cd_t _ _ 120 46 _ _ _ _ _ _
      refine x_iald cd_i120_46 (hM.2 10 (by decide) (by decide)) (show _ < 66 by omega) (by decide) (h6) ?_
      refine x_icmp_f cd_i120_47 (fun z => by have := (ii_le (by omega) (by omega)).mp (show ii M.2.2.2.2.1.length ≤ ii k from z); omega) ?_
      refine x_n cd_i120_50 rfl rfl ?_
      show am_to cd_t _ _ 120 51 _ _ _ _ _ _
      refine x_if_f cd_i120_51 (fun z => absurd (show (1 : Int32) = 0 from z) (by decide)) ?_
      refine x_n cd_i120_54 rfl rfl ?_
      refine x_getf cd_i120_55 hM.1 rfl rfl ?_
      refine x_ic cd_i120_58 (z := ii 2) rfl ?_
      refine x_n cd_i120_59 rfl rfl ?_
      refine x_imul cd_i120_60 (ii_mul _ _) ?_
      refine x_n cd_i120_61 rfl rfl ?_
      refine x_iadd cd_i120_63 (ii_add _ _) ?_
      show am_to cd_t _ _ 120 64 _ _ _ _ _ _
      refine x_iald cd_i120_64 (hM.2 11 (by decide) (by decide)) (show _ < 132 by omega) (by decide) (h7 k k1) ?_
      refine x_n cd_i120_65 rfl rfl ?_
      refine x_getf cd_i120_66 hM.1 rfl rfl ?_
      refine x_ic cd_i120_69 (z := ii 2) rfl ?_
      refine x_n cd_i120_70 rfl rfl ?_
      refine x_imul cd_i120_71 (ii_mul _ _) ?_
      refine x_n cd_i120_72 rfl rfl ?_
      refine x_iadd cd_i120_74 (ii_add _ _) ?_
      show am_to cd_t _ _ 120 75 _ _ _ _ _ _
      refine x_iald cd_i120_75 (hM.2 11 (by decide) (by decide)) (show _ < 132 by omega) (by decide) (g7 k k2) ?_
      refine x_icmp cd_i120_76 (fun z => ?_) (fun z => ?_)
      · have hne : ¬ M.2.2.2.2.1 = N.2.2.2.2.1 := fun w => z (by rw [w])
        refine x_ic cd_i120_83 (z := ii 0) rfl ?_
        refine x_n cd_i120_84 rfl rfl ?_
        try dsimp only [List.set]
        refine x_iinc cd_i120_85 rfl (ii_add _ 1) rfl ?_
        try dsimp only [List.set]
        refine x_n cd_i120_88 rfl rfl ?_
        show am_to cd_t _ _ 120 39 _ _ _ _ _ _
        refine out (k + 1) (by omega) ?_
        unfold sameT
        rw [beq_eq_false_iff_ne.mpr hne, Bool.and_false]
      · have heq : M.2.2.2.2.1.getD k 0 = N.2.2.2.2.1.getD k 0 := (ii_eq (by omega) (by omega)).mp (Decidable.not_not.mp z)
        refine x_ic cd_i120_79 (z := ii 1) rfl ?_
        refine x_n cd_i120_80 rfl rfl ?_
        refine x_n cd_i120_84 rfl rfl ?_
        try dsimp only [List.set]
        refine x_iinc cd_i120_85 rfl (ii_add _ 1) rfl ?_
        try dsimp only [List.set]
        refine x_n cd_i120_88 rfl rfl ?_
        show am_to cd_t _ _ 120 39 _ _ _ _ _ _
        refine ih (k + 1) (by omega) (fun j hlt => ?_)
        by_cases e : j = k
        · rw [e]; exact heq
        · exact hj j (by omega)
  refine x_ic cd_i120_30 (z := ii 1) rfl ?_
  refine x_n cd_i120_31 rfl rfl ?_
  refine x_n cd_i120_35 rfl rfl ?_
  try dsimp only [List.set]
  refine x_ic cd_i120_36 (z := ii 0) rfl ?_
  refine x_n cd_i120_37 rfl rfl ?_
  try dsimp only [List.set]
  show am_to cd_t _ _ 120 39 _ _ _ _ _ _
  exact loop _ 0 (Nat.zero_add _) (fun j hj => absurd hj (Nat.not_lt_zero j))
theorem n27_eq {w w' : List Nat} (h : nameOk w) (h' : nameOk w') : ii (n27 w) = ii (n27 w') ↔ w = w' := by
  rw [ii_eq (by have := n27_small h.1 h.2; omega) (by have := n27_small h'.1 h'.2; omega)]
  exact ⟨fun e => n27_inj h.1 h'.1 e, fun e => by rw [e]⟩
/-- one member above -/
theorem m_allowed_one {r o : Nat} {M N : Mem} {v2 v3 v5 : Option Value} (hd : 0 < d) (hM : mo σ m i a) (hr : r < 66) (ho : o < 66) (h : M_mem a r M) (h' : M_mem a o N) (hm : memOk M) (hn : memOk N) :
    (((M.1 == 1) && confl N M) = true ∧ am_to cd_t cs d 119 29 [some (.ref m), some (.int (ii r)), v2, v3, some (.int (ii o)), v5] [] σ top sl (.inl (some (.int (b2i false))), σ, top, sl)) ∨
    (((M.1 == 1) && confl N M) = false ∧ ∃ v5', ∀ res, am_to cd_t cs d 119 119 [some (.ref m), some (.int (ii r)), v2, v3, some (.int (ii o)), v5'] [] σ top sl res → am_to cd_t cs d 119 29 [some (.ref m), some (.int (ii r)), v2, v3, some (.int (ii o)), v5] [] σ top sl res) := by
  have hsame := m_sameTypes (cs := cs) (d := d - 1) (top := top) (sl := sl) hM hr ho h h' hm hn
  obtain ⟨h1, h2, h3, h4, h5, h6, h7⟩ := h
  obtain ⟨g1, g2, g3, g4, g5, g6, g7⟩ := h'
  have mk := hm.1
  have nk := hn.1
  have un : ∀ res, am_to cd_t cs d 119 119 [some (.ref m), some (.int (ii r)), v2, v3, some (.int (ii o)), some (.int (ii 0))] [] σ top sl res → am_to cd_t cs d 119 80 [some (.ref m), some (.int (ii r)), v2, v3, some (.int (ii o)), v5] [] σ top sl res := by
    intro res hh
    refine x_ic cd_i119_80 (z := ii 0) rfl ?_
    refine x_n cd_i119_81 rfl rfl ?_
    try dsimp only [List.set]
    refine x_n cd_i119_83 rfl rfl ?_
    show am_to cd_t _ _ 119 85 _ _ _ _ _ _
    exact x_if_t cd_i119_85 rfl hh
  by_cases ek : M.1 = 1
  · have g1' : ∀ res, am_to cd_t cs d 119 47 [some (.ref m), some (.int (ii r)), v2, v3, some (.int (ii o)), v5] [.int (ii 1), .int (ii N.1)] σ top sl res → am_to cd_t cs d 119 29 [some (.ref m), some (.int (ii r)), v2, v3, some (.int (ii o)), v5] [] σ top sl res := by
      intro res hh
      refine x_n cd_i119_29 rfl rfl ?_
      refine x_getf cd_i119_30 hM.1 rfl rfl ?_
      refine x_n cd_i119_33 rfl rfl ?_
      show am_to cd_t _ _ 119 34 _ _ _ _ _ _
      refine x_iald cd_i119_34 (hM.2 5 (by decide) (by decide)) (show _ < 66 by omega) (by decide) (h1) ?_
      refine x_ic cd_i119_35 (z := ii 1) rfl ?_
      show am_to cd_t _ _ 119 36 _ _ _ _ _ _
      refine x_icmp_f cd_i119_36 (fun z => z (by rw [ek])) ?_
      refine x_n cd_i119_39 rfl rfl ?_
      refine x_getf cd_i119_40 hM.1 rfl rfl ?_
      refine x_n cd_i119_43 rfl rfl ?_
      show am_to cd_t _ _ 119 45 _ _ _ _ _ _
      refine x_iald cd_i119_45 (hM.2 5 (by decide) (by decide)) (show _ < 66 by omega) (by decide) (g1) ?_
      refine x_ic cd_i119_46 (z := ii 1) rfl ?_
      show am_to cd_t _ _ 119 47 _ _ _ _ _ _
      exact hh
    rw [beq_iff_eq.mpr ek, Bool.true_and]
    by_cases en : N.1 = 1
    · have g2' : ∀ res, am_to cd_t cs d 119 63 [some (.ref m), some (.int (ii r)), v2, v3, some (.int (ii o)), v5] [.int (ii (n27 N.2.2.2.1)), .int (ii (n27 M.2.2.2.1))] σ top sl res → am_to cd_t cs d 119 29 [some (.ref m), some (.int (ii r)), v2, v3, some (.int (ii o)), v5] [] σ top sl res := by
        intro res hh
        refine g1' res (x_icmp_f cd_i119_47 (fun z => z (by rw [en])) ?_)
        refine x_n cd_i119_50 rfl rfl ?_
        refine x_getf cd_i119_51 hM.1 rfl rfl ?_
        refine x_n cd_i119_54 rfl rfl ?_
        show am_to cd_t _ _ 119 55 _ _ _ _ _ _
        refine x_iald cd_i119_55 (hM.2 8 (by decide) (by decide)) (show _ < 66 by omega) (by decide) (h4) ?_
        refine x_n cd_i119_56 rfl rfl ?_
        refine x_getf cd_i119_57 hM.1 rfl rfl ?_
        refine x_n cd_i119_60 rfl rfl ?_
        show am_to cd_t _ _ 119 62 _ _ _ _ _ _
        refine x_iald cd_i119_62 (hM.2 8 (by decide) (by decide)) (show _ < 66 by omega) (by decide) (g4) ?_
        exact hh
      by_cases ew : M.2.2.2.1 = N.2.2.2.1
      · have g3' : ∀ res, am_to cd_t cs d 119 73 [some (.ref m), some (.int (ii r)), v2, v3, some (.int (ii o)), v5] [.int (b2i N.2.1)] σ top sl res → am_to cd_t cs d 119 29 [some (.ref m), some (.int (ii r)), v2, v3, some (.int (ii o)), v5] [] σ top sl res := by
          intro res hh
          refine g2' res (x_icmp_f cd_i119_63 (fun z => z (by rw [ew])) ?_)
          refine x_n cd_i119_66 rfl rfl ?_
          refine x_getf cd_i119_67 hM.1 rfl rfl ?_
          refine x_n cd_i119_70 rfl rfl ?_
          show am_to cd_t _ _ 119 72 _ _ _ _ _ _
          refine x_bald cd_i119_72 (hM.2 7 (by decide) (by decide)) (show _ < 66 by omega) (by decide) (g3) ?_
          exact hh
        have ec : confl N M = (!N.2.1 && (N.2.2.1 || M.2.2.1 || !sameT M N)) := by
          unfold confl isNm
          rw [beq_iff_eq.mpr en, beq_iff_eq.mpr ew.symm, Bool.true_and, Bool.true_and]
        cases hp : N.2.1 with
        | true =>
          rw [hp] at g3'
          refine Or.inr ⟨by rw [ec, hp]; rfl, _, fun res hh => g3' res (x_if_t cd_i119_73 (fun z => absurd (show (1 : Int32) = 0 from z) (by decide)) (un res hh))⟩
        | false =>
          rw [hp] at g3'
          have zero : am_to cd_t cs d 119 117 [some (.ref m), some (.int (ii r)), v2, v3, some (.int (ii o)), some (.int (ii 1))] [] σ top sl (.inl (some (.int (b2i false))), σ, top, sl) := by
            refine x_ic cd_i119_117 (z := ii 0) rfl ?_
            show am_to cd_t _ _ 119 118 _ _ _ _ _ _
            exact x_end cd_i119_118 rfl rfl rfl
          have g4' : ∀ res, am_to cd_t cs d 119 94 [some (.ref m), some (.int (ii r)), v2, v3, some (.int (ii o)), some (.int (ii 1))] [.int (b2i (M.2.2.1 || M.1 == 2))] σ top sl res → am_to cd_t cs d 119 29 [some (.ref m), some (.int (ii r)), v2, v3, some (.int (ii o)), v5] [] σ top sl res := by
            intro res hh
            refine g3' res (x_if_f cd_i119_73 (fun z => z rfl) ?_)
            refine x_ic cd_i119_76 (z := ii 1) rfl ?_
            refine x_n cd_i119_77 rfl rfl ?_
            refine x_n cd_i119_81 rfl rfl ?_
            try dsimp only [List.set]
            refine x_n cd_i119_83 rfl rfl ?_
            show am_to cd_t _ _ 119 85 _ _ _ _ _ _
            refine x_if_f cd_i119_85 (fun z => absurd (show (1 : Int32) = 0 from z) (by decide)) ?_
            refine x_n cd_i119_88 rfl rfl ?_
            refine x_getf cd_i119_89 hM.1 rfl rfl ?_
            refine x_n cd_i119_92 rfl rfl ?_
            show am_to cd_t _ _ 119 93 _ _ _ _ _ _
            refine x_bald cd_i119_93 (hM.2 6 (by decide) (by decide)) (show _ < 66 by omega) (by decide) (h2) ?_
            exact hh
          rw [show (M.1 == 2) = false by rw [ek]; rfl, Bool.or_false] at g4'
          cases hs : M.2.2.1 with
          | true =>
            rw [hs] at g4'
            exact Or.inl ⟨by rw [ec, hp, hs, Bool.or_true]; rfl, g4' _ (x_if_t cd_i119_94 (fun z => absurd (show (1 : Int32) = 0 from z) (by decide)) zero)⟩
          | false =>
            rw [hs] at g4'
            have g5' : ∀ res, am_to cd_t cs d 119 104 [some (.ref m), some (.int (ii r)), v2, v3, some (.int (ii o)), some (.int (ii 1))] [.int (b2i (N.2.2.1 || N.1 == 2))] σ top sl res → am_to cd_t cs d 119 29 [some (.ref m), some (.int (ii r)), v2, v3, some (.int (ii o)), v5] [] σ top sl res := by
              intro res hh
              refine g4' res (x_if_f cd_i119_94 (fun z => z rfl) ?_)
              refine x_n cd_i119_97 rfl rfl ?_
              refine x_getf cd_i119_98 hM.1 rfl rfl ?_
              refine x_n cd_i119_101 rfl rfl ?_
              show am_to cd_t _ _ 119 103 _ _ _ _ _ _
              refine x_bald cd_i119_103 (hM.2 6 (by decide) (by decide)) (show _ < 66 by omega) (by decide) (g2) ?_
              exact hh
            rw [show (N.1 == 2) = false by rw [en]; rfl, Bool.or_false] at g5'
            cases ht : N.2.2.1 with
            | true =>
              rw [ht] at g5'
              exact Or.inl ⟨by rw [ec, hp, ht]; rfl, g5' _ (x_if_t cd_i119_104 (fun z => absurd (show (1 : Int32) = 0 from z) (by decide)) zero)⟩
            | false =>
              rw [ht] at g5'
              have g6' : ∀ res, am_to cd_t cs d 119 114 [some (.ref m), some (.int (ii r)), v2, v3, some (.int (ii o)), some (.int (ii 1))] [.int (b2i (sameT M N))] σ top sl res → am_to cd_t cs d 119 29 [some (.ref m), some (.int (ii r)), v2, v3, some (.int (ii o)), v5] [] σ top sl res := by
                intro res hh
                refine g5' res (x_if_f cd_i119_104 (fun z => z rfl) ?_)
                refine x_n cd_i119_107 rfl rfl ?_
                refine x_n cd_i119_108 rfl rfl ?_
                refine x_n cd_i119_109 rfl rfl ?_
                show am_to cd_t _ _ 119 111 _ _ _ _ _ _
                refine x_callv (as' := [.int (ii r), .int (ii o)]) cd_i119_111 hM.1 (by omega) rfl rfl rfl rfl rfl rfl (hsame) ?_
                exact hh
              cases hb : sameT M N with
              | true =>
                rw [hb] at g6'
                exact Or.inr ⟨by rw [ec, hp, hs, ht, hb]; rfl, _, fun res hh => g6' res (x_if_t cd_i119_114 (fun z => absurd (show (1 : Int32) = 0 from z) (by decide)) hh)⟩
              | false =>
                rw [hb] at g6'
                exact Or.inl ⟨by rw [ec, hp, hs, ht, hb]; rfl, g6' _ (x_if_f cd_i119_114 (fun z => z rfl) zero)⟩
      · refine Or.inr ⟨?_, _, fun res hh => g2' res (x_icmp_t cd_i119_63 (fun z => ew ((n27_eq hm.2.1 hn.2.1).mp z)) (un res hh))⟩
        unfold confl isNm
        rw [beq_eq_false_iff_ne.mpr (fun z => ew z.symm), Bool.and_false, Bool.false_and, Bool.false_and]
    · refine Or.inr ⟨?_, _, fun res hh => g1' res (x_icmp_t cd_i119_47 (fun z => en ((ii_eq (by omega) (by decide)).mp z)) (un res hh))⟩
      unfold confl isNm
      rw [beq_eq_false_iff_ne.mpr en, Bool.false_and, Bool.false_and, Bool.false_and]
  · rw [beq_eq_false_iff_ne.mpr ek, Bool.false_and]
    refine Or.inr ⟨rfl, some (.int (ii 0)), fun res hh => ?_⟩
    refine x_n cd_i119_29 rfl rfl ?_
    refine x_getf cd_i119_30 hM.1 rfl rfl ?_
    refine x_n cd_i119_33 rfl rfl ?_
    show am_to cd_t _ _ 119 34 _ _ _ _ _ _
    refine x_iald cd_i119_34 (hM.2 5 (by decide) (by decide)) (show _ < 66 by omega) (by decide) (h1) ?_
    refine x_ic cd_i119_35 (z := ii 1) rfl ?_
    show am_to cd_t _ _ 119 36 _ _ _ _ _ _
    exact x_icmp_t cd_i119_36 (fun z => ek ((ii_eq (by omega) (by decide)).mp z)) (un res hh)
/-- what stands against it in a list of classes -/
def noB (dec : Nat → Option Dec) (M : Mem) (l : List Nat) : Bool := !(M.1 == 1) || noC dec M l
theorem m_allowed_in {r c : Nat} {M : Mem} {D : Dec} {v2 : Option Value} (hd : 0 < d) (hM : mo σ m i a) (hr : r < 66) (hc : c < 10) (h : M_mem a r M) (hm : memOk M) (h4 : a 4 c = ii D.2.length) (hl : D.2.length ≤ 6) (hD : ∀ k, k < D.2.length → M_mem a (6 * c + k) (D.2.getD k default)) (hok : ∀ N ∈ D.2, memOk N) :
    ∀ (n k : Nat) (v5 : Option Value), k + n = D.2.length → (∀ j, j < k → ((M.1 == 1) && confl (D.2.getD j default) M) = false) →
      ((∀ j, j < D.2.length → ((M.1 == 1) && confl (D.2.getD j default) M) = false) ∧ ∃ v4' v5', ∀ res, am_to cd_t cs d 119 125 [some (.ref m), some (.int (ii r)), v2, some (.int (ii c)), v4', v5'] [] σ top sl res → am_to cd_t cs d 119 13 [some (.ref m), some (.int (ii r)), v2, some (.int (ii c)), some (.int (ii (6 * c + k))), v5] [] σ top sl res) ∨
      ((∃ j, j < D.2.length ∧ ((M.1 == 1) && confl (D.2.getD j default) M) = true) ∧ am_to cd_t cs d 119 13 [some (.ref m), some (.int (ii r)), v2, some (.int (ii c)), some (.int (ii (6 * c + k))), v5] [] σ top sl (.inl (some (.int (b2i false))), σ, top, sl)) := by
  intro n
  induction n with
  | zero =>
    intro k v5 hk hj
    refine Or.inl ⟨fun j hj' => hj j (by omega), some (.int (ii (6 * c + k))), v5, fun res hh => ?_⟩
    refine x_n cd_i119_13 rfl rfl ?_
    refine x_bi cd_i119_15 (z := ii 6) (by decide) ?_
    refine x_n cd_i119_17 rfl rfl ?_
    refine x_imul cd_i119_18 (ii_mul _ _) ?_
    refine x_n cd_i119_19 rfl rfl ?_
    refine x_getf cd_i119_20 hM.1 rfl rfl ?_
    refine x_n cd_i119_23 rfl rfl ?_
    show am_to cd_t _ _ 119 24 _ _ _ _ _ _
    refine x_iald cd_i119_24 (hM.2 4 (by decide) (by decide)) (show _ < 10 by omega) (by decide) (h4) ?_
    refine x_iadd cd_i119_25 (ii_add _ _) ?_
    show am_to cd_t _ _ 119 26 _ _ _ _ _ _
    exact x_icmp_t cd_i119_26 ((ii_le (by omega) (by omega)).mpr (by omega)) hh
  | succ n ih =>
    intro k v5 hk hj
    have hkl : k < D.2.length := by omega
    have go : ∀ res, am_to cd_t cs d 119 29 [some (.ref m), some (.int (ii r)), v2, some (.int (ii c)), some (.int (ii (6 * c + k))), v5] [] σ top sl res → am_to cd_t cs d 119 13 [some (.ref m), some (.int (ii r)), v2, some (.int (ii c)), some (.int (ii (6 * c + k))), v5] [] σ top sl res := by
      intro res hh
      refine x_n cd_i119_13 rfl rfl ?_
      refine x_bi cd_i119_15 (z := ii 6) (by decide) ?_
      refine x_n cd_i119_17 rfl rfl ?_
      refine x_imul cd_i119_18 (ii_mul _ _) ?_
      refine x_n cd_i119_19 rfl rfl ?_
      refine x_getf cd_i119_20 hM.1 rfl rfl ?_
      refine x_n cd_i119_23 rfl rfl ?_
      show am_to cd_t _ _ 119 24 _ _ _ _ _ _
      refine x_iald cd_i119_24 (hM.2 4 (by decide) (by decide)) (show _ < 10 by omega) (by decide) (h4) ?_
      refine x_iadd cd_i119_25 (ii_add _ _) ?_
      show am_to cd_t _ _ 119 26 _ _ _ _ _ _
      exact x_icmp_f cd_i119_26 (fun z => by have := (ii_le (by omega) (by omega)).mp (show ii (6 * c + D.2.length) ≤ ii (6 * c + k) from z); omega) hh
    rcases m_allowed_one (cs := cs) (d := d) (top := top) (sl := sl) (v2 := v2) (v3 := some (.int (ii c))) (v5 := v5) hd hM hr (show 6 * c + k < 66 by omega) h (hD k hkl) hm (hok _ (getD_mem hkl)) with ⟨k1, k2⟩ | ⟨k1, v5', k2⟩
    · exact Or.inr ⟨⟨k, hkl, k1⟩, go _ k2⟩
    · have nx : ∀ res, am_to cd_t cs d 119 13 [some (.ref m), some (.int (ii r)), v2, some (.int (ii c)), some (.int (ii (6 * c + (k + 1)))), v5'] [] σ top sl res → am_to cd_t cs d 119 13 [some (.ref m), some (.int (ii r)), v2, some (.int (ii c)), some (.int (ii (6 * c + k))), v5] [] σ top sl res := by
        intro res hh
        refine go res (k2 res ?_)
        refine x_iinc cd_i119_119 rfl (z := ii (6 * c + (k + 1))) (ii_add _ 1) rfl ?_
        refine x_n cd_i119_122 rfl rfl ?_
        show am_to cd_t _ _ 119 13 _ _ _ _ _ _
        exact hh
      have hj' : ∀ j, j < k + 1 → ((M.1 == 1) && confl (D.2.getD j default) M) = false := by
        intro j hlt
        by_cases e : j = k
        · rw [e]; exact k1
        · exact hj j (by omega)
      rcases ih (k + 1) v5' (by omega) hj' with ⟨l1, v4'', v5'', l2⟩ | ⟨l1, l2⟩
      · exact Or.inl ⟨l1, v4'', v5'', fun res hh => nx res (l2 res hh)⟩
      · exact Or.inr ⟨l1, nx _ l2⟩
theorem m_allowed_loop {rk : Nat → Nat} {r : Nat} {M : Mem} {v2 : Option Value} (hd : 0 < d) (hM : mo σ m i a) (hC : M_cat a dec) (hO : catOk dec) (hrk : ranked dec rk) (hr : r < 66) (h : M_mem a r M) (hm : memOk M) :
    ∀ (n c : Nat) (D : Dec) (v4 v5 : Option Value), deep dec n c → dec c = some D → am_to cd_t cs d 119 2 [some (.ref m), some (.int (ii r)), v2, some (.int (ii c)), v4, v5] [] σ top sl (.inl (some (.int (b2i (noB dec M (chain dec n c))))), σ, top, sl)
  | 0, c, D, v4, v5, hdp, _ => absurd hdp id
  | n + 1, c, D, v4, v5, ⟨hc, hdp⟩, hD => by
    obtain ⟨q1, q2, q3, q4, q5⟩ := (hC c hc).2 D hD
    obtain ⟨o1, o2, o3⟩ := hO c D hD
    have ech : chain dec (n + 1) c = c :: (match D.1 with | none => [] | some p => chain dec n p) := by
      rw [chain_succ]
      unfold abv
      rw [hD]
      rfl
    have emem : memsOf dec c = D.2 := by unfold memsOf; rw [hD]
    have eno : noB dec M (chain dec (n + 1) c) = ((!(M.1 == 1) || D.2.all (fun N => !confl N M)) && noB dec M (match D.1 with | none => [] | some p => chain dec n p)) := by
      rw [ech]
      unfold noB noC
      rw [List.all_cons, emem]
      cases (M.1 == 1) <;> simp
    have start : ∀ res, am_to cd_t cs d 119 13 [some (.ref m), some (.int (ii r)), v2, some (.int (ii c)), some (.int (ii (6 * c + 0))), v5] [] σ top sl res → am_to cd_t cs d 119 2 [some (.ref m), some (.int (ii r)), v2, some (.int (ii c)), v4, v5] [] σ top sl res := by
      intro res hh
      refine x_n cd_i119_2 rfl rfl ?_
      refine x_ic cd_i119_3 (z := (-1)) rfl ?_
      show am_to cd_t _ _ 119 4 _ _ _ _ _ _
      refine x_icmp_f cd_i119_4 (ii_ne1 (by omega)) ?_
      refine x_bi cd_i119_7 (z := ii 6) (by decide) ?_
      refine x_n cd_i119_9 rfl rfl ?_
      refine x_imul cd_i119_10 (ii_mul _ _) ?_
      refine x_n cd_i119_11 rfl rfl ?_
      try dsimp only [List.set]
      show am_to cd_t _ _ 119 13 _ _ _ _ _ _
      exact hh
    rcases m_allowed_in (cs := cs) (d := d) (top := top) (sl := sl) (v2 := v2) hd hM hr hc h hm q3 q4 q5 o2 D.2.length 0 v5 (Nat.zero_add _) (fun j hj => absurd hj (Nat.not_lt_zero j)) with ⟨k1, v4', v5', k2⟩ | ⟨⟨j, k1, k2⟩, k3⟩
    · have e1 : (!(M.1 == 1) || D.2.all (fun N => !confl N M)) = true := by
        cases hb : (M.1 == 1) with
        | false => rfl
        | true =>
          show D.2.all (fun N => !confl N M) = true
          rw [all_getD]
          intro j hj
          have := k1 j hj
          rw [hb, Bool.true_and] at this
          rw [this]
          rfl
      rw [eno, e1, Bool.true_and]
      refine start _ (k2 _ ?_)
      cases hp : D.1 with
      | none =>
        rw [hp] at q2
        refine x_n cd_i119_125 rfl rfl ?_
        refine x_getf cd_i119_126 hM.1 rfl rfl ?_
        refine x_n cd_i119_129 rfl rfl ?_
        show am_to cd_t _ _ 119 130 _ _ _ _ _ _
        refine x_iald cd_i119_130 (hM.2 3 (by decide) (by decide)) (show _ < 10 by omega) (by decide) (q2) ?_
        refine x_n cd_i119_131 rfl rfl ?_
        try dsimp only [List.set]
        refine x_n cd_i119_132 rfl rfl ?_
        refine x_n cd_i119_2 rfl rfl ?_
        refine x_ic cd_i119_3 (z := (-1)) rfl ?_
        show am_to cd_t _ _ 119 4 _ _ _ _ _ _
        refine x_icmp_t cd_i119_4 rfl ?_
        refine x_ic cd_i119_135 (z := ii 1) rfl ?_
        show am_to cd_t _ _ 119 136 _ _ _ _ _ _
        have : noB dec M [] = true := by unfold noB noC; cases (M.1 == 1) <;> rfl
        rw [this]
        exact x_end cd_i119_136 rfl rfl rfl
      | some p =>
        rw [hp] at q2
        obtain ⟨D', hD'⟩ := ((hrk c D hD).2.2 p hp).2.1
        refine x_n cd_i119_125 rfl rfl ?_
        refine x_getf cd_i119_126 hM.1 rfl rfl ?_
        refine x_n cd_i119_129 rfl rfl ?_
        show am_to cd_t _ _ 119 130 _ _ _ _ _ _
        refine x_iald cd_i119_130 (hM.2 3 (by decide) (by decide)) (show _ < 10 by omega) (by decide) (q2) ?_
        refine x_n cd_i119_131 rfl rfl ?_
        try dsimp only [List.set]
        refine x_n cd_i119_132 rfl rfl ?_
        show am_to cd_t _ _ 119 2 _ _ _ _ _ _
        exact m_allowed_loop hd hM hC hO hrk hr h hm n p D' v4' v5' (hdp D p hD hp) hD'
    · have e1 : (!(M.1 == 1) || D.2.all (fun N => !confl N M)) = false := by
        rw [Bool.and_eq_true] at k2
        rw [k2.1]
        cases hb : D.2.all (fun N => !confl N M) with
        | false => rfl
        | true =>
          have := all_getD.mp hb j k1
          rw [k2.2] at this
          cases this
      rw [eno, e1, Bool.false_and]
      exact start _ k3
theorem m_allowed {rk : Nat → Nat} {r : Nat} {M : Mem} {par : Option Nat} (hd : 0 < d) (hM : mo σ m i a) (hC : M_cat a dec) (hO : catOk dec) (hrk : ranked dec rk) (hr : r < 66) (h : M_mem a r M) (hm : memOk M) (hpar : ∀ p, par = some p → ∃ D, dec p = some D) :
    am_to cd_t cs d 119 0 (am_ent 6 [.ref m, .int (ii r), .int (oi par)]) [] σ top sl (.inl (some (.int (b2i (noB dec M (up dec par))))), σ, top, sl) := by
  cases par with
  | none =>
    have : noB dec M (up dec none) = true := by unfold noB noC up; cases (M.1 == 1) <;> rfl
    rw [this]
    refine x_n cd_i119_0 rfl rfl ?_
    refine x_n cd_i119_1 rfl rfl ?_
    try dsimp only [List.set]
    refine x_n cd_i119_2 rfl rfl ?_
    refine x_ic cd_i119_3 (z := (-1)) rfl ?_
    show am_to cd_t _ _ 119 4 _ _ _ _ _ _
    refine x_icmp_t cd_i119_4 rfl ?_
    refine x_ic cd_i119_135 (z := ii 1) rfl ?_
    show am_to cd_t _ _ 119 136 _ _ _ _ _ _
    exact x_end cd_i119_136 rfl rfl rfl
  | some p =>
    obtain ⟨D, hD⟩ := hpar p rfl
    refine x_n cd_i119_0 rfl rfl ?_
    refine x_n cd_i119_1 rfl rfl ?_
    try dsimp only [List.set]
    show am_to cd_t _ _ 119 2 _ _ _ _ _ _
    exact m_allowed_loop hd hM hC hO hrk hr h hm 11 p D none none (deep_11 hrk (hrk p D hD).1) hD
end MA
