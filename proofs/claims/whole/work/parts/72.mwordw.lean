section MW
variable {cs : Nat → Value} {d m top sl : Nat} {σ : am_H} {i : Nat → Int32} {aa : Nat → Nat → Int32} {txt : List Nat} {p n a b c e f g : Nat}
theorem m_word1 {n5 : Value} (hd : 0 < d) (hT : ∀ c ∈ txt, cok c) (hM : mo σ m i aa) (hB : M_buf i aa txt) (hP : M_at i p) (hp : p < 900) (ha : a < 127) (hb : b < 127) (hc : c < 127) (he : e < 127) :
    ∃ s : Bool, (s = true ↔ txt.getD p 0 = a ∧ txt.getD (p + 1) 0 = b ∧ txt.getD (p + 2) 0 = c ∧ txt.getD (p + 3) 0 = e) ∧
      ∀ res, am_to cd_t cs d 111 45 [some (.ref m), some n5, some (.int (ii a)), some (.int (ii b)), some (.int (ii c)), some (.int (ii e)), some (.int (ii f)), some (.int (ii g)), some (.int (b2i s))] [] σ top sl res →
        am_to cd_t cs d 111 0 [some (.ref m), some n5, some (.int (ii a)), some (.int (ii b)), some (.int (ii c)), some (.int (ii e)), some (.int (ii f)), some (.int (ii g)), none] [] σ top sl res := by
  have look := fun k hk => m_look (cs := cs) (d := d - 1) (top := top) (sl := sl) (k := k) hM hB hP hT (by omega) hk
  have hl := getD_cok hT
  have l0 := hl p
  have l1 := hl (p + 1)
  have l2 := hl (p + 2)
  have l3 := hl (p + 3)
  have no : ∀ res, am_to cd_t cs d 111 45 [some (.ref m), some n5, some (.int (ii a)), some (.int (ii b)), some (.int (ii c)), some (.int (ii e)), some (.int (ii f)), some (.int (ii g)), some (.int (b2i false))] [] σ top sl res →
        am_to cd_t cs d 111 42 [some (.ref m), some n5, some (.int (ii a)), some (.int (ii b)), some (.int (ii c)), some (.int (ii e)), some (.int (ii f)), some (.int (ii g)), none] [] σ top sl res := by
    intro res hh
    refine x_ic cd_i111_42 (z := ii 0) rfl ?_
    refine x_n cd_i111_43 rfl rfl ?_
    try dsimp only [List.set]
    show am_to cd_t _ _ 111 45 _ _ _ _ _ _
    exact hh
  have g1 : ∀ res, am_to cd_t cs d 111 6 [some (.ref m), some n5, some (.int (ii a)), some (.int (ii b)), some (.int (ii c)), some (.int (ii e)), some (.int (ii f)), some (.int (ii g)), none] [.int (ii a), .int (ii (txt.getD p 0))] σ top sl res → am_to cd_t cs d 111 0 [some (.ref m), some n5, some (.int (ii a)), some (.int (ii b)), some (.int (ii c)), some (.int (ii e)), some (.int (ii f)), some (.int (ii g)), none] [] σ top sl res := by
    intro res hh
    refine x_n cd_i111_0 rfl rfl ?_
    refine x_ic cd_i111_1 (z := ii 0) rfl ?_
    show am_to cd_t _ _ 111 2 _ _ _ _ _ _
    refine x_callv (as' := [.int (ii 0)]) cd_i111_2 hM.1 (by omega) rfl rfl rfl rfl rfl rfl (look 0 (by decide)) ?_
    refine x_n cd_i111_5 rfl rfl ?_
    show am_to cd_t _ _ 111 6 _ _ _ _ _ _
    exact hh
  by_cases e0 : txt.getD p 0 = a
  · have g2 : ∀ res, am_to cd_t cs d 111 15 [some (.ref m), some n5, some (.int (ii a)), some (.int (ii b)), some (.int (ii c)), some (.int (ii e)), some (.int (ii f)), some (.int (ii g)), none] [.int (ii b), .int (ii (txt.getD (p + 1) 0))] σ top sl res → am_to cd_t cs d 111 0 [some (.ref m), some n5, some (.int (ii a)), some (.int (ii b)), some (.int (ii c)), some (.int (ii e)), some (.int (ii f)), some (.int (ii g)), none] [] σ top sl res := by
      intro res hh
      refine g1 res (x_icmp_f cd_i111_6 (fun z => z (by rw [e0])) ?_)
      refine x_n cd_i111_9 rfl rfl ?_
      refine x_ic cd_i111_10 (z := ii 1) rfl ?_
      show am_to cd_t _ _ 111 11 _ _ _ _ _ _
      refine x_callv (as' := [.int (ii 1)]) cd_i111_11 hM.1 (by omega) rfl rfl rfl rfl rfl rfl (look 1 (by decide)) ?_
      refine x_n cd_i111_14 rfl rfl ?_
      show am_to cd_t _ _ 111 15 _ _ _ _ _ _
      exact hh
    by_cases e1 : txt.getD (p + 1) 0 = b
    · have g3 : ∀ res, am_to cd_t cs d 111 25 [some (.ref m), some n5, some (.int (ii a)), some (.int (ii b)), some (.int (ii c)), some (.int (ii e)), some (.int (ii f)), some (.int (ii g)), none] [.int (ii c), .int (ii (txt.getD (p + 2) 0))] σ top sl res → am_to cd_t cs d 111 0 [some (.ref m), some n5, some (.int (ii a)), some (.int (ii b)), some (.int (ii c)), some (.int (ii e)), some (.int (ii f)), some (.int (ii g)), none] [] σ top sl res := by
        intro res hh
        refine g2 res (x_icmp_f cd_i111_15 (fun z => z (by rw [e1])) ?_)
        refine x_n cd_i111_18 rfl rfl ?_
        refine x_ic cd_i111_19 (z := ii 2) rfl ?_
        show am_to cd_t _ _ 111 20 _ _ _ _ _ _
        refine x_callv (as' := [.int (ii 2)]) cd_i111_20 hM.1 (by omega) rfl rfl rfl rfl rfl rfl (look 2 (by decide)) ?_
        refine x_n cd_i111_23 rfl rfl ?_
        show am_to cd_t _ _ 111 25 _ _ _ _ _ _
        exact hh
      by_cases e2 : txt.getD (p + 2) 0 = c
      · have g4 : ∀ res, am_to cd_t cs d 111 35 [some (.ref m), some n5, some (.int (ii a)), some (.int (ii b)), some (.int (ii c)), some (.int (ii e)), some (.int (ii f)), some (.int (ii g)), none] [.int (ii e), .int (ii (txt.getD (p + 3) 0))] σ top sl res → am_to cd_t cs d 111 0 [some (.ref m), some n5, some (.int (ii a)), some (.int (ii b)), some (.int (ii c)), some (.int (ii e)), some (.int (ii f)), some (.int (ii g)), none] [] σ top sl res := by
          intro res hh
          refine g3 res (x_icmp_f cd_i111_25 (fun z => z (by rw [e2])) ?_)
          refine x_n cd_i111_28 rfl rfl ?_
          refine x_ic cd_i111_29 (z := ii 3) rfl ?_
          show am_to cd_t _ _ 111 30 _ _ _ _ _ _
          refine x_callv (as' := [.int (ii 3)]) cd_i111_30 hM.1 (by omega) rfl rfl rfl rfl rfl rfl (look 3 (by decide)) ?_
          refine x_n cd_i111_33 rfl rfl ?_
          show am_to cd_t _ _ 111 35 _ _ _ _ _ _
          exact hh
        by_cases e3 : txt.getD (p + 3) 0 = e
        · refine ⟨true, ⟨fun _ => ⟨e0, e1, e2, e3⟩, fun _ => rfl⟩, fun res hh => g4 res ?_⟩
          refine x_icmp_f cd_i111_35 (fun z => z (by rw [e3])) ?_
          refine x_ic cd_i111_38 (z := ii 1) rfl ?_
          refine x_n cd_i111_39 rfl rfl ?_
          refine x_n cd_i111_43 rfl rfl ?_
          try dsimp only [List.set]
          show am_to cd_t _ _ 111 45 _ _ _ _ _ _
          exact hh
        · refine ⟨false, ⟨(fun h => by cases h), fun h => absurd h.2.2.2 e3⟩, fun res hh => g4 res ?_⟩
          exact x_icmp_t cd_i111_35 (fun z => e3 ((ii_eq (by omega) (by omega)).mp z)) (no res hh)
      · refine ⟨false, ⟨(fun h => by cases h), fun h => absurd h.2.2.1 e2⟩, fun res hh => g3 res ?_⟩
        exact x_icmp_t cd_i111_25 (fun z => e2 ((ii_eq (by omega) (by omega)).mp z)) (no res hh)
    · refine ⟨false, ⟨(fun h => by cases h), fun h => absurd h.2.1 e1⟩, fun res hh => g2 res ?_⟩
      exact x_icmp_t cd_i111_15 (fun z => e1 ((ii_eq (by omega) (by omega)).mp z)) (no res hh)
  · refine ⟨false, ⟨(fun h => by cases h), fun h => absurd h.1 e0⟩, fun res hh => g1 res ?_⟩
    exact x_icmp_t cd_i111_6 (fun z => e0 ((ii_eq (by omega) (by omega)).mp z)) (no res hh)
/-- its fifth and sixth letters -/
theorem m_word2 {s : Bool} {v2 v3 v4 v5 : Option Value} (hd : 0 < d) (hT : ∀ c ∈ txt, cok c) (hM : mo σ m i aa) (hB : M_buf i aa txt) (hP : M_at i p) (hp : p < 900) (hn : n = 4 ∨ n = 7 ∨ n = 8) (hf : f < 127) (hg : g < 127) :
    ∃ s' : Bool, (s' = true ↔ s = true ∧ (n = 4 ∨ (txt.getD (p + 4) 0 = f ∧ txt.getD (p + 5) 0 = g))) ∧
      ∀ res, am_to cd_t cs d 111 88 [some (.ref m), some (.int (ii n)), v2, v3, v4, v5, some (.int (ii f)), some (.int (ii g)), some (.int (b2i s'))] [] σ top sl res →
        am_to cd_t cs d 111 45 [some (.ref m), some (.int (ii n)), v2, v3, v4, v5, some (.int (ii f)), some (.int (ii g)), some (.int (b2i s))] [] σ top sl res := by
  have look := fun k hk => m_look (cs := cs) (d := d - 1) (top := top) (sl := sl) (k := k) hM hB hP hT (by omega) hk
  have hl := getD_cok hT
  have l4 := hl (p + 4)
  have l5 := hl (p + 5)
  have no : ∀ res, am_to cd_t cs d 111 88 [some (.ref m), some (.int (ii n)), v2, v3, v4, v5, some (.int (ii f)), some (.int (ii g)), some (.int (b2i false))] [] σ top sl res →
        am_to cd_t cs d 111 85 [some (.ref m), some (.int (ii n)), v2, v3, v4, v5, some (.int (ii f)), some (.int (ii g)), some (.int (b2i s))] [] σ top sl res := by
    intro res hh
    refine x_ic cd_i111_85 (z := ii 0) rfl ?_
    refine x_n cd_i111_86 rfl rfl ?_
    try dsimp only [List.set]
    show am_to cd_t _ _ 111 88 _ _ _ _ _ _
    exact hh
  cases s with
  | false =>
    refine ⟨false, ⟨(fun h => by cases h), fun h => absurd h.1 (by decide)⟩, fun res hh => ?_⟩
    refine x_n cd_i111_45 rfl rfl ?_
    show am_to cd_t _ _ 111 47 _ _ _ _ _ _
    exact x_if_t cd_i111_47 rfl (no res hh)
  | true =>
    have st : ∀ res, am_to cd_t cs d 111 52 [some (.ref m), some (.int (ii n)), v2, v3, v4, v5, some (.int (ii f)), some (.int (ii g)), some (.int (b2i true))] [.int (ii 5), .int (ii n)] σ top sl res → am_to cd_t cs d 111 45 [some (.ref m), some (.int (ii n)), v2, v3, v4, v5, some (.int (ii f)), some (.int (ii g)), some (.int (b2i true))] [] σ top sl res := by
      intro res hh
      refine x_n cd_i111_45 rfl rfl ?_
      show am_to cd_t _ _ 111 47 _ _ _ _ _ _
      refine x_if_f cd_i111_47 (fun z => absurd (show (1 : Int32) = 0 from z) (by decide)) ?_
      refine x_n cd_i111_50 rfl rfl ?_
      refine x_ic cd_i111_51 (z := ii 5) rfl ?_
      show am_to cd_t _ _ 111 52 _ _ _ _ _ _
      exact hh
    by_cases h4 : n = 4
    · refine ⟨true, ⟨fun _ => ⟨rfl, Or.inl h4⟩, fun _ => rfl⟩, fun res hh => st res ?_⟩
      refine x_icmp_t cd_i111_52 ((ii_lt (by omega) (by decide)).mpr (by omega)) ?_
      refine x_n cd_i111_65 rfl rfl ?_
      refine x_bi cd_i111_66 (z := ii 6) (by decide) ?_
      show am_to cd_t _ _ 111 68 _ _ _ _ _ _
      refine x_icmp_t cd_i111_68 ((ii_lt (by omega) (by decide)).mpr (by omega)) ?_
      refine x_ic cd_i111_81 (z := ii 1) rfl ?_
      refine x_n cd_i111_82 rfl rfl ?_
      refine x_n cd_i111_86 rfl rfl ?_
      try dsimp only [List.set]
      show am_to cd_t _ _ 111 88 _ _ _ _ _ _
      exact hh
    · have h7 : 7 ≤ n := by omega
      have g1 : ∀ res, am_to cd_t cs d 111 62 [some (.ref m), some (.int (ii n)), v2, v3, v4, v5, some (.int (ii f)), some (.int (ii g)), some (.int (b2i true))] [.int (ii f), .int (ii (txt.getD (p + 4) 0))] σ top sl res → am_to cd_t cs d 111 45 [some (.ref m), some (.int (ii n)), v2, v3, v4, v5, some (.int (ii f)), some (.int (ii g)), some (.int (b2i true))] [] σ top sl res := by
        intro res hh
        refine st res (x_icmp_f cd_i111_52 (fun z => by have := (ii_lt (by omega) (by decide)).mp (show ii n < ii 5 from z); omega) ?_)
        refine x_n cd_i111_55 rfl rfl ?_
        refine x_ic cd_i111_56 (z := ii 4) rfl ?_
        show am_to cd_t _ _ 111 57 _ _ _ _ _ _
        refine x_callv (as' := [.int (ii 4)]) cd_i111_57 hM.1 (by omega) rfl rfl rfl rfl rfl rfl (look 4 (by decide)) ?_
        refine x_n cd_i111_60 rfl rfl ?_
        show am_to cd_t _ _ 111 62 _ _ _ _ _ _
        exact hh
      by_cases e4 : txt.getD (p + 4) 0 = f
      · have g2 : ∀ res, am_to cd_t cs d 111 78 [some (.ref m), some (.int (ii n)), v2, v3, v4, v5, some (.int (ii f)), some (.int (ii g)), some (.int (b2i true))] [.int (ii g), .int (ii (txt.getD (p + 5) 0))] σ top sl res → am_to cd_t cs d 111 45 [some (.ref m), some (.int (ii n)), v2, v3, v4, v5, some (.int (ii f)), some (.int (ii g)), some (.int (b2i true))] [] σ top sl res := by
          intro res hh
          refine g1 res (x_icmp_f cd_i111_62 (fun z => z (by rw [e4])) ?_)
          refine x_n cd_i111_65 rfl rfl ?_
          refine x_bi cd_i111_66 (z := ii 6) (by decide) ?_
          show am_to cd_t _ _ 111 68 _ _ _ _ _ _
          refine x_icmp_f cd_i111_68 (fun z => by have := (ii_lt (by omega) (by decide)).mp (show ii n < ii 6 from z); omega) ?_
          refine x_n cd_i111_71 rfl rfl ?_
          refine x_ic cd_i111_72 (z := ii 5) rfl ?_
          show am_to cd_t _ _ 111 73 _ _ _ _ _ _
          refine x_callv (as' := [.int (ii 5)]) cd_i111_73 hM.1 (by omega) rfl rfl rfl rfl rfl rfl (look 5 (by decide)) ?_
          refine x_n cd_i111_76 rfl rfl ?_
          show am_to cd_t _ _ 111 78 _ _ _ _ _ _
          exact hh
        by_cases e5 : txt.getD (p + 5) 0 = g
        · refine ⟨true, ⟨fun _ => ⟨rfl, Or.inr ⟨e4, e5⟩⟩, fun _ => rfl⟩, fun res hh => g2 res ?_⟩
          refine x_icmp_f cd_i111_78 (fun z => z (by rw [e5])) ?_
          refine x_ic cd_i111_81 (z := ii 1) rfl ?_
          refine x_n cd_i111_82 rfl rfl ?_
          refine x_n cd_i111_86 rfl rfl ?_
          try dsimp only [List.set]
          show am_to cd_t _ _ 111 88 _ _ _ _ _ _
          exact hh
        · refine ⟨false, ⟨(fun h => by cases h), fun h => absurd h.2 (by omega)⟩, fun res hh => g2 res ?_⟩
          exact x_icmp_t cd_i111_78 (fun z => e5 ((ii_eq (by omega) (by omega)).mp z)) (no res hh)
      · refine ⟨false, ⟨(fun h => by cases h), fun h => absurd h.2 (by omega)⟩, fun res hh => g1 res ?_⟩
        exact x_icmp_t cd_i111_62 (fun z => e4 ((ii_eq (by omega) (by omega)).mp z)) (no res hh)
/-- its last letters -/
theorem m_word3 {s : Bool} {v2 v3 v4 v5 v6 v7 : Option Value} (hd : 0 < d) (hT : ∀ c ∈ txt, cok c) (hM : mo σ m i aa) (hB : M_buf i aa txt) (hP : M_at i p) (hp : p < 900) (hn : n = 4 ∨ n = 7 ∨ n = 8) :
    ∃ s' : Bool, (s' = true ↔ s = true ∧ (n = 4 ∨ (n = 7 ∧ txt.getD (p + 6) 0 = 32) ∨ (n = 8 ∧ txt.getD (p + 6) 0 = 101 ∧ txt.getD (p + 7) 0 = 32))) ∧
      ∀ res, am_to cd_t cs d 111 145 [some (.ref m), some (.int (ii n)), v2, v3, v4, v5, v6, v7, some (.int (b2i s'))] [] σ top sl res →
        am_to cd_t cs d 111 88 [some (.ref m), some (.int (ii n)), v2, v3, v4, v5, v6, v7, some (.int (b2i s))] [] σ top sl res := by
  have look := fun k hk => m_look (cs := cs) (d := d - 1) (top := top) (sl := sl) (k := k) hM hB hP hT (by omega) hk
  have hl := getD_cok hT
  have l6 := hl (p + 6)
  have l7 := hl (p + 7)
  have no : ∀ res, am_to cd_t cs d 111 145 [some (.ref m), some (.int (ii n)), v2, v3, v4, v5, v6, v7, some (.int (b2i false))] [] σ top sl res →
        am_to cd_t cs d 111 142 [some (.ref m), some (.int (ii n)), v2, v3, v4, v5, v6, v7, some (.int (b2i s))] [] σ top sl res := by
    intro res hh
    refine x_ic cd_i111_142 (z := ii 0) rfl ?_
    refine x_n cd_i111_143 rfl rfl ?_
    try dsimp only [List.set]
    show am_to cd_t _ _ 111 145 _ _ _ _ _ _
    exact hh
  cases s with
  | false =>
    refine ⟨false, ⟨(fun h => by cases h), fun h => absurd h.1 (by decide)⟩, fun res hh => ?_⟩
    refine x_n cd_i111_88 rfl rfl ?_
    show am_to cd_t _ _ 111 90 _ _ _ _ _ _
    exact x_if_t cd_i111_90 rfl (no res hh)
  | true =>
    have yes : ∀ res, am_to cd_t cs d 111 145 [some (.ref m), some (.int (ii n)), v2, v3, v4, v5, v6, v7, some (.int (b2i true))] [] σ top sl res → am_to cd_t cs d 111 138 [some (.ref m), some (.int (ii n)), v2, v3, v4, v5, v6, v7, some (.int (b2i true))] [] σ top sl res := by
      intro res hh
      refine x_ic cd_i111_138 (z := ii 1) rfl ?_
      refine x_n cd_i111_139 rfl rfl ?_
      refine x_n cd_i111_143 rfl rfl ?_
      try dsimp only [List.set]
      show am_to cd_t _ _ 111 145 _ _ _ _ _ _
      exact hh
    have st : ∀ res, am_to cd_t cs d 111 96 [some (.ref m), some (.int (ii n)), v2, v3, v4, v5, v6, v7, some (.int (b2i true))] [.int (ii 7), .int (ii n)] σ top sl res → am_to cd_t cs d 111 88 [some (.ref m), some (.int (ii n)), v2, v3, v4, v5, v6, v7, some (.int (b2i true))] [] σ top sl res := by
      intro res hh
      refine x_n cd_i111_88 rfl rfl ?_
      show am_to cd_t _ _ 111 90 _ _ _ _ _ _
      refine x_if_f cd_i111_90 (fun z => absurd (show (1 : Int32) = 0 from z) (by decide)) ?_
      refine x_n cd_i111_93 rfl rfl ?_
      refine x_bi cd_i111_94 (z := ii 7) (by decide) ?_
      show am_to cd_t _ _ 111 96 _ _ _ _ _ _
      exact hh
    have st7 : 7 ≤ n → ∀ res, am_to cd_t cs d 111 108 [some (.ref m), some (.int (ii n)), v2, v3, v4, v5, v6, v7, some (.int (b2i true))] [.int (ii 7), .int (ii n), .int (ii (txt.getD (p + 6) 0))] σ top sl res → am_to cd_t cs d 111 88 [some (.ref m), some (.int (ii n)), v2, v3, v4, v5, v6, v7, some (.int (b2i true))] [] σ top sl res := by
      intro h7 res hh
      refine st res (x_icmp_f cd_i111_96 (fun z => by have := (ii_lt (by omega) (by decide)).mp (show ii n < ii 7 from z); omega) ?_)
      refine x_n cd_i111_99 rfl rfl ?_
      refine x_bi cd_i111_100 (z := ii 6) (by decide) ?_
      show am_to cd_t _ _ 111 102 _ _ _ _ _ _
      refine x_callv (as' := [.int (ii 6)]) cd_i111_102 hM.1 (by omega) rfl rfl rfl rfl rfl rfl (look 6 (by decide)) ?_
      refine x_n cd_i111_105 rfl rfl ?_
      refine x_bi cd_i111_106 (z := ii 7) (by decide) ?_
      show am_to cd_t _ _ 111 108 _ _ _ _ _ _
      exact hh
    rcases hn with h4 | h7 | h8
    · refine ⟨true, ⟨fun _ => ⟨rfl, Or.inl h4⟩, fun _ => rfl⟩, fun res hh => st res ?_⟩
      exact x_icmp_t cd_i111_96 ((ii_lt (by omega) (by decide)).mpr (by omega)) (yes res hh)
    · have st8 : ∀ res, am_to cd_t cs d 111 118 [some (.ref m), some (.int (ii n)), v2, v3, v4, v5, v6, v7, some (.int (b2i true))] [.int (ii 32), .int (ii (txt.getD (p + 6) 0))] σ top sl res → am_to cd_t cs d 111 88 [some (.ref m), some (.int (ii n)), v2, v3, v4, v5, v6, v7, some (.int (b2i true))] [] σ top sl res := by
        intro res hh
        refine st7 (by omega) res (x_icmp_f cd_i111_108 (fun z => z (by rw [h7])) ?_)
        refine x_bi cd_i111_111 (z := ii 32) (by decide) ?_
        refine x_n cd_i111_113 rfl rfl ?_
        show am_to cd_t _ _ 111 118 _ _ _ _ _ _
        exact hh
      by_cases e6 : txt.getD (p + 6) 0 = 32
      · refine ⟨true, ⟨fun _ => ⟨rfl, Or.inr (Or.inl ⟨h7, e6⟩)⟩, fun _ => rfl⟩, fun res hh => st8 res ?_⟩
        refine x_icmp_f cd_i111_118 (fun z => z (by rw [e6])) ?_
        refine x_n cd_i111_121 rfl rfl ?_
        refine x_bi cd_i111_122 (z := ii 8) (by decide) ?_
        show am_to cd_t _ _ 111 124 _ _ _ _ _ _
        exact x_icmp_t cd_i111_124 ((ii_lt (by omega) (by decide)).mpr (by omega)) (yes res hh)
      · refine ⟨false, ⟨(fun h => by cases h), fun h => absurd h.2 (by omega)⟩, fun res hh => st8 res ?_⟩
        exact x_icmp_t cd_i111_118 (fun z => e6 ((ii_eq (by omega) (by omega)).mp z)) (no res hh)
    · have st8 : ∀ res, am_to cd_t cs d 111 118 [some (.ref m), some (.int (ii n)), v2, v3, v4, v5, v6, v7, some (.int (b2i true))] [.int (ii 101), .int (ii (txt.getD (p + 6) 0))] σ top sl res → am_to cd_t cs d 111 88 [some (.ref m), some (.int (ii n)), v2, v3, v4, v5, v6, v7, some (.int (b2i true))] [] σ top sl res := by
        intro res hh
        refine st7 (by omega) res (x_icmp_t cd_i111_108 (fun z => by have := (ii_eq (by omega) (by decide)).mp (show ii n = ii 7 from z); omega) ?_)
        refine x_bi cd_i111_116 (z := ii 101) (by decide) ?_
        show am_to cd_t _ _ 111 118 _ _ _ _ _ _
        exact hh
      by_cases e6 : txt.getD (p + 6) 0 = 101
      · have st9 : ∀ res, am_to cd_t cs d 111 135 [some (.ref m), some (.int (ii n)), v2, v3, v4, v5, v6, v7, some (.int (b2i true))] [.int (ii 32), .int (ii (txt.getD (p + 7) 0))] σ top sl res → am_to cd_t cs d 111 88 [some (.ref m), some (.int (ii n)), v2, v3, v4, v5, v6, v7, some (.int (b2i true))] [] σ top sl res := by
          intro res hh
          refine st8 res (x_icmp_f cd_i111_118 (fun z => z (by rw [e6])) ?_)
          refine x_n cd_i111_121 rfl rfl ?_
          refine x_bi cd_i111_122 (z := ii 8) (by decide) ?_
          show am_to cd_t _ _ 111 124 _ _ _ _ _ _
          refine x_icmp_f cd_i111_124 (fun z => by have := (ii_lt (by omega) (by decide)).mp (show ii n < ii 8 from z); omega) ?_
          refine x_n cd_i111_127 rfl rfl ?_
          refine x_bi cd_i111_128 (z := ii 7) (by decide) ?_
          show am_to cd_t _ _ 111 130 _ _ _ _ _ _
          refine x_callv (as' := [.int (ii 7)]) cd_i111_130 hM.1 (by omega) rfl rfl rfl rfl rfl rfl (look 7 (by decide)) ?_
          refine x_bi cd_i111_133 (z := ii 32) (by decide) ?_
          show am_to cd_t _ _ 111 135 _ _ _ _ _ _
          exact hh
        by_cases e7 : txt.getD (p + 7) 0 = 32
        · refine ⟨true, ⟨fun _ => ⟨rfl, Or.inr (Or.inr ⟨h8, e6, e7⟩)⟩, fun _ => rfl⟩, fun res hh => st9 res ?_⟩
          exact x_icmp_f cd_i111_135 (fun z => z (by rw [e7])) (yes res hh)
        · refine ⟨false, ⟨(fun h => by cases h), fun h => absurd h.2 (by omega)⟩, fun res hh => st9 res ?_⟩
          exact x_icmp_t cd_i111_135 (fun z => e7 ((ii_eq (by omega) (by omega)).mp z)) (no res hh)
      · refine ⟨false, ⟨(fun h => by cases h), fun h => absurd h.2 (by omega)⟩, fun res hh => st8 res ?_⟩
        exact x_icmp_t cd_i111_118 (fun z => e6 ((ii_eq (by omega) (by omega)).mp z)) (no res hh)
/-- the whole word -/
def wordL (n a b c e f g : Nat) : List Nat := if n = 4 then [a, b, c, e] else if n = 7 then [a, b, c, e, f, g, 32] else [a, b, c, e, f, g, 101, 32]
theorem m_word (hd : 0 < d) (hT : ∀ c ∈ txt, cok c) (hM : mo σ m i aa) (hB : M_buf i aa txt) (hP : M_at i p) (hp : p < 900) (hn : n = 4 ∨ n = 7 ∨ n = 8) (ha : a < 127) (hb : b < 127) (hc : c < 127) (he : e < 127) (hf : f < 127) (hg : g < 127) :
    ∃ σ', am_to cd_t cs d 111 0 (am_ent 9 [.ref m, .int (ii n), .int (ii a), .int (ii b), .int (ii c), .int (ii e), .int (ii f), .int (ii g)]) [] σ top sl (.inl (some (.int (b2i (pre txt p (wordL n a b c e f g))))), σ', top, sl) ∧ mo σ' m (upd i 3 (ii (if pre txt p (wordL n a b c e f g) = true then p + n else p))) aa ∧ ∀ q, q < m ∨ m + 25 ≤ q → σ' q = σ q := by
  obtain ⟨s1, a1, a2⟩ := m_word1 (cs := cs) (d := d) (top := top) (sl := sl) (n5 := .int (ii n)) (f := f) (g := g) hd hT hM hB hP hp ha hb hc he
  obtain ⟨s2, b1, b2⟩ := m_word2 (cs := cs) (d := d) (top := top) (sl := sl) (s := s1) (v2 := some (.int (ii a))) (v3 := some (.int (ii b))) (v4 := some (.int (ii c))) (v5 := some (.int (ii e))) hd hT hM hB hP hp hn hf hg
  obtain ⟨s3, c1, c2⟩ := m_word3 (cs := cs) (d := d) (top := top) (sl := sl) (s := s2) (v2 := some (.int (ii a))) (v3 := some (.int (ii b))) (v4 := some (.int (ii c))) (v5 := some (.int (ii e))) (v6 := some (.int (ii f))) (v7 := some (.int (ii g))) hd hT hM hB hP hp hn
  have key : pre txt p (wordL n a b c e f g) = s3 := by
    rw [Bool.eq_iff_iff, c1, b1, a1]
    unfold wordL
    rcases hn with rfl | rfl | rfl
    · rw [if_pos rfl]
      simp [pre, Nat.add_assoc, and_assoc]
    · rw [if_neg (by decide), if_pos rfl]
      simp [pre, Nat.add_assoc, and_assoc]
    · rw [if_neg (by decide), if_neg (by decide)]
      simp [pre, Nat.add_assoc, and_assoc]
  rw [key]
  refine ⟨_, a2 _ (b2 _ (c2 _ ?_)), hM.put _, fun q hq => am_up_ne _ _ (by omega)⟩
  cases s3 with
  | true =>
    refine x_n cd_i111_145 rfl rfl ?_
    refine x_n cd_i111_146 rfl rfl ?_
    show am_to cd_t _ _ 111 148 _ _ _ _ _ _
    refine x_if_f cd_i111_148 (fun z => absurd (show (1 : Int32) = 0 from z) (by decide)) ?_
    refine x_n cd_i111_151 rfl rfl ?_
    show am_to cd_t _ _ 111 152 _ _ _ _ _ _
    refine x_getf cd_i111_152 hM.1 (congrArg (fun z => some (Value.int z)) (hP)) rfl ?_
    refine x_n cd_i111_155 rfl rfl ?_
    show am_to cd_t _ _ 111 156 _ _ _ _ _ _
    refine x_iadd cd_i111_156 (ii_add _ _) ?_
    refine x_n cd_i111_157 rfl rfl ?_
    show am_to cd_t _ _ 111 164 _ _ _ _ _ _
    refine x_putf cd_i111_164 (fs' := mo_f m (upd i 3 (ii (p + n)))) hM.1 rfl rfl rfl ?_
    refine x_n cd_i111_167 rfl rfl ?_
    show am_to cd_t _ _ 111 169 _ _ _ _ _ _
    exact x_end cd_i111_169 rfl rfl rfl
  | false =>
    refine x_n cd_i111_145 rfl rfl ?_
    refine x_n cd_i111_146 rfl rfl ?_
    show am_to cd_t _ _ 111 148 _ _ _ _ _ _
    refine x_if_t cd_i111_148 rfl ?_
    refine x_n cd_i111_160 rfl rfl ?_
    show am_to cd_t _ _ 111 161 _ _ _ _ _ _
    refine x_getf cd_i111_161 hM.1 (congrArg (fun z => some (Value.int z)) (hP)) rfl ?_
    refine x_putf cd_i111_164 (fs' := mo_f m (upd i 3 (ii p))) hM.1 rfl rfl rfl ?_
    refine x_n cd_i111_167 rfl rfl ?_
    show am_to cd_t _ _ 111 169 _ _ _ _ _ _
    exact x_end cd_i111_169 rfl rfl rfl
end MW
