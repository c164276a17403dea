section KC
variable {cs : Nat → Value} {d m top sl : Nat} {dec : Nat → Option Dec} {pl : Int32} {K : Nat → List Ent} {c : Nat} {rk : Nat → Nat} {O : List Ent}
def Pm (dec : Nat → Option Dec) (pl : Int32) (K : Nat → List Ent) (c n : Nat) (σ : Tup) : Prop := Val dec pl K c σ ∧ 6 * σ.1.1 + σ.1.2 < n
def Pe (dec : Nat → Option Dec) (pl : Int32) (K : Nat → List Ent) (c : Nat) (O : List Ent) (x j e : Nat) (σ : Tup) : Prop := Pm dec pl K c (6 * x + j) σ ∨ (Val dec pl K c σ ∧ σ.1 = (x, j) ∧ (σ.2.1 = none ∨ ∃ e', e' < e ∧ σ.2.1 = some (O.getD e' default)))
/-- the receivers of one member -/
theorem m_cost_in {x j : Nat} {D : Dec} (hd : 4 < d) (hc4 : c < 4) (hO : catOk dec) (hrk : ranked dec rk) (hK : Kok K c) (hO24 : O.length ≤ 24) (hnd : O.Nodup) (hD : dec x = some D) (hj : j < D.2.length) (hin : ∀ e, e < O.length → inK K c (O.getD e default)) (hall : ∀ E, inK K c E → ∃ e, e < O.length ∧ O.getD e default = E) :
    ∀ (n e : Nat) (σ : am_H) (i : Nat → Int32) (a : Nat → Nat → Int32) (L : List Ent), e + n = O.length → stg m dec pl O σ i a L → L8 (ImT dec (Pe dec pl K c O x j e)) L →
    ∃ (σ' : am_H) (i' : Nat → Int32) (a' : Nat → Nat → Int32) (L' : List Ent), stg m dec pl O σ' i' a' L' ∧ ER i i' a a' ∧ L8 (ImT dec (Pe dec pl K c O x j O.length)) L' ∧ (∀ y, y < m ∨ m + 25 ≤ y → σ' y = σ y) ∧
      ∀ res, am_to cd_t cs d 137 133 [some (.ref m), some (.int (ii c)), some (.int (ii O.length)), some (.int (ii (6 * x + j))), some (.int (ii 1)), some (.int (ii O.length))] [] σ' top sl res → am_to cd_t cs d 137 81 [some (.ref m), some (.int (ii c)), some (.int (ii O.length)), some (.int (ii (6 * x + j))), some (.int (ii 1)), some (.int (ii e))] [] σ top sl res := by
  have hx := (hrk x D hD).1
  have h6 := (hO x D hD).1
  intro n
  induction n with
  | zero =>
    intro e σ i a L he hS hL
    rw [show e = O.length by omega] at hL ⊢
    refine ⟨σ, i, a, L, hS, ER.refl i a, hL, fun _ _ => rfl, fun res hh => ?_⟩
    refine x_n cd_i137_81 rfl rfl ?_
    refine x_n cd_i137_83 rfl rfl ?_
    show am_to cd_t _ _ 137 84 _ _ _ _ _ _
    exact x_icmp_t cd_i137_84 ((ii_le (by omega) (by omega)).mpr (Nat.le_refl _)) hh
  | succ n ih =>
    intro e σ i a L he hS hL
    have heO : e < O.length := by omega
    have hM := hS.1
    have hrow := hS.rows e heO
    have hg := (hin e heO).good hK
    have hs := m_sees (cs := cs) (d := d - 1) (top := top) (sl := sl) (t := (O.getD e default).2) (by omega) hM hS.2.2.2.1 hO hrk hS.2.2.2.2.1 hg.2.1 hD hj
    have hcost : cst (O.getD e default).1 < c := (hin e heO).1
    have go1 : ∀ res, am_to cd_t cs d 137 115 [some (.ref m), some (.int (ii c)), some (.int (ii O.length)), some (.int (ii (6 * x + j))), some (.int (ii 1)), some (.int (ii e))] [.int (b2i (decide (3 ≤ (O.getD e default).2) && snB dec pl ((O.getD e default).2 - 3) x j))] σ top sl res → am_to cd_t cs d 137 81 [some (.ref m), some (.int (ii c)), some (.int (ii O.length)), some (.int (ii (6 * x + j))), some (.int (ii 1)), some (.int (ii e))] [] σ top sl res := by
      intro res hh
      refine x_n cd_i137_81 rfl rfl ?_
      refine x_n cd_i137_83 rfl rfl ?_
      show am_to cd_t _ _ 137 84 _ _ _ _ _ _
      refine x_icmp_f cd_i137_84 (fun z => by have := (ii_le (by omega) (by omega)).mp (show ii O.length ≤ ii e from z); omega) ?_
      refine x_n cd_i137_87 rfl rfl ?_
      show am_to cd_t _ _ 137 89 _ _ _ _ _ _
      refine x_if_f cd_i137_89 (fun z => absurd (show (1 : Int32) = 0 from z) (by decide)) ?_
      refine x_n cd_i137_92 rfl rfl ?_
      refine x_getf cd_i137_93 hM.1 rfl rfl ?_
      refine x_n cd_i137_96 rfl rfl ?_
      show am_to cd_t _ _ 137 98 _ _ _ _ _ _
      refine x_iald cd_i137_98 (hM.2 14 (by decide) (by decide)) (show e < 33 by omega) (by decide) hrow.1 ?_
      refine x_n cd_i137_99 rfl rfl ?_
      show am_to cd_t _ _ 137 100 _ _ _ _ _ _
      refine x_icmp_f cd_i137_100 (fun z => by have := (ii_le (by omega) (by omega)).mp (show ii c ≤ ii (cst (O.getD e default).1) from z); omega) ?_
      refine x_n cd_i137_103 rfl rfl ?_
      refine x_n cd_i137_104 rfl rfl ?_
      refine x_getf cd_i137_105 hM.1 rfl rfl ?_
      refine x_n cd_i137_108 rfl rfl ?_
      show am_to cd_t _ _ 137 110 _ _ _ _ _ _
      refine x_iald cd_i137_110 (hM.2 15 (by decide) (by decide)) (show e < 33 by omega) (by decide) hrow.2.1 ?_
      refine x_n cd_i137_111 rfl rfl ?_
      show am_to cd_t _ _ 137 112 _ _ _ _ _ _
      refine x_callv (as' := [.int (ii (O.getD e default).2), .int (ii (6 * x + j))]) cd_i137_112 hM.1 (by omega) rfl rfl rfl rfl rfl rfl (hs) ?_
      exact hh
    have next : ∀ (s : am_H) (res : am_R), mo s m i a → am_to cd_t cs d 137 81 [some (.ref m), some (.int (ii c)), some (.int (ii O.length)), some (.int (ii (6 * x + j))), some (.int (ii 1)), some (.int (ii (e + 1)))] [] s top sl res → am_to cd_t cs d 137 127 [some (.ref m), some (.int (ii c)), some (.int (ii O.length)), some (.int (ii (6 * x + j))), some (.int (ii 1)), some (.int (ii e))] [] s top sl res := by
      intro s res _ hh
      refine x_iinc cd_i137_127 rfl (ii_add _ 1) rfl ?_
      try dsimp only [List.set]
      refine x_n cd_i137_130 rfl rfl ?_
      show am_to cd_t _ _ 137 81 _ _ _ _ _ _
      exact hh
    cases hb : (decide (3 ≤ (O.getD e default).2) && snB dec pl ((O.getD e default).2 - 3) x j) with
    | false =>
      rw [hb] at go1
      obtain ⟨s2, i2, a2, L2, l1, l2, l3, l4, l5⟩ := ih (e + 1) σ i a L (by omega) hS (ImT_iff hL (fun s => by
        constructor
        · rintro (h | ⟨h1, h2, h3 | ⟨e', h3, h4⟩⟩)
          · exact Or.inl h
          · exact Or.inr ⟨h1, h2, Or.inl h3⟩
          · exact Or.inr ⟨h1, h2, Or.inr ⟨e', by omega, h4⟩⟩
        · rintro (h | ⟨h1, h2, h3 | ⟨e', h3, h4⟩⟩)
          · exact Or.inl h
          · exact Or.inr ⟨h1, h2, Or.inl h3⟩
          · by_cases ee : e' = e
            · have hv := h1.2.1
              rw [h4, ee, h2] at hv
              have : (decide (3 ≤ (O.getD e default).2) && snB dec pl ((O.getD e default).2 - 3) x j) = true := by rw [decide_eq_true hv.2.1, Bool.true_and]; exact hv.2.2
              rw [hb] at this
              cases this
            · exact Or.inr ⟨h1, h2, Or.inr ⟨e', by omega, h4⟩⟩))
      exact ⟨s2, i2, a2, L2, l1, l2, l3, l4, fun res hh => go1 res (x_if_t cd_i137_115 rfl (next σ res hM (l5 res hh)))⟩
    | true =>
      rw [hb] at go1
      rw [Bool.and_eq_true, decide_eq_true_eq] at hb
      obtain ⟨s1, i1, a1, L1, k1, k2, k3, k4, k5⟩ := m_offer (cs := cs) (d := d - 1) (top := top) (sl := sl) (r := some e) (left := c - 1 - cst (O.getD e default).1) (P0 := Pe dec pl K c O x j e) (by omega) hc4 hO hrk hK hO24 hnd hD hj (fun k hk => by rw [← Option.some.inj hk]; exact heO) hin hall ⟨hin e heO, hb.1, hb.2⟩ (by show 1 + cst (O.getD e default).1 + (c - 1 - cst (O.getD e default).1) = c; omega) (fun s hs' => by
        rcases hs' with ⟨h1, h2⟩ | ⟨h1, h2, h3⟩
        · refine ⟨h1, fun h => ?_⟩
          rw [h.1] at h2
          exact Nat.lt_irrefl _ h2
        · refine ⟨h1, fun h => ?_⟩
          rcases h3 with h3 | ⟨e', h3, h4⟩
          · rw [h3] at h
            cases h.2
          · have h5 := h.2
            rw [h4] at h5
            have := ent_inj hnd (by omega) heO (Option.some.inj h5)
            omega) hS hL
      obtain ⟨s2, i2, a2, L2, l1, l2, l3, l4, l5⟩ := ih (e + 1) s1 i1 a1 L1 (by omega) k2 (ImT_iff k4 (fun s => by
        constructor
        · rintro ((h | ⟨h1, h2, h3 | ⟨e', h3, h4⟩⟩) | ⟨h1, h2, h3⟩)
          · exact Or.inl h
          · exact Or.inr ⟨h1, h2, Or.inl h3⟩
          · exact Or.inr ⟨h1, h2, Or.inr ⟨e', by omega, h4⟩⟩
          · exact Or.inr ⟨h1, h2, Or.inr ⟨e, by omega, h3⟩⟩
        · rintro (h | ⟨h1, h2, h3 | ⟨e', h3, h4⟩⟩)
          · exact Or.inl (Or.inl h)
          · exact Or.inl (Or.inr ⟨h1, h2, Or.inl h3⟩)
          · by_cases ee : e' = e
            · rw [ee] at h4
              exact Or.inr ⟨h1, h2, h4⟩
            · exact Or.inl (Or.inr ⟨h1, h2, Or.inr ⟨e', by omega, h4⟩⟩)))
      refine ⟨s2, i2, a2, L2, l1, k3.trans l2, l3, fun y hy => (l4 y hy).trans (k5 y hy), fun res hh => go1 res (x_if_f cd_i137_115 (fun z => absurd (show (1 : Int32) = 0 from z) (by decide)) ?_)⟩
      refine x_n cd_i137_118 rfl rfl ?_
      refine x_n cd_i137_119 rfl rfl ?_
      refine x_n cd_i137_120 rfl rfl ?_
      refine x_n cd_i137_122 rfl rfl ?_
      refine x_n cd_i137_123 rfl rfl ?_
      show am_to cd_t _ _ 137 124 _ _ _ _ _ _
      refine x_callv (as' := [.int (ii (6 * x + j)), .int (ii e), .int (ii c), .int (ii O.length)]) (r := none) cd_i137_124 hM.1 (by omega) rfl rfl rfl rfl rfl rfl (k1) ?_
      refine x_iinc cd_i137_127 rfl (ii_add _ 1) rfl ?_
      try dsimp only [List.set]
      refine x_n cd_i137_130 rfl rfl ?_
      show am_to cd_t _ _ 137 81 _ _ _ _ _ _
      exact l5 res hh
/-- one member -/
theorem m_cost_one {x j : Nat} {σ : am_H} {i : Nat → Int32} {a : Nat → Nat → Int32} {L : List Ent} {v4 v5 : Option Value} (hd : 4 < d) (hc0 : 0 < c) (hc4 : c < 4) (hO : catOk dec) (hrk : ranked dec rk) (hK : Kok K c) (hO24 : O.length ≤ 24) (hnd : O.Nodup) (hx : x < 10) (hj6 : j < 6) (hin : ∀ e, e < O.length → inK K c (O.getD e default)) (hall : ∀ E, inK K c E → ∃ e, e < O.length ∧ O.getD e default = E) (hS : stg m dec pl O σ i a L) (hL : L8 (ImT dec (Pm dec pl K c (6 * x + j))) L) :
    ∃ (σ' : am_H) (i' : Nat → Int32) (a' : Nat → Nat → Int32) (L' : List Ent) (v4' v5' : Option Value), stg m dec pl O σ' i' a' L' ∧ ER i i' a a' ∧ L8 (ImT dec (Pm dec pl K c (6 * x + j + 1))) L' ∧ (∀ y, y < m ∨ m + 25 ≤ y → σ' y = σ y) ∧
      ∀ res, am_to cd_t cs d 137 7 [some (.ref m), some (.int (ii c)), some (.int (ii O.length)), some (.int (ii (6 * x + j + 1))), v4', v5'] [] σ' top sl res → am_to cd_t cs d 137 7 [some (.ref m), some (.int (ii c)), some (.int (ii O.length)), some (.int (ii (6 * x + j))), v4, v5] [] σ top sl res := by
  have hM := hS.1
  have idx : ∀ s : Tup, Val dec pl K c s → 6 * s.1.1 + s.1.2 = 6 * x + j → s.1 = (x, j) := by
    intro s hs e
    obtain ⟨⟨D, hD, hj⟩, -⟩ := hs
    have := (hO _ D hD).1
    have h1 : s.1.1 = x := by omega
    have h2 : s.1.2 = j := by omega
    exact Prod.ext h1 h2
  have head : ∀ res, am_to cd_t cs d 137 21 [some (.ref m), some (.int (ii c)), some (.int (ii O.length)), some (.int (ii (6 * x + j))), v4, v5] [.int (ii x), .ref (m + 2)] σ top sl res → am_to cd_t cs d 137 7 [some (.ref m), some (.int (ii c)), some (.int (ii O.length)), some (.int (ii (6 * x + j))), v4, v5] [] σ top sl res := by
    intro res hh
    refine x_n cd_i137_7 rfl rfl ?_
    refine x_bi cd_i137_8 (z := ii 60) (by decide) ?_
    show am_to cd_t _ _ 137 10 _ _ _ _ _ _
    refine x_icmp_f cd_i137_10 (fun z => by have := (ii_le (by decide) (by omega)).mp (show ii 60 ≤ ii (6 * x + j) from z); omega) ?_
    refine x_n cd_i137_13 rfl rfl ?_
    refine x_getf cd_i137_14 hM.1 rfl rfl ?_
    refine x_n cd_i137_17 rfl rfl ?_
    refine x_bi cd_i137_18 (z := ii 6) (by decide) ?_
    show am_to cd_t _ _ 137 20 _ _ _ _ _ _
    refine x_idiv cd_i137_20 (fun z => absurd (show ii 6 = 0 from z) (by decide)) (div6 (by omega) hj6) ?_
    exact hh
  have none1 : (∀ D, dec x = some D → ¬ j < D.2.length) → (∀ res, am_to cd_t cs d 137 45 [some (.ref m), some (.int (ii c)), some (.int (ii O.length)), some (.int (ii (6 * x + j))), v4, v5] [] σ top sl res → am_to cd_t cs d 137 7 [some (.ref m), some (.int (ii c)), some (.int (ii O.length)), some (.int (ii (6 * x + j))), v4, v5] [] σ top sl res) →
      ∃ (σ' : am_H) (i' : Nat → Int32) (a' : Nat → Nat → Int32) (L' : List Ent) (v4' v5' : Option Value), stg m dec pl O σ' i' a' L' ∧ ER i i' a a' ∧ L8 (ImT dec (Pm dec pl K c (6 * x + j + 1))) L' ∧ (∀ y, y < m ∨ m + 25 ≤ y → σ' y = σ y) ∧
      ∀ res, am_to cd_t cs d 137 7 [some (.ref m), some (.int (ii c)), some (.int (ii O.length)), some (.int (ii (6 * x + j + 1))), v4', v5'] [] σ' top sl res → am_to cd_t cs d 137 7 [some (.ref m), some (.int (ii c)), some (.int (ii O.length)), some (.int (ii (6 * x + j))), v4, v5] [] σ top sl res := by
    intro hno hgo
    refine ⟨σ, i, a, L, some (.int (ii 0)), some (.int (ii 0)), hS, ER.refl i a, ImT_iff hL (fun s => ⟨fun h => ⟨h.1, by have := h.2; omega⟩, fun h => ⟨h.1, ?_⟩⟩), fun _ _ => rfl, fun res hh => hgo res ?_⟩
    · have h2 := h.2
      by_cases e : 6 * s.1.1 + s.1.2 = 6 * x + j
      · have e2 := idx s h.1 e
        obtain ⟨⟨D, hD, hj⟩, -⟩ := h.1
        rw [e2] at hD hj
        exact absurd hj (hno D hD)
      · omega
    · have tail : am_to cd_t cs d 137 133 [some (.ref m), some (.int (ii c)), some (.int (ii O.length)), some (.int (ii (6 * x + j))), some (.int (ii 0)), some (.int (ii 0))] [] σ top sl res := by
        refine x_iinc cd_i137_133 rfl (ii_add _ 1) rfl ?_
        try dsimp only [List.set]
        refine x_n cd_i137_136 rfl rfl ?_
        show am_to cd_t _ _ 137 7 _ _ _ _ _ _
        exact hh
      refine x_ic cd_i137_45 (z := ii 0) rfl ?_
      refine x_n cd_i137_46 rfl rfl ?_
      try dsimp only [List.set]
      refine x_n cd_i137_48 rfl rfl ?_
      show am_to cd_t _ _ 137 50 _ _ _ _ _ _
      refine x_if_t cd_i137_50 rfl ?_
      refine x_ic cd_i137_78 (z := ii 0) rfl ?_
      refine x_n cd_i137_79 rfl rfl ?_
      try dsimp only [List.set]
      refine x_n cd_i137_81 rfl rfl ?_
      refine x_n cd_i137_83 rfl rfl ?_
      show am_to cd_t _ _ 137 84 _ _ _ _ _ _
      refine x_icmp cd_i137_84 (fun _ => tail) (fun _ => ?_)
      refine x_n cd_i137_87 rfl rfl ?_
      show am_to cd_t _ _ 137 89 _ _ _ _ _ _
      exact x_if_t cd_i137_89 rfl tail
  cases hD : dec x with
  | none =>
    refine none1 (fun D h => by rw [hD] at h; cases h) (fun res hh => head res ?_)
    refine x_bald cd_i137_21 (hM.2 2 (by decide) (by decide)) (show _ < 10 by omega) (by decide) ((hS.2.2.2.1 x hx).1 hD) ?_
    exact x_if_t cd_i137_22 rfl hh
  | some D =>
    obtain ⟨q1, q2, q3, q4, q5⟩ := (hS.2.2.2.1 x hx).2 D hD
    have head2 : ∀ res, am_to cd_t cs d 137 38 [some (.ref m), some (.int (ii c)), some (.int (ii O.length)), some (.int (ii (6 * x + j))), v4, v5] [.int (ii D.2.length), .int (ii j)] σ top sl res → am_to cd_t cs d 137 7 [some (.ref m), some (.int (ii c)), some (.int (ii O.length)), some (.int (ii (6 * x + j))), v4, v5] [] σ top sl res := by
      intro res hh
      refine head res ?_
      refine x_bald cd_i137_21 (hM.2 2 (by decide) (by decide)) (show _ < 10 by omega) (by decide) (q1) ?_
      refine x_if_f cd_i137_22 (fun z => absurd (show (1 : Int32) = 0 from z) (by decide)) ?_
      refine x_n cd_i137_25 rfl rfl ?_
      refine x_bi cd_i137_26 (z := ii 6) (by decide) ?_
      show am_to cd_t _ _ 137 28 _ _ _ _ _ _
      refine x_irem cd_i137_28 (fun z => absurd (show ii 6 = 0 from z) (by decide)) (rem6 (by omega) hj6) ?_
      refine x_n cd_i137_29 rfl rfl ?_
      refine x_getf cd_i137_30 hM.1 rfl rfl ?_
      refine x_n cd_i137_33 rfl rfl ?_
      refine x_bi cd_i137_34 (z := ii 6) (by decide) ?_
      show am_to cd_t _ _ 137 36 _ _ _ _ _ _
      refine x_idiv cd_i137_36 (fun z => absurd (show ii 6 = 0 from z) (by decide)) (div6 (by omega) hj6) ?_
      refine x_iald cd_i137_37 (hM.2 4 (by decide) (by decide)) (show _ < 10 by omega) (by decide) (q3) ?_
      exact hh
    by_cases hj : j < D.2.length
    · have hok := (hO x D hD).2.1 _ (getD_mem hj)
      have hrow := q5 j hj
      have em : memQ dec (x, j) = D.2.getD j default := by unfold memQ memsOf; rw [hD]
      have hus := m_usable (cs := cs) (d := d - 1) (top := top) (sl := sl) hM hS.2.2.2.2.1 hx hj6 hrow
      have head3 : ∀ res, am_to cd_t cs d 137 59 [some (.ref m), some (.int (ii c)), some (.int (ii O.length)), some (.int (ii (6 * x + j))), some (.int (ii 1)), v5] [.int (b2i ((D.2.getD j default).2.2.1 || (D.2.getD j default).1 == 2))] σ top sl res → am_to cd_t cs d 137 7 [some (.ref m), some (.int (ii c)), some (.int (ii O.length)), some (.int (ii (6 * x + j))), v4, v5] [] σ top sl res := by
        intro res hh
        refine head2 res (x_icmp_f cd_i137_38 (fun z => by have := (ii_le (by omega) (by omega)).mp (show ii D.2.length ≤ ii j from z); omega) ?_)
        refine x_ic cd_i137_41 (z := ii 1) rfl ?_
        refine x_n cd_i137_42 rfl rfl ?_
        refine x_n cd_i137_46 rfl rfl ?_
        try dsimp only [List.set]
        refine x_n cd_i137_48 rfl rfl ?_
        show am_to cd_t _ _ 137 50 _ _ _ _ _ _
        refine x_if_f cd_i137_50 (fun z => absurd (show (1 : Int32) = 0 from z) (by decide)) ?_
        refine x_n cd_i137_53 rfl rfl ?_
        refine x_getf cd_i137_54 hM.1 rfl rfl ?_
        refine x_n cd_i137_57 rfl rfl ?_
        show am_to cd_t _ _ 137 58 _ _ _ _ _ _
        refine x_bald cd_i137_58 (hM.2 6 (by decide) (by decide)) (show _ < 66 by omega) (by decide) (hrow.2.1) ?_
        exact hh
      obtain ⟨s1, i1, a1, L1, k1, k2, k3, k4, k5⟩ : ∃ (σ' : am_H) (i' : Nat → Int32) (a' : Nat → Nat → Int32) (L' : List Ent), stg m dec pl O σ' i' a' L' ∧ ER i i' a a' ∧ L8 (ImT dec (Pe dec pl K c O x j 0)) L' ∧ (∀ y, y < m ∨ m + 25 ≤ y → σ' y = σ y) ∧ ∀ res, am_to cd_t cs d 137 78 [some (.ref m), some (.int (ii c)), some (.int (ii O.length)), some (.int (ii (6 * x + j))), some (.int (ii 1)), v5] [] σ' top sl res → am_to cd_t cs d 137 7 [some (.ref m), some (.int (ii c)), some (.int (ii O.length)), some (.int (ii (6 * x + j))), v4, v5] [] σ top sl res := by
        have skip : ¬ (((D.2.getD j default).2.2.1 = true ∨ (D.2.getD j default).1 = 2) ∧ usB pl x (D.2.getD j default) = true) → L8 (ImT dec (Pe dec pl K c O x j 0)) L := by
          intro hno
          refine ImT_iff hL (fun s => ⟨fun h => Or.inl h, ?_⟩)
          rintro (h | ⟨h1, h2, h3 | ⟨e', h3, -⟩⟩)
          · exact h
          · refine absurd ?_ hno
            have hv := h1.2.1
            rw [h3, h2, em] at hv
            exact hv
          · exact absurd h3 (Nat.not_lt_zero e')
        cases hb : ((D.2.getD j default).2.2.1 || (D.2.getD j default).1 == 2) with
        | false =>
          rw [hb] at head3
          refine ⟨σ, i, a, L, hS, ER.refl i a, skip (fun h => ?_), fun _ _ => rfl, fun res hh => head3 res (x_if_t cd_i137_59 rfl hh)⟩
          rw [Bool.or_eq_false_iff, beq_eq_false_iff_ne] at hb
          rcases h.1 with h | h
          · rw [hb.1] at h
            cases h
          · exact hb.2 h
        | true =>
          rw [hb] at head3
          have head4 : ∀ res, am_to cd_t cs d 137 67 [some (.ref m), some (.int (ii c)), some (.int (ii O.length)), some (.int (ii (6 * x + j))), some (.int (ii 1)), v5] [.int (b2i (usB pl x (D.2.getD j default)))] σ top sl res → am_to cd_t cs d 137 7 [some (.ref m), some (.int (ii c)), some (.int (ii O.length)), some (.int (ii (6 * x + j))), v4, v5] [] σ top sl res := by
            intro res hh
            refine head3 res (x_if_f cd_i137_59 (fun z => absurd (show (1 : Int32) = 0 from z) (by decide)) ?_)
            refine x_n cd_i137_62 rfl rfl ?_
            refine x_n cd_i137_63 rfl rfl ?_
            show am_to cd_t _ _ 137 64 _ _ _ _ _ _
            refine x_callv (as' := [.int (ii (6 * x + j))]) cd_i137_64 hM.1 (by omega) rfl rfl rfl rfl rfl rfl (hus) ?_
            exact hh
          cases hu : usB pl x (D.2.getD j default) with
          | false =>
            rw [hu] at head4
            refine ⟨σ, i, a, L, hS, ER.refl i a, skip (fun h => by rw [hu] at h; cases h.2), fun _ _ => rfl, fun res hh => head4 res (x_if_t cd_i137_67 rfl hh)⟩
          | true =>
            rw [hu] at head4
            obtain ⟨s1, i1, a1, L1, k1, k2, k3, k4, k5⟩ := m_offer (cs := cs) (d := d - 1) (top := top) (sl := sl) (r := none) (left := c - 1) (P0 := Pm dec pl K c (6 * x + j)) (by omega) hc4 hO hrk hK hO24 hnd hD hj (fun k hk => by cases hk) hin hall (by
              show ((memQ dec (x, j)).2.2.1 = true ∨ (memQ dec (x, j)).1 = 2) ∧ usB pl x (memQ dec (x, j)) = true
              rw [em]
              rw [Bool.or_eq_true, beq_iff_eq] at hb
              exact ⟨hb, hu⟩) (by show 1 + 0 + (c - 1) = c; omega) (fun s hs => ⟨hs.1, fun h => by
              have := hs.2
              rw [h.1] at this
              exact Nat.lt_irrefl _ this⟩) hS hL
            refine ⟨s1, i1, a1, L1, k2, k3, ImT_iff k4 (fun s => ?_), k5, fun res hh => head4 res (x_if_f cd_i137_67 (fun z => absurd (show (1 : Int32) = 0 from z) (by decide)) ?_)⟩
            · constructor
              · rintro (h | ⟨h1, h2, h3⟩)
                · exact Or.inl h
                · exact Or.inr ⟨h1, h2, Or.inl h3⟩
              · rintro (h | ⟨h1, h2, h3 | ⟨e', h3, -⟩⟩)
                · exact Or.inl h
                · exact Or.inr ⟨h1, h2, h3⟩
                · exact absurd h3 (Nat.not_lt_zero e')
            · refine x_n cd_i137_70 rfl rfl ?_
              refine x_n cd_i137_71 rfl rfl ?_
              refine x_ic cd_i137_72 (z := (-1)) rfl ?_
              refine x_n cd_i137_73 rfl rfl ?_
              refine x_n cd_i137_74 rfl rfl ?_
              show am_to cd_t _ _ 137 75 _ _ _ _ _ _
              refine x_callv (as' := [.int (ii (6 * x + j)), .int (-1), .int (ii c), .int (ii O.length)]) (r := none) cd_i137_75 hM.1 (by omega) rfl rfl rfl rfl rfl rfl (k1) ?_
              exact hh
      obtain ⟨s2, i2, a2, L2, l1, l2, l3, l4, l5⟩ := m_cost_in (cs := cs) (d := d) (m := m) (top := top) (sl := sl) hd hc4 hO hrk hK hO24 hnd hD hj hin hall O.length 0 s1 i1 a1 L1 (Nat.zero_add _) k1 k3
      refine ⟨s2, i2, a2, L2, some (.int (ii 1)), some (.int (ii O.length)), l1, k2.trans l2, ImT_iff l3 (fun s => ?_), fun y hy => (l4 y hy).trans (k4 y hy), fun res hh => k5 res ?_⟩
      · constructor
        · rintro (h | ⟨h1, h2, -⟩)
          · exact ⟨h.1, by have := h.2; omega⟩
          · refine ⟨h1, ?_⟩
            rw [h2]
            exact Nat.lt_succ_self _
        · rintro ⟨h1, h2⟩
          by_cases e : 6 * s.1.1 + s.1.2 = 6 * x + j
          · refine Or.inr ⟨h1, idx s h1 e, ?_⟩
            have hv := h1.2.1
            cases hr : s.2.1 with
            | none => exact Or.inl rfl
            | some E =>
              rw [hr] at hv
              obtain ⟨e', he', ee⟩ := hall E hv.1
              exact Or.inr ⟨e', he', by rw [ee]⟩
          · exact Or.inl ⟨h1, by omega⟩
      · refine x_ic cd_i137_78 (z := ii 0) rfl ?_
        refine x_n cd_i137_79 rfl rfl ?_
        try dsimp only [List.set]
        show am_to cd_t _ _ 137 81 _ _ _ _ _ _
        refine l5 res ?_
        refine x_iinc cd_i137_133 rfl (ii_add _ 1) rfl ?_
        try dsimp only [List.set]
        refine x_n cd_i137_136 rfl rfl ?_
        show am_to cd_t _ _ 137 7 _ _ _ _ _ _
        exact hh
    · refine none1 (fun D' h => by rw [hD] at h; rw [← Option.some.inj h]; exact hj) (fun res hh => head2 res (x_icmp_t cd_i137_38 ((ii_le (by omega) (by omega)).mpr (by omega)) hh))
theorem m_keepCost {σ : am_H} {i : Nat → Int32} {a : Nat → Nat → Int32} (hd : 4 < d) (hc0 : 0 < c) (hc4 : c < 4) (hO : catOk dec) (hrk : ranked dec rk) (hK : Kok K c) (hO24 : O.length ≤ 24) (hnd : O.Nodup) (hin : ∀ e, e < O.length → inK K c (O.getD e default)) (hall : ∀ E, inK K c E → ∃ e, e < O.length ∧ O.getD e default = E) (hS : stg m dec pl O σ i a []) :
    ∃ (σ' : am_H) (i' : Nat → Int32) (a' : Nat → Nat → Int32) (L' : List Ent), am_to cd_t cs d 137 0 (am_ent 6 [.ref m, .int (ii c)]) [] σ top sl (.inl none, σ', top, sl) ∧ stg m dec pl O σ' i' a' L' ∧ ER i i' a a' ∧ L8 (ImT dec (Val dec pl K c)) L' ∧ ∀ y, y < m ∨ m + 25 ≤ y → σ' y = σ y := by
  have hM := hS.1
  have loop : ∀ (n k : Nat) (σ : am_H) (i : Nat → Int32) (a : Nat → Nat → Int32) (L : List Ent) (v4 v5 : Option Value), k + n = 60 → stg m dec pl O σ i a L → L8 (ImT dec (Pm dec pl K c k)) L →
      ∃ (σ' : am_H) (i' : Nat → Int32) (a' : Nat → Nat → Int32) (L' : List Ent), am_to cd_t cs d 137 7 [some (.ref m), some (.int (ii c)), some (.int (ii O.length)), some (.int (ii k)), v4, v5] [] σ top sl (.inl none, σ', top, sl) ∧ stg m dec pl O σ' i' a' L' ∧ ER i i' a a' ∧ L8 (ImT dec (Pm dec pl K c 60)) L' ∧ ∀ y, y < m ∨ m + 25 ≤ y → σ' y = σ y := by
    intro n
    induction n with
    | zero =>
      intro k σ i a L v4 v5 hk hS hL
      rw [show k = 60 by omega] at hL ⊢
      refine ⟨σ, i, a, L, ?_, hS, ER.refl i a, hL, fun _ _ => rfl⟩
      refine x_n cd_i137_7 rfl rfl ?_
      refine x_bi cd_i137_8 (z := ii 60) (by decide) ?_
      show am_to cd_t _ _ 137 10 _ _ _ _ _ _
      refine x_icmp_t cd_i137_10 (show ii 60 ≤ ii 60 by decide) ?_
      exact x_end cd_i137_139 rfl rfl rfl
    | succ n ih =>
      intro k σ i a L v4 v5 hk hS hL
      have ek : 6 * (k / 6) + k % 6 = k := by omega
      obtain ⟨s1, i1, a1, L1, v4', v5', k1, k2, k3, k4, k5⟩ := m_cost_one (cs := cs) (d := d) (top := top) (sl := sl) (x := k / 6) (j := k % 6) (v4 := v4) (v5 := v5) hd hc0 hc4 hO hrk hK hO24 hnd (by omega) (by omega) hin hall hS (by rw [ek]; exact hL)
      rw [ek] at k3 k5
      obtain ⟨s2, i2, a2, L2, l1, l2, l3, l4, l5⟩ := ih (k + 1) s1 i1 a1 L1 v4' v5' (by omega) k1 k3
      exact ⟨s2, i2, a2, L2, k5 _ l1, l2, k2.trans l3, l4, fun y hy => (l5 y hy).trans (k4 y hy)⟩
  obtain ⟨s2, i2, a2, L2, l1, l2, l3, l4, l5⟩ := loop 60 0 σ i a [] none none rfl hS (L8_nil (fun x ⟨s, hs, _⟩ => absurd hs.2 (Nat.not_lt_zero _)))
  refine ⟨s2, i2, a2, L2, ?_, l2, l3, ImT_iff l4 (fun s => ⟨fun h => h.1, fun h => ⟨h, ?_⟩⟩), l5⟩
  · have hk : i 19 = ii O.length := by
      have := hS.2.1.1
      rw [List.append_nil] at this
      exact this
    refine x_n cd_i137_0 rfl rfl ?_
    show am_to cd_t _ _ 137 1 _ _ _ _ _ _
    refine x_getf cd_i137_1 hM.1 (congrArg (fun z => some (Value.int z)) (hk)) rfl ?_
    refine x_n cd_i137_4 rfl rfl ?_
    try dsimp only [List.set]
    refine x_ic cd_i137_5 (z := ii 0) rfl ?_
    refine x_n cd_i137_6 rfl rfl ?_
    try dsimp only [List.set]
    show am_to cd_t _ _ 137 7 _ _ _ _ _ _
    exact l1
  · obtain ⟨⟨D, hD, hj⟩, -⟩ := h
    have := (hO _ D hD).1
    have := (hrk _ D hD).1
    omega
end KC
