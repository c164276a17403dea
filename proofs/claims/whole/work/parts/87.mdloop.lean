section RE
variable {cs : Nat → Value} {d m top sl : Nat} {txt : List Nat} {dec : Nat → Option Dec} {par : Option Nat} {c : Nat}
/-- behind a member that is none -/
theorem m_decl_bad2 {σ : am_H} {i : Nat → Int32} {a : Nat → Nat → Int32} {v1 v3 : Option Value} {k : Nat} (hd : 0 < d) (hM : mo σ m i a) (hG : i 4 = b2i false) (hk : i 38 = ii k) (hk6 : k ≤ 6) :
    ∃ (σ' : am_H) (i' : Nat → Int32) (v2' v3' : Option Value), mo σ' m i' a ∧ i' 4 = b2i false ∧ (∀ q, q ≠ 4 → q ≠ 38 → i' q = i q) ∧ (∀ x, x < m ∨ m + 25 ≤ x → σ' x = σ x) ∧ ∀ res, am_to cd_t cs d 103 242 [some (.ref m), v1, v2', v3'] [] σ' top sl res → am_to cd_t cs d 103 141 [some (.ref m), v1, some (.int (ii (60 + k))), v3] [] σ top sl res := by
  obtain ⟨s1, i1, k1, k2, k3, k4, k5⟩ := m_decl_bad (cs := cs) (d := d) (top := top) (sl := sl) (v1 := v1) (v2 := some (.int (ii (60 + k)))) (v3 := some (.int (ii 60))) hd hM hG hk
  refine ⟨s1, i1, some (.int (ii (60 + k))), some (.int (ii 60)), k1, k2, k3, k4, fun res hh => ?_⟩
  refine x_bi cd_i103_141 (z := ii 60) (by decide) ?_
  refine x_n cd_i103_143 rfl rfl ?_
  try dsimp only [List.set]
  refine x_n cd_i103_144 rfl rfl ?_
  refine x_n cd_i103_145 rfl rfl ?_
  show am_to cd_t _ _ 103 146 _ _ _ _ _ _
  refine x_icmp cd_i103_146 (fun _ => k5 res hh) (fun _ => ?_)
  refine x_n cd_i103_149 rfl rfl ?_
  show am_to cd_t _ _ 103 150 _ _ _ _ _ _
  refine x_getf cd_i103_150 hM.1 (congrArg (fun z => some (Value.int z)) (hG)) rfl ?_
  exact x_if_t cd_i103_153 rfl (k5 res hh)
theorem m_decl_loop {rk : Nat → Nat} (hd : 5 < d) (hT : ∀ c ∈ txt, cok c) (hO : catOk dec) (hrk : ranked dec rk) (hc : c < 10) (hpar : ∀ p, par = some p → ∃ D, dec p = some D) :
    ∀ (n p : Nat) (σ : am_H) (i : Nat → Int32) (a : Nat → Nat → Int32) (ms : List Mem) (v2 v3 : Option Value), ms.length + n = 6 → mo σ m i a → M_buf i a txt → M_at i p → p ≤ txt.length → i 4 = b2i true → i 37 = oi par → i 38 = ii ms.length → M_cat a dec → (∀ N ∈ ms, memOk N) → (∀ k, k < ms.length → M_mem a (60 + k) (ms.getD k default)) →
    ∃ (σ' : am_H) (i' : Nat → Int32) (a' : Nat → Nat → Int32) (p' : Nat) (v2' v3' : Option Value), mo σ' m i' a' ∧ M_at i' p' ∧ p' ≤ txt.length ∧ i' 4 = b2i (pRs dec par c txt n (n == 6) p ms).isSome ∧ (∀ R, pRs dec par c txt n (n == 6) p ms = some R → p' = R.2 ∧ i' 38 = ii R.1.length ∧ (∀ N ∈ R.1, memOk N) ∧ R.1.length ≤ 6 ∧ ∀ k, k < R.1.length → M_mem a' (60 + k) (R.1.getD k default)) ∧ (∀ q, q ∉ [3, 4, 38] → i' q = i q) ∧ M_low a a' ∧ (∀ x, x < m ∨ m + 25 ≤ x → σ' x = σ x) ∧
      ∀ res, am_to cd_t cs d 103 242 [some (.ref m), some (.int (ii c)), v2', v3'] [] σ' top sl res → am_to cd_t cs d 103 73 [some (.ref m), some (.int (ii c)), v2, v3] [] σ top sl res := by
  intro n
  induction n with
  | zero =>
    intro p σ i a ms v2 v3 hn hM hB hP hp hG h37 h38 hC hms hrows
    have hlen := hB.2.1
    obtain ⟨s1, a1, a2, a3⟩ := m_pass (cs := cs) (d := d - 1) (top := top) (sl := sl) (c := 125) (by omega) hM hB hP hT (by omega) (by decide)
    have go1 : ∀ res, am_to cd_t cs d 103 86 [some (.ref m), some (.int (ii c)), v2, v3] [.int (b2i (txt.getD p 0 == 125))] s1 top sl res → am_to cd_t cs d 103 73 [some (.ref m), some (.int (ii c)), v2, v3] [] σ top sl res := by
      intro res hh
      refine x_n cd_i103_73 rfl rfl ?_
      show am_to cd_t _ _ 103 74 _ _ _ _ _ _
      refine x_getf cd_i103_74 hM.1 (congrArg (fun z => some (Value.int z)) (hG)) rfl ?_
      refine x_if_f cd_i103_77 (fun z => absurd (show (1 : Int32) = 0 from z) (by decide)) ?_
      refine x_n cd_i103_80 rfl rfl ?_
      refine x_bi cd_i103_81 (z := ii 125) (by decide) ?_
      show am_to cd_t _ _ 103 83 _ _ _ _ _ _
      refine x_callv (as' := [.int (ii 125)]) cd_i103_83 hM.1 (by omega) rfl rfl rfl rfl rfl rfl (a1) ?_
      exact hh
    rw [pRs]
    by_cases h125 : txt.getD p 0 = 125
    · have hlt := getD_lt h125 (by decide)
      rw [if_pos h125] at a2 ⊢
      rw [beq_iff_eq.mpr h125] at go1
      refine ⟨s1, _, a, p + 1, v2, v3, a2, rfl, by omega, hG, (fun R hR => ?_), fun q hq => upd_ne (fun z => hq (by rw [z]; decide)), M_low.refl _, a3, fun res hh => go1 res ?_⟩
      · rw [← Option.some.inj hR]
        exact ⟨rfl, h38, hms, by show ms.length ≤ 6; omega, hrows⟩
      · exact x_if_t cd_i103_86 (fun z => absurd (show (1 : Int32) = 0 from z) (by decide)) hh
    · rw [if_neg h125] at a2 ⊢
      rw [beq_eq_false_iff_ne.mpr h125] at go1
      have B1 : M_buf (upd i 3 (ii p)) a txt := hB
      obtain ⟨s2, b1, b2, b3⟩ := m_expect (cs := cs) (d := d - 1) (top := top) (sl := sl) (c := 59) (g := true) (p := p) (by omega) a2 B1 rfl hG hT (by omega) (by decide)
      obtain ⟨s3, c1, c2, c3⟩ := m_must (cs := cs) (d := d - 1) (top := top) (sl := sl) (s := false) (g := true && (txt.getD p 0 == 59)) b2 rfl
      rw [Bool.and_false] at c2
      obtain ⟨s4, i4, v2', v3', k1, k2, k3, k4, k5⟩ := m_decl_bad2 (cs := cs) (d := d) (top := top) (sl := sl) (v1 := some (.int (ii c))) (v3 := v3) (k := ms.length) (by omega) c2 rfl h38 (by omega)
      refine ⟨s4, i4, a, if txt.getD p 0 = 59 then p + 1 else p, v2', v3', k1, k3 3 (by decide) (by decide), ?_, k2, (fun R hR => by cases hR), fun q hq => ?_, M_low.refl _, fun x hx => (k4 x hx).trans ((c3 x hx).trans ((b3 x hx).trans (a3 x hx))), fun res hh => go1 res ?_⟩
      · split
        · next h => exact getD_lt h (by decide)
        · exact hp
      · have h3 : q ≠ 3 := fun z => hq (by rw [z]; decide)
        have h4 : q ≠ 4 := fun z => hq (by rw [z]; decide)
        have h38 : q ≠ 38 := fun z => hq (by rw [z]; decide)
        rw [k3 q h4 h38, upd_ne h4, upd_ne h4, upd_ne h3, upd_ne h3]
      · refine x_if_f cd_i103_86 (fun z => z rfl) ?_
        refine x_n cd_i103_89 rfl rfl ?_
        show am_to cd_t _ _ 103 90 _ _ _ _ _ _
        refine x_getf cd_i103_90 a2.1 (congrArg (fun z => some (Value.int z)) (h38)) rfl ?_
        refine x_if_f cd_i103_93 (fun z => by have := (ii_le (b := 0) (by omega) (by decide)).mp (show ii ms.length ≤ ii 0 from z); omega) ?_
        refine x_n cd_i103_96 rfl rfl ?_
        refine x_bi cd_i103_97 (z := ii 59) (by decide) ?_
        show am_to cd_t _ _ 103 99 _ _ _ _ _ _
        refine x_callv (as' := [.int (ii 59)]) (r := none) cd_i103_99 a2.1 (by omega) rfl rfl rfl rfl rfl rfl (b1) ?_
        refine x_n cd_i103_102 rfl rfl ?_
        refine x_n cd_i103_103 rfl rfl ?_
        show am_to cd_t _ _ 103 104 _ _ _ _ _ _
        refine x_getf cd_i103_104 b2.1 (congrArg (fun z => some (Value.int z)) (h38)) rfl ?_
        refine x_bi cd_i103_107 (z := ii 6) (by decide) ?_
        show am_to cd_t _ _ 103 109 _ _ _ _ _ _
        refine x_icmp_t cd_i103_109 ((ii_le (by decide) (by omega)).mpr (by omega)) ?_
        refine x_ic cd_i103_116 (z := ii 0) rfl ?_
        show am_to cd_t _ _ 103 117 _ _ _ _ _ _
        refine x_callv (as' := [.int (b2i false)]) (r := none) cd_i103_117 b2.1 (by omega) rfl rfl rfl rfl rfl rfl (c1) ?_
        refine x_bi cd_i103_120 (z := ii 60) (by decide) ?_
        refine x_n cd_i103_122 rfl rfl ?_
        show am_to cd_t _ _ 103 123 _ _ _ _ _ _
        refine x_getf cd_i103_123 c2.1 (congrArg (fun z => some (Value.int z)) (h38)) rfl ?_
        refine x_iadd cd_i103_126 (ii_add _ _) ?_
        refine x_n cd_i103_127 rfl rfl ?_
        try dsimp only [List.set]
        refine x_n cd_i103_128 rfl rfl ?_
        show am_to cd_t _ _ 103 129 _ _ _ _ _ _
        refine x_getf cd_i103_129 c2.1 (congrArg (fun z => some (Value.int z)) (rfl)) rfl ?_
        exact x_if_t cd_i103_132 rfl (k5 res hh)
  | succ n ih =>
    intro p σ i a ms v2 v3 hn hM hB hP hp hG h37 h38 hC hms hrows
    have hlen := hB.2.1
    obtain ⟨s1, a1, a2, a3⟩ := m_pass (cs := cs) (d := d - 1) (top := top) (sl := sl) (c := 125) (by omega) hM hB hP hT (by omega) (by decide)
    have go1 : ∀ res, am_to cd_t cs d 103 86 [some (.ref m), some (.int (ii c)), v2, v3] [.int (b2i (txt.getD p 0 == 125))] s1 top sl res → am_to cd_t cs d 103 73 [some (.ref m), some (.int (ii c)), v2, v3] [] σ top sl res := by
      intro res hh
      refine x_n cd_i103_73 rfl rfl ?_
      show am_to cd_t _ _ 103 74 _ _ _ _ _ _
      refine x_getf cd_i103_74 hM.1 (congrArg (fun z => some (Value.int z)) (hG)) rfl ?_
      refine x_if_f cd_i103_77 (fun z => absurd (show (1 : Int32) = 0 from z) (by decide)) ?_
      refine x_n cd_i103_80 rfl rfl ?_
      refine x_bi cd_i103_81 (z := ii 125) (by decide) ?_
      show am_to cd_t _ _ 103 83 _ _ _ _ _ _
      refine x_callv (as' := [.int (ii 125)]) cd_i103_83 hM.1 (by omega) rfl rfl rfl rfl rfl rfl (a1) ?_
      exact hh
    rw [pRs]
    by_cases h125 : txt.getD p 0 = 125
    · have hlt := getD_lt h125 (by decide)
      rw [if_pos h125] at a2 ⊢
      rw [beq_iff_eq.mpr h125] at go1
      refine ⟨s1, _, a, p + 1, v2, v3, a2, rfl, by omega, hG, (fun R hR => ?_), fun q hq => upd_ne (fun z => hq (by rw [z]; decide)), M_low.refl _, a3, fun res hh => go1 res ?_⟩
      · rw [← Option.some.inj hR]
        exact ⟨rfl, h38, hms, by show ms.length ≤ 6; omega, hrows⟩
      · exact x_if_t cd_i103_86 (fun z => absurd (show (1 : Int32) = 0 from z) (by decide)) hh
    · rw [if_neg h125] at a2 ⊢
      rw [beq_eq_false_iff_ne.mpr h125] at go1
      have B1 : M_buf (upd i 3 (ii p)) a txt := hB
      have mid : ∃ (s2 : am_H) (i2 : Nat → Int32) (q : Nat) (g : Bool), mo s2 m i2 a ∧ M_at i2 q ∧ q ≤ txt.length ∧ i2 4 = b2i g ∧ (g = true ↔ ((n + 1 == 6) = true ∨ txt.getD p 0 = 59)) ∧ (g = true → q = if (n + 1 == 6) = true then p else p + 1) ∧ (∀ k, k ∉ [3, 4] → i2 k = i k) ∧ (∀ x, x < m ∨ m + 25 ≤ x → s2 x = σ x) ∧ ∀ res, am_to cd_t cs d 103 102 [some (.ref m), some (.int (ii c)), v2, v3] [] s2 top sl res → am_to cd_t cs d 103 73 [some (.ref m), some (.int (ii c)), v2, v3] [] σ top sl res := by
        by_cases hw0 : ms.length = 0
        · have hn2 : (n + 1 == 6) = true := beq_iff_eq.mpr (by omega)
          refine ⟨s1, _, p, true, a2, rfl, hp, hG, ⟨fun _ => Or.inl hn2, fun _ => rfl⟩, fun _ => by rw [if_pos hn2], fun k hk => upd_ne (fun z => hk (by rw [z]; decide)), a3, fun res hh => go1 res ?_⟩
          refine x_if_f cd_i103_86 (fun z => z rfl) ?_
          refine x_n cd_i103_89 rfl rfl ?_
          show am_to cd_t _ _ 103 90 _ _ _ _ _ _
          refine x_getf cd_i103_90 a2.1 (congrArg (fun z => some (Value.int z)) (h38)) rfl ?_
          refine x_if_t cd_i103_93 ((ii_le (b := 0) (by omega) (by decide)).mpr (by omega)) ?_
          exact hh
        · have hn2 : ¬ (n + 1 == 6) = true := fun z => by have := beq_iff_eq.mp z; omega
          obtain ⟨s2, b1, b2, b3⟩ := m_expect (cs := cs) (d := d - 1) (top := top) (sl := sl) (c := 59) (g := true) (p := p) (by omega) a2 B1 rfl hG hT (by omega) (by decide)
          rw [Bool.true_and] at b2
          refine ⟨s2, _, if txt.getD p 0 = 59 then p + 1 else p, (txt.getD p 0 == 59), b2, rfl, ?_, rfl, ?_, ?_, fun k hk => ?_, fun x hx => (b3 x hx).trans (a3 x hx), fun res hh => go1 res ?_⟩
          · split
            · next h => exact getD_lt h (by decide)
            · exact hp
          · rw [beq_iff_eq]
            exact ⟨Or.inr, fun h => h.resolve_left hn2⟩
          · intro h
            rw [if_pos (beq_iff_eq.mp h), if_neg hn2]
          · have h3 : k ≠ 3 := fun z => hk (by rw [z]; decide)
            have h4 : k ≠ 4 := fun z => hk (by rw [z]; decide)
            rw [upd_ne h4, upd_ne h3, upd_ne h3]
          · refine x_if_f cd_i103_86 (fun z => z rfl) ?_
            refine x_n cd_i103_89 rfl rfl ?_
            show am_to cd_t _ _ 103 90 _ _ _ _ _ _
            refine x_getf cd_i103_90 a2.1 (congrArg (fun z => some (Value.int z)) (h38)) rfl ?_
            refine x_if_f cd_i103_93 (fun z => by have := (ii_le (b := 0) (by omega) (by decide)).mp (show ii ms.length ≤ ii 0 from z); omega) ?_
            refine x_n cd_i103_96 rfl rfl ?_
            refine x_bi cd_i103_97 (z := ii 59) (by decide) ?_
            show am_to cd_t _ _ 103 99 _ _ _ _ _ _
            refine x_callv (as' := [.int (ii 59)]) (r := none) cd_i103_99 a2.1 (by omega) rfl rfl rfl rfl rfl rfl (b1) ?_
            exact hh
      obtain ⟨s2, i2, q, g, b1, b2, b3, b4, b5, b6, b7, b8, b9⟩ := mid
      have h38' : i2 38 = ii ms.length := (b7 38 (by decide)).trans h38
      obtain ⟨s3, c1, c2, c3⟩ := m_must (cs := cs) (d := d - 1) (top := top) (sl := sl) (s := true) (g := g) b1 b4
      rw [Bool.and_true] at c2
      have i3 : ∀ k, k ∉ [3, 4] → upd i2 4 (b2i g) k = i k := fun k hk => (upd_ne (fun z => hk (by rw [z]; decide))).trans (b7 k hk)
      have f3 : ∀ x, x < m ∨ m + 25 ≤ x → s3 x = σ x := fun x hx => (c3 x hx).trans (b8 x hx)
      have B3 : M_buf (upd i2 4 (b2i g)) a txt := ⟨(i3 2 (by decide)).trans hB.1, hB.2⟩
      have go2 : ∀ res, am_to cd_t cs d 103 132 [some (.ref m), some (.int (ii c)), some (.int (ii (60 + ms.length))), v3] [.int (b2i g)] s3 top sl res → am_to cd_t cs d 103 73 [some (.ref m), some (.int (ii c)), v2, v3] [] σ top sl res := by
        intro res hh
        refine b9 res ?_
        refine x_n cd_i103_102 rfl rfl ?_
        refine x_n cd_i103_103 rfl rfl ?_
        show am_to cd_t _ _ 103 104 _ _ _ _ _ _
        refine x_getf cd_i103_104 b1.1 (congrArg (fun z => some (Value.int z)) (h38')) rfl ?_
        refine x_bi cd_i103_107 (z := ii 6) (by decide) ?_
        show am_to cd_t _ _ 103 109 _ _ _ _ _ _
        refine x_icmp_f cd_i103_109 (fun z => by have := (ii_le (by decide) (by omega)).mp (show ii 6 ≤ ii ms.length from z); omega) ?_
        refine x_ic cd_i103_112 (z := ii 1) rfl ?_
        refine x_n cd_i103_113 rfl rfl ?_
        show am_to cd_t _ _ 103 117 _ _ _ _ _ _
        refine x_callv (as' := [.int (b2i true)]) (r := none) cd_i103_117 b1.1 (by omega) rfl rfl rfl rfl rfl rfl (c1) ?_
        refine x_bi cd_i103_120 (z := ii 60) (by decide) ?_
        refine x_n cd_i103_122 rfl rfl ?_
        show am_to cd_t _ _ 103 123 _ _ _ _ _ _
        refine x_getf cd_i103_123 c2.1 (congrArg (fun z => some (Value.int z)) (h38')) rfl ?_
        refine x_iadd cd_i103_126 (ii_add _ _) ?_
        refine x_n cd_i103_127 rfl rfl ?_
        try dsimp only [List.set]
        refine x_n cd_i103_128 rfl rfl ?_
        show am_to cd_t _ _ 103 129 _ _ _ _ _ _
        refine x_getf cd_i103_129 c2.1 (congrArg (fun z => some (Value.int z)) (rfl)) rfl ?_
        exact hh
      cases g with
      | false =>
        rw [if_neg (fun h => by have := b5.mpr h; cases this)]
        obtain ⟨s4, i4, v2', v3', k1, k2, k3, k4, k5⟩ := m_decl_bad2 (cs := cs) (d := d) (top := top) (sl := sl) (v1 := some (.int (ii c))) (v3 := v3) (k := ms.length) (by omega) c2 rfl h38' (by omega)
        refine ⟨s4, i4, a, q, v2', v3', k1, (k3 3 (by decide) (by decide)).trans b2, b3, k2, (fun R hR => by cases hR), fun q hq => ?_, M_low.refl _, fun x hx => (k4 x hx).trans (f3 x hx), fun res hh => go2 res (x_if_t cd_i103_132 rfl (k5 res hh))⟩
        have h3 : q ≠ 3 := fun z => hq (by rw [z]; decide)
        have h4 : q ≠ 4 := fun z => hq (by rw [z]; decide)
        have h38 : q ≠ 38 := fun z => hq (by rw [z]; decide)
        rw [k3 q h4 h38]
        exact i3 q (by simp [h3, h4])
      | true =>
        rw [if_pos (b5.mp rfl), ← b6 rfl]
        obtain ⟨s4, i4, a4, p4, d1, d2, d3, d4, d5, d6, d7, d8, d9⟩ := m_readMember (cs := cs) (d := d - 1) (top := top) (sl := sl) (r := 60 + ms.length) (c := c) (p := q) (by omega) hT (by omega) c2 B3 b2 b3 rfl
        have i4' : ∀ k, k ∉ [3, 4] → i4 k = i k := fun k hk => (d7 k hk).trans (i3 k hk)
        have f4 : ∀ x, x < m ∨ m + 25 ≤ x → s4 x = σ x := fun x hx => (d9 x hx).trans (f3 x hx)
        have low4 : M_low a a4 := d8.low (by omega)
        have h38'' : i4 38 = ii ms.length := (i4' 38 (by decide)).trans h38
        have go3 : ∀ res, am_to cd_t cs d 103 141 [some (.ref m), some (.int (ii c)), some (.int (ii (60 + ms.length))), v3] [] s4 top sl res → am_to cd_t cs d 103 73 [some (.ref m), some (.int (ii c)), v2, v3] [] σ top sl res := by
          intro res hh
          refine go2 res (x_if_f cd_i103_132 (fun z => absurd (show (1 : Int32) = 0 from z) (by decide)) ?_)
          refine x_n cd_i103_135 rfl rfl ?_
          refine x_n cd_i103_136 rfl rfl ?_
          refine x_n cd_i103_137 rfl rfl ?_
          show am_to cd_t _ _ 103 138 _ _ _ _ _ _
          refine x_callv (as' := [.int (ii (60 + ms.length)), .int (ii c)]) (r := none) cd_i103_138 c2.1 (by omega) rfl rfl rfl rfl rfl rfl (d1) ?_
          exact hh
        have neq3 : ∀ k, k ∉ [3, 4, 38] → k ∉ [3, 4] ∧ k ≠ 4 ∧ k ≠ 38 ∧ k ≠ 3 := fun k hk => by
          have h3 : k ≠ 3 := fun z => hk (by rw [z]; decide)
          have h4 : k ≠ 4 := fun z => hk (by rw [z]; decide)
          have h38 : k ≠ 38 := fun z => hk (by rw [z]; decide)
          exact ⟨by simp [h3, h4], h4, h38, h3⟩
        cases hR : pMem txt q c with
        | none =>
          rw [hR] at d5
          obtain ⟨s5, i5, v2', v3', k1, k2, k3, k4, k5⟩ := m_decl_bad2 (cs := cs) (d := d) (top := top) (sl := sl) (v1 := some (.int (ii c))) (v3 := v3) (k := ms.length) (by omega) d2 d5 h38'' (by omega)
          refine ⟨s5, i5, a4, p4, v2', v3', k1, (k3 3 (by decide) (by decide)).trans d3, d4, k2, (fun R hR => by cases hR), fun q hq => ?_, low4, fun x hx => (k4 x hx).trans (f4 x hx), fun res hh => go3 res (k5 res hh)⟩
          obtain ⟨y1, y2, y3, y4⟩ := neq3 q hq
          rw [k3 q y2 y3]
          exact i4' q y1
        | some R =>
          obtain ⟨e1, e2⟩ := d6 R hR
          have hMok := (pMem_some hc hR).1
          rw [hR] at d5
          have rows4 : ∀ k, k < ms.length → M_mem a4 (60 + k) (ms.getD k default) := fun k hk => (hrows k hk).row d8 (by omega) (hms _ (getD_mem hk)).2.2.2.2.1
          obtain ⟨s5, i5, s, v3', k1, k2, k3, k4, k5, k6⟩ := m_dist_loop (cs := cs) (d := d) (m := m) (top := top) (sl := sl) (c' := .int (ii c)) (by omega) (by omega) hms rows4 e2 hMok ms.length 0 s4 i4 true (Nat.zero_add _) d2 d5
          have i5' : ∀ k, k ∉ [3, 4] → i5 k = i k := fun k hk => (k4 k (fun z => hk (by rw [z]; decide))).trans (i4' k hk)
          have f5 : ∀ x, x < m ∨ m + 25 ≤ x → s5 x = σ x := fun x hx => (k5 x hx).trans (f4 x hx)
          have h38_5 : i5 38 = ii ms.length := (i5' 38 (by decide)).trans h38
          have P5 : M_at i5 p4 := (k4 3 (by decide)).trans d3
          have go4 : ∀ res, am_to cd_t cs d 103 201 [some (.ref m), some (.int (ii c)), some (.int (ii (60 + ms.length))), v3'] [] s5 top sl res → am_to cd_t cs d 103 73 [some (.ref m), some (.int (ii c)), v2, v3] [] σ top sl res := by
            intro res hh
            refine go3 res ?_
            refine x_bi cd_i103_141 (z := ii 60) (by decide) ?_
            refine x_n cd_i103_143 rfl rfl ?_
            try dsimp only [List.set]
            show am_to cd_t _ _ 103 144 _ _ _ _ _ _
            exact k6 res hh
          have eall : s = ms.all (fun N => !isNm R.1.1 R.1.2.2.2.1 N) := by
            rw [Bool.eq_iff_iff, k1, all_getD]
            constructor
            · rintro ⟨-, y⟩ j hj
              rw [y j (Nat.zero_le _) hj]
              rfl
            · intro y
              refine ⟨rfl, fun q _ hq => ?_⟩
              have := y q hq
              rw [Bool.not_eq_true'] at this
              exact this
          have eok : okM dec par ms R.1 = (s && noB dec R.1 (up dec par)) := by
            unfold okM noB
            rw [← eall]
          dsimp only
          cases s with
          | false =>
            rw [if_neg (by rw [eok, Bool.false_and]; decide)]
            obtain ⟨s6, i6, l1, l2, l3, l4, l5⟩ := m_decl_bad (cs := cs) (d := d) (top := top) (sl := sl) (v1 := some (.int (ii c))) (v2 := some (.int (ii (60 + ms.length)))) (v3 := v3') (by omega) k2 k3 h38_5
            refine ⟨s6, i6, a4, p4, _, _, l1, (l3 3 (by decide) (by decide)).trans P5, d4, l2, (fun R hR => by cases hR), fun q hq => ?_, low4, fun x hx => (l4 x hx).trans (f5 x hx), fun res hh => go4 res (l5 res hh)⟩
            obtain ⟨y1, y2, y3, y4⟩ := neq3 q hq
            rw [l3 q y2 y3]
            exact i5' q y1
          | true =>
            rw [Bool.true_and] at eok
            have C4 : M_cat a4 dec := hC.low hO low4
            have hal := m_allowed (cs := cs) (d := d - 1) (top := top) (sl := sl) (r := 60 + ms.length) (by omega) k2 C4 hO hrk (by omega) e2 hMok hpar
            obtain ⟨s6, l1, l2, l3⟩ := m_must (cs := cs) (d := d - 1) (top := top) (sl := sl) (s := noB dec R.1 (up dec par)) (g := true) k2 k3
            rw [Bool.true_and, ← eok] at l2
            rw [← eok] at l1 hal
            have h7 := l2.put (upd (upd i5 4 (b2i (okM dec par ms R.1))) 38 (ii (ms.length + 1)))
            obtain ⟨s7, hs7⟩ : ∃ z, z = am_up s6 m (.inr (.inl (11, mo_f m (upd (upd i5 4 (b2i (okM dec par ms R.1))) 38 (ii (ms.length + 1)))))) := ⟨_, rfl⟩
            rw [← hs7] at h7
            have f7 : ∀ x, x < m ∨ m + 25 ≤ x → s7 x = σ x := fun x hx => by rw [hs7, am_up_ne _ _ (by omega), l3 x hx]; exact f5 x hx
            have i7 : ∀ k, k ∉ [3, 4, 38] → upd (upd i5 4 (b2i (okM dec par ms R.1))) 38 (ii (ms.length + 1)) k = i k := fun k hk => by
              obtain ⟨y1, y2, y3, y4⟩ := neq3 k hk
              rw [upd_ne y3, upd_ne y2]
              exact i5' k y1
            have go5 : ∀ res, am_to cd_t cs d 103 73 [some (.ref m), some (.int (ii c)), some (.int (ii (60 + ms.length))), v3'] [] s7 top sl res → am_to cd_t cs d 103 73 [some (.ref m), some (.int (ii c)), v2, v3] [] σ top sl res := by
              intro res hh
              refine go4 res ?_
              have tail : am_to cd_t cs d 103 226 [some (.ref m), some (.int (ii c)), some (.int (ii (60 + ms.length))), v3'] [.int (b2i (okM dec par ms R.1)), .ref m] s5 top sl res := by
                refine x_callv (as' := [.int (b2i (okM dec par ms R.1))]) (r := none) cd_i103_226 k2.1 (by omega) rfl rfl rfl rfl rfl rfl (l1) ?_
                refine x_n cd_i103_229 rfl rfl ?_
                refine x_n cd_i103_230 rfl rfl ?_
                show am_to cd_t _ _ 103 231 _ _ _ _ _ _
                refine x_getf cd_i103_231 l2.1 (congrArg (fun z => some (Value.int z)) (h38_5)) rfl ?_
                refine x_ic cd_i103_234 (z := ii 1) rfl ?_
                refine x_iadd cd_i103_235 (ii_add _ _) ?_
                show am_to cd_t _ _ 103 236 _ _ _ _ _ _
                refine x_putf cd_i103_236 (fs' := mo_f m (upd (upd i5 4 (b2i (okM dec par ms R.1))) 38 (ii (ms.length + 1)))) l2.1 rfl rfl rfl ?_
                refine hs7 ▸ ?_
                refine x_n cd_i103_239 rfl rfl ?_
                show am_to cd_t _ _ 103 73 _ _ _ _ _ _
                exact hh
              refine x_n cd_i103_201 rfl rfl ?_
              refine x_n cd_i103_202 rfl rfl ?_
              show am_to cd_t _ _ 103 203 _ _ _ _ _ _
              refine x_getf cd_i103_203 k2.1 (congrArg (fun z => some (Value.int z)) (k3)) rfl ?_
              refine x_if_f cd_i103_206 (fun z => absurd (show (1 : Int32) = 0 from z) (by decide)) ?_
              refine x_n cd_i103_209 rfl rfl ?_
              refine x_n cd_i103_210 rfl rfl ?_
              refine x_n cd_i103_211 rfl rfl ?_
              show am_to cd_t _ _ 103 212 _ _ _ _ _ _
              refine x_getf cd_i103_212 k2.1 (congrArg (fun z => some (Value.int z)) ((i5' 37 (by decide)).trans h37)) rfl ?_
              refine x_callv (as' := [.int (ii (60 + ms.length)), .int (oi par)]) cd_i103_215 k2.1 (by omega) rfl rfl rfl rfl rfl rfl (hal) ?_
              cases hb : okM dec par ms R.1 with
              | true =>
                rw [hb] at tail
                refine x_if_f cd_i103_218 (fun z => absurd (show (1 : Int32) = 0 from z) (by decide)) ?_
                refine x_ic cd_i103_221 (z := ii 1) rfl ?_
                refine x_n cd_i103_222 rfl rfl ?_
                show am_to cd_t _ _ 103 226 _ _ _ _ _ _
                exact tail
              | false =>
                rw [hb] at tail
                refine x_if_t cd_i103_218 rfl ?_
                refine x_ic cd_i103_225 (z := ii 0) rfl ?_
                show am_to cd_t _ _ 103 226 _ _ _ _ _ _
                exact tail
            by_cases hb : okM dec par ms R.1 = true
            · rw [if_pos hb]
              rw [hb] at h7 i7
              have el : (ms ++ [R.1]).length = ms.length + 1 := List.length_append
              have B7 : M_buf (upd (upd i5 4 (b2i true)) 38 (ii (ms.length + 1))) a4 txt := ⟨(i7 2 (by decide)).trans hB.1, hB.2.1, fun j hj => by rw [low4 1 j (by omega)]; exact hB.2.2 j hj⟩
              obtain ⟨s8, i8, a8, p8, v28, v38, y1, y2, y3, y4, y5, y6, y7, y8, y9⟩ := ih p4 s7 _ a4 (ms ++ [R.1]) (some (.int (ii (60 + ms.length)))) v3' (by omega) h7 B7 P5 d4 rfl ((i7 37 (by decide)).trans h37) (by rw [el]; rfl) C4 (fun N hN => by
                rcases List.mem_append.mp hN with h | h
                · exact hms N h
                · rw [List.mem_singleton.mp h]; exact hMok) (fun k hk => by
                by_cases e : k = ms.length
                · rw [e, mem_app_last]; exact e2
                · rw [mem_app (by omega)]; exact rows4 k (by omega))
              have en : (n == 6) = false := beq_eq_false_iff_ne.mpr (by omega)
              rw [en] at y4 y5
              rw [← e1]
              exact ⟨s8, i8, a8, p8, v28, v38, y1, y2, y3, y4, y5, fun q hq => (y6 q hq).trans (i7 q hq), low4.trans y7, fun x hx => (y8 x hx).trans (f7 x hx), fun res hh => go5 res (y9 res hh)⟩
            · rw [if_neg hb]
              have hb : okM dec par ms R.1 = false := by
                cases h : okM dec par ms R.1 with
                | false => rfl
                | true => exact absurd h hb
              rw [hb] at h7 i7
              refine ⟨s7, _, a4, p4, some (.int (ii (60 + ms.length))), v3', h7, P5, d4, rfl, (fun R hR => by cases hR), i7, low4, f7, fun res hh => go5 res ?_⟩
              refine x_n cd_i103_73 rfl rfl ?_
              show am_to cd_t _ _ 103 74 _ _ _ _ _ _
              refine x_getf cd_i103_74 h7.1 (congrArg (fun z => some (Value.int z)) (rfl)) rfl ?_
              exact x_if_t cd_i103_77 rfl hh
end RE
