section MVW
variable {cs : Nat → Value} {d m top sl : Nat} {σ : am_H} {i : Nat → Int32} {a : Nat → Nat → Int32} {txt : List Nat} {vs : List (List Nat × Nat)}
/-- its type -/
theorem m_variable_type {x q : Nat} {g : Bool} (hd : 3 < d) (hT : ∀ c ∈ txt, cok c) (hM : mo σ m i a) (hB : M_buf i a txt) (hP : M_at i q) (hG : i 4 = b2i g) (hq : q ≤ txt.length + 1) :
    ∃ (s2 : am_H) (i2 : Nat → Int32) (z : Int32) (q2 : Nat) (g2 : Bool), mo s2 m i2 a ∧ M_at i2 q2 ∧ i2 4 = b2i g2 ∧ (g = false → g2 = false) ∧ (g = true → g2 = (tkT txt q).1.isSome ∧ q2 = (tkT txt q).2 ∧ z = oi (tkT txt q).1) ∧ q2 < 1000 ∧ M_same [3, 4] [] i i2 a a ∧ (∀ y, y < m ∨ m + 25 ≤ y → s2 y = σ y) ∧
      ∀ res, am_to cd_t cs d 123 56 [some (.ref m), some (.int (ii x)), some (.int z)] [] s2 top sl res → am_to cd_t cs d 123 40 [some (.ref m), some (.int (ii x)), none] [] σ top sl res := by
  have hlen := hB.2.1
  cases g with
  | false =>
    refine ⟨σ, i, ii 0, q, false, hM, hP, hG, fun _ => rfl, (fun h => by cases h), by omega, ⟨fun _ _ => rfl, fun _ _ => rfl⟩, fun _ _ => rfl, fun res hh => ?_⟩
    refine x_n cd_i123_40 rfl rfl ?_
    show am_to cd_t _ _ 123 41 _ _ _ _ _ _
    refine x_getf cd_i123_41 hM.1 rfl rfl ?_
    rw [hG]
    refine x_if_t cd_i123_44 rfl ?_
    refine x_ic cd_i123_54 (z := ii 0) rfl ?_
    refine x_n cd_i123_55 rfl rfl ?_
    try dsimp only [List.set]
    show am_to cd_t _ _ 123 56 _ _ _ _ _ _
    exact hh
  | true =>
    obtain ⟨s1, i1, a1, a2, a3, a4, a5, a6⟩ := m_readType (cs := cs) (d := d - 1) (top := top) (sl := sl) (p := q) (by omega) hT hM hB hP hG (by omega)
    have hl : (tkT txt q).2 < 1000 := by
      unfold tkT
      split
      · show q + 1 < 1000
        omega
      · show q + (wl txt q).length < 1000
        by_cases h : q ≤ txt.length
        · have := wl_len txt q h
          omega
        · rw [wl_end (by rw [getD_out (by omega)]; decide)]
          show q + 0 < 1000
          omega
    refine ⟨s1, i1, _, (tkT txt q).2, _, a2, a3, a4, (fun h => by cases h), fun _ => ⟨rfl, rfl, rfl⟩, hl, a5, a6, fun res hh => ?_⟩
    refine x_n cd_i123_40 rfl rfl ?_
    show am_to cd_t _ _ 123 41 _ _ _ _ _ _
    refine x_getf cd_i123_41 hM.1 rfl rfl ?_
    rw [hG]
    refine x_if_f cd_i123_44 (fun y => absurd (show (1 : Int32) = 0 from y) (by decide)) ?_
    refine x_n cd_i123_47 rfl rfl ?_
    show am_to cd_t _ _ 123 48 _ _ _ _ _ _
    refine x_callv (as' := []) cd_i123_48 hM.1 (by omega) rfl rfl rfl rfl rfl rfl a1 ?_
    refine x_n cd_i123_51 rfl rfl ?_
    refine x_n cd_i123_55 rfl rfl ?_
    try dsimp only [List.set]
    show am_to cd_t _ _ 123 56 _ _ _ _ _ _
    exact hh
theorem getD_app {vs : List (List Nat × Nat)} {q : List Nat × Nat} {k : Nat} (h : k < vs.length) : (vs ++ [q]).getD k default = vs.getD k default := by
  rw [List.getD_eq_getElem?_getD, List.getD_eq_getElem?_getD, List.getElem?_append_left h]
theorem getD_app_last {vs : List (List Nat × Nat)} {q : List Nat × Nat} : (vs ++ [q]).getD vs.length default = q := by
  rw [List.getD_eq_getElem?_getD, List.getElem?_append_right (Nat.le_refl _), Nat.sub_self]
  rfl
theorem m_variable (hd : 4 < d) (hT : ∀ c ∈ txt, cok c) (hM : mo σ m i a) (hB : M_buf i a txt) (hS : M_sco i a vs) :
    ∃ (σ' : am_H) (i' : Nat → Int32) (a' : Nat → Nat → Int32) (r : Int32) (vs' : List (List Nat × Nat)), am_to cd_t cs d 123 0 (am_ent 3 [.ref m]) [] σ top sl (.inl (some (.int r)), σ', top, sl) ∧ mo σ' m i' a' ∧ M_buf i' a' [] ∧ M_sco i' a' vs' ∧ M_same [0, 2, 3, 4, 15] [12, 13] i i' a a' ∧ (∀ y, y < m ∨ m + 25 ≤ y → σ' y = σ y) ∧
      ((vs.length = 5 ∧ i' 0 = 2 ∧ vs' = vs) ∨ (¬ vs.length = 5 ∧ pVar txt vs = none ∧ i' 0 = 1 ∧ vs' = vs) ∨ (¬ vs.length = 5 ∧ ∃ q, pVar txt vs = some q ∧ i' 0 = 0 ∧ vs' = vs ++ [q] ∧ r = ii (vs.length + 1))) := by
  have hlen := hB.2.1
  by_cases hf : vs.length = 5
  · obtain ⟨s1, a1, a2, a3⟩ := m_variable_full (cs := cs) (d := d) (top := top) (sl := sl) (by omega) hM hS hf
    exact ⟨s1, _, _, _, vs, a1, a2, ⟨rfl, by decide, fun j hj => absurd hj (Nat.not_lt_zero j)⟩, hS, (M_same.num _ 2 _ (by decide)).trans (M_same.num _ 0 _ (by decide)), a3, Or.inl ⟨hf, rfl, rfl⟩⟩
  obtain ⟨s1, i1, a2, a3, a4, a5, a6, a7⟩ := m_variable_name (cs := cs) (d := d) (top := top) (sl := sl) (by omega) hT hM hB hS hf
  have hw := wl_len txt 0 (Nat.zero_le _)
  rw [Nat.zero_add] at hw
  have hB1 : M_buf i1 a txt := ⟨(a5.1 2 (by decide)).trans hB.1, hB.2⟩
  have hS1 : M_sco i1 a vs := ⟨(a5.1 15 (by decide)).trans hS.1, hS.2⟩
  obtain ⟨s2, i2, z, q2, g2, b1, b2, b3, b4, b5, b6, b7, b8, b9⟩ := m_variable_type (cs := cs) (d := d) (top := top) (sl := sl) (x := wv27 txt 0) (by omega) hT a2 hB1 a3 a4 (by split <;> omega)
  have hB2 : M_buf i2 a txt := ⟨(b7.1 2 (by decide)).trans hB1.1, hB.2⟩
  have hS2 : M_sco i2 a vs := ⟨(b7.1 15 (by decide)).trans hS1.1, hS.2⟩
  obtain ⟨s3, s, c1, c2, c3, c4⟩ := m_variable_must (cs := cs) (d := d) (top := top) (sl := sl) (x := wv27 txt 0) (z := z) (by omega) b1 hB2 hS2 b2 b3 (by have := wv27_small txt 0; omega) b6
  have hsame : M_same [0, 2, 3, 4, 15] [12, 13] i (upd (upd i2 4 (b2i (g2 && s))) 2 (ii 0)) a a := ((a5.wide (by decide) (by decide)).trans (b7.wide (by decide) (by decide))).trans ((M_same.num _ 4 _ (by decide)).trans (M_same.num _ 2 _ (by decide)))
  have fr : ∀ y, y < m ∨ m + 25 ≤ y → s3 y = σ y := fun y hy => (c3 y hy).trans ((b8 y hy).trans (a6 y hy))
  have key : (g2 && s) = (pVar txt vs).isSome ∧ ∀ w t, pVar txt vs = some (w, t) → wv27 txt 0 = n27 w ∧ z = ii t ∧ ((∀ c ∈ w, 97 ≤ c ∧ c ≤ 122) ∧ 1 ≤ w.length ∧ w.length ≤ 4 ∧ t < 13) := by
    unfold pVar
    cases hN : tkN txt 0 with
    | none =>
      rw [hN] at b4
      rw [b4 rfl]
      exact ⟨rfl, fun w t h => by cases h⟩
    | some w =>
      obtain ⟨ew, w1, w2, w3⟩ := tkN_some hN
      have e27 : wv27 txt 0 = n27 w := by
        unfold wv27
        rw [← ew, if_pos w3]
      dsimp only
      by_cases hc : txt.getD (wl txt 0).length 0 = 58
      · rw [if_pos hc]
        rw [if_pos hc, hN, beq_iff_eq.mpr hc] at b5
        obtain ⟨d1, d2, d3⟩ := b5 rfl
        cases ht : (tkT txt ((wl txt 0).length + 1)).1 with
        | none =>
          rw [ht] at d1
          rw [d1]
          exact ⟨rfl, fun w t h => by cases h⟩
        | some t =>
          rw [ht] at d1 d3
          have d1 : g2 = true := d1
          have d3 : z = ii t := d3
          have hvn := varT_none (w := w) w1 hS2
          rw [e27, d2, ← hvn] at c1
          dsimp only
          by_cases hh : (tkT txt ((wl txt 0).length + 1)).2 = txt.length ∧ varT vs w = none
          · rw [if_pos hh, d1, c1.mpr hh]
            refine ⟨rfl, fun w' t' h => ?_⟩
            have h := Prod.mk.inj (Option.some.inj h)
            rw [← h.1, ← h.2]
            exact ⟨e27, d3, w1, w2, w3, tkT_lt ht⟩
          · have : s = false := by
              cases hs : s with
              | false => rfl
              | true => exact absurd (c1.mp hs) hh
            rw [if_neg hh, this, d1]
            exact ⟨rfl, fun w t h => by cases h⟩
      · rw [if_neg hc]
        have : (txt.getD (wl txt 0).length 0 == 58) = false := beq_eq_false_iff_ne.mpr hc
        rw [this, Bool.and_false] at b4
        rw [b4 rfl]
        exact ⟨rfl, fun w t h => by cases h⟩
  obtain ⟨k1, k2⟩ := key
  cases hv : pVar txt vs with
  | none =>
    rw [hv] at k1
    have e := m_variable_no (cs := cs) (d := d) (top := top) (sl := sl) (x := wv27 txt 0) (z := z) (by omega) c2 (by rw [k1]; rfl)
    exact ⟨_, _, a, _, vs, a7 _ (b9 _ (c4 _ e)), c2.put _, ⟨rfl, by decide, fun j hj => absurd hj (Nat.not_lt_zero j)⟩, hS2, hsame.trans (M_same.num _ 0 _ (by decide)), fun y hy => (am_up_ne _ _ (by omega)).trans (fr y hy), Or.inr (Or.inl ⟨hf, rfl, rfl, rfl⟩)⟩
  | some q =>
    obtain ⟨w, t⟩ := q
    rw [hv] at k1
    obtain ⟨e1, e2, e3⟩ := k2 w t hv
    have h5 : vs.length < 5 := by have := hS.2.1; omega
    obtain ⟨s4, d1, d2, d3⟩ := m_variable_yes (cs := cs) (d := d) (top := top) (sl := sl) (x := wv27 txt 0) (t := t) c2 (by rw [k1]; rfl) hS2.1 h5
    rw [← e2] at d1
    refine ⟨s4, _, _, _, vs ++ [(w, t)], a7 _ (b9 _ (c4 _ d1)), d2, ⟨rfl, by decide, fun j hj => absurd hj (Nat.not_lt_zero j)⟩, ⟨?_, ?_, ?_, ?_⟩, ?_, fun y hy => (d3 y hy).trans (fr y hy), Or.inr (Or.inr ⟨hf, (w, t), rfl, rfl, rfl, rfl⟩)⟩
    · rw [List.length_append]
      rfl
    · rw [List.length_append]
      exact h5
    · intro q hq
      rcases List.mem_append.mp hq with h | h
      · exact hS.2.2.1 q h
      · rw [List.mem_singleton.mp h]
        exact e3
    · intro j hj
      rw [List.length_append] at hj
      have hj : j < vs.length + 1 := hj
      show upd (a 12) vs.length (ii (wv27 txt 0)) j = _ ∧ upd (a 13) vs.length (ii t) j = _
      unfold upd
      by_cases ej : j = vs.length
      · rw [if_pos ej, if_pos ej, ej, getD_app_last, e1]
        exact ⟨rfl, rfl⟩
      · rw [if_neg ej, if_neg ej, getD_app (by omega)]
        exact hS.2.2.2 j (by omega)
    · refine ⟨fun k hk => ?_, fun k hk => ?_⟩
      · refine Eq.trans ?_ (hsame.1 k hk)
        have h0 : k ≠ 0 := fun z => hk (by rw [z]; decide)
        have h15 : k ≠ 15 := fun z => hk (by rw [z]; decide)
        show upd (upd _ 0 _) 15 _ k = _
        unfold upd
        rw [if_neg h15, if_neg h0]
      · have h12 : k ≠ 12 := fun z => hk (by rw [z]; decide)
        have h13 : k ≠ 13 := fun z => hk (by rw [z]; decide)
        unfold updA
        rw [if_neg h13, if_neg h12]
end MVW
